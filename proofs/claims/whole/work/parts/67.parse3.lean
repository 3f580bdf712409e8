theorem hd_T {S : Int → Int} {l u v : Int} (h : 0 ≤ S 4) : (∀ j : Int, (j ≠ 4 ∧ (j < 394 + 3 * S 4 ∨ 397 + 3 * S 4 ≤ j)) → up (up (up (up S (394 + 3 * S 4) l) (394 + 3 * S 4 + 1) u) (394 + 3 * S 4 + 1 + 1) v) 4 (S 4 + 1) j = S j) ∧ (up (up (up (up S (394 + 3 * S 4) l) (394 + 3 * S 4 + 1) u) (394 + 3 * S 4 + 1 + 1) v) 4 (S 4 + 1) 4 = S 4 + 1) ∧ (up (up (up (up S (394 + 3 * S 4) l) (394 + 3 * S 4 + 1) u) (394 + 3 * S 4 + 1 + 1) v) 4 (S 4 + 1) (394 + 3 * S 4) = l) ∧ (up (up (up (up S (394 + 3 * S 4) l) (394 + 3 * S 4 + 1) u) (394 + 3 * S 4 + 1 + 1) v) 4 (S 4 + 1) (394 + 3 * S 4 + 1) = u) ∧ (up (up (up (up S (394 + 3 * S 4) l) (394 + 3 * S 4 + 1) u) (394 + 3 * S 4 + 1 + 1) v) 4 (S 4 + 1) (394 + 3 * S 4 + 2) = v) := by
  refine ⟨fun j hj => ?_, up_eq rfl, ?_, ?_, ?_⟩
  · rw [up_ne (by omega), up_ne (by omega), up_ne (by omega), up_ne (by omega)]
  · rw [up_ne (by omega), up_ne (by omega), up_ne (by omega), up_eq (by omega)]
  · rw [up_ne (by omega), up_ne (by omega), up_eq (by omega)]
  · rw [up_ne (by omega), up_eq (by omega)]
theorem hd_e {S a : Int → Int} {n l u v q : Int} {z : Rp} (h : 0 ≤ S 4) (ol : (owS S a n z).2 = l) (hs : ∀ (T : Int → Int) (k : Int), T 0 = S 0 → spS T a n k (owS S a n z).1 = (.inr q, up (up T k u) (k + 1) v)) : hdS S a n z = (.inr q, up (up (up (up S (394 + 3 * S 4) l) (394 + 3 * S 4 + 1) u) (394 + 3 * S 4 + 1 + 1) v) 4 (S 4 + 1)) := by
  unfold hdS
  rw [hs _ _ (up_ne (by omega)), ol]
  show (_, up _ 4 (up _ _ _ 4 + 1)) = _
  rw [up_ne (show (4 : Int) ≠ 394 + 3 * S 4 + 1 + 1 by omega), up_ne (show (4 : Int) ≠ 394 + 3 * S 4 + 1 by omega), up_ne (show (4 : Int) ≠ 394 + 3 * S 4 by omega)]
set_option maxRecDepth 20000 in
set_option maxHeartbeats 4000000 in
theorem c_readHide {d L : Nat} {M : abMem} {r : abRf} (hR : RF r M) {a : Int → Int} {n : Int} (hT : TP M a n) {p : Int} (hA : TA M a n p) {s : Nat} (hs : s = 372 ∨ s = 459) {S : Int → Int} (hS : SR M s S) (hr : r.2.1 = some s) (h4 : S 4 ≤ 11) (hd : 8 ≤ d) : abW d (0, 0) 49 0 (abEnt (abL 49) [vr (some 3)]) [] (0, 0) (A0 L) M (qI (A0 L) (fun x N => (∃ e : Int × Int, (hdS S a n (.inr p)).1 = .inl e ∧ x = 0 ∧ FA pG M a n e N) ∨ (∃ q : Int, (hdS S a n (.inr p)).1 = .inr q ∧ x = 1 ∧ GO (pGs s) M a n q N ∧ SR N s (hdS S a n (.inr p)).2))) := by
  rcases hs with rfl | rfl
  · have w0 := hS.sw.fr
    have w1 := hS.sw.la
    have w2 := hS.sw.bo
    have w3 := hS.sw.sl
    have w4 := hS.sw.hi
    have w5 := hS.sw.st
    have hF : sq pG M M := sq_refl _ _
    have hRM := hR
    have hSM := hS
    show abW d (0, 0) 49 0 [some (vr (some 3))] [] (0, 0) (A0 L) M (qI (A0 L) (fun x N => (∃ e : Int × Int, (hdS S a n (.inr p)).1 = .inl e ∧ x = 0 ∧ FA pG M a n e N) ∨ (∃ q : Int, (hdS S a n (.inr p)).1 = .inr q ∧ x = 1 ∧ GO (pGs 372) M a n q N ∧ SR N 372 (hdS S a n (.inr p)).2)))
    refine bw_aload rfl rfl ?_
    refine bw_callVi (e := d - 1) (as := []) rfl (by omega) rfl rfl (Nat.le_of_ble_eq_true rfl) (Nat.le_of_ble_eq_true rfl) rfl (c_readSpan hR hT hA (by first | exact Or.inl rfl | exact Or.inr rfl) hS hr (by omega)) (fun r1 M1 hM1 => ?_)
    rcases hM1 with ⟨e, h1, rfl, f1⟩ | ⟨q1, l, u, v, ol, h1, rfl, g1, ⟨o4, bl⟩, n0, n1, bu⟩
    · skip
      have hz : (hdS S a n (.inr p)).1 = .inl e := by exact h1 (up S (394 + 3 * S 4) (owS S a n (.inr p)).2) (394 + 3 * S 4 + 1) (up_ne (by omega))
      have hX : FA pG M a n e M1 := f1
      refine bw_ifne rfl (fun c => absurd c (by decide)) (fun _ => ?_)
      refine bw_push rfl ?_
      refine bw_retz rfl rfl (by omega) ?_
      exact ⟨rfl, _, rfl, Or.inl ⟨e, hz, rfl, hX⟩⟩
    · have eH := hd_e w4.1 ol h1
      obtain ⟨o, k4, t0, t1, t2⟩ := hd_T (S := S) (l := l) (u := u) (v := v) w4.1
      have hW := sw_hd hS.sw h4 o k4 (by rw [t0]; exact bl) (by rw [t1, t2]; omega)
      have hF := g1.1
      have hR := g1.1.RF hR
      have hT := g1.2.1
      have hA := g1.2.2
      have hS := SR_sm hS g1.1.1 (fun c c0 c1 => no_R (by omega))
      refine bw_ifne rfl (fun _ => ?_) (fun c => (c (by decide)).elim)
      refine bw_aload rfl rfl ?_
      refine bw_getr rfl rfl ((hR _ _).trans hr) ?_
      refine bw_aload rfl rfl ?_
      refine bw_getI rfl rfl ?_
      rw [o4]
      refine bw_aload rfl rfl ?_
      refine bw_getr rfl rfl (hR _ _) ?_
      refine bw_push rfl ?_
      refine bw_aldi rfl (by first | rfl | assumption) (by omega) (by omega) ?_
      rw [n0]
      refine bw_aload rfl rfl ?_
      refine bw_getr rfl rfl (hR _ _) ?_
      refine bw_push rfl ?_
      refine bw_aldi rfl (by first | rfl | assumption) (by omega) (by omega) ?_
      rw [n1]
      refine bw_callVNv (e := d - 1) (as := [_, _, _]) rfl (by omega) rfl rfl (Nat.le_of_ble_eq_true rfl) (Nat.le_of_ble_eq_true rfl) rfl (c_addHide hR (by first | exact Or.inl rfl | exact Or.inr rfl) hS hW bl h4 o k4 t0 t1 t2 (by omega)) (fun M29 hM29 => ?_)
      refine bw_push rfl ?_
      refine bw_retz rfl rfl (by omega) ?_
      exact ⟨rfl, _, rfl, Or.inr ⟨q1, by rw [eH], rfl, ⟨hF.mono (fun c k => Or.inl k) |>.trans ((sq_of hM29.1 (fun k => by have := k.1; omega)).mono (fun c k => Or.inr k)), TP_s2 hT hM29.1 (fun k => by have := k.1; omega) (fun k => by have := k.1; omega), TA_sm hA hM29.1 (fun k => by have := k.1; omega)⟩, by rw [eH]; exact hM29.2⟩⟩
  · have w0 := hS.sw.fr
    have w1 := hS.sw.la
    have w2 := hS.sw.bo
    have w3 := hS.sw.sl
    have w4 := hS.sw.hi
    have w5 := hS.sw.st
    have hF : sq pG M M := sq_refl _ _
    have hRM := hR
    have hSM := hS
    show abW d (0, 0) 49 0 [some (vr (some 3))] [] (0, 0) (A0 L) M (qI (A0 L) (fun x N => (∃ e : Int × Int, (hdS S a n (.inr p)).1 = .inl e ∧ x = 0 ∧ FA pG M a n e N) ∨ (∃ q : Int, (hdS S a n (.inr p)).1 = .inr q ∧ x = 1 ∧ GO (pGs 459) M a n q N ∧ SR N 459 (hdS S a n (.inr p)).2)))
    refine bw_aload rfl rfl ?_
    refine bw_callVi (e := d - 1) (as := []) rfl (by omega) rfl rfl (Nat.le_of_ble_eq_true rfl) (Nat.le_of_ble_eq_true rfl) rfl (c_readSpan hR hT hA (by first | exact Or.inl rfl | exact Or.inr rfl) hS hr (by omega)) (fun r1 M1 hM1 => ?_)
    rcases hM1 with ⟨e, h1, rfl, f1⟩ | ⟨q1, l, u, v, ol, h1, rfl, g1, ⟨o4, bl⟩, n0, n1, bu⟩
    · skip
      have hz : (hdS S a n (.inr p)).1 = .inl e := by exact h1 (up S (394 + 3 * S 4) (owS S a n (.inr p)).2) (394 + 3 * S 4 + 1) (up_ne (by omega))
      have hX : FA pG M a n e M1 := f1
      refine bw_ifne rfl (fun c => absurd c (by decide)) (fun _ => ?_)
      refine bw_push rfl ?_
      refine bw_retz rfl rfl (by omega) ?_
      exact ⟨rfl, _, rfl, Or.inl ⟨e, hz, rfl, hX⟩⟩
    · have eH := hd_e w4.1 ol h1
      obtain ⟨o, k4, t0, t1, t2⟩ := hd_T (S := S) (l := l) (u := u) (v := v) w4.1
      have hW := sw_hd hS.sw h4 o k4 (by rw [t0]; exact bl) (by rw [t1, t2]; omega)
      have hF := g1.1
      have hR := g1.1.RF hR
      have hT := g1.2.1
      have hA := g1.2.2
      have hS := SR_sm hS g1.1.1 (fun c c0 c1 => no_R (by omega))
      refine bw_ifne rfl (fun _ => ?_) (fun c => (c (by decide)).elim)
      refine bw_aload rfl rfl ?_
      refine bw_getr rfl rfl ((hR _ _).trans hr) ?_
      refine bw_aload rfl rfl ?_
      refine bw_getI rfl rfl ?_
      rw [o4]
      refine bw_aload rfl rfl ?_
      refine bw_getr rfl rfl (hR _ _) ?_
      refine bw_push rfl ?_
      refine bw_aldi rfl (by first | rfl | assumption) (by omega) (by omega) ?_
      rw [n0]
      refine bw_aload rfl rfl ?_
      refine bw_getr rfl rfl (hR _ _) ?_
      refine bw_push rfl ?_
      refine bw_aldi rfl (by first | rfl | assumption) (by omega) (by omega) ?_
      rw [n1]
      refine bw_callVNv (e := d - 1) (as := [_, _, _]) rfl (by omega) rfl rfl (Nat.le_of_ble_eq_true rfl) (Nat.le_of_ble_eq_true rfl) rfl (c_addHide hR (by first | exact Or.inl rfl | exact Or.inr rfl) hS hW bl h4 o k4 t0 t1 t2 (by omega)) (fun M29 hM29 => ?_)
      refine bw_push rfl ?_
      refine bw_retz rfl rfl (by omega) ?_
      exact ⟨rfl, _, rfl, Or.inr ⟨q1, by rw [eH], rfl, ⟨hF.mono (fun c k => Or.inl k) |>.trans ((sq_of hM29.1 (fun k => by have := k.1; omega)).mono (fun c k => Or.inr k)), TP_s2 hT hM29.1 (fun k => by have := k.1; omega) (fun k => by have := k.1; omega), TA_sm hA hM29.1 (fun k => by have := k.1; omega)⟩, by rw [eH]; exact hM29.2⟩⟩
theorem sl_T {S : Int → Int} {l u v x y : Int} (h : 0 ≤ S 3) {T : Int → Int} (hT : T = up (up (up (up (up (up S (334 + 5 * S 3) l) (334 + 5 * S 3 + 1) u) (334 + 5 * S 3 + 1 + 1) v) (334 + 5 * S 3 + 3) x) (334 + 5 * S 3 + 4) y) 3 (S 3 + 1)) : (∀ j : Int, (j ≠ 3 ∧ (j < 334 + 5 * S 3 ∨ 339 + 5 * S 3 ≤ j)) → T j = S j) ∧ (T 3 = S 3 + 1) ∧ T (334 + 5 * S 3) = l ∧ T (334 + 5 * S 3 + 1) = u ∧ T (334 + 5 * S 3 + 2) = v ∧ T (334 + 5 * S 3 + 3) = x ∧ T (334 + 5 * S 3 + 4) = y := by
  subst hT
  refine ⟨fun j hj => ?_, up_eq rfl, ?_, ?_, ?_, ?_, ?_⟩
  · rw [up_ne (by omega), up_ne (by omega), up_ne (by omega), up_ne (by omega), up_ne (by omega), up_ne (by omega)]
  · rw [up_ne (by omega), up_ne (by omega), up_ne (by omega), up_ne (by omega), up_ne (by omega), up_eq (by omega)]
  · rw [up_ne (by omega), up_ne (by omega), up_ne (by omega), up_ne (by omega), up_eq (by omega)]
  · rw [up_ne (by omega), up_ne (by omega), up_ne (by omega), up_eq (by omega)]
  · rw [up_ne (by omega), up_ne (by omega), up_eq (by omega)]
  · rw [up_ne (by omega), up_eq (by omega)]
theorem sl_1 {S a : Int → Int} {n l u v q : Int} {z : Rp} (h : 0 ≤ S 3) (ol : (owS S a n z).2 = l) (hs : ∀ (T : Int → Int) (k : Int), T 0 = S 0 → spS T a n k (owS S a n z).1 = (.inr q, up (up T k u) (k + 1) v)) : sl1 S a n z = (.inr q, up (up (up S (334 + 5 * S 3) l) (334 + 5 * S 3 + 1) u) (334 + 5 * S 3 + 1 + 1) v) := by
  unfold sl1 sl0
  rw [ol]
  exact hs _ _ (up_ne (by omega))
theorem sg_y {w x v : Int} (h : w = 12 ∧ x = 1 ∨ w = 13 ∧ x = -1) : (if w = 13 then -v else v) = x * v := by
  rcases h with ⟨h1, h2⟩ | ⟨h1, h2⟩
  · rw [if_neg (by omega), h2]; omega
  · rw [if_pos h1, h2]; omega
theorem sg_z {w x v : Int} (h : w = 14 ∧ x = 1 ∨ w = 15 ∧ x = -1) : (if w = 15 then -v else v) = x * v := by
  rcases h with ⟨h1, h2⟩ | ⟨h1, h2⟩
  · rw [if_neg (by omega), h2]; omega
  · rw [if_pos h1, h2]; omega
theorem sg_b {x v : Int} (h : x = 1 ∨ x = -1) (hv : 0 ≤ v ∧ v ≤ 9) : -9 ≤ x * v ∧ x * v ≤ 9 := by
  rcases h with h | h
  · rw [h]; omega
  · rw [h]; omega
set_option maxRecDepth 20000 in
set_option maxHeartbeats 4000000 in
theorem c_readSlide {d L : Nat} {M : abMem} {r : abRf} (hR : RF r M) {a : Int → Int} {n : Int} (hT : TP M a n) {p : Int} (hA : TA M a n p) {s : Nat} (hs : s = 372 ∨ s = 459) {S : Int → Int} (hS : SR M s S) (hr : r.2.1 = some s) (h3 : S 3 ≤ 11) (hd : 8 ≤ d) : abW d (0, 0) 48 0 (abEnt (abL 48) [vr (some 3)]) [] (0, 0) (A0 L) M (qI (A0 L) (fun x N => (∃ e : Int × Int, (slS S a n (.inr p)).1 = .inl e ∧ x = 0 ∧ FA pG M a n e N) ∨ (∃ q : Int, (slS S a n (.inr p)).1 = .inr q ∧ x = 1 ∧ GO (pGs s) M a n q N ∧ SR N s (slS S a n (.inr p)).2))) := by
  rcases hs with rfl | rfl
  · have w0 := hS.sw.fr
    have w1 := hS.sw.la
    have w2 := hS.sw.bo
    have w3 := hS.sw.sl
    have w4 := hS.sw.hi
    have w5 := hS.sw.st
    have hF : sq pG M M := sq_refl _ _
    have hRM := hR
    have hSM := hS
    show abW d (0, 0) 48 0 [some (vr (some 3)), none, none] [] (0, 0) (A0 L) M (qI (A0 L) (fun x N => (∃ e : Int × Int, (slS S a n (.inr p)).1 = .inl e ∧ x = 0 ∧ FA pG M a n e N) ∨ (∃ q : Int, (slS S a n (.inr p)).1 = .inr q ∧ x = 1 ∧ GO (pGs 372) M a n q N ∧ SR N 372 (slS S a n (.inr p)).2)))
    refine bw_aload rfl rfl ?_
    refine bw_callVi (e := d - 1) (as := []) rfl (by omega) rfl rfl (Nat.le_of_ble_eq_true rfl) (Nat.le_of_ble_eq_true rfl) rfl (c_readSpan hR hT hA (by first | exact Or.inl rfl | exact Or.inr rfl) hS hr (by omega)) (fun r1 M1 hM1 => ?_)
    rcases hM1 with ⟨e, h1, rfl, f1⟩ | ⟨q1, l, u, v, ol, h1, rfl, g1, ⟨o4, bl⟩, n0, n1, bu⟩
    · have h1 : (sl1 S a n (.inr p)).1 = .inl e := h1 (up S (334 + 5 * S 3) (owS S a n (.inr p)).2) (334 + 5 * S 3 + 1) (up_ne (by omega))
      have hz : (slS S a n (.inr p)).1 = .inl e := by simp only [slS, sl5, sl4, sl3, sl2, h1, wyS_l, nuS_l]
      have hX : FA pG M a n e M1 := f1
      refine bw_ifne rfl (fun c => absurd c (by decide)) (fun _ => ?_)
      refine bw_push rfl ?_
      refine bw_retz rfl rfl (by omega) ?_
      exact ⟨rfl, _, rfl, Or.inl ⟨e, hz, rfl, hX⟩⟩
    · have h1 := sl_1 w3.1 ol h1
      have hF := g1.1
      have hR := g1.1.RF hR
      have hT := g1.2.1
      have hA := g1.2.2
      have hS := SR_sm hS g1.1.1 (fun c c0 c1 => no_R (by omega))
      refine bw_ifne rfl (fun _ => ?_) (fun c => (c (by decide)).elim)
      refine bw_aload rfl rfl ?_
      refine bw_ldcs rfl ?_
      refine bw_ldcs rfl ?_
      refine bw_callVi (e := d - 1) (as := [_, _]) rfl (by omega) rfl rfl (Nat.le_of_ble_eq_true rfl) (Nat.le_of_ble_eq_true rfl) rfl (c_readWay (i := 17) (j := 18) hR hT hA (by decide) (by decide) (by decide) (by omega)) (fun r14 M14 hM14 => ?_)
      rcases hM14 with ⟨e, h14, rfl, f14⟩ | ⟨q14, w14, h14, y14, g14⟩
      · have h14 : wyS a n 12 13 (.inr q1) = (.inl e, 0) := h14
        have hz : (slS S a n (.inr p)).1 = .inl e := by simp only [slS, sl5, sl4, sl3, sl2, h1, h14, wyS_l, nuS_l]
        have hX : FA pG M a n e M14 := ⟨hF.1.trans (f14.1.mono pP_R), f14.2⟩
        refine bw_istore (ls2 := [_, _, _]) rfl rfl (Nat.le_of_ble_eq_true rfl) rfl ?_
        refine bw_iload rfl rfl ?_
        refine bw_ifeq rfl (fun c19 => ?_) (fun c19 => ?_)
        · first
          | (exfalso; omega)
          | (refine bw_push rfl ?_
             refine bw_retz rfl rfl (by omega) ?_
             exact ⟨rfl, _, rfl, Or.inl ⟨e, hz, rfl, hX⟩⟩)
        · first
          | (exfalso; omega)
          | (refine bw_aload rfl rfl ?_
             refine bw_push rfl ?_
             refine bw_push rfl ?_
             refine bw_push rfl ?_
             refine bw_callVi (e := d - 1) (as := [_, _, _]) rfl (by omega) rfl rfl (Nat.le_of_ble_eq_true rfl) (Nat.le_of_ble_eq_true rfl) rfl (c_needNumber hR hT hA (by omega) (by omega)) (fun r27 M27 hM27 => ?_)
             rcases hM27 with ⟨e, h27, rfl, f27⟩ | ⟨q27, v27, h27, rfl, g27, b27, k27⟩
             · skip
               have hz : (slS S a n (.inr p)).1 = .inl e := by simp only [slS, sl5, sl4, sl3, sl2, h1, h14, h27, wyS_l, nuS_l]
               have hX : FA pG M a n e M27 := ⟨hF.1.trans (f27.1.mono pP_R), f27.2⟩
               refine bw_ifne rfl (fun c => absurd c (by decide)) (fun _ => ?_)
               refine bw_push rfl ?_
               refine bw_retz rfl rfl (by omega) ?_
               exact ⟨rfl, _, rfl, Or.inl ⟨e, hz, rfl, hX⟩⟩
             · skip
               have n0 : gI M27 9 0 = u := by rw [k27, up_ne (by decide)]; exact n0
               have n1 : gI M27 9 1 = v := by rw [k27, up_ne (by decide)]; exact n1
               have n2 : gI M27 9 2 = v27 := by rw [k27, up_eq rfl]
               have o4 : gI M27 3 4 = l := by rw [g27.1.at 3 (by decide)]; exact o4
               have hS := SR_sm hS g27.1.1 (fun c c0 c1 => no_N (by omega))
               have hF := hF.trans (g27.1.mono pN_R)
               have hR := g27.1.RF hR
               have hT := g27.2.1
               have hA := g27.2.2
               refine bw_ifne rfl (fun _ => ?_) (fun c => (c (by decide)).elim)
               refine bw_aload rfl rfl ?_
               refine bw_ldcs rfl ?_
               refine bw_ldcs rfl ?_
               refine bw_callVi (e := d - 1) (as := [_, _]) rfl (by omega) rfl rfl (Nat.le_of_ble_eq_true rfl) (Nat.le_of_ble_eq_true rfl) rfl (c_readWay (i := 19) (j := 20) hR hT hA (by decide) (by decide) (by decide) (by omega)) (fun r40 M40 hM40 => ?_)
               rcases hM40 with ⟨e, h40, rfl, f40⟩ | ⟨q40, w40, h40, y40, g40⟩
               · have h40 : wyS a n 14 15 (.inr q27) = (.inl e, 0) := h40
                 have hz : (slS S a n (.inr p)).1 = .inl e := by simp only [slS, sl5, sl4, sl3, sl2, h1, h14, h27, h40, wyS_l, nuS_l]
                 have hX : FA pG M a n e M40 := ⟨hF.1.trans (f40.1.mono pP_R), f40.2⟩
                 refine bw_istore (ls2 := [_, _, _]) rfl rfl (Nat.le_of_ble_eq_true rfl) rfl ?_
                 refine bw_iload rfl rfl ?_
                 refine bw_ifeq rfl (fun c45 => ?_) (fun c45 => ?_)
                 · first
                   | (exfalso; omega)
                   | (refine bw_push rfl ?_
                      refine bw_retz rfl rfl (by omega) ?_
                      exact ⟨rfl, _, rfl, Or.inl ⟨e, hz, rfl, hX⟩⟩)
                 · first
                   | (exfalso; omega)
                   | (refine bw_aload rfl rfl ?_
                      refine bw_push rfl ?_
                      refine bw_push rfl ?_
                      refine bw_push rfl ?_
                      refine bw_callVi (e := d - 1) (as := [_, _, _]) rfl (by omega) rfl rfl (Nat.le_of_ble_eq_true rfl) (Nat.le_of_ble_eq_true rfl) rfl (c_needNumber hR hT hA (by omega) (by omega)) (fun r53 M53 hM53 => ?_)
                      rcases hM53 with ⟨e, h53, rfl, f53⟩ | ⟨q53, v53, h53, rfl, g53, b53, k53⟩
                      · skip
                        have hz : (slS S a n (.inr p)).1 = .inl e := by simp only [slS, sl5, sl4, sl3, sl2, h1, h14, h27, h40, h53, wyS_l, nuS_l]
                        have hX : FA pG M a n e M53 := ⟨hF.1.trans (f53.1.mono pP_R), f53.2⟩
                        refine bw_ifne rfl (fun c => absurd c (by decide)) (fun _ => ?_)
                        refine bw_push rfl ?_
                        refine bw_retz rfl rfl (by omega) ?_
                        exact ⟨rfl, _, rfl, Or.inl ⟨e, hz, rfl, hX⟩⟩
                      · skip
                        have n0 : gI M53 9 0 = u := by rw [k53, up_ne (by decide)]; exact n0
                        have n1 : gI M53 9 1 = v := by rw [k53, up_ne (by decide)]; exact n1
                        have n2 : gI M53 9 2 = v27 := by rw [k53, up_ne (by decide)]; exact n2
                        have n3 : gI M53 9 3 = v53 := by rw [k53, up_eq rfl]
                        have o4 : gI M53 3 4 = l := by rw [g53.1.at 3 (by decide)]; exact o4
                        have hS := SR_sm hS g53.1.1 (fun c c0 c1 => no_N (by omega))
                        have hF := hF.trans (g53.1.mono pN_R)
                        have hR := g53.1.RF hR
                        have hT := g53.2.1
                        have hA := g53.2.2
                        refine bw_ifne rfl (fun _ => ?_) (fun c => (c (by decide)).elim)
                        refine bw_aload rfl rfl ?_
                        refine bw_getr rfl rfl ((hR _ _).trans hr) ?_
                        refine bw_aload rfl rfl ?_
                        refine bw_getI rfl rfl ?_
                        rw [o4]
                        refine bw_aload rfl rfl ?_
                        refine bw_getr rfl rfl (hR _ _) ?_
                        refine bw_push rfl ?_
                        refine bw_aldi rfl (by first | rfl | assumption) (by omega) (by omega) ?_
                        rw [n0]
                        refine bw_aload rfl rfl ?_
                        refine bw_getr rfl rfl (hR _ _) ?_
                        refine bw_push rfl ?_
                        refine bw_aldi rfl (by first | rfl | assumption) (by omega) (by omega) ?_
                        rw [n1]
                        refine bw_iload rfl rfl ?_
                        refine bw_aload rfl rfl ?_
                        refine bw_getr rfl rfl (hR _ _) ?_
                        refine bw_push rfl ?_
                        refine bw_aldi rfl (by first | rfl | assumption) (by omega) (by omega) ?_
                        rw [n2]
                        have m9 := sg_b x14 b27
                        refine bw_imul rfl ⟨by omega, by omega⟩ ?_
                        refine bw_iload rfl rfl ?_
                        refine bw_aload rfl rfl ?_
                        refine bw_getr rfl rfl (hR _ _) ?_
                        refine bw_push rfl ?_
                        refine bw_aldi rfl (by first | rfl | assumption) (by omega) (by omega) ?_
                        rw [n3]
                        have m8 := sg_b x40 b53
                        refine bw_imul rfl ⟨by omega, by omega⟩ ?_
                        have eH : slS S a n (.inr p) = (.inr q53, up (up (up (up (up (up S (334 + 5 * S 3) l) (334 + 5 * S 3 + 1) u) (334 + 5 * S 3 + 1 + 1) v) (334 + 5 * S 3 + 3) (r14 * v27)) (334 + 5 * S 3 + 4) (r40 * v53)) 3 (S 3 + 1)) := by
                          have e3 := slU_3 (S := S) (a := a) (n := n) (z := .inr p) w3.1
                          unfold slS
                          rw [e3]
                          unfold slU
                          simp only [sl5, sl4, sl3, sl2, h1, h14, h27, h40, h53]
                          rw [sg_y y14, sg_z y40]
                        obtain ⟨T, hTT⟩ : ∃ T, T = up (up (up (up (up (up S (334 + 5 * S 3) l) (334 + 5 * S 3 + 1) u) (334 + 5 * S 3 + 1 + 1) v) (334 + 5 * S 3 + 3) (r14 * v27)) (334 + 5 * S 3 + 4) (r40 * v53)) 3 (S 3 + 1) := ⟨_, rfl⟩
                        rw [← hTT] at eH
                        obtain ⟨o, k3, t0, t1, t2, t3, t4⟩ := sl_T w3.1 hTT
                        have hW := sw_sl hS.sw h3 o k3 (by rw [t0]; exact bl) (by rw [t1, t2]; omega) (by rw [t3]; exact m9) (by rw [t4]; exact m8)
                        refine bw_callVNv (e := d - 1) (as := [_, _, _, _, _]) rfl (by omega) rfl rfl (Nat.le_of_ble_eq_true rfl) (Nat.le_of_ble_eq_true rfl) rfl (c_addSlide hR (by first | exact Or.inl rfl | exact Or.inr rfl) hS hW bl h3 o k3 t0 t1 t2 t3 t4 (by omega) ⟨m9, m8⟩ (by omega)) (fun M97 hM97 => ?_)
                        refine bw_push rfl ?_
                        refine bw_retz rfl rfl (by omega) ?_
                        exact ⟨rfl, _, rfl, Or.inr ⟨q53, by rw [eH], rfl, ⟨hF.mono (fun c k => Or.inl k) |>.trans ((sq_of hM97.1 (fun k => by have := k.1; omega)).mono (fun c k => Or.inr k)), TP_s2 hT hM97.1 (fun k => by have := k.1; omega) (fun k => by have := k.1; omega), TA_sm hA hM97.1 (fun k => by have := k.1; omega)⟩, by rw [eH]; exact hM97.2⟩⟩)
               · have h40 : wyS a n 14 15 (.inr q27) = (.inr q40, w40) := h40
                 have y40 : w40 = 14 ∧ r40 = 1 ∨ w40 = 15 ∧ r40 = -1 := y40
                 have x40 : r40 = 1 ∨ r40 = -1 := by omega
                 have n0 : gI M40 9 0 = u := by rw [g40.1.at 9 (by decide)]; exact n0
                 have n1 : gI M40 9 1 = v := by rw [g40.1.at 9 (by decide)]; exact n1
                 have n2 : gI M40 9 2 = v27 := by rw [g40.1.at 9 (by decide)]; exact n2
                 have o4 : gI M40 3 4 = l := by rw [g40.1.at 3 (by decide)]; exact o4
                 have hS := SR_sm hS g40.1.1 (fun c c0 c1 => no_T (by omega))
                 have hF := hF.trans (g40.1.mono pT_R)
                 have hR := g40.1.RF hR
                 have hT := g40.2.1
                 have hA := g40.2.2
                 refine bw_istore (ls2 := [_, _, _]) rfl rfl (Nat.le_of_ble_eq_true rfl) rfl ?_
                 refine bw_iload rfl rfl ?_
                 refine bw_ifeq rfl (fun c45 => ?_) (fun c45 => ?_)
                 · first
                   | (exfalso; omega)
                   | (refine bw_push rfl ?_
                      refine bw_retz rfl rfl (by omega) ?_
                      exact ⟨rfl, _, rfl, Or.inl ⟨e, hz, rfl, hX⟩⟩)
                 · first
                   | (exfalso; omega)
                   | (refine bw_aload rfl rfl ?_
                      refine bw_push rfl ?_
                      refine bw_push rfl ?_
                      refine bw_push rfl ?_
                      refine bw_callVi (e := d - 1) (as := [_, _, _]) rfl (by omega) rfl rfl (Nat.le_of_ble_eq_true rfl) (Nat.le_of_ble_eq_true rfl) rfl (c_needNumber hR hT hA (by omega) (by omega)) (fun r53 M53 hM53 => ?_)
                      rcases hM53 with ⟨e, h53, rfl, f53⟩ | ⟨q53, v53, h53, rfl, g53, b53, k53⟩
                      · skip
                        have hz : (slS S a n (.inr p)).1 = .inl e := by simp only [slS, sl5, sl4, sl3, sl2, h1, h14, h27, h40, h53, wyS_l, nuS_l]
                        have hX : FA pG M a n e M53 := ⟨hF.1.trans (f53.1.mono pP_R), f53.2⟩
                        refine bw_ifne rfl (fun c => absurd c (by decide)) (fun _ => ?_)
                        refine bw_push rfl ?_
                        refine bw_retz rfl rfl (by omega) ?_
                        exact ⟨rfl, _, rfl, Or.inl ⟨e, hz, rfl, hX⟩⟩
                      · skip
                        have n0 : gI M53 9 0 = u := by rw [k53, up_ne (by decide)]; exact n0
                        have n1 : gI M53 9 1 = v := by rw [k53, up_ne (by decide)]; exact n1
                        have n2 : gI M53 9 2 = v27 := by rw [k53, up_ne (by decide)]; exact n2
                        have n3 : gI M53 9 3 = v53 := by rw [k53, up_eq rfl]
                        have o4 : gI M53 3 4 = l := by rw [g53.1.at 3 (by decide)]; exact o4
                        have hS := SR_sm hS g53.1.1 (fun c c0 c1 => no_N (by omega))
                        have hF := hF.trans (g53.1.mono pN_R)
                        have hR := g53.1.RF hR
                        have hT := g53.2.1
                        have hA := g53.2.2
                        refine bw_ifne rfl (fun _ => ?_) (fun c => (c (by decide)).elim)
                        refine bw_aload rfl rfl ?_
                        refine bw_getr rfl rfl ((hR _ _).trans hr) ?_
                        refine bw_aload rfl rfl ?_
                        refine bw_getI rfl rfl ?_
                        rw [o4]
                        refine bw_aload rfl rfl ?_
                        refine bw_getr rfl rfl (hR _ _) ?_
                        refine bw_push rfl ?_
                        refine bw_aldi rfl (by first | rfl | assumption) (by omega) (by omega) ?_
                        rw [n0]
                        refine bw_aload rfl rfl ?_
                        refine bw_getr rfl rfl (hR _ _) ?_
                        refine bw_push rfl ?_
                        refine bw_aldi rfl (by first | rfl | assumption) (by omega) (by omega) ?_
                        rw [n1]
                        refine bw_iload rfl rfl ?_
                        refine bw_aload rfl rfl ?_
                        refine bw_getr rfl rfl (hR _ _) ?_
                        refine bw_push rfl ?_
                        refine bw_aldi rfl (by first | rfl | assumption) (by omega) (by omega) ?_
                        rw [n2]
                        have m9 := sg_b x14 b27
                        refine bw_imul rfl ⟨by omega, by omega⟩ ?_
                        refine bw_iload rfl rfl ?_
                        refine bw_aload rfl rfl ?_
                        refine bw_getr rfl rfl (hR _ _) ?_
                        refine bw_push rfl ?_
                        refine bw_aldi rfl (by first | rfl | assumption) (by omega) (by omega) ?_
                        rw [n3]
                        have m8 := sg_b x40 b53
                        refine bw_imul rfl ⟨by omega, by omega⟩ ?_
                        have eH : slS S a n (.inr p) = (.inr q53, up (up (up (up (up (up S (334 + 5 * S 3) l) (334 + 5 * S 3 + 1) u) (334 + 5 * S 3 + 1 + 1) v) (334 + 5 * S 3 + 3) (r14 * v27)) (334 + 5 * S 3 + 4) (r40 * v53)) 3 (S 3 + 1)) := by
                          have e3 := slU_3 (S := S) (a := a) (n := n) (z := .inr p) w3.1
                          unfold slS
                          rw [e3]
                          unfold slU
                          simp only [sl5, sl4, sl3, sl2, h1, h14, h27, h40, h53]
                          rw [sg_y y14, sg_z y40]
                        obtain ⟨T, hTT⟩ : ∃ T, T = up (up (up (up (up (up S (334 + 5 * S 3) l) (334 + 5 * S 3 + 1) u) (334 + 5 * S 3 + 1 + 1) v) (334 + 5 * S 3 + 3) (r14 * v27)) (334 + 5 * S 3 + 4) (r40 * v53)) 3 (S 3 + 1) := ⟨_, rfl⟩
                        rw [← hTT] at eH
                        obtain ⟨o, k3, t0, t1, t2, t3, t4⟩ := sl_T w3.1 hTT
                        have hW := sw_sl hS.sw h3 o k3 (by rw [t0]; exact bl) (by rw [t1, t2]; omega) (by rw [t3]; exact m9) (by rw [t4]; exact m8)
                        refine bw_callVNv (e := d - 1) (as := [_, _, _, _, _]) rfl (by omega) rfl rfl (Nat.le_of_ble_eq_true rfl) (Nat.le_of_ble_eq_true rfl) rfl (c_addSlide hR (by first | exact Or.inl rfl | exact Or.inr rfl) hS hW bl h3 o k3 t0 t1 t2 t3 t4 (by omega) ⟨m9, m8⟩ (by omega)) (fun M97 hM97 => ?_)
                        refine bw_push rfl ?_
                        refine bw_retz rfl rfl (by omega) ?_
                        exact ⟨rfl, _, rfl, Or.inr ⟨q53, by rw [eH], rfl, ⟨hF.mono (fun c k => Or.inl k) |>.trans ((sq_of hM97.1 (fun k => by have := k.1; omega)).mono (fun c k => Or.inr k)), TP_s2 hT hM97.1 (fun k => by have := k.1; omega) (fun k => by have := k.1; omega), TA_sm hA hM97.1 (fun k => by have := k.1; omega)⟩, by rw [eH]; exact hM97.2⟩⟩))
      · have h14 : wyS a n 12 13 (.inr q1) = (.inr q14, w14) := h14
        have y14 : w14 = 12 ∧ r14 = 1 ∨ w14 = 13 ∧ r14 = -1 := y14
        have x14 : r14 = 1 ∨ r14 = -1 := by omega
        have n0 : gI M14 9 0 = u := by rw [g14.1.at 9 (by decide)]; exact n0
        have n1 : gI M14 9 1 = v := by rw [g14.1.at 9 (by decide)]; exact n1
        have o4 : gI M14 3 4 = l := by rw [g14.1.at 3 (by decide)]; exact o4
        have hS := SR_sm hS g14.1.1 (fun c c0 c1 => no_T (by omega))
        have hF := hF.trans (g14.1.mono pT_R)
        have hR := g14.1.RF hR
        have hT := g14.2.1
        have hA := g14.2.2
        refine bw_istore (ls2 := [_, _, _]) rfl rfl (Nat.le_of_ble_eq_true rfl) rfl ?_
        refine bw_iload rfl rfl ?_
        refine bw_ifeq rfl (fun c19 => ?_) (fun c19 => ?_)
        · first
          | (exfalso; omega)
          | (refine bw_push rfl ?_
             refine bw_retz rfl rfl (by omega) ?_
             exact ⟨rfl, _, rfl, Or.inl ⟨e, hz, rfl, hX⟩⟩)
        · first
          | (exfalso; omega)
          | (refine bw_aload rfl rfl ?_
             refine bw_push rfl ?_
             refine bw_push rfl ?_
             refine bw_push rfl ?_
             refine bw_callVi (e := d - 1) (as := [_, _, _]) rfl (by omega) rfl rfl (Nat.le_of_ble_eq_true rfl) (Nat.le_of_ble_eq_true rfl) rfl (c_needNumber hR hT hA (by omega) (by omega)) (fun r27 M27 hM27 => ?_)
             rcases hM27 with ⟨e, h27, rfl, f27⟩ | ⟨q27, v27, h27, rfl, g27, b27, k27⟩
             · skip
               have hz : (slS S a n (.inr p)).1 = .inl e := by simp only [slS, sl5, sl4, sl3, sl2, h1, h14, h27, wyS_l, nuS_l]
               have hX : FA pG M a n e M27 := ⟨hF.1.trans (f27.1.mono pP_R), f27.2⟩
               refine bw_ifne rfl (fun c => absurd c (by decide)) (fun _ => ?_)
               refine bw_push rfl ?_
               refine bw_retz rfl rfl (by omega) ?_
               exact ⟨rfl, _, rfl, Or.inl ⟨e, hz, rfl, hX⟩⟩
             · skip
               have n0 : gI M27 9 0 = u := by rw [k27, up_ne (by decide)]; exact n0
               have n1 : gI M27 9 1 = v := by rw [k27, up_ne (by decide)]; exact n1
               have n2 : gI M27 9 2 = v27 := by rw [k27, up_eq rfl]
               have o4 : gI M27 3 4 = l := by rw [g27.1.at 3 (by decide)]; exact o4
               have hS := SR_sm hS g27.1.1 (fun c c0 c1 => no_N (by omega))
               have hF := hF.trans (g27.1.mono pN_R)
               have hR := g27.1.RF hR
               have hT := g27.2.1
               have hA := g27.2.2
               refine bw_ifne rfl (fun _ => ?_) (fun c => (c (by decide)).elim)
               refine bw_aload rfl rfl ?_
               refine bw_ldcs rfl ?_
               refine bw_ldcs rfl ?_
               refine bw_callVi (e := d - 1) (as := [_, _]) rfl (by omega) rfl rfl (Nat.le_of_ble_eq_true rfl) (Nat.le_of_ble_eq_true rfl) rfl (c_readWay (i := 19) (j := 20) hR hT hA (by decide) (by decide) (by decide) (by omega)) (fun r40 M40 hM40 => ?_)
               rcases hM40 with ⟨e, h40, rfl, f40⟩ | ⟨q40, w40, h40, y40, g40⟩
               · have h40 : wyS a n 14 15 (.inr q27) = (.inl e, 0) := h40
                 have hz : (slS S a n (.inr p)).1 = .inl e := by simp only [slS, sl5, sl4, sl3, sl2, h1, h14, h27, h40, wyS_l, nuS_l]
                 have hX : FA pG M a n e M40 := ⟨hF.1.trans (f40.1.mono pP_R), f40.2⟩
                 refine bw_istore (ls2 := [_, _, _]) rfl rfl (Nat.le_of_ble_eq_true rfl) rfl ?_
                 refine bw_iload rfl rfl ?_
                 refine bw_ifeq rfl (fun c45 => ?_) (fun c45 => ?_)
                 · first
                   | (exfalso; omega)
                   | (refine bw_push rfl ?_
                      refine bw_retz rfl rfl (by omega) ?_
                      exact ⟨rfl, _, rfl, Or.inl ⟨e, hz, rfl, hX⟩⟩)
                 · first
                   | (exfalso; omega)
                   | (refine bw_aload rfl rfl ?_
                      refine bw_push rfl ?_
                      refine bw_push rfl ?_
                      refine bw_push rfl ?_
                      refine bw_callVi (e := d - 1) (as := [_, _, _]) rfl (by omega) rfl rfl (Nat.le_of_ble_eq_true rfl) (Nat.le_of_ble_eq_true rfl) rfl (c_needNumber hR hT hA (by omega) (by omega)) (fun r53 M53 hM53 => ?_)
                      rcases hM53 with ⟨e, h53, rfl, f53⟩ | ⟨q53, v53, h53, rfl, g53, b53, k53⟩
                      · skip
                        have hz : (slS S a n (.inr p)).1 = .inl e := by simp only [slS, sl5, sl4, sl3, sl2, h1, h14, h27, h40, h53, wyS_l, nuS_l]
                        have hX : FA pG M a n e M53 := ⟨hF.1.trans (f53.1.mono pP_R), f53.2⟩
                        refine bw_ifne rfl (fun c => absurd c (by decide)) (fun _ => ?_)
                        refine bw_push rfl ?_
                        refine bw_retz rfl rfl (by omega) ?_
                        exact ⟨rfl, _, rfl, Or.inl ⟨e, hz, rfl, hX⟩⟩
                      · skip
                        have n0 : gI M53 9 0 = u := by rw [k53, up_ne (by decide)]; exact n0
                        have n1 : gI M53 9 1 = v := by rw [k53, up_ne (by decide)]; exact n1
                        have n2 : gI M53 9 2 = v27 := by rw [k53, up_ne (by decide)]; exact n2
                        have n3 : gI M53 9 3 = v53 := by rw [k53, up_eq rfl]
                        have o4 : gI M53 3 4 = l := by rw [g53.1.at 3 (by decide)]; exact o4
                        have hS := SR_sm hS g53.1.1 (fun c c0 c1 => no_N (by omega))
                        have hF := hF.trans (g53.1.mono pN_R)
                        have hR := g53.1.RF hR
                        have hT := g53.2.1
                        have hA := g53.2.2
                        refine bw_ifne rfl (fun _ => ?_) (fun c => (c (by decide)).elim)
                        refine bw_aload rfl rfl ?_
                        refine bw_getr rfl rfl ((hR _ _).trans hr) ?_
                        refine bw_aload rfl rfl ?_
                        refine bw_getI rfl rfl ?_
                        rw [o4]
                        refine bw_aload rfl rfl ?_
                        refine bw_getr rfl rfl (hR _ _) ?_
                        refine bw_push rfl ?_
                        refine bw_aldi rfl (by first | rfl | assumption) (by omega) (by omega) ?_
                        rw [n0]
                        refine bw_aload rfl rfl ?_
                        refine bw_getr rfl rfl (hR _ _) ?_
                        refine bw_push rfl ?_
                        refine bw_aldi rfl (by first | rfl | assumption) (by omega) (by omega) ?_
                        rw [n1]
                        refine bw_iload rfl rfl ?_
                        refine bw_aload rfl rfl ?_
                        refine bw_getr rfl rfl (hR _ _) ?_
                        refine bw_push rfl ?_
                        refine bw_aldi rfl (by first | rfl | assumption) (by omega) (by omega) ?_
                        rw [n2]
                        have m9 := sg_b x14 b27
                        refine bw_imul rfl ⟨by omega, by omega⟩ ?_
                        refine bw_iload rfl rfl ?_
                        refine bw_aload rfl rfl ?_
                        refine bw_getr rfl rfl (hR _ _) ?_
                        refine bw_push rfl ?_
                        refine bw_aldi rfl (by first | rfl | assumption) (by omega) (by omega) ?_
                        rw [n3]
                        have m8 := sg_b x40 b53
                        refine bw_imul rfl ⟨by omega, by omega⟩ ?_
                        have eH : slS S a n (.inr p) = (.inr q53, up (up (up (up (up (up S (334 + 5 * S 3) l) (334 + 5 * S 3 + 1) u) (334 + 5 * S 3 + 1 + 1) v) (334 + 5 * S 3 + 3) (r14 * v27)) (334 + 5 * S 3 + 4) (r40 * v53)) 3 (S 3 + 1)) := by
                          have e3 := slU_3 (S := S) (a := a) (n := n) (z := .inr p) w3.1
                          unfold slS
                          rw [e3]
                          unfold slU
                          simp only [sl5, sl4, sl3, sl2, h1, h14, h27, h40, h53]
                          rw [sg_y y14, sg_z y40]
                        obtain ⟨T, hTT⟩ : ∃ T, T = up (up (up (up (up (up S (334 + 5 * S 3) l) (334 + 5 * S 3 + 1) u) (334 + 5 * S 3 + 1 + 1) v) (334 + 5 * S 3 + 3) (r14 * v27)) (334 + 5 * S 3 + 4) (r40 * v53)) 3 (S 3 + 1) := ⟨_, rfl⟩
                        rw [← hTT] at eH
                        obtain ⟨o, k3, t0, t1, t2, t3, t4⟩ := sl_T w3.1 hTT
                        have hW := sw_sl hS.sw h3 o k3 (by rw [t0]; exact bl) (by rw [t1, t2]; omega) (by rw [t3]; exact m9) (by rw [t4]; exact m8)
                        refine bw_callVNv (e := d - 1) (as := [_, _, _, _, _]) rfl (by omega) rfl rfl (Nat.le_of_ble_eq_true rfl) (Nat.le_of_ble_eq_true rfl) rfl (c_addSlide hR (by first | exact Or.inl rfl | exact Or.inr rfl) hS hW bl h3 o k3 t0 t1 t2 t3 t4 (by omega) ⟨m9, m8⟩ (by omega)) (fun M97 hM97 => ?_)
                        refine bw_push rfl ?_
                        refine bw_retz rfl rfl (by omega) ?_
                        exact ⟨rfl, _, rfl, Or.inr ⟨q53, by rw [eH], rfl, ⟨hF.mono (fun c k => Or.inl k) |>.trans ((sq_of hM97.1 (fun k => by have := k.1; omega)).mono (fun c k => Or.inr k)), TP_s2 hT hM97.1 (fun k => by have := k.1; omega) (fun k => by have := k.1; omega), TA_sm hA hM97.1 (fun k => by have := k.1; omega)⟩, by rw [eH]; exact hM97.2⟩⟩)
               · have h40 : wyS a n 14 15 (.inr q27) = (.inr q40, w40) := h40
                 have y40 : w40 = 14 ∧ r40 = 1 ∨ w40 = 15 ∧ r40 = -1 := y40
                 have x40 : r40 = 1 ∨ r40 = -1 := by omega
                 have n0 : gI M40 9 0 = u := by rw [g40.1.at 9 (by decide)]; exact n0
                 have n1 : gI M40 9 1 = v := by rw [g40.1.at 9 (by decide)]; exact n1
                 have n2 : gI M40 9 2 = v27 := by rw [g40.1.at 9 (by decide)]; exact n2
                 have o4 : gI M40 3 4 = l := by rw [g40.1.at 3 (by decide)]; exact o4
                 have hS := SR_sm hS g40.1.1 (fun c c0 c1 => no_T (by omega))
                 have hF := hF.trans (g40.1.mono pT_R)
                 have hR := g40.1.RF hR
                 have hT := g40.2.1
                 have hA := g40.2.2
                 refine bw_istore (ls2 := [_, _, _]) rfl rfl (Nat.le_of_ble_eq_true rfl) rfl ?_
                 refine bw_iload rfl rfl ?_
                 refine bw_ifeq rfl (fun c45 => ?_) (fun c45 => ?_)
                 · first
                   | (exfalso; omega)
                   | (refine bw_push rfl ?_
                      refine bw_retz rfl rfl (by omega) ?_
                      exact ⟨rfl, _, rfl, Or.inl ⟨e, hz, rfl, hX⟩⟩)
                 · first
                   | (exfalso; omega)
                   | (refine bw_aload rfl rfl ?_
                      refine bw_push rfl ?_
                      refine bw_push rfl ?_
                      refine bw_push rfl ?_
                      refine bw_callVi (e := d - 1) (as := [_, _, _]) rfl (by omega) rfl rfl (Nat.le_of_ble_eq_true rfl) (Nat.le_of_ble_eq_true rfl) rfl (c_needNumber hR hT hA (by omega) (by omega)) (fun r53 M53 hM53 => ?_)
                      rcases hM53 with ⟨e, h53, rfl, f53⟩ | ⟨q53, v53, h53, rfl, g53, b53, k53⟩
                      · skip
                        have hz : (slS S a n (.inr p)).1 = .inl e := by simp only [slS, sl5, sl4, sl3, sl2, h1, h14, h27, h40, h53, wyS_l, nuS_l]
                        have hX : FA pG M a n e M53 := ⟨hF.1.trans (f53.1.mono pP_R), f53.2⟩
                        refine bw_ifne rfl (fun c => absurd c (by decide)) (fun _ => ?_)
                        refine bw_push rfl ?_
                        refine bw_retz rfl rfl (by omega) ?_
                        exact ⟨rfl, _, rfl, Or.inl ⟨e, hz, rfl, hX⟩⟩
                      · skip
                        have n0 : gI M53 9 0 = u := by rw [k53, up_ne (by decide)]; exact n0
                        have n1 : gI M53 9 1 = v := by rw [k53, up_ne (by decide)]; exact n1
                        have n2 : gI M53 9 2 = v27 := by rw [k53, up_ne (by decide)]; exact n2
                        have n3 : gI M53 9 3 = v53 := by rw [k53, up_eq rfl]
                        have o4 : gI M53 3 4 = l := by rw [g53.1.at 3 (by decide)]; exact o4
                        have hS := SR_sm hS g53.1.1 (fun c c0 c1 => no_N (by omega))
                        have hF := hF.trans (g53.1.mono pN_R)
                        have hR := g53.1.RF hR
                        have hT := g53.2.1
                        have hA := g53.2.2
                        refine bw_ifne rfl (fun _ => ?_) (fun c => (c (by decide)).elim)
                        refine bw_aload rfl rfl ?_
                        refine bw_getr rfl rfl ((hR _ _).trans hr) ?_
                        refine bw_aload rfl rfl ?_
                        refine bw_getI rfl rfl ?_
                        rw [o4]
                        refine bw_aload rfl rfl ?_
                        refine bw_getr rfl rfl (hR _ _) ?_
                        refine bw_push rfl ?_
                        refine bw_aldi rfl (by first | rfl | assumption) (by omega) (by omega) ?_
                        rw [n0]
                        refine bw_aload rfl rfl ?_
                        refine bw_getr rfl rfl (hR _ _) ?_
                        refine bw_push rfl ?_
                        refine bw_aldi rfl (by first | rfl | assumption) (by omega) (by omega) ?_
                        rw [n1]
                        refine bw_iload rfl rfl ?_
                        refine bw_aload rfl rfl ?_
                        refine bw_getr rfl rfl (hR _ _) ?_
                        refine bw_push rfl ?_
                        refine bw_aldi rfl (by first | rfl | assumption) (by omega) (by omega) ?_
                        rw [n2]
                        have m9 := sg_b x14 b27
                        refine bw_imul rfl ⟨by omega, by omega⟩ ?_
                        refine bw_iload rfl rfl ?_
                        refine bw_aload rfl rfl ?_
                        refine bw_getr rfl rfl (hR _ _) ?_
                        refine bw_push rfl ?_
                        refine bw_aldi rfl (by first | rfl | assumption) (by omega) (by omega) ?_
                        rw [n3]
                        have m8 := sg_b x40 b53
                        refine bw_imul rfl ⟨by omega, by omega⟩ ?_
                        have eH : slS S a n (.inr p) = (.inr q53, up (up (up (up (up (up S (334 + 5 * S 3) l) (334 + 5 * S 3 + 1) u) (334 + 5 * S 3 + 1 + 1) v) (334 + 5 * S 3 + 3) (r14 * v27)) (334 + 5 * S 3 + 4) (r40 * v53)) 3 (S 3 + 1)) := by
                          have e3 := slU_3 (S := S) (a := a) (n := n) (z := .inr p) w3.1
                          unfold slS
                          rw [e3]
                          unfold slU
                          simp only [sl5, sl4, sl3, sl2, h1, h14, h27, h40, h53]
                          rw [sg_y y14, sg_z y40]
                        obtain ⟨T, hTT⟩ : ∃ T, T = up (up (up (up (up (up S (334 + 5 * S 3) l) (334 + 5 * S 3 + 1) u) (334 + 5 * S 3 + 1 + 1) v) (334 + 5 * S 3 + 3) (r14 * v27)) (334 + 5 * S 3 + 4) (r40 * v53)) 3 (S 3 + 1) := ⟨_, rfl⟩
                        rw [← hTT] at eH
                        obtain ⟨o, k3, t0, t1, t2, t3, t4⟩ := sl_T w3.1 hTT
                        have hW := sw_sl hS.sw h3 o k3 (by rw [t0]; exact bl) (by rw [t1, t2]; omega) (by rw [t3]; exact m9) (by rw [t4]; exact m8)
                        refine bw_callVNv (e := d - 1) (as := [_, _, _, _, _]) rfl (by omega) rfl rfl (Nat.le_of_ble_eq_true rfl) (Nat.le_of_ble_eq_true rfl) rfl (c_addSlide hR (by first | exact Or.inl rfl | exact Or.inr rfl) hS hW bl h3 o k3 t0 t1 t2 t3 t4 (by omega) ⟨m9, m8⟩ (by omega)) (fun M97 hM97 => ?_)
                        refine bw_push rfl ?_
                        refine bw_retz rfl rfl (by omega) ?_
                        exact ⟨rfl, _, rfl, Or.inr ⟨q53, by rw [eH], rfl, ⟨hF.mono (fun c k => Or.inl k) |>.trans ((sq_of hM97.1 (fun k => by have := k.1; omega)).mono (fun c k => Or.inr k)), TP_s2 hT hM97.1 (fun k => by have := k.1; omega) (fun k => by have := k.1; omega), TA_sm hA hM97.1 (fun k => by have := k.1; omega)⟩, by rw [eH]; exact hM97.2⟩⟩))
  · have w0 := hS.sw.fr
    have w1 := hS.sw.la
    have w2 := hS.sw.bo
    have w3 := hS.sw.sl
    have w4 := hS.sw.hi
    have w5 := hS.sw.st
    have hF : sq pG M M := sq_refl _ _
    have hRM := hR
    have hSM := hS
    show abW d (0, 0) 48 0 [some (vr (some 3)), none, none] [] (0, 0) (A0 L) M (qI (A0 L) (fun x N => (∃ e : Int × Int, (slS S a n (.inr p)).1 = .inl e ∧ x = 0 ∧ FA pG M a n e N) ∨ (∃ q : Int, (slS S a n (.inr p)).1 = .inr q ∧ x = 1 ∧ GO (pGs 459) M a n q N ∧ SR N 459 (slS S a n (.inr p)).2)))
    refine bw_aload rfl rfl ?_
    refine bw_callVi (e := d - 1) (as := []) rfl (by omega) rfl rfl (Nat.le_of_ble_eq_true rfl) (Nat.le_of_ble_eq_true rfl) rfl (c_readSpan hR hT hA (by first | exact Or.inl rfl | exact Or.inr rfl) hS hr (by omega)) (fun r1 M1 hM1 => ?_)
    rcases hM1 with ⟨e, h1, rfl, f1⟩ | ⟨q1, l, u, v, ol, h1, rfl, g1, ⟨o4, bl⟩, n0, n1, bu⟩
    · have h1 : (sl1 S a n (.inr p)).1 = .inl e := h1 (up S (334 + 5 * S 3) (owS S a n (.inr p)).2) (334 + 5 * S 3 + 1) (up_ne (by omega))
      have hz : (slS S a n (.inr p)).1 = .inl e := by simp only [slS, sl5, sl4, sl3, sl2, h1, wyS_l, nuS_l]
      have hX : FA pG M a n e M1 := f1
      refine bw_ifne rfl (fun c => absurd c (by decide)) (fun _ => ?_)
      refine bw_push rfl ?_
      refine bw_retz rfl rfl (by omega) ?_
      exact ⟨rfl, _, rfl, Or.inl ⟨e, hz, rfl, hX⟩⟩
    · have h1 := sl_1 w3.1 ol h1
      have hF := g1.1
      have hR := g1.1.RF hR
      have hT := g1.2.1
      have hA := g1.2.2
      have hS := SR_sm hS g1.1.1 (fun c c0 c1 => no_R (by omega))
      refine bw_ifne rfl (fun _ => ?_) (fun c => (c (by decide)).elim)
      refine bw_aload rfl rfl ?_
      refine bw_ldcs rfl ?_
      refine bw_ldcs rfl ?_
      refine bw_callVi (e := d - 1) (as := [_, _]) rfl (by omega) rfl rfl (Nat.le_of_ble_eq_true rfl) (Nat.le_of_ble_eq_true rfl) rfl (c_readWay (i := 17) (j := 18) hR hT hA (by decide) (by decide) (by decide) (by omega)) (fun r14 M14 hM14 => ?_)
      rcases hM14 with ⟨e, h14, rfl, f14⟩ | ⟨q14, w14, h14, y14, g14⟩
      · have h14 : wyS a n 12 13 (.inr q1) = (.inl e, 0) := h14
        have hz : (slS S a n (.inr p)).1 = .inl e := by simp only [slS, sl5, sl4, sl3, sl2, h1, h14, wyS_l, nuS_l]
        have hX : FA pG M a n e M14 := ⟨hF.1.trans (f14.1.mono pP_R), f14.2⟩
        refine bw_istore (ls2 := [_, _, _]) rfl rfl (Nat.le_of_ble_eq_true rfl) rfl ?_
        refine bw_iload rfl rfl ?_
        refine bw_ifeq rfl (fun c19 => ?_) (fun c19 => ?_)
        · first
          | (exfalso; omega)
          | (refine bw_push rfl ?_
             refine bw_retz rfl rfl (by omega) ?_
             exact ⟨rfl, _, rfl, Or.inl ⟨e, hz, rfl, hX⟩⟩)
        · first
          | (exfalso; omega)
          | (refine bw_aload rfl rfl ?_
             refine bw_push rfl ?_
             refine bw_push rfl ?_
             refine bw_push rfl ?_
             refine bw_callVi (e := d - 1) (as := [_, _, _]) rfl (by omega) rfl rfl (Nat.le_of_ble_eq_true rfl) (Nat.le_of_ble_eq_true rfl) rfl (c_needNumber hR hT hA (by omega) (by omega)) (fun r27 M27 hM27 => ?_)
             rcases hM27 with ⟨e, h27, rfl, f27⟩ | ⟨q27, v27, h27, rfl, g27, b27, k27⟩
             · skip
               have hz : (slS S a n (.inr p)).1 = .inl e := by simp only [slS, sl5, sl4, sl3, sl2, h1, h14, h27, wyS_l, nuS_l]
               have hX : FA pG M a n e M27 := ⟨hF.1.trans (f27.1.mono pP_R), f27.2⟩
               refine bw_ifne rfl (fun c => absurd c (by decide)) (fun _ => ?_)
               refine bw_push rfl ?_
               refine bw_retz rfl rfl (by omega) ?_
               exact ⟨rfl, _, rfl, Or.inl ⟨e, hz, rfl, hX⟩⟩
             · skip
               have n0 : gI M27 9 0 = u := by rw [k27, up_ne (by decide)]; exact n0
               have n1 : gI M27 9 1 = v := by rw [k27, up_ne (by decide)]; exact n1
               have n2 : gI M27 9 2 = v27 := by rw [k27, up_eq rfl]
               have o4 : gI M27 3 4 = l := by rw [g27.1.at 3 (by decide)]; exact o4
               have hS := SR_sm hS g27.1.1 (fun c c0 c1 => no_N (by omega))
               have hF := hF.trans (g27.1.mono pN_R)
               have hR := g27.1.RF hR
               have hT := g27.2.1
               have hA := g27.2.2
               refine bw_ifne rfl (fun _ => ?_) (fun c => (c (by decide)).elim)
               refine bw_aload rfl rfl ?_
               refine bw_ldcs rfl ?_
               refine bw_ldcs rfl ?_
               refine bw_callVi (e := d - 1) (as := [_, _]) rfl (by omega) rfl rfl (Nat.le_of_ble_eq_true rfl) (Nat.le_of_ble_eq_true rfl) rfl (c_readWay (i := 19) (j := 20) hR hT hA (by decide) (by decide) (by decide) (by omega)) (fun r40 M40 hM40 => ?_)
               rcases hM40 with ⟨e, h40, rfl, f40⟩ | ⟨q40, w40, h40, y40, g40⟩
               · have h40 : wyS a n 14 15 (.inr q27) = (.inl e, 0) := h40
                 have hz : (slS S a n (.inr p)).1 = .inl e := by simp only [slS, sl5, sl4, sl3, sl2, h1, h14, h27, h40, wyS_l, nuS_l]
                 have hX : FA pG M a n e M40 := ⟨hF.1.trans (f40.1.mono pP_R), f40.2⟩
                 refine bw_istore (ls2 := [_, _, _]) rfl rfl (Nat.le_of_ble_eq_true rfl) rfl ?_
                 refine bw_iload rfl rfl ?_
                 refine bw_ifeq rfl (fun c45 => ?_) (fun c45 => ?_)
                 · first
                   | (exfalso; omega)
                   | (refine bw_push rfl ?_
                      refine bw_retz rfl rfl (by omega) ?_
                      exact ⟨rfl, _, rfl, Or.inl ⟨e, hz, rfl, hX⟩⟩)
                 · first
                   | (exfalso; omega)
                   | (refine bw_aload rfl rfl ?_
                      refine bw_push rfl ?_
                      refine bw_push rfl ?_
                      refine bw_push rfl ?_
                      refine bw_callVi (e := d - 1) (as := [_, _, _]) rfl (by omega) rfl rfl (Nat.le_of_ble_eq_true rfl) (Nat.le_of_ble_eq_true rfl) rfl (c_needNumber hR hT hA (by omega) (by omega)) (fun r53 M53 hM53 => ?_)
                      rcases hM53 with ⟨e, h53, rfl, f53⟩ | ⟨q53, v53, h53, rfl, g53, b53, k53⟩
                      · skip
                        have hz : (slS S a n (.inr p)).1 = .inl e := by simp only [slS, sl5, sl4, sl3, sl2, h1, h14, h27, h40, h53, wyS_l, nuS_l]
                        have hX : FA pG M a n e M53 := ⟨hF.1.trans (f53.1.mono pP_R), f53.2⟩
                        refine bw_ifne rfl (fun c => absurd c (by decide)) (fun _ => ?_)
                        refine bw_push rfl ?_
                        refine bw_retz rfl rfl (by omega) ?_
                        exact ⟨rfl, _, rfl, Or.inl ⟨e, hz, rfl, hX⟩⟩
                      · skip
                        have n0 : gI M53 9 0 = u := by rw [k53, up_ne (by decide)]; exact n0
                        have n1 : gI M53 9 1 = v := by rw [k53, up_ne (by decide)]; exact n1
                        have n2 : gI M53 9 2 = v27 := by rw [k53, up_ne (by decide)]; exact n2
                        have n3 : gI M53 9 3 = v53 := by rw [k53, up_eq rfl]
                        have o4 : gI M53 3 4 = l := by rw [g53.1.at 3 (by decide)]; exact o4
                        have hS := SR_sm hS g53.1.1 (fun c c0 c1 => no_N (by omega))
                        have hF := hF.trans (g53.1.mono pN_R)
                        have hR := g53.1.RF hR
                        have hT := g53.2.1
                        have hA := g53.2.2
                        refine bw_ifne rfl (fun _ => ?_) (fun c => (c (by decide)).elim)
                        refine bw_aload rfl rfl ?_
                        refine bw_getr rfl rfl ((hR _ _).trans hr) ?_
                        refine bw_aload rfl rfl ?_
                        refine bw_getI rfl rfl ?_
                        rw [o4]
                        refine bw_aload rfl rfl ?_
                        refine bw_getr rfl rfl (hR _ _) ?_
                        refine bw_push rfl ?_
                        refine bw_aldi rfl (by first | rfl | assumption) (by omega) (by omega) ?_
                        rw [n0]
                        refine bw_aload rfl rfl ?_
                        refine bw_getr rfl rfl (hR _ _) ?_
                        refine bw_push rfl ?_
                        refine bw_aldi rfl (by first | rfl | assumption) (by omega) (by omega) ?_
                        rw [n1]
                        refine bw_iload rfl rfl ?_
                        refine bw_aload rfl rfl ?_
                        refine bw_getr rfl rfl (hR _ _) ?_
                        refine bw_push rfl ?_
                        refine bw_aldi rfl (by first | rfl | assumption) (by omega) (by omega) ?_
                        rw [n2]
                        have m9 := sg_b x14 b27
                        refine bw_imul rfl ⟨by omega, by omega⟩ ?_
                        refine bw_iload rfl rfl ?_
                        refine bw_aload rfl rfl ?_
                        refine bw_getr rfl rfl (hR _ _) ?_
                        refine bw_push rfl ?_
                        refine bw_aldi rfl (by first | rfl | assumption) (by omega) (by omega) ?_
                        rw [n3]
                        have m8 := sg_b x40 b53
                        refine bw_imul rfl ⟨by omega, by omega⟩ ?_
                        have eH : slS S a n (.inr p) = (.inr q53, up (up (up (up (up (up S (334 + 5 * S 3) l) (334 + 5 * S 3 + 1) u) (334 + 5 * S 3 + 1 + 1) v) (334 + 5 * S 3 + 3) (r14 * v27)) (334 + 5 * S 3 + 4) (r40 * v53)) 3 (S 3 + 1)) := by
                          have e3 := slU_3 (S := S) (a := a) (n := n) (z := .inr p) w3.1
                          unfold slS
                          rw [e3]
                          unfold slU
                          simp only [sl5, sl4, sl3, sl2, h1, h14, h27, h40, h53]
                          rw [sg_y y14, sg_z y40]
                        obtain ⟨T, hTT⟩ : ∃ T, T = up (up (up (up (up (up S (334 + 5 * S 3) l) (334 + 5 * S 3 + 1) u) (334 + 5 * S 3 + 1 + 1) v) (334 + 5 * S 3 + 3) (r14 * v27)) (334 + 5 * S 3 + 4) (r40 * v53)) 3 (S 3 + 1) := ⟨_, rfl⟩
                        rw [← hTT] at eH
                        obtain ⟨o, k3, t0, t1, t2, t3, t4⟩ := sl_T w3.1 hTT
                        have hW := sw_sl hS.sw h3 o k3 (by rw [t0]; exact bl) (by rw [t1, t2]; omega) (by rw [t3]; exact m9) (by rw [t4]; exact m8)
                        refine bw_callVNv (e := d - 1) (as := [_, _, _, _, _]) rfl (by omega) rfl rfl (Nat.le_of_ble_eq_true rfl) (Nat.le_of_ble_eq_true rfl) rfl (c_addSlide hR (by first | exact Or.inl rfl | exact Or.inr rfl) hS hW bl h3 o k3 t0 t1 t2 t3 t4 (by omega) ⟨m9, m8⟩ (by omega)) (fun M97 hM97 => ?_)
                        refine bw_push rfl ?_
                        refine bw_retz rfl rfl (by omega) ?_
                        exact ⟨rfl, _, rfl, Or.inr ⟨q53, by rw [eH], rfl, ⟨hF.mono (fun c k => Or.inl k) |>.trans ((sq_of hM97.1 (fun k => by have := k.1; omega)).mono (fun c k => Or.inr k)), TP_s2 hT hM97.1 (fun k => by have := k.1; omega) (fun k => by have := k.1; omega), TA_sm hA hM97.1 (fun k => by have := k.1; omega)⟩, by rw [eH]; exact hM97.2⟩⟩)
               · have h40 : wyS a n 14 15 (.inr q27) = (.inr q40, w40) := h40
                 have y40 : w40 = 14 ∧ r40 = 1 ∨ w40 = 15 ∧ r40 = -1 := y40
                 have x40 : r40 = 1 ∨ r40 = -1 := by omega
                 have n0 : gI M40 9 0 = u := by rw [g40.1.at 9 (by decide)]; exact n0
                 have n1 : gI M40 9 1 = v := by rw [g40.1.at 9 (by decide)]; exact n1
                 have n2 : gI M40 9 2 = v27 := by rw [g40.1.at 9 (by decide)]; exact n2
                 have o4 : gI M40 3 4 = l := by rw [g40.1.at 3 (by decide)]; exact o4
                 have hS := SR_sm hS g40.1.1 (fun c c0 c1 => no_T (by omega))
                 have hF := hF.trans (g40.1.mono pT_R)
                 have hR := g40.1.RF hR
                 have hT := g40.2.1
                 have hA := g40.2.2
                 refine bw_istore (ls2 := [_, _, _]) rfl rfl (Nat.le_of_ble_eq_true rfl) rfl ?_
                 refine bw_iload rfl rfl ?_
                 refine bw_ifeq rfl (fun c45 => ?_) (fun c45 => ?_)
                 · first
                   | (exfalso; omega)
                   | (refine bw_push rfl ?_
                      refine bw_retz rfl rfl (by omega) ?_
                      exact ⟨rfl, _, rfl, Or.inl ⟨e, hz, rfl, hX⟩⟩)
                 · first
                   | (exfalso; omega)
                   | (refine bw_aload rfl rfl ?_
                      refine bw_push rfl ?_
                      refine bw_push rfl ?_
                      refine bw_push rfl ?_
                      refine bw_callVi (e := d - 1) (as := [_, _, _]) rfl (by omega) rfl rfl (Nat.le_of_ble_eq_true rfl) (Nat.le_of_ble_eq_true rfl) rfl (c_needNumber hR hT hA (by omega) (by omega)) (fun r53 M53 hM53 => ?_)
                      rcases hM53 with ⟨e, h53, rfl, f53⟩ | ⟨q53, v53, h53, rfl, g53, b53, k53⟩
                      · skip
                        have hz : (slS S a n (.inr p)).1 = .inl e := by simp only [slS, sl5, sl4, sl3, sl2, h1, h14, h27, h40, h53, wyS_l, nuS_l]
                        have hX : FA pG M a n e M53 := ⟨hF.1.trans (f53.1.mono pP_R), f53.2⟩
                        refine bw_ifne rfl (fun c => absurd c (by decide)) (fun _ => ?_)
                        refine bw_push rfl ?_
                        refine bw_retz rfl rfl (by omega) ?_
                        exact ⟨rfl, _, rfl, Or.inl ⟨e, hz, rfl, hX⟩⟩
                      · skip
                        have n0 : gI M53 9 0 = u := by rw [k53, up_ne (by decide)]; exact n0
                        have n1 : gI M53 9 1 = v := by rw [k53, up_ne (by decide)]; exact n1
                        have n2 : gI M53 9 2 = v27 := by rw [k53, up_ne (by decide)]; exact n2
                        have n3 : gI M53 9 3 = v53 := by rw [k53, up_eq rfl]
                        have o4 : gI M53 3 4 = l := by rw [g53.1.at 3 (by decide)]; exact o4
                        have hS := SR_sm hS g53.1.1 (fun c c0 c1 => no_N (by omega))
                        have hF := hF.trans (g53.1.mono pN_R)
                        have hR := g53.1.RF hR
                        have hT := g53.2.1
                        have hA := g53.2.2
                        refine bw_ifne rfl (fun _ => ?_) (fun c => (c (by decide)).elim)
                        refine bw_aload rfl rfl ?_
                        refine bw_getr rfl rfl ((hR _ _).trans hr) ?_
                        refine bw_aload rfl rfl ?_
                        refine bw_getI rfl rfl ?_
                        rw [o4]
                        refine bw_aload rfl rfl ?_
                        refine bw_getr rfl rfl (hR _ _) ?_
                        refine bw_push rfl ?_
                        refine bw_aldi rfl (by first | rfl | assumption) (by omega) (by omega) ?_
                        rw [n0]
                        refine bw_aload rfl rfl ?_
                        refine bw_getr rfl rfl (hR _ _) ?_
                        refine bw_push rfl ?_
                        refine bw_aldi rfl (by first | rfl | assumption) (by omega) (by omega) ?_
                        rw [n1]
                        refine bw_iload rfl rfl ?_
                        refine bw_aload rfl rfl ?_
                        refine bw_getr rfl rfl (hR _ _) ?_
                        refine bw_push rfl ?_
                        refine bw_aldi rfl (by first | rfl | assumption) (by omega) (by omega) ?_
                        rw [n2]
                        have m9 := sg_b x14 b27
                        refine bw_imul rfl ⟨by omega, by omega⟩ ?_
                        refine bw_iload rfl rfl ?_
                        refine bw_aload rfl rfl ?_
                        refine bw_getr rfl rfl (hR _ _) ?_
                        refine bw_push rfl ?_
                        refine bw_aldi rfl (by first | rfl | assumption) (by omega) (by omega) ?_
                        rw [n3]
                        have m8 := sg_b x40 b53
                        refine bw_imul rfl ⟨by omega, by omega⟩ ?_
                        have eH : slS S a n (.inr p) = (.inr q53, up (up (up (up (up (up S (334 + 5 * S 3) l) (334 + 5 * S 3 + 1) u) (334 + 5 * S 3 + 1 + 1) v) (334 + 5 * S 3 + 3) (r14 * v27)) (334 + 5 * S 3 + 4) (r40 * v53)) 3 (S 3 + 1)) := by
                          have e3 := slU_3 (S := S) (a := a) (n := n) (z := .inr p) w3.1
                          unfold slS
                          rw [e3]
                          unfold slU
                          simp only [sl5, sl4, sl3, sl2, h1, h14, h27, h40, h53]
                          rw [sg_y y14, sg_z y40]
                        obtain ⟨T, hTT⟩ : ∃ T, T = up (up (up (up (up (up S (334 + 5 * S 3) l) (334 + 5 * S 3 + 1) u) (334 + 5 * S 3 + 1 + 1) v) (334 + 5 * S 3 + 3) (r14 * v27)) (334 + 5 * S 3 + 4) (r40 * v53)) 3 (S 3 + 1) := ⟨_, rfl⟩
                        rw [← hTT] at eH
                        obtain ⟨o, k3, t0, t1, t2, t3, t4⟩ := sl_T w3.1 hTT
                        have hW := sw_sl hS.sw h3 o k3 (by rw [t0]; exact bl) (by rw [t1, t2]; omega) (by rw [t3]; exact m9) (by rw [t4]; exact m8)
                        refine bw_callVNv (e := d - 1) (as := [_, _, _, _, _]) rfl (by omega) rfl rfl (Nat.le_of_ble_eq_true rfl) (Nat.le_of_ble_eq_true rfl) rfl (c_addSlide hR (by first | exact Or.inl rfl | exact Or.inr rfl) hS hW bl h3 o k3 t0 t1 t2 t3 t4 (by omega) ⟨m9, m8⟩ (by omega)) (fun M97 hM97 => ?_)
                        refine bw_push rfl ?_
                        refine bw_retz rfl rfl (by omega) ?_
                        exact ⟨rfl, _, rfl, Or.inr ⟨q53, by rw [eH], rfl, ⟨hF.mono (fun c k => Or.inl k) |>.trans ((sq_of hM97.1 (fun k => by have := k.1; omega)).mono (fun c k => Or.inr k)), TP_s2 hT hM97.1 (fun k => by have := k.1; omega) (fun k => by have := k.1; omega), TA_sm hA hM97.1 (fun k => by have := k.1; omega)⟩, by rw [eH]; exact hM97.2⟩⟩))
      · have h14 : wyS a n 12 13 (.inr q1) = (.inr q14, w14) := h14
        have y14 : w14 = 12 ∧ r14 = 1 ∨ w14 = 13 ∧ r14 = -1 := y14
        have x14 : r14 = 1 ∨ r14 = -1 := by omega
        have n0 : gI M14 9 0 = u := by rw [g14.1.at 9 (by decide)]; exact n0
        have n1 : gI M14 9 1 = v := by rw [g14.1.at 9 (by decide)]; exact n1
        have o4 : gI M14 3 4 = l := by rw [g14.1.at 3 (by decide)]; exact o4
        have hS := SR_sm hS g14.1.1 (fun c c0 c1 => no_T (by omega))
        have hF := hF.trans (g14.1.mono pT_R)
        have hR := g14.1.RF hR
        have hT := g14.2.1
        have hA := g14.2.2
        refine bw_istore (ls2 := [_, _, _]) rfl rfl (Nat.le_of_ble_eq_true rfl) rfl ?_
        refine bw_iload rfl rfl ?_
        refine bw_ifeq rfl (fun c19 => ?_) (fun c19 => ?_)
        · first
          | (exfalso; omega)
          | (refine bw_push rfl ?_
             refine bw_retz rfl rfl (by omega) ?_
             exact ⟨rfl, _, rfl, Or.inl ⟨e, hz, rfl, hX⟩⟩)
        · first
          | (exfalso; omega)
          | (refine bw_aload rfl rfl ?_
             refine bw_push rfl ?_
             refine bw_push rfl ?_
             refine bw_push rfl ?_
             refine bw_callVi (e := d - 1) (as := [_, _, _]) rfl (by omega) rfl rfl (Nat.le_of_ble_eq_true rfl) (Nat.le_of_ble_eq_true rfl) rfl (c_needNumber hR hT hA (by omega) (by omega)) (fun r27 M27 hM27 => ?_)
             rcases hM27 with ⟨e, h27, rfl, f27⟩ | ⟨q27, v27, h27, rfl, g27, b27, k27⟩
             · skip
               have hz : (slS S a n (.inr p)).1 = .inl e := by simp only [slS, sl5, sl4, sl3, sl2, h1, h14, h27, wyS_l, nuS_l]
               have hX : FA pG M a n e M27 := ⟨hF.1.trans (f27.1.mono pP_R), f27.2⟩
               refine bw_ifne rfl (fun c => absurd c (by decide)) (fun _ => ?_)
               refine bw_push rfl ?_
               refine bw_retz rfl rfl (by omega) ?_
               exact ⟨rfl, _, rfl, Or.inl ⟨e, hz, rfl, hX⟩⟩
             · skip
               have n0 : gI M27 9 0 = u := by rw [k27, up_ne (by decide)]; exact n0
               have n1 : gI M27 9 1 = v := by rw [k27, up_ne (by decide)]; exact n1
               have n2 : gI M27 9 2 = v27 := by rw [k27, up_eq rfl]
               have o4 : gI M27 3 4 = l := by rw [g27.1.at 3 (by decide)]; exact o4
               have hS := SR_sm hS g27.1.1 (fun c c0 c1 => no_N (by omega))
               have hF := hF.trans (g27.1.mono pN_R)
               have hR := g27.1.RF hR
               have hT := g27.2.1
               have hA := g27.2.2
               refine bw_ifne rfl (fun _ => ?_) (fun c => (c (by decide)).elim)
               refine bw_aload rfl rfl ?_
               refine bw_ldcs rfl ?_
               refine bw_ldcs rfl ?_
               refine bw_callVi (e := d - 1) (as := [_, _]) rfl (by omega) rfl rfl (Nat.le_of_ble_eq_true rfl) (Nat.le_of_ble_eq_true rfl) rfl (c_readWay (i := 19) (j := 20) hR hT hA (by decide) (by decide) (by decide) (by omega)) (fun r40 M40 hM40 => ?_)
               rcases hM40 with ⟨e, h40, rfl, f40⟩ | ⟨q40, w40, h40, y40, g40⟩
               · have h40 : wyS a n 14 15 (.inr q27) = (.inl e, 0) := h40
                 have hz : (slS S a n (.inr p)).1 = .inl e := by simp only [slS, sl5, sl4, sl3, sl2, h1, h14, h27, h40, wyS_l, nuS_l]
                 have hX : FA pG M a n e M40 := ⟨hF.1.trans (f40.1.mono pP_R), f40.2⟩
                 refine bw_istore (ls2 := [_, _, _]) rfl rfl (Nat.le_of_ble_eq_true rfl) rfl ?_
                 refine bw_iload rfl rfl ?_
                 refine bw_ifeq rfl (fun c45 => ?_) (fun c45 => ?_)
                 · first
                   | (exfalso; omega)
                   | (refine bw_push rfl ?_
                      refine bw_retz rfl rfl (by omega) ?_
                      exact ⟨rfl, _, rfl, Or.inl ⟨e, hz, rfl, hX⟩⟩)
                 · first
                   | (exfalso; omega)
                   | (refine bw_aload rfl rfl ?_
                      refine bw_push rfl ?_
                      refine bw_push rfl ?_
                      refine bw_push rfl ?_
                      refine bw_callVi (e := d - 1) (as := [_, _, _]) rfl (by omega) rfl rfl (Nat.le_of_ble_eq_true rfl) (Nat.le_of_ble_eq_true rfl) rfl (c_needNumber hR hT hA (by omega) (by omega)) (fun r53 M53 hM53 => ?_)
                      rcases hM53 with ⟨e, h53, rfl, f53⟩ | ⟨q53, v53, h53, rfl, g53, b53, k53⟩
                      · skip
                        have hz : (slS S a n (.inr p)).1 = .inl e := by simp only [slS, sl5, sl4, sl3, sl2, h1, h14, h27, h40, h53, wyS_l, nuS_l]
                        have hX : FA pG M a n e M53 := ⟨hF.1.trans (f53.1.mono pP_R), f53.2⟩
                        refine bw_ifne rfl (fun c => absurd c (by decide)) (fun _ => ?_)
                        refine bw_push rfl ?_
                        refine bw_retz rfl rfl (by omega) ?_
                        exact ⟨rfl, _, rfl, Or.inl ⟨e, hz, rfl, hX⟩⟩
                      · skip
                        have n0 : gI M53 9 0 = u := by rw [k53, up_ne (by decide)]; exact n0
                        have n1 : gI M53 9 1 = v := by rw [k53, up_ne (by decide)]; exact n1
                        have n2 : gI M53 9 2 = v27 := by rw [k53, up_ne (by decide)]; exact n2
                        have n3 : gI M53 9 3 = v53 := by rw [k53, up_eq rfl]
                        have o4 : gI M53 3 4 = l := by rw [g53.1.at 3 (by decide)]; exact o4
                        have hS := SR_sm hS g53.1.1 (fun c c0 c1 => no_N (by omega))
                        have hF := hF.trans (g53.1.mono pN_R)
                        have hR := g53.1.RF hR
                        have hT := g53.2.1
                        have hA := g53.2.2
                        refine bw_ifne rfl (fun _ => ?_) (fun c => (c (by decide)).elim)
                        refine bw_aload rfl rfl ?_
                        refine bw_getr rfl rfl ((hR _ _).trans hr) ?_
                        refine bw_aload rfl rfl ?_
                        refine bw_getI rfl rfl ?_
                        rw [o4]
                        refine bw_aload rfl rfl ?_
                        refine bw_getr rfl rfl (hR _ _) ?_
                        refine bw_push rfl ?_
                        refine bw_aldi rfl (by first | rfl | assumption) (by omega) (by omega) ?_
                        rw [n0]
                        refine bw_aload rfl rfl ?_
                        refine bw_getr rfl rfl (hR _ _) ?_
                        refine bw_push rfl ?_
                        refine bw_aldi rfl (by first | rfl | assumption) (by omega) (by omega) ?_
                        rw [n1]
                        refine bw_iload rfl rfl ?_
                        refine bw_aload rfl rfl ?_
                        refine bw_getr rfl rfl (hR _ _) ?_
                        refine bw_push rfl ?_
                        refine bw_aldi rfl (by first | rfl | assumption) (by omega) (by omega) ?_
                        rw [n2]
                        have m9 := sg_b x14 b27
                        refine bw_imul rfl ⟨by omega, by omega⟩ ?_
                        refine bw_iload rfl rfl ?_
                        refine bw_aload rfl rfl ?_
                        refine bw_getr rfl rfl (hR _ _) ?_
                        refine bw_push rfl ?_
                        refine bw_aldi rfl (by first | rfl | assumption) (by omega) (by omega) ?_
                        rw [n3]
                        have m8 := sg_b x40 b53
                        refine bw_imul rfl ⟨by omega, by omega⟩ ?_
                        have eH : slS S a n (.inr p) = (.inr q53, up (up (up (up (up (up S (334 + 5 * S 3) l) (334 + 5 * S 3 + 1) u) (334 + 5 * S 3 + 1 + 1) v) (334 + 5 * S 3 + 3) (r14 * v27)) (334 + 5 * S 3 + 4) (r40 * v53)) 3 (S 3 + 1)) := by
                          have e3 := slU_3 (S := S) (a := a) (n := n) (z := .inr p) w3.1
                          unfold slS
                          rw [e3]
                          unfold slU
                          simp only [sl5, sl4, sl3, sl2, h1, h14, h27, h40, h53]
                          rw [sg_y y14, sg_z y40]
                        obtain ⟨T, hTT⟩ : ∃ T, T = up (up (up (up (up (up S (334 + 5 * S 3) l) (334 + 5 * S 3 + 1) u) (334 + 5 * S 3 + 1 + 1) v) (334 + 5 * S 3 + 3) (r14 * v27)) (334 + 5 * S 3 + 4) (r40 * v53)) 3 (S 3 + 1) := ⟨_, rfl⟩
                        rw [← hTT] at eH
                        obtain ⟨o, k3, t0, t1, t2, t3, t4⟩ := sl_T w3.1 hTT
                        have hW := sw_sl hS.sw h3 o k3 (by rw [t0]; exact bl) (by rw [t1, t2]; omega) (by rw [t3]; exact m9) (by rw [t4]; exact m8)
                        refine bw_callVNv (e := d - 1) (as := [_, _, _, _, _]) rfl (by omega) rfl rfl (Nat.le_of_ble_eq_true rfl) (Nat.le_of_ble_eq_true rfl) rfl (c_addSlide hR (by first | exact Or.inl rfl | exact Or.inr rfl) hS hW bl h3 o k3 t0 t1 t2 t3 t4 (by omega) ⟨m9, m8⟩ (by omega)) (fun M97 hM97 => ?_)
                        refine bw_push rfl ?_
                        refine bw_retz rfl rfl (by omega) ?_
                        exact ⟨rfl, _, rfl, Or.inr ⟨q53, by rw [eH], rfl, ⟨hF.mono (fun c k => Or.inl k) |>.trans ((sq_of hM97.1 (fun k => by have := k.1; omega)).mono (fun c k => Or.inr k)), TP_s2 hT hM97.1 (fun k => by have := k.1; omega) (fun k => by have := k.1; omega), TA_sm hA hM97.1 (fun k => by have := k.1; omega)⟩, by rw [eH]; exact hM97.2⟩⟩)
               · have h40 : wyS a n 14 15 (.inr q27) = (.inr q40, w40) := h40
                 have y40 : w40 = 14 ∧ r40 = 1 ∨ w40 = 15 ∧ r40 = -1 := y40
                 have x40 : r40 = 1 ∨ r40 = -1 := by omega
                 have n0 : gI M40 9 0 = u := by rw [g40.1.at 9 (by decide)]; exact n0
                 have n1 : gI M40 9 1 = v := by rw [g40.1.at 9 (by decide)]; exact n1
                 have n2 : gI M40 9 2 = v27 := by rw [g40.1.at 9 (by decide)]; exact n2
                 have o4 : gI M40 3 4 = l := by rw [g40.1.at 3 (by decide)]; exact o4
                 have hS := SR_sm hS g40.1.1 (fun c c0 c1 => no_T (by omega))
                 have hF := hF.trans (g40.1.mono pT_R)
                 have hR := g40.1.RF hR
                 have hT := g40.2.1
                 have hA := g40.2.2
                 refine bw_istore (ls2 := [_, _, _]) rfl rfl (Nat.le_of_ble_eq_true rfl) rfl ?_
                 refine bw_iload rfl rfl ?_
                 refine bw_ifeq rfl (fun c45 => ?_) (fun c45 => ?_)
                 · first
                   | (exfalso; omega)
                   | (refine bw_push rfl ?_
                      refine bw_retz rfl rfl (by omega) ?_
                      exact ⟨rfl, _, rfl, Or.inl ⟨e, hz, rfl, hX⟩⟩)
                 · first
                   | (exfalso; omega)
                   | (refine bw_aload rfl rfl ?_
                      refine bw_push rfl ?_
                      refine bw_push rfl ?_
                      refine bw_push rfl ?_
                      refine bw_callVi (e := d - 1) (as := [_, _, _]) rfl (by omega) rfl rfl (Nat.le_of_ble_eq_true rfl) (Nat.le_of_ble_eq_true rfl) rfl (c_needNumber hR hT hA (by omega) (by omega)) (fun r53 M53 hM53 => ?_)
                      rcases hM53 with ⟨e, h53, rfl, f53⟩ | ⟨q53, v53, h53, rfl, g53, b53, k53⟩
                      · skip
                        have hz : (slS S a n (.inr p)).1 = .inl e := by simp only [slS, sl5, sl4, sl3, sl2, h1, h14, h27, h40, h53, wyS_l, nuS_l]
                        have hX : FA pG M a n e M53 := ⟨hF.1.trans (f53.1.mono pP_R), f53.2⟩
                        refine bw_ifne rfl (fun c => absurd c (by decide)) (fun _ => ?_)
                        refine bw_push rfl ?_
                        refine bw_retz rfl rfl (by omega) ?_
                        exact ⟨rfl, _, rfl, Or.inl ⟨e, hz, rfl, hX⟩⟩
                      · skip
                        have n0 : gI M53 9 0 = u := by rw [k53, up_ne (by decide)]; exact n0
                        have n1 : gI M53 9 1 = v := by rw [k53, up_ne (by decide)]; exact n1
                        have n2 : gI M53 9 2 = v27 := by rw [k53, up_ne (by decide)]; exact n2
                        have n3 : gI M53 9 3 = v53 := by rw [k53, up_eq rfl]
                        have o4 : gI M53 3 4 = l := by rw [g53.1.at 3 (by decide)]; exact o4
                        have hS := SR_sm hS g53.1.1 (fun c c0 c1 => no_N (by omega))
                        have hF := hF.trans (g53.1.mono pN_R)
                        have hR := g53.1.RF hR
                        have hT := g53.2.1
                        have hA := g53.2.2
                        refine bw_ifne rfl (fun _ => ?_) (fun c => (c (by decide)).elim)
                        refine bw_aload rfl rfl ?_
                        refine bw_getr rfl rfl ((hR _ _).trans hr) ?_
                        refine bw_aload rfl rfl ?_
                        refine bw_getI rfl rfl ?_
                        rw [o4]
                        refine bw_aload rfl rfl ?_
                        refine bw_getr rfl rfl (hR _ _) ?_
                        refine bw_push rfl ?_
                        refine bw_aldi rfl (by first | rfl | assumption) (by omega) (by omega) ?_
                        rw [n0]
                        refine bw_aload rfl rfl ?_
                        refine bw_getr rfl rfl (hR _ _) ?_
                        refine bw_push rfl ?_
                        refine bw_aldi rfl (by first | rfl | assumption) (by omega) (by omega) ?_
                        rw [n1]
                        refine bw_iload rfl rfl ?_
                        refine bw_aload rfl rfl ?_
                        refine bw_getr rfl rfl (hR _ _) ?_
                        refine bw_push rfl ?_
                        refine bw_aldi rfl (by first | rfl | assumption) (by omega) (by omega) ?_
                        rw [n2]
                        have m9 := sg_b x14 b27
                        refine bw_imul rfl ⟨by omega, by omega⟩ ?_
                        refine bw_iload rfl rfl ?_
                        refine bw_aload rfl rfl ?_
                        refine bw_getr rfl rfl (hR _ _) ?_
                        refine bw_push rfl ?_
                        refine bw_aldi rfl (by first | rfl | assumption) (by omega) (by omega) ?_
                        rw [n3]
                        have m8 := sg_b x40 b53
                        refine bw_imul rfl ⟨by omega, by omega⟩ ?_
                        have eH : slS S a n (.inr p) = (.inr q53, up (up (up (up (up (up S (334 + 5 * S 3) l) (334 + 5 * S 3 + 1) u) (334 + 5 * S 3 + 1 + 1) v) (334 + 5 * S 3 + 3) (r14 * v27)) (334 + 5 * S 3 + 4) (r40 * v53)) 3 (S 3 + 1)) := by
                          have e3 := slU_3 (S := S) (a := a) (n := n) (z := .inr p) w3.1
                          unfold slS
                          rw [e3]
                          unfold slU
                          simp only [sl5, sl4, sl3, sl2, h1, h14, h27, h40, h53]
                          rw [sg_y y14, sg_z y40]
                        obtain ⟨T, hTT⟩ : ∃ T, T = up (up (up (up (up (up S (334 + 5 * S 3) l) (334 + 5 * S 3 + 1) u) (334 + 5 * S 3 + 1 + 1) v) (334 + 5 * S 3 + 3) (r14 * v27)) (334 + 5 * S 3 + 4) (r40 * v53)) 3 (S 3 + 1) := ⟨_, rfl⟩
                        rw [← hTT] at eH
                        obtain ⟨o, k3, t0, t1, t2, t3, t4⟩ := sl_T w3.1 hTT
                        have hW := sw_sl hS.sw h3 o k3 (by rw [t0]; exact bl) (by rw [t1, t2]; omega) (by rw [t3]; exact m9) (by rw [t4]; exact m8)
                        refine bw_callVNv (e := d - 1) (as := [_, _, _, _, _]) rfl (by omega) rfl rfl (Nat.le_of_ble_eq_true rfl) (Nat.le_of_ble_eq_true rfl) rfl (c_addSlide hR (by first | exact Or.inl rfl | exact Or.inr rfl) hS hW bl h3 o k3 t0 t1 t2 t3 t4 (by omega) ⟨m9, m8⟩ (by omega)) (fun M97 hM97 => ?_)
                        refine bw_push rfl ?_
                        refine bw_retz rfl rfl (by omega) ?_
                        exact ⟨rfl, _, rfl, Or.inr ⟨q53, by rw [eH], rfl, ⟨hF.mono (fun c k => Or.inl k) |>.trans ((sq_of hM97.1 (fun k => by have := k.1; omega)).mono (fun c k => Or.inr k)), TP_s2 hT hM97.1 (fun k => by have := k.1; omega) (fun k => by have := k.1; omega), TA_sm hA hM97.1 (fun k => by have := k.1; omega)⟩, by rw [eH]; exact hM97.2⟩⟩))
