theorem isIx_ex {h : HH} {x : Int} (hx : 0 ≤ x) : ∀ k : Nat, x < tS h k → ∃ i : Int, (0 ≤ i ∧ i < k) ∧ tS h i ≤ x ∧ x < tS h (i + 1) := by
  intro k
  induction k with
  | zero =>
    intro h1
    have : tS h ((0 : Nat) : Int) = 0 := rfl
    omega
  | succ k ih =>
    intro h1
    by_cases q : x < tS h k
    · obtain ⟨i, i1, i2⟩ := ih q
      exact ⟨i, by omega, i2⟩
    · exact ⟨k, by omega, by omega, by exact h1⟩
theorem rowV_in {h : HH} {e f : Int} (H : HV h) (h1 : 1 ≤ h.1) (hf : 0 ≤ f) (he : e = 0 ∨ e = 1 ∨ e = 2) : 0 ≤ rowV h e f ∧ rowV h e f ≤ 99 := by
  have t0 : tS h 0 = 0 := rfl
  have tl := tS_lt H (i := 0) (j := h.1) (Int.le_refl _) (by omega) (Int.le_refl _)
  have ex : ∀ x : Int, 0 ≤ x → x < tS h h.1 → ∃ i : Int, isIx h x i := fun x x0 x1 => by
    obtain ⟨i, i1, i2⟩ := isIx_ex x0 h.1.toNat (by rw [Int.toNat_of_nonneg (by omega)]; exact x1)
    exact ⟨i, by omega, i2⟩
  by_cases q : f < tS h h.1
  · obtain ⟨i, hi⟩ := ex f hf q
    rw [rowV_eq H (Or.inl ⟨i, f, Or.inl ⟨q, rfl⟩, hi, rfl⟩)]
    exact (H.2 i hi.1.1 hi.1.2).1
  · rcases he with rfl | rfl | rfl
    · rw [rowV_eq H (Or.inr (Or.inl ⟨by omega, rfl, rfl⟩))]
      exact (H.2 (h.1 - 1) (by omega) (by omega)).1
    · obtain ⟨i, hi⟩ := ex (f % tS h h.1) (Int.emod_nonneg _ (by omega)) (Int.emod_lt_of_pos _ (by omega))
      rw [rowV_eq H (Or.inl ⟨i, _, Or.inr ⟨rfl, by omega, rfl⟩, hi, rfl⟩)]
      exact (H.2 i hi.1.1 hi.1.2).1
    · rw [rowV_eq H (Or.inr (Or.inr ⟨by omega, rfl, rfl⟩))]
      decide
theorem enW_in {a : Int → Int} {n p : Int} : (enW a n p).2 = 0 ∨ (enW a n p).2 = 1 ∨ (enW a n p).2 = 2 := by
  unfold enW
  split
  · exact Or.inr (Or.inl rfl)
  · split
    · exact Or.inr (Or.inr rfl)
    · exact Or.inl rfl
theorem laT_1 {S a : Int → Int} {m p on e : Int} {h : HH} (hl : 0 ≤ S 1) : laT (nmF S a (S 1) m p m) on (S 1) h e 1 = S 1 := by
  unfold laT
  rw [ltF_lo hl (by decide), up_ne (by omega), nmF_lo hl (by decide)]
theorem la_T {S a : Int → Int} {m p on e : Int} {h : HH} (hl : 0 ≤ S 1 ∧ S 1 ≤ 5) (hm : 1 ≤ m ∧ m ≤ 6) (h0 : 0 ≤ S 0 ∧ S 0 ≤ 96) {T : Int → Int} (hT : T = up (laT (nmF S a (S 1) m p m) on (S 1) h e) 1 (S 1 + 1)) : (∀ j : Int, (j ≠ 1 ∧ j ≠ 6 + S 1 ∧ (j < 12 + 7 * S 1 ∨ 19 + 7 * S 1 ≤ j) ∧ (j < 430 + 96 * S 1 ∨ 526 + 96 * S 1 ≤ j)) → T j = S j) ∧ T 1 = S 1 + 1 ∧ T (6 + S 1) = on ∧ T (12 + 7 * S 1) = m ∧ (∀ i : Int, 0 ≤ i → i < m → T (13 + 7 * S 1 + i) = a (p + i)) ∧ (∀ f : Int, 0 ≤ f → f < S 0 → T (430 + 96 * S 1 + f) = rowV h e f) ∧ (∀ f : Int, S 0 ≤ f → f < 96 → T (430 + 96 * S 1 + f) = S (430 + 96 * S 1 + f)) := by
  have z0 : up (nmF S a (S 1) m p m) (6 + S 1) on 0 = S 0 := by rw [up_ne (by omega), nmF_lo (by omega) (by decide)]
  subst hT
  unfold laT
  rw [z0]
  refine ⟨fun j hj => ?_, up_eq rfl, ?_, ?_, fun i i0 i1 => ?_, fun f f0 f1 => ?_, fun f f0 f1 => ?_⟩
  · rw [up_ne hj.1]; unfold ltF; rw [if_neg (by omega), up_ne hj.2.1]; unfold nmF; rw [if_neg (by omega), if_neg (by omega)]
  · rw [up_ne (by omega)]; unfold ltF; rw [if_neg (by omega), up_eq rfl]
  · rw [up_ne (by omega)]; unfold ltF; rw [if_neg (by omega), up_ne (by omega)]; unfold nmF; rw [if_pos rfl]
  · rw [up_ne (by omega)]; unfold ltF; rw [if_neg (by omega), up_ne (by omega)]; unfold nmF; rw [if_neg (by omega), if_pos (by omega)]; congr 1; omega
  · rw [up_ne (by omega)]; unfold ltF; rw [if_pos (by omega)]; congr 1; omega
  · rw [up_ne (by omega)]; unfold ltF; rw [if_neg (by omega), up_ne (by omega)]; unfold nmF; rw [if_neg (by omega), if_neg (by omega)]
theorem G_W (a : Nat) (h : pG a) : pW a := by unfold pW; rcases h with h | h | h <;> omega
abbrev pA (s a : Nat) : Prop := pW a ∨ pSc s a
set_option maxRecDepth 20000 in
set_option maxHeartbeats 4000000 in
theorem c_readLayer {d L : Nat} {M : abMem} {r : abRf} (hR : RF r M) {a : Int → Int} {n : Int} (hT : TP M a n) {p : Int} (hA : TA M a n p) {s : Nat} (hs : s = 372 ∨ s = 459) {S : Int → Int} (hS : SR M s S) (hr : r.2.1 = some s) (h1' : S 1 ≤ 5) (h0 : 1 ≤ S 0) (hd : 8 ≤ d) : abW d (0, 0) 41 0 (abEnt (abL 41) [vr (some 3)]) [] (0, 0) (A0 L) M (qI (A0 L) (fun x N => (∃ e : Int × Int, (laS S a n p).1 = .inl e ∧ x = 0 ∧ FA pW M a n e N) ∨ (∃ q : Int, (laS S a n p).1 = .inr q ∧ x = 1 ∧ GO (pA s) M a n q N ∧ SR N s (laS S a n p).2))) := by
  rcases hs with rfl | rfl
  · have t1 := hT.le
    have t2 := hT.ok.1
    have a1 := hA.1.1
    have a2 := hA.1.2.1
    have a3 := hA.1.2.2
    have a4 := hA.2
    have tc := tk_c hT.ok (p := p) (by omega)
    have w0 := hS.sw.fr
    have w1 := hS.sw.la
    have w2 := hS.sw.bo
    have w3 := hS.sw.sl
    have w4 := hS.sw.hi
    have w5 := hS.sw.st
    have hF : sq pG M M := sq_refl _ _
    have hRM := hR
    have hSM := hS
    have fi := fnL_in (S := S) (a := a) (z := S 1) (k := p) (m := we a n p - p) w1.1
    show abW d (0, 0) 41 0 [some (vr (some 3)), none, none] [] (0, 0) (A0 L) M (qI (A0 L) (fun x N => (∃ e : Int × Int, (laS S a n p).1 = .inl e ∧ x = 0 ∧ FA pW M a n e N) ∨ (∃ q : Int, (laS S a n p).1 = .inr q ∧ x = 1 ∧ GO (pA 372) M a n q N ∧ SR N 372 (laS S a n p).2)))
    refine bw_aload rfl rfl ?_
    refine bw_getr rfl rfl (hR _ _) ?_
    refine bw_getI rfl rfl ?_
    rw [a1]
    refine bw_istore (ls2 := [_, _, _]) rfl rfl (Nat.le_of_ble_eq_true rfl) rfl ?_
    refine bw_aload rfl rfl ?_
    refine bw_getr rfl rfl (hR _ _) ?_
    refine bw_getI rfl rfl ?_
    rw [a3]
    refine bw_aload rfl rfl ?_
    refine bw_getr rfl rfl (hR _ _) ?_
    refine bw_getI rfl rfl ?_
    rw [a1]
    refine bw_isub rfl ⟨by omega, by omega⟩ ?_
    refine bw_istore (ls2 := [_, _, _]) rfl rfl (Nat.le_of_ble_eq_true rfl) rfl ?_
    refine bw_aload rfl rfl ?_
    refine bw_getr rfl rfl (hR _ _) ?_
    refine bw_callVNj (e := d - 1) (as := []) rfl (by omega) rfl rfl (Nat.le_of_ble_eq_true rfl) (Nat.le_of_ble_eq_true rfl) rfl (c_isName hR hT hA (by omega)) (fun r28 hr28 => ?_)
    rcases hr28 with ⟨h28, rfl⟩ | ⟨h28, rfl⟩
    · refine bw_ifne rfl (fun _ => ?_) (fun c => (c (by decide)).elim)
      refine bw_aload rfl rfl ?_
      refine bw_getr rfl rfl ((hR _ _).trans hr) ?_
      refine bw_aload rfl rfl ?_
      refine bw_getr rfl rfl (hR _ _) ?_
      refine bw_getr rfl rfl (hR _ _) ?_
      refine bw_iload rfl rfl ?_
      refine bw_iload rfl rfl ?_
      refine bw_callVNe (e := d - 1) (as := [_, _, _]) rfl (by omega) rfl rfl (Nat.le_of_ble_eq_true rfl) (Nat.le_of_ble_eq_true rfl) rfl (c_layerWithName hR hT (by first | exact Or.inl rfl | exact Or.inr rfl) hS (by omega) (by omega)) ?_
      rw [show tkE a n p = we a n p by omega]
      refine bw_push rfl ?_
      refine bw_iceq rfl (fun c58 => ?_) (fun c58 => ?_)
      · skip
        refine bw_aload rfl rfl ?_
        refine bw_getr rfl rfl (hR _ _) ?_
        refine bw_callVNv (e := d - 1) (as := []) rfl (by omega) rfl rfl (Nat.le_of_ble_eq_true rfl) (Nat.le_of_ble_eq_true rfl) rfl (c_advance (s := we a n p) hR hT ⟨by omega, by omega, by omega⟩) (fun M72 hM72 => ?_)
        have hn : fnL S a (S 1) p (we a n p - p) = -1 := by omega
        have wl := we_in hT.ok (k := p) (by omega)
        have hF := hF.trans ((sq_of hM72.1 (by decide)).mono pT_R)
        have hR := hM72.1.RF hR
        have hT := hM72.2.1
        have hA := hM72.2.2
        have hS := SR_sm hS hM72.1 (fun c c0 c1 => no_T (by omega))
        clear tc
        refine bw_aload rfl rfl ?_
        refine bw_ldcs rfl ?_
        refine bw_callVi (e := d - 1) (as := [_]) rfl (by omega) rfl rfl (Nat.le_of_ble_eq_true rfl) (Nat.le_of_ble_eq_true rfl) rfl (c_needWord (i := 6) hR hT hA (by decide) (by omega)) (fun r78 M78 hM78 => ?_)
        rcases hM78 with ⟨e, h78, rfl, f78⟩ | ⟨q78, h78, rfl, g78⟩
        · have h78 : woS a n 2 (.inr (sk a n (we a n p))) = .inl e := h78
          have hz : (laS S a n p).1 = .inl e := by rw [laS_g (q := sk a n (we a n p)) (by rw [naS_y h28]) (by rw [naS_y h28]; exact hn), laN_f (e := e) (by simp only [h78, woS_l, nuS_l, siS_l])]
          have hX : FA pG M a n e M78 := ⟨hF.1.trans (f78.1.mono pP_R), f78.2⟩
          refine bw_ifeq rfl (fun _ => ?_) (fun c => (c (by decide)).elim)
          refine bw_push rfl ?_
          refine bw_retz rfl rfl (by omega) ?_
          exact ⟨rfl, _, rfl, Or.inl ⟨e, hz, rfl, hX.1.mono G_W, hX.2⟩⟩
        · have h78 : woS a n 2 (.inr (sk a n (we a n p))) = .inr q78 := h78
          have hS := SR_sm hS g78.1.1 (fun c c0 c1 => no_T (by omega))
          have hF := hF.trans (g78.1.mono pT_R)
          have hR := g78.1.RF hR
          have hT := g78.2.1
          have hA := g78.2.2
          refine bw_ifeq rfl (fun c => absurd c (by decide)) (fun _ => ?_)
          refine bw_aload rfl rfl ?_
          refine bw_push rfl ?_
          refine bw_push rfl ?_
          refine bw_push rfl ?_
          refine bw_callVi (e := d - 1) (as := [_, _, _]) rfl (by omega) rfl rfl (Nat.le_of_ble_eq_true rfl) (Nat.le_of_ble_eq_true rfl) rfl (c_needNumber hR hT hA (by omega) (by omega)) (fun r89 M89 hM89 => ?_)
          rcases hM89 with ⟨e, h89, rfl, f89⟩ | ⟨q89, v89, h89, rfl, g89, b89, k89⟩
          · skip
            have hz : (laS S a n p).1 = .inl e := by rw [laS_g (q := sk a n (we a n p)) (by rw [naS_y h28]) (by rw [naS_y h28]; exact hn), laN_f (e := e) (by simp only [h78, h89, woS_l, nuS_l, siS_l])]
            have hX : FA pG M a n e M89 := ⟨hF.1.trans (f89.1.mono pP_R), f89.2⟩
            refine bw_ifeq rfl (fun _ => ?_) (fun c => (c (by decide)).elim)
            refine bw_push rfl ?_
            refine bw_retz rfl rfl (by omega) ?_
            exact ⟨rfl, _, rfl, Or.inl ⟨e, hz, rfl, hX.1.mono G_W, hX.2⟩⟩
          · skip
            have n0 : gI M89 9 0 = v89 := by rw [k89, up_eq rfl]
            have hS := SR_sm hS g89.1.1 (fun c c0 c1 => no_N (by omega))
            have hF := hF.trans (g89.1.mono pN_R)
            have hR := g89.1.RF hR
            have hT := g89.2.1
            have hA := g89.2.2
            refine bw_ifeq rfl (fun c => absurd c (by decide)) (fun _ => ?_)
            refine bw_aload rfl rfl ?_
            refine bw_push rfl ?_
            refine bw_callVi (e := d - 1) (as := [_]) rfl (by omega) rfl rfl (Nat.le_of_ble_eq_true rfl) (Nat.le_of_ble_eq_true rfl) rfl (c_needSign hR hT hA (by decide) (by omega)) (fun r98 M98 hM98 => ?_)
            rcases hM98 with ⟨e, h98, rfl, f98⟩ | ⟨q98, h98, rfl, g98⟩
            · skip
              have hz : (laS S a n p).1 = .inl e := by rw [laS_g (q := sk a n (we a n p)) (by rw [naS_y h28]) (by rw [naS_y h28]; exact hn), laN_f (e := e) (by simp only [h78, h89, h98, woS_l, nuS_l, siS_l])]
              have hX : FA pG M a n e M98 := ⟨hF.1.trans (f98.1.mono pP_R), f98.2⟩
              refine bw_ifne rfl (fun c => absurd c (by decide)) (fun _ => ?_)
              refine bw_push rfl ?_
              refine bw_retz rfl rfl (by omega) ?_
              exact ⟨rfl, _, rfl, Or.inl ⟨e, hz, rfl, hX.1.mono G_W, hX.2⟩⟩
            · skip
              have n0 : gI M98 9 0 = v89 := by rw [g98.1.at 9 (by decide)]; exact n0
              have hS := SR_sm hS g98.1.1 (fun c c0 c1 => no_T (by omega))
              have hF := hF.trans (g98.1.mono pT_R)
              have hR := g98.1.RF hR
              have hT := g98.2.1
              have hA := g98.2.2
              refine bw_ifne rfl (fun _ => ?_) (fun c => (c (by decide)).elim)
              refine bw_aload rfl rfl ?_
              refine bw_getr rfl rfl (hR _ _) ?_
              refine bw_aload rfl rfl ?_
              refine bw_getr rfl rfl ((hR _ _).trans hr) ?_
              refine bw_getI rfl rfl ?_
              rw [show gI M98 372 0 = S 0 from hS.c0]
              refine bw_aload rfl rfl ?_
              refine bw_getr rfl rfl (hR _ _) ?_
              refine bw_push rfl ?_
              refine bw_aldi rfl (by first | rfl | assumption) (by omega) (by omega) ?_
              rw [n0]
              refine bw_callVNv (e := d - 1) (as := [_, _]) rfl (by omega) rfl rfl (Nat.le_of_ble_eq_true rfl) (Nat.le_of_ble_eq_true rfl) rfl (c_lstart hR (by omega)) (fun M123 hM123 => ?_)
              obtain ⟨v4, hL⟩ := hM123
              have hL := hL q98
              have hT := TP_s2 hT v4 (by decide) (by decide)
              have hA := TA_sm hA v4 (by decide)
              have hR := v4.RF hR
              have hS := SR_sm hS v4 (fun c c0 c1 k => by have : c = 4 := k; omega)
              have hW := (hF.mono G_W).trans ((sq_of v4 (by decide)).mono (q := pW) (fun c k => by have : c = 4 := k; unfold pW; omega))
              have hsi : siS a n 61 (nuS a n 1 24 (woS a n 2 (.inr (sk a n (we a n p))))).1 = .inr q98 := by rw [h78, h89]; exact h98
              have hon : (nuS a n 1 24 (woS a n 2 (.inr (sk a n (we a n p))))).2 = v89 := by rw [h78, h89]
              refine bw_aload rfl rfl ?_
              refine bw_callVi (e := d - 1) (as := []) rfl (by omega) rfl rfl (Nat.le_of_ble_eq_true rfl) (Nat.le_of_ble_eq_true rfl) rfl (c_readLine hR hT hL hA b89 (by omega)) (fun r127 M127 hM127 => ?_)
              rcases hM127 with ⟨e, hz, rfl, hX⟩ | ⟨t, hz, rfl, g127, hL, hV, h1⟩
              · have hz : (laS S a n p).1 = .inl e := by rw [laS_g (q := sk a n (we a n p)) (by rw [naS_y h28]) (by rw [naS_y h28]; exact hn), laN_g hsi, hon, laL_f hz]
                have hX := FA.tr (s := pW) hW.1 hX (fun _ k => k) (fun _ k => k)
                refine bw_ifne rfl (fun c130 => ?_) (fun c130 => ?_)
                · first
                  | (exfalso; omega)
                  | (refine bw_aload rfl rfl ?_
                     refine bw_getr rfl rfl ((hR _ _).trans hr) ?_
                     refine bw_aload rfl rfl ?_
                     refine bw_getr rfl rfl (hR _ _) ?_
                     refine bw_getr rfl rfl (hR _ _) ?_
                     refine bw_iload rfl rfl ?_
                     refine bw_iload rfl rfl ?_
                     refine bw_aload rfl rfl ?_
                     refine bw_getr rfl rfl (hR _ _) ?_
                     refine bw_aload rfl rfl ?_
                     refine bw_callVi (e := d - 1) (as := []) rfl (by omega) rfl rfl (Nat.le_of_ble_eq_true rfl) (Nat.le_of_ble_eq_true rfl) rfl (c_readEnding hR hT hA (by omega)) (fun r153 M153 hM153 => ?_)
                     obtain ⟨rfl, qE, eqE, gE⟩ := hM153
                     have hW := hW.trans (gE.1.mono T_W)
                     have hR := gE.1.RF hR
                     have hT := gE.2.1
                     have hA := gE.2.2
                     have hS := SR_sm hS gE.1.1 (fun c c0 c1 => no_T (by omega))
                     have hL := CL_sm hL gE.1.1 (fun c c0 c1 => no_T4 c0)
                     obtain ⟨T, hTT⟩ : ∃ T, T = up (laT (nmF S a (S 1) (we a n p - p) p (we a n p - p)) v89 (S 1) (lsH t) (enW a n (lsP t)).2) 1 (S 1 + 1) := ⟨_, rfl⟩
                     have eH : laS S a n p = (.inr qE, T) := by
                       rw [laS_g (q := sk a n (we a n p)) (by rw [naS_y h28]) (by rw [naS_y h28]; exact hn), laN_g hsi, hon, laL_g hz]
                       unfold laE
                       rw [eqE, laT_1 w1.1, hTT]
                     obtain ⟨o, k1, x0, x1, x2, x3, x4⟩ := la_T (by omega) h28.1 (by omega) hTT
                     have hSW := sw_la hS.sw h1' o k1 (by rw [x0]; exact b89) (by rw [x1]; exact h28.1) (fun i i0 i1 => by rw [x1] at i1; rw [x2 i i0 i1]; exact wl.2.2.2 (p + i) (by omega) (by omega)) (fun f f0 f1 => by
                       by_cases q : f < S 0
                       · rw [x3 f f0 q]; exact rowV_in hV.2.1 h1 f0 enW_in
                       · rw [x4 f (by omega) f1, show 430 + 96 * S 1 + f = 430 + (96 * S 1 + f) by omega]; exact hS.sw.td (96 * S 1 + f) (by omega) (by omega))
                     have hy : ∀ i : Int, 0 ≤ i → i < we a n p - p → gI M153 2 (p + i) = a (p + i) := fun i i0 i1 => by
                       have x := wl.2.2.2 (p + i) (by omega) (by omega)
                       have z := hT.ok.1
                       rw [hT.by _ (by omega) (by omega)]
                       have y := sg_c (a (p + i))
                       omega
                     refine bw_callVNv (e := d - 1) (as := [_, _, _, _, _]) rfl (by omega) rfl rfl (Nat.le_of_ble_eq_true rfl) (Nat.le_of_ble_eq_true rfl) rfl (c_addLayer hR (by first | exact Or.inl rfl | exact Or.inr rfl) hS hSW h1' hL.cr h1 rfl hL.f5 h28.1 (by have := hT.ok.1; omega) hy enW_in o k1 x0 x1 x2 x3 (by omega)) (fun M156 hM156 => ?_)
                     refine bw_push rfl ?_
                     refine bw_retz rfl rfl (by omega) ?_
                     exact ⟨rfl, _, rfl, Or.inr ⟨qE, by rw [eH], rfl, ⟨hW.mono (fun c k => Or.inl k) |>.trans ((sq_of hM156.1 (fun k => by have := k.1; omega)).mono (fun c k => Or.inr k)), TP_s2 hT hM156.1 (fun k => by have := k.1; omega) (fun k => by have := k.1; omega), TA_sm hA hM156.1 (fun k => by have := k.1; omega)⟩, by rw [eH]; exact hM156.2⟩⟩)
                · first
                  | (exfalso; omega)
                  | (refine bw_push rfl ?_
                     refine bw_retz rfl rfl (by omega) ?_
                     exact ⟨rfl, _, rfl, Or.inl ⟨e, hz, rfl, hX⟩⟩)
              · have hW := hW.trans g127.1
                have hR := g127.1.RF hR
                have hT := g127.2.1
                have hA := g127.2.2
                have hS := SR_sm hS g127.1.1 (fun c c0 c1 => no_W (by omega))
                refine bw_ifne rfl (fun c130 => ?_) (fun c130 => ?_)
                · first
                  | (exfalso; omega)
                  | (refine bw_aload rfl rfl ?_
                     refine bw_getr rfl rfl ((hR _ _).trans hr) ?_
                     refine bw_aload rfl rfl ?_
                     refine bw_getr rfl rfl (hR _ _) ?_
                     refine bw_getr rfl rfl (hR _ _) ?_
                     refine bw_iload rfl rfl ?_
                     refine bw_iload rfl rfl ?_
                     refine bw_aload rfl rfl ?_
                     refine bw_getr rfl rfl (hR _ _) ?_
                     refine bw_aload rfl rfl ?_
                     refine bw_callVi (e := d - 1) (as := []) rfl (by omega) rfl rfl (Nat.le_of_ble_eq_true rfl) (Nat.le_of_ble_eq_true rfl) rfl (c_readEnding hR hT hA (by omega)) (fun r153 M153 hM153 => ?_)
                     obtain ⟨rfl, qE, eqE, gE⟩ := hM153
                     have hW := hW.trans (gE.1.mono T_W)
                     have hR := gE.1.RF hR
                     have hT := gE.2.1
                     have hA := gE.2.2
                     have hS := SR_sm hS gE.1.1 (fun c c0 c1 => no_T (by omega))
                     have hL := CL_sm hL gE.1.1 (fun c c0 c1 => no_T4 c0)
                     obtain ⟨T, hTT⟩ : ∃ T, T = up (laT (nmF S a (S 1) (we a n p - p) p (we a n p - p)) v89 (S 1) (lsH t) (enW a n (lsP t)).2) 1 (S 1 + 1) := ⟨_, rfl⟩
                     have eH : laS S a n p = (.inr qE, T) := by
                       rw [laS_g (q := sk a n (we a n p)) (by rw [naS_y h28]) (by rw [naS_y h28]; exact hn), laN_g hsi, hon, laL_g hz]
                       unfold laE
                       rw [eqE, laT_1 w1.1, hTT]
                     obtain ⟨o, k1, x0, x1, x2, x3, x4⟩ := la_T (by omega) h28.1 (by omega) hTT
                     have hSW := sw_la hS.sw h1' o k1 (by rw [x0]; exact b89) (by rw [x1]; exact h28.1) (fun i i0 i1 => by rw [x1] at i1; rw [x2 i i0 i1]; exact wl.2.2.2 (p + i) (by omega) (by omega)) (fun f f0 f1 => by
                       by_cases q : f < S 0
                       · rw [x3 f f0 q]; exact rowV_in hV.2.1 h1 f0 enW_in
                       · rw [x4 f (by omega) f1, show 430 + 96 * S 1 + f = 430 + (96 * S 1 + f) by omega]; exact hS.sw.td (96 * S 1 + f) (by omega) (by omega))
                     have hy : ∀ i : Int, 0 ≤ i → i < we a n p - p → gI M153 2 (p + i) = a (p + i) := fun i i0 i1 => by
                       have x := wl.2.2.2 (p + i) (by omega) (by omega)
                       have z := hT.ok.1
                       rw [hT.by _ (by omega) (by omega)]
                       have y := sg_c (a (p + i))
                       omega
                     refine bw_callVNv (e := d - 1) (as := [_, _, _, _, _]) rfl (by omega) rfl rfl (Nat.le_of_ble_eq_true rfl) (Nat.le_of_ble_eq_true rfl) rfl (c_addLayer hR (by first | exact Or.inl rfl | exact Or.inr rfl) hS hSW h1' hL.cr h1 rfl hL.f5 h28.1 (by have := hT.ok.1; omega) hy enW_in o k1 x0 x1 x2 x3 (by omega)) (fun M156 hM156 => ?_)
                     refine bw_push rfl ?_
                     refine bw_retz rfl rfl (by omega) ?_
                     exact ⟨rfl, _, rfl, Or.inr ⟨qE, by rw [eH], rfl, ⟨hW.mono (fun c k => Or.inl k) |>.trans ((sq_of hM156.1 (fun k => by have := k.1; omega)).mono (fun c k => Or.inr k)), TP_s2 hT hM156.1 (fun k => by have := k.1; omega) (fun k => by have := k.1; omega), TA_sm hA hM156.1 (fun k => by have := k.1; omega)⟩, by rw [eH]; exact hM156.2⟩⟩)
                · first
                  | (exfalso; omega)
                  | (refine bw_push rfl ?_
                     refine bw_retz rfl rfl (by omega) ?_
                     exact ⟨rfl, _, rfl, Or.inl ⟨e, hz, rfl, hX⟩⟩)
      · skip
        refine bw_aload rfl rfl ?_
        refine bw_push rfl ?_
        refine bw_iload rfl rfl ?_
        refine bw_callVi (e := d - 1) (as := [_, _]) rfl (by omega) rfl rfl (Nat.le_of_ble_eq_true rfl) (Nat.le_of_ble_eq_true rfl) rfl (c_fail hR) (fun r64 M64 hM64 => ?_)
        obtain ⟨rfl, rfl⟩ := hM64
        refine bw_retz rfl rfl (by omega) ?_
        exact ⟨rfl, _, rfl, Or.inl ⟨_, by rw [laS_d (q := sk a n (we a n p)) (by rw [naS_y h28]) (by rw [naS_y h28]; show fnL S a (S 1) p (we a n p - p) ≠ -1; omega)], rfl, FA.tr (s := pW) (sm_refl pW M) (fa_of hT) (fun _ k => k) P_W⟩⟩
    · refine bw_ifne rfl (fun c => absurd c (by decide)) (fun _ => ?_)
      refine bw_aload rfl rfl ?_
      refine bw_push rfl ?_
      refine bw_iload rfl rfl ?_
      refine bw_callVi (e := d - 1) (as := [_, _]) rfl (by omega) rfl rfl (Nat.le_of_ble_eq_true rfl) (Nat.le_of_ble_eq_true rfl) rfl (c_fail hR) (fun r37 M37 hM37 => ?_)
      obtain ⟨rfl, rfl⟩ := hM37
      refine bw_retz rfl rfl (by omega) ?_
      exact ⟨rfl, _, rfl, Or.inl ⟨_, by rw [laS_f (by rw [naS_n h28])], rfl, FA.tr (s := pW) (sm_refl pW M) (fa_of hT) (fun _ k => k) P_W⟩⟩
  · have t1 := hT.le
    have t2 := hT.ok.1
    have a1 := hA.1.1
    have a2 := hA.1.2.1
    have a3 := hA.1.2.2
    have a4 := hA.2
    have tc := tk_c hT.ok (p := p) (by omega)
    have w0 := hS.sw.fr
    have w1 := hS.sw.la
    have w2 := hS.sw.bo
    have w3 := hS.sw.sl
    have w4 := hS.sw.hi
    have w5 := hS.sw.st
    have hF : sq pG M M := sq_refl _ _
    have hRM := hR
    have hSM := hS
    have fi := fnL_in (S := S) (a := a) (z := S 1) (k := p) (m := we a n p - p) w1.1
    show abW d (0, 0) 41 0 [some (vr (some 3)), none, none] [] (0, 0) (A0 L) M (qI (A0 L) (fun x N => (∃ e : Int × Int, (laS S a n p).1 = .inl e ∧ x = 0 ∧ FA pW M a n e N) ∨ (∃ q : Int, (laS S a n p).1 = .inr q ∧ x = 1 ∧ GO (pA 459) M a n q N ∧ SR N 459 (laS S a n p).2)))
    refine bw_aload rfl rfl ?_
    refine bw_getr rfl rfl (hR _ _) ?_
    refine bw_getI rfl rfl ?_
    rw [a1]
    refine bw_istore (ls2 := [_, _, _]) rfl rfl (Nat.le_of_ble_eq_true rfl) rfl ?_
    refine bw_aload rfl rfl ?_
    refine bw_getr rfl rfl (hR _ _) ?_
    refine bw_getI rfl rfl ?_
    rw [a3]
    refine bw_aload rfl rfl ?_
    refine bw_getr rfl rfl (hR _ _) ?_
    refine bw_getI rfl rfl ?_
    rw [a1]
    refine bw_isub rfl ⟨by omega, by omega⟩ ?_
    refine bw_istore (ls2 := [_, _, _]) rfl rfl (Nat.le_of_ble_eq_true rfl) rfl ?_
    refine bw_aload rfl rfl ?_
    refine bw_getr rfl rfl (hR _ _) ?_
    refine bw_callVNj (e := d - 1) (as := []) rfl (by omega) rfl rfl (Nat.le_of_ble_eq_true rfl) (Nat.le_of_ble_eq_true rfl) rfl (c_isName hR hT hA (by omega)) (fun r28 hr28 => ?_)
    rcases hr28 with ⟨h28, rfl⟩ | ⟨h28, rfl⟩
    · refine bw_ifne rfl (fun _ => ?_) (fun c => (c (by decide)).elim)
      refine bw_aload rfl rfl ?_
      refine bw_getr rfl rfl ((hR _ _).trans hr) ?_
      refine bw_aload rfl rfl ?_
      refine bw_getr rfl rfl (hR _ _) ?_
      refine bw_getr rfl rfl (hR _ _) ?_
      refine bw_iload rfl rfl ?_
      refine bw_iload rfl rfl ?_
      refine bw_callVNe (e := d - 1) (as := [_, _, _]) rfl (by omega) rfl rfl (Nat.le_of_ble_eq_true rfl) (Nat.le_of_ble_eq_true rfl) rfl (c_layerWithName hR hT (by first | exact Or.inl rfl | exact Or.inr rfl) hS (by omega) (by omega)) ?_
      rw [show tkE a n p = we a n p by omega]
      refine bw_push rfl ?_
      refine bw_iceq rfl (fun c58 => ?_) (fun c58 => ?_)
      · skip
        refine bw_aload rfl rfl ?_
        refine bw_getr rfl rfl (hR _ _) ?_
        refine bw_callVNv (e := d - 1) (as := []) rfl (by omega) rfl rfl (Nat.le_of_ble_eq_true rfl) (Nat.le_of_ble_eq_true rfl) rfl (c_advance (s := we a n p) hR hT ⟨by omega, by omega, by omega⟩) (fun M72 hM72 => ?_)
        have hn : fnL S a (S 1) p (we a n p - p) = -1 := by omega
        have wl := we_in hT.ok (k := p) (by omega)
        have hF := hF.trans ((sq_of hM72.1 (by decide)).mono pT_R)
        have hR := hM72.1.RF hR
        have hT := hM72.2.1
        have hA := hM72.2.2
        have hS := SR_sm hS hM72.1 (fun c c0 c1 => no_T (by omega))
        clear tc
        refine bw_aload rfl rfl ?_
        refine bw_ldcs rfl ?_
        refine bw_callVi (e := d - 1) (as := [_]) rfl (by omega) rfl rfl (Nat.le_of_ble_eq_true rfl) (Nat.le_of_ble_eq_true rfl) rfl (c_needWord (i := 6) hR hT hA (by decide) (by omega)) (fun r78 M78 hM78 => ?_)
        rcases hM78 with ⟨e, h78, rfl, f78⟩ | ⟨q78, h78, rfl, g78⟩
        · have h78 : woS a n 2 (.inr (sk a n (we a n p))) = .inl e := h78
          have hz : (laS S a n p).1 = .inl e := by rw [laS_g (q := sk a n (we a n p)) (by rw [naS_y h28]) (by rw [naS_y h28]; exact hn), laN_f (e := e) (by simp only [h78, woS_l, nuS_l, siS_l])]
          have hX : FA pG M a n e M78 := ⟨hF.1.trans (f78.1.mono pP_R), f78.2⟩
          refine bw_ifeq rfl (fun _ => ?_) (fun c => (c (by decide)).elim)
          refine bw_push rfl ?_
          refine bw_retz rfl rfl (by omega) ?_
          exact ⟨rfl, _, rfl, Or.inl ⟨e, hz, rfl, hX.1.mono G_W, hX.2⟩⟩
        · have h78 : woS a n 2 (.inr (sk a n (we a n p))) = .inr q78 := h78
          have hS := SR_sm hS g78.1.1 (fun c c0 c1 => no_T (by omega))
          have hF := hF.trans (g78.1.mono pT_R)
          have hR := g78.1.RF hR
          have hT := g78.2.1
          have hA := g78.2.2
          refine bw_ifeq rfl (fun c => absurd c (by decide)) (fun _ => ?_)
          refine bw_aload rfl rfl ?_
          refine bw_push rfl ?_
          refine bw_push rfl ?_
          refine bw_push rfl ?_
          refine bw_callVi (e := d - 1) (as := [_, _, _]) rfl (by omega) rfl rfl (Nat.le_of_ble_eq_true rfl) (Nat.le_of_ble_eq_true rfl) rfl (c_needNumber hR hT hA (by omega) (by omega)) (fun r89 M89 hM89 => ?_)
          rcases hM89 with ⟨e, h89, rfl, f89⟩ | ⟨q89, v89, h89, rfl, g89, b89, k89⟩
          · skip
            have hz : (laS S a n p).1 = .inl e := by rw [laS_g (q := sk a n (we a n p)) (by rw [naS_y h28]) (by rw [naS_y h28]; exact hn), laN_f (e := e) (by simp only [h78, h89, woS_l, nuS_l, siS_l])]
            have hX : FA pG M a n e M89 := ⟨hF.1.trans (f89.1.mono pP_R), f89.2⟩
            refine bw_ifeq rfl (fun _ => ?_) (fun c => (c (by decide)).elim)
            refine bw_push rfl ?_
            refine bw_retz rfl rfl (by omega) ?_
            exact ⟨rfl, _, rfl, Or.inl ⟨e, hz, rfl, hX.1.mono G_W, hX.2⟩⟩
          · skip
            have n0 : gI M89 9 0 = v89 := by rw [k89, up_eq rfl]
            have hS := SR_sm hS g89.1.1 (fun c c0 c1 => no_N (by omega))
            have hF := hF.trans (g89.1.mono pN_R)
            have hR := g89.1.RF hR
            have hT := g89.2.1
            have hA := g89.2.2
            refine bw_ifeq rfl (fun c => absurd c (by decide)) (fun _ => ?_)
            refine bw_aload rfl rfl ?_
            refine bw_push rfl ?_
            refine bw_callVi (e := d - 1) (as := [_]) rfl (by omega) rfl rfl (Nat.le_of_ble_eq_true rfl) (Nat.le_of_ble_eq_true rfl) rfl (c_needSign hR hT hA (by decide) (by omega)) (fun r98 M98 hM98 => ?_)
            rcases hM98 with ⟨e, h98, rfl, f98⟩ | ⟨q98, h98, rfl, g98⟩
            · skip
              have hz : (laS S a n p).1 = .inl e := by rw [laS_g (q := sk a n (we a n p)) (by rw [naS_y h28]) (by rw [naS_y h28]; exact hn), laN_f (e := e) (by simp only [h78, h89, h98, woS_l, nuS_l, siS_l])]
              have hX : FA pG M a n e M98 := ⟨hF.1.trans (f98.1.mono pP_R), f98.2⟩
              refine bw_ifne rfl (fun c => absurd c (by decide)) (fun _ => ?_)
              refine bw_push rfl ?_
              refine bw_retz rfl rfl (by omega) ?_
              exact ⟨rfl, _, rfl, Or.inl ⟨e, hz, rfl, hX.1.mono G_W, hX.2⟩⟩
            · skip
              have n0 : gI M98 9 0 = v89 := by rw [g98.1.at 9 (by decide)]; exact n0
              have hS := SR_sm hS g98.1.1 (fun c c0 c1 => no_T (by omega))
              have hF := hF.trans (g98.1.mono pT_R)
              have hR := g98.1.RF hR
              have hT := g98.2.1
              have hA := g98.2.2
              refine bw_ifne rfl (fun _ => ?_) (fun c => (c (by decide)).elim)
              refine bw_aload rfl rfl ?_
              refine bw_getr rfl rfl (hR _ _) ?_
              refine bw_aload rfl rfl ?_
              refine bw_getr rfl rfl ((hR _ _).trans hr) ?_
              refine bw_getI rfl rfl ?_
              rw [show gI M98 459 0 = S 0 from hS.c0]
              refine bw_aload rfl rfl ?_
              refine bw_getr rfl rfl (hR _ _) ?_
              refine bw_push rfl ?_
              refine bw_aldi rfl (by first | rfl | assumption) (by omega) (by omega) ?_
              rw [n0]
              refine bw_callVNv (e := d - 1) (as := [_, _]) rfl (by omega) rfl rfl (Nat.le_of_ble_eq_true rfl) (Nat.le_of_ble_eq_true rfl) rfl (c_lstart hR (by omega)) (fun M123 hM123 => ?_)
              obtain ⟨v4, hL⟩ := hM123
              have hL := hL q98
              have hT := TP_s2 hT v4 (by decide) (by decide)
              have hA := TA_sm hA v4 (by decide)
              have hR := v4.RF hR
              have hS := SR_sm hS v4 (fun c c0 c1 k => by have : c = 4 := k; omega)
              have hW := (hF.mono G_W).trans ((sq_of v4 (by decide)).mono (q := pW) (fun c k => by have : c = 4 := k; unfold pW; omega))
              have hsi : siS a n 61 (nuS a n 1 24 (woS a n 2 (.inr (sk a n (we a n p))))).1 = .inr q98 := by rw [h78, h89]; exact h98
              have hon : (nuS a n 1 24 (woS a n 2 (.inr (sk a n (we a n p))))).2 = v89 := by rw [h78, h89]
              refine bw_aload rfl rfl ?_
              refine bw_callVi (e := d - 1) (as := []) rfl (by omega) rfl rfl (Nat.le_of_ble_eq_true rfl) (Nat.le_of_ble_eq_true rfl) rfl (c_readLine hR hT hL hA b89 (by omega)) (fun r127 M127 hM127 => ?_)
              rcases hM127 with ⟨e, hz, rfl, hX⟩ | ⟨t, hz, rfl, g127, hL, hV, h1⟩
              · have hz : (laS S a n p).1 = .inl e := by rw [laS_g (q := sk a n (we a n p)) (by rw [naS_y h28]) (by rw [naS_y h28]; exact hn), laN_g hsi, hon, laL_f hz]
                have hX := FA.tr (s := pW) hW.1 hX (fun _ k => k) (fun _ k => k)
                refine bw_ifne rfl (fun c130 => ?_) (fun c130 => ?_)
                · first
                  | (exfalso; omega)
                  | (refine bw_aload rfl rfl ?_
                     refine bw_getr rfl rfl ((hR _ _).trans hr) ?_
                     refine bw_aload rfl rfl ?_
                     refine bw_getr rfl rfl (hR _ _) ?_
                     refine bw_getr rfl rfl (hR _ _) ?_
                     refine bw_iload rfl rfl ?_
                     refine bw_iload rfl rfl ?_
                     refine bw_aload rfl rfl ?_
                     refine bw_getr rfl rfl (hR _ _) ?_
                     refine bw_aload rfl rfl ?_
                     refine bw_callVi (e := d - 1) (as := []) rfl (by omega) rfl rfl (Nat.le_of_ble_eq_true rfl) (Nat.le_of_ble_eq_true rfl) rfl (c_readEnding hR hT hA (by omega)) (fun r153 M153 hM153 => ?_)
                     obtain ⟨rfl, qE, eqE, gE⟩ := hM153
                     have hW := hW.trans (gE.1.mono T_W)
                     have hR := gE.1.RF hR
                     have hT := gE.2.1
                     have hA := gE.2.2
                     have hS := SR_sm hS gE.1.1 (fun c c0 c1 => no_T (by omega))
                     have hL := CL_sm hL gE.1.1 (fun c c0 c1 => no_T4 c0)
                     obtain ⟨T, hTT⟩ : ∃ T, T = up (laT (nmF S a (S 1) (we a n p - p) p (we a n p - p)) v89 (S 1) (lsH t) (enW a n (lsP t)).2) 1 (S 1 + 1) := ⟨_, rfl⟩
                     have eH : laS S a n p = (.inr qE, T) := by
                       rw [laS_g (q := sk a n (we a n p)) (by rw [naS_y h28]) (by rw [naS_y h28]; exact hn), laN_g hsi, hon, laL_g hz]
                       unfold laE
                       rw [eqE, laT_1 w1.1, hTT]
                     obtain ⟨o, k1, x0, x1, x2, x3, x4⟩ := la_T (by omega) h28.1 (by omega) hTT
                     have hSW := sw_la hS.sw h1' o k1 (by rw [x0]; exact b89) (by rw [x1]; exact h28.1) (fun i i0 i1 => by rw [x1] at i1; rw [x2 i i0 i1]; exact wl.2.2.2 (p + i) (by omega) (by omega)) (fun f f0 f1 => by
                       by_cases q : f < S 0
                       · rw [x3 f f0 q]; exact rowV_in hV.2.1 h1 f0 enW_in
                       · rw [x4 f (by omega) f1, show 430 + 96 * S 1 + f = 430 + (96 * S 1 + f) by omega]; exact hS.sw.td (96 * S 1 + f) (by omega) (by omega))
                     have hy : ∀ i : Int, 0 ≤ i → i < we a n p - p → gI M153 2 (p + i) = a (p + i) := fun i i0 i1 => by
                       have x := wl.2.2.2 (p + i) (by omega) (by omega)
                       have z := hT.ok.1
                       rw [hT.by _ (by omega) (by omega)]
                       have y := sg_c (a (p + i))
                       omega
                     refine bw_callVNv (e := d - 1) (as := [_, _, _, _, _]) rfl (by omega) rfl rfl (Nat.le_of_ble_eq_true rfl) (Nat.le_of_ble_eq_true rfl) rfl (c_addLayer hR (by first | exact Or.inl rfl | exact Or.inr rfl) hS hSW h1' hL.cr h1 rfl hL.f5 h28.1 (by have := hT.ok.1; omega) hy enW_in o k1 x0 x1 x2 x3 (by omega)) (fun M156 hM156 => ?_)
                     refine bw_push rfl ?_
                     refine bw_retz rfl rfl (by omega) ?_
                     exact ⟨rfl, _, rfl, Or.inr ⟨qE, by rw [eH], rfl, ⟨hW.mono (fun c k => Or.inl k) |>.trans ((sq_of hM156.1 (fun k => by have := k.1; omega)).mono (fun c k => Or.inr k)), TP_s2 hT hM156.1 (fun k => by have := k.1; omega) (fun k => by have := k.1; omega), TA_sm hA hM156.1 (fun k => by have := k.1; omega)⟩, by rw [eH]; exact hM156.2⟩⟩)
                · first
                  | (exfalso; omega)
                  | (refine bw_push rfl ?_
                     refine bw_retz rfl rfl (by omega) ?_
                     exact ⟨rfl, _, rfl, Or.inl ⟨e, hz, rfl, hX⟩⟩)
              · have hW := hW.trans g127.1
                have hR := g127.1.RF hR
                have hT := g127.2.1
                have hA := g127.2.2
                have hS := SR_sm hS g127.1.1 (fun c c0 c1 => no_W (by omega))
                refine bw_ifne rfl (fun c130 => ?_) (fun c130 => ?_)
                · first
                  | (exfalso; omega)
                  | (refine bw_aload rfl rfl ?_
                     refine bw_getr rfl rfl ((hR _ _).trans hr) ?_
                     refine bw_aload rfl rfl ?_
                     refine bw_getr rfl rfl (hR _ _) ?_
                     refine bw_getr rfl rfl (hR _ _) ?_
                     refine bw_iload rfl rfl ?_
                     refine bw_iload rfl rfl ?_
                     refine bw_aload rfl rfl ?_
                     refine bw_getr rfl rfl (hR _ _) ?_
                     refine bw_aload rfl rfl ?_
                     refine bw_callVi (e := d - 1) (as := []) rfl (by omega) rfl rfl (Nat.le_of_ble_eq_true rfl) (Nat.le_of_ble_eq_true rfl) rfl (c_readEnding hR hT hA (by omega)) (fun r153 M153 hM153 => ?_)
                     obtain ⟨rfl, qE, eqE, gE⟩ := hM153
                     have hW := hW.trans (gE.1.mono T_W)
                     have hR := gE.1.RF hR
                     have hT := gE.2.1
                     have hA := gE.2.2
                     have hS := SR_sm hS gE.1.1 (fun c c0 c1 => no_T (by omega))
                     have hL := CL_sm hL gE.1.1 (fun c c0 c1 => no_T4 c0)
                     obtain ⟨T, hTT⟩ : ∃ T, T = up (laT (nmF S a (S 1) (we a n p - p) p (we a n p - p)) v89 (S 1) (lsH t) (enW a n (lsP t)).2) 1 (S 1 + 1) := ⟨_, rfl⟩
                     have eH : laS S a n p = (.inr qE, T) := by
                       rw [laS_g (q := sk a n (we a n p)) (by rw [naS_y h28]) (by rw [naS_y h28]; exact hn), laN_g hsi, hon, laL_g hz]
                       unfold laE
                       rw [eqE, laT_1 w1.1, hTT]
                     obtain ⟨o, k1, x0, x1, x2, x3, x4⟩ := la_T (by omega) h28.1 (by omega) hTT
                     have hSW := sw_la hS.sw h1' o k1 (by rw [x0]; exact b89) (by rw [x1]; exact h28.1) (fun i i0 i1 => by rw [x1] at i1; rw [x2 i i0 i1]; exact wl.2.2.2 (p + i) (by omega) (by omega)) (fun f f0 f1 => by
                       by_cases q : f < S 0
                       · rw [x3 f f0 q]; exact rowV_in hV.2.1 h1 f0 enW_in
                       · rw [x4 f (by omega) f1, show 430 + 96 * S 1 + f = 430 + (96 * S 1 + f) by omega]; exact hS.sw.td (96 * S 1 + f) (by omega) (by omega))
                     have hy : ∀ i : Int, 0 ≤ i → i < we a n p - p → gI M153 2 (p + i) = a (p + i) := fun i i0 i1 => by
                       have x := wl.2.2.2 (p + i) (by omega) (by omega)
                       have z := hT.ok.1
                       rw [hT.by _ (by omega) (by omega)]
                       have y := sg_c (a (p + i))
                       omega
                     refine bw_callVNv (e := d - 1) (as := [_, _, _, _, _]) rfl (by omega) rfl rfl (Nat.le_of_ble_eq_true rfl) (Nat.le_of_ble_eq_true rfl) rfl (c_addLayer hR (by first | exact Or.inl rfl | exact Or.inr rfl) hS hSW h1' hL.cr h1 rfl hL.f5 h28.1 (by have := hT.ok.1; omega) hy enW_in o k1 x0 x1 x2 x3 (by omega)) (fun M156 hM156 => ?_)
                     refine bw_push rfl ?_
                     refine bw_retz rfl rfl (by omega) ?_
                     exact ⟨rfl, _, rfl, Or.inr ⟨qE, by rw [eH], rfl, ⟨hW.mono (fun c k => Or.inl k) |>.trans ((sq_of hM156.1 (fun k => by have := k.1; omega)).mono (fun c k => Or.inr k)), TP_s2 hT hM156.1 (fun k => by have := k.1; omega) (fun k => by have := k.1; omega), TA_sm hA hM156.1 (fun k => by have := k.1; omega)⟩, by rw [eH]; exact hM156.2⟩⟩)
                · first
                  | (exfalso; omega)
                  | (refine bw_push rfl ?_
                     refine bw_retz rfl rfl (by omega) ?_
                     exact ⟨rfl, _, rfl, Or.inl ⟨e, hz, rfl, hX⟩⟩)
      · skip
        refine bw_aload rfl rfl ?_
        refine bw_push rfl ?_
        refine bw_iload rfl rfl ?_
        refine bw_callVi (e := d - 1) (as := [_, _]) rfl (by omega) rfl rfl (Nat.le_of_ble_eq_true rfl) (Nat.le_of_ble_eq_true rfl) rfl (c_fail hR) (fun r64 M64 hM64 => ?_)
        obtain ⟨rfl, rfl⟩ := hM64
        refine bw_retz rfl rfl (by omega) ?_
        exact ⟨rfl, _, rfl, Or.inl ⟨_, by rw [laS_d (q := sk a n (we a n p)) (by rw [naS_y h28]) (by rw [naS_y h28]; show fnL S a (S 1) p (we a n p - p) ≠ -1; omega)], rfl, FA.tr (s := pW) (sm_refl pW M) (fa_of hT) (fun _ k => k) P_W⟩⟩
    · refine bw_ifne rfl (fun c => absurd c (by decide)) (fun _ => ?_)
      refine bw_aload rfl rfl ?_
      refine bw_push rfl ?_
      refine bw_iload rfl rfl ?_
      refine bw_callVi (e := d - 1) (as := [_, _]) rfl (by omega) rfl rfl (Nat.le_of_ble_eq_true rfl) (Nat.le_of_ble_eq_true rfl) rfl (c_fail hR) (fun r37 M37 hM37 => ?_)
      obtain ⟨rfl, rfl⟩ := hM37
      refine bw_retz rfl rfl (by omega) ?_
      exact ⟨rfl, _, rfl, Or.inl ⟨_, by rw [laS_f (by rw [naS_n h28])], rfl, FA.tr (s := pW) (sm_refl pW M) (fa_of hT) (fun _ k => k) P_W⟩⟩
