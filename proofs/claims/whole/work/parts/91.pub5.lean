/-- what best keeps -/
def bsI (M N1 N : abMem) (s : Nat) (l rd i b v c : Int) : Prop := CAM N s (gI M 568) (gI N1 18) (fun l => gI N1 (12 + l.toNat)) (gI N1 (s + 80 + l.toNat)) l c ∧ sc pCb N1 N ∧ gI N 203 4 = rd + i ∧ (∀ x : Int, 0 ≤ x → x < 3936 → gI N 218 x ≤ rd + i) ∧ bst (bsT M l) i b v
theorem bs_s {r : abRf} {M N1 N K : abMem} {k l rd i b v c c2 x : Int} {s : Nat} (h : INV r M k) (hl : 0 ≤ l ∧ l < gI M 568 1) (gA : sx pCm M N1) (hi : 0 ≤ i ∧ i < gI M 568 0) (g : bsI M N1 N s l rd i b v c) (hT : TKI N K s (gI M 568) (gI N1 18) (fun l => gI N1 (12 + l.toNat)) (gI N1 (s + 80 + l.toNat)) l (fun j => pcT (gI M 568) (gI N1 18) (fun l => gI N1 (12 + l.toNat)) l j (tkD (gI N (12 + l.toNat)) (gI M 568 0) i j)) (rd + i + 1) c (gI M 568 0) x c2) {b2 v2 : Int} (hb : (v ≤ x ∧ b2 = b ∧ v2 = v) ∨ (x < v ∧ b2 = i ∧ v2 = x)) : bsI M N1 K s l rd (i + 1) b2 v2 c2 := by
  obtain ⟨g1, g2, g3, g4, g5⟩ := g
  have la := h.la
  have e12 : gI N (12 + l.toNat) = gI M (12 + l.toNat) := (g2.at _ (fun z => by omega)).trans (gA.at _ (fun z => by omega))
  have hx : bsT M l i = x := by
    rw [hT.2.2.2.1]
    exact tk_pa h hl (gA.at 18 (fun z => by omega)) (fun i i0 i1 => gA.at _ (fun z => by omega)) (fun f f0 f1 q => by rw [tkD_tn h hl e12 hi ⟨f0, f1⟩])
  have xb := tk_in (M := wI M 569 (paF (gI M 569) l (gI M 568 0) (tnG (gI M 569) (gI M 568 0) l i))) (a := 582) (RB_pa h.rb (tn_in h.rb (by omega) (by omega)))
  have xb2 : bsT M l i ≤ 96 := xb.2
  refine ⟨hT.1, g2.trans hT.2.1, by rw [hT.2.2.1.1]; omega, fun y y0 y1 => ?_, ?_⟩
  · have := (hT.2.2.2.2.2.1 y y0 y1).1
    omega
  · rcases hb with ⟨q, q1, q2⟩ | ⟨q, q1, q2⟩
    · rw [q1, q2]; exact bst_skip g5 hi.1 (by omega) xb2
    · rw [q1, q2, ← hx]; exact bst_take g5 hi.1 (by omega)
set_option maxRecDepth 20000 in
set_option maxHeartbeats 4000000 in
theorem x_best {d L : Nat} {M : abMem} {r : abRf} (hR : RF r M) {s : Nat} (hs : s = 372 ∨ s = 459) (hc : cur r = s) {k : Int} (h : INV r M k) {l w : Int} (hk : k ≤ 900000) (hd : 6 ≤ d) : abW d (0, 0) 112 0 (abEnt (abL 112) [vr (some 0), vi l, vi w]) [] (0, 0) (A0 L) M (qI (A0 L) (fun x N => OKP r M N (k + 96) ∧ ((0 ≤ l ∧ l < gI M 568 1 ∧ 0 ≤ w ∧ w ≤ 1) ∧ (∃ b v : Int, bst (bsT M l) (gI M 568 0) b v ∧ (w = 0 ∧ x = b ∨ w = 1 ∧ x = v)) ∨ ¬ (0 ≤ l ∧ l < gI M 568 1 ∧ 0 ≤ w ∧ w ≤ 1) ∧ x = -1))) := by
  rcases hs with rfl | rfl
  · have hS : SR M 372 (gI M 568) := by have q := h.sr; rw [hc] at q; exact q
    have b1 := h.fr
    have b2 := h.la
    have hrf := hR
    have L47 : ∀ (kf : Nat) (N1 N : abMem) (b v i c : Int), (amD M r 372 l N1) → (bsI M N1 N 372 l (gI M 203 4) i b v c) → (0 ≤ i ∧ i ≤ gI M 568 0) → (0 ≤ l ∧ l < gI M 568 1 ∧ 0 ≤ w ∧ w ≤ 1) → ((gI M 568 0 - i).toNat) < kf → abW d (0, 0) 112 47 [some (vr (some 0)), some (vi l), some (vi w), some (vi b), some (vi v), some (vi i), none] [] (0, 0) (A0 L) (N) (qI (A0 L) (fun x N => OKP r M N (k + 96) ∧ ((0 ≤ l ∧ l < gI M 568 1 ∧ 0 ≤ w ∧ w ≤ 1) ∧ (∃ b v : Int, bst (bsT M l) (gI M 568 0) b v ∧ (w = 0 ∧ x = b ∨ w = 1 ∧ x = v)) ∨ ¬ (0 ≤ l ∧ l < gI M 568 1 ∧ 0 ≤ w ∧ w ≤ 1) ∧ x = -1))) := by
      intro kf
      induction kf with
      | zero => intro N1 N  b v i c  k1 k2 k3 k4 hm9; exact absurd hm9 (Nat.not_lt_zero _)
      | succ kf ih47 =>
        intro N1 N  b v i c  k1 k2 k3 k4 hm47
        have ih := ih47
        have hR := k2.2.1.RF k1.1
        have gA := am_sx k1
        have hc0 := h.cm.1
        have g1 := k2
        have e12 : gI N (12 + l.toNat) = gI M (12 + l.toNat) := (g1.2.1.at _ (fun z => by omega)).trans (gA.at _ (fun z => by omega))
        have hS := g1.1.sr
        have hc : cur (cmR r 372) = 372 := hc
        refine bw_iload rfl rfl ?_
        refine bw_aload rfl rfl ?_
        refine bw_getr rfl rfl (cur_r hR hc) ?_
        refine bw_getI rfl rfl ?_
        rw [show gI N 372 0 = gI M 568 0 from hS.c0]
        refine bw_icge rfl (fun c56 => ?_) (fun c56 => ?_)
        · skip
          refine bw_iload rfl rfl ?_
          refine bw_ifne rfl (fun c100 => ?_) (fun c100 => ?_)
          · skip
            refine bw_iload rfl rfl ?_
            refine bw_ret rfl rfl ?_
            obtain rfl : i = gI M 568 0 := by omega
            refine ⟨rfl, _, rfl, ⟨cmR r 372, rfl, INV_cm (r' := cmR r 372) h hR rfl (gA.trans (g1.2.1.sx.mono (fun a z => z))) ⟨⟨by rw [g1.2.2.1]; omega, by rw [g1.2.2.1]; omega⟩, fun y y0 y1 => by rw [g1.2.2.1]; exact g1.2.2.2.1 y y0 y1⟩⟩, Or.inl ⟨k4, b, v, k2.2.2.2.2, ?_⟩⟩
            first
            | exact Or.inl ⟨by omega, rfl⟩
            | exact Or.inr ⟨by omega, rfl⟩
          · skip
            refine bw_iload rfl rfl ?_
            refine bw_goto rfl ?_
            refine bw_ret rfl rfl ?_
            obtain rfl : i = gI M 568 0 := by omega
            refine ⟨rfl, _, rfl, ⟨cmR r 372, rfl, INV_cm (r' := cmR r 372) h hR rfl (gA.trans (g1.2.1.sx.mono (fun a z => z))) ⟨⟨by rw [g1.2.2.1]; omega, by rw [g1.2.2.1]; omega⟩, fun y y0 y1 => by rw [g1.2.2.1]; exact g1.2.2.2.1 y y0 y1⟩⟩, Or.inl ⟨k4, b, v, k2.2.2.2.2, ?_⟩⟩
            first
            | exact Or.inl ⟨by omega, rfl⟩
            | exact Or.inr ⟨by omega, rfl⟩
        · skip
          refine bw_aload rfl rfl ?_
          refine bw_getr rfl rfl (hR _ _) ?_
          refine bw_aload rfl rfl ?_
          refine bw_getr rfl rfl (hR _ _) ?_
          refine bw_getr rfl rfl (hR _ _) ?_
          refine bw_iload rfl rfl ?_
          refine bw_aldr rfl (by first | rfl | assumption) (by decide) (by omega) (by omega) ((hR _ _).trans (rr_row (fun _ => rfl) (by omega) (by omega) (by omega))) ?_
          refine bw_iload rfl rfl ?_
          refine bw_callVNi (e := d - 1) (as := [_, _]) rfl (by omega) rfl rfl (Nat.le_of_ble_eq_true rfl) (Nat.le_of_ble_eq_true rfl) rfl (c_countTakes hR (by first | exact Or.inl rfl | exact Or.inr rfl) rfl rfl g1.1 (kfa (L := L) (b := 12) (n := 6) (v := (20, 96)) (by decide) (by decide) ⟨by omega, by omega⟩) (by omega) (fun j j0 j1 => by rw [e12]; exact h.rv ⟨by omega, by omega⟩ ⟨j0, j1⟩) (by omega) g1.2.2.1 (by omega) g1.2.2.2.1 (by omega)) (fun r74 M74 hM74 => ?_)
          obtain ⟨c2, vT⟩ := hM74
          refine bw_istore (ls2 := [_, _, _, _, _, _, _]) rfl rfl (Nat.le_of_ble_eq_true rfl) rfl ?_
          refine bw_iload rfl rfl ?_
          refine bw_iload rfl rfl ?_
          refine bw_icge rfl (fun c83 => ?_) (fun c83 => ?_)
          · skip
            refine bw_iinc (ls2 := [_, _, _, _, _, _, _]) rfl rfl rfl ⟨by omega, by omega⟩ rfl ?_
            refine bw_goto rfl ?_
            refine bw_forget (ls2 := [some (vr (some 0)), some (vi l), some (vi w), some (vi _), some (vi _), some (vi _), none]) ⟨rfl, rfl, rfl, rfl, rfl, rfl, trivial⟩ ?_
            first
            | exact ih _ _ _ _ _ _ k1 (bs_s h (by omega) gA (by omega) k2 vT (Or.inl ⟨by omega, rfl, rfl⟩)) (by omega) k4 (by omega)
            | exact ih _ _ _ _ _ _ k1 (bs_s h (by omega) gA (by omega) k2 vT (Or.inr ⟨by omega, rfl, rfl⟩)) (by omega) k4 (by omega)
          · skip
            refine bw_iload rfl rfl ?_
            refine bw_istore (ls2 := [_, _, _, _, _, _, _]) rfl rfl (Nat.le_of_ble_eq_true rfl) rfl ?_
            refine bw_iload rfl rfl ?_
            refine bw_istore (ls2 := [_, _, _, _, _, _, _]) rfl rfl (Nat.le_of_ble_eq_true rfl) rfl ?_
            refine bw_iinc (ls2 := [_, _, _, _, _, _, _]) rfl rfl rfl ⟨by omega, by omega⟩ rfl ?_
            refine bw_goto rfl ?_
            refine bw_forget (ls2 := [some (vr (some 0)), some (vi l), some (vi w), some (vi _), some (vi _), some (vi _), none]) ⟨rfl, rfl, rfl, rfl, rfl, rfl, trivial⟩ ?_
            first
            | exact ih _ _ _ _ _ _ k1 (bs_s h (by omega) gA (by omega) k2 vT (Or.inl ⟨by omega, rfl, rfl⟩)) (by omega) k4 (by omega)
            | exact ih _ _ _ _ _ _ k1 (bs_s h (by omega) gA (by omega) k2 vT (Or.inr ⟨by omega, rfl, rfl⟩)) (by omega) k4 (by omega)
    show abW d (0, 0) 112 0 [some (vr (some 0)), some (vi l), some (vi w), none, none, none, none] [] (0, 0) (A0 L) M (qI (A0 L) (fun x N => OKP r M N (k + 96) ∧ ((0 ≤ l ∧ l < gI M 568 1 ∧ 0 ≤ w ∧ w ≤ 1) ∧ (∃ b v : Int, bst (bsT M l) (gI M 568 0) b v ∧ (w = 0 ∧ x = b ∨ w = 1 ∧ x = v)) ∨ ¬ (0 ≤ l ∧ l < gI M 568 1 ∧ 0 ≤ w ∧ w ≤ 1) ∧ x = -1)))
    refine bw_aload rfl rfl ?_
    refine bw_getr rfl rfl (cur_r hR hc) ?_
    refine bw_iload rfl rfl ?_
    refine bw_callVNj (e := d - 1) (as := [_]) rfl (by omega) rfl rfl (Nat.le_of_ble_eq_true rfl) (Nat.le_of_ble_eq_true rfl) rfl (c_hasLayer hR (by first | exact Or.inl rfl | exact Or.inr rfl) hS) (fun r5 hr5 => ?_)
    refine bw_ifeq rfl (fun c8 => ?_) (fun c8 => ?_)
    · skip
      refine bw_push rfl ?_
      refine bw_ret rfl rfl ?_
      exact ⟨rfl, _, rfl, OKP_refl h (by omega), Or.inr ⟨by omega, rfl⟩⟩
    · skip
      refine bw_iload rfl rfl ?_
      refine bw_iflt rfl (fun c12 => ?_) (fun c12 => ?_)
      · skip
        refine bw_push rfl ?_
        refine bw_ret rfl rfl ?_
        exact ⟨rfl, _, rfl, OKP_refl h (by omega), Or.inr ⟨by omega, rfl⟩⟩
      · skip
        refine bw_iload rfl rfl ?_
        refine bw_push rfl ?_
        refine bw_icle rfl (fun c17 => ?_) (fun c17 => ?_)
        · skip
          refine bw_aload rfl rfl ?_
          refine bw_getr rfl rfl (hR _ _) ?_
          refine bw_aload rfl rfl ?_
          refine bw_getr rfl rfl (cur_r hR hc) ?_
          refine bw_aload rfl rfl ?_
          refine bw_getr rfl rfl (hR _ _) ?_
          refine bw_iload rfl rfl ?_
          refine bw_callVNv (e := d - 1) (as := [_, _, _]) rfl (by omega) rfl rfl (Nat.le_of_ble_eq_true rfl) (Nat.le_of_ble_eq_true rfl) rfl (c_aim hR (by omega)) (fun M35 hM35 => ?_)
          have hR := hM35.1
          have gA := am_sx hM35
          have hS2 := SR_sx hS gA (fun a a0 a1 z => by omega)
          have hV2 := shV_e h.sv b2.2 (fun a ha => gA.at a (fun z => by omega))
          have hC0 := CAM_0 hS2 ⟨hM35.2.2.2.1, by omega, by omega⟩ hV2 (hM35.2.2.2.2 (by omega)).1 (hM35.2.2.2.2 (by omega)).2.1 (hM35.2.2.2.2 (by omega)).2.2
          have h4 : gI M35 203 4 = gI M 203 4 := hM35.2.2.1 4 (by decide)
          have hct : ∀ x : Int, 0 ≤ x → x < 3936 → gI M35 218 x ≤ gI M 203 4 := fun x x0 x1 => by rw [hM35.2.1.at 218 (by decide)]; exact h.cm.2 x x0 x1
          have hc0 := h.cm.1
          refine bw_push rfl ?_
          refine bw_istore (ls2 := [_, _, _, _, _, _, _]) rfl rfl (Nat.le_of_ble_eq_true rfl) rfl ?_
          refine bw_push rfl ?_
          refine bw_istore (ls2 := [_, _, _, _, _, _, _]) rfl rfl (Nat.le_of_ble_eq_true rfl) rfl ?_
          refine bw_push rfl ?_
          refine bw_istore (ls2 := [_, _, _, _, _, _, _]) rfl rfl (Nat.le_of_ble_eq_true rfl) rfl ?_
          exact L47 98 M35 M35 0 97 0 0 hM35 ⟨hC0, sc_refl _ _, by rw [h4, Int.add_zero], fun x x0 x1 => by rw [Int.add_zero]; exact hct x x0 x1, Or.inl ⟨rfl, rfl, rfl⟩⟩ (by omega) (by omega) (by omega)
        · skip
          refine bw_push rfl ?_
          refine bw_ret rfl rfl ?_
          exact ⟨rfl, _, rfl, OKP_refl h (by omega), Or.inr ⟨by omega, rfl⟩⟩
  · have hS : SR M 459 (gI M 568) := by have q := h.sr; rw [hc] at q; exact q
    have b1 := h.fr
    have b2 := h.la
    have hrf := hR
    have L47 : ∀ (kf : Nat) (N1 N : abMem) (b v i c : Int), (amD M r 459 l N1) → (bsI M N1 N 459 l (gI M 203 4) i b v c) → (0 ≤ i ∧ i ≤ gI M 568 0) → (0 ≤ l ∧ l < gI M 568 1 ∧ 0 ≤ w ∧ w ≤ 1) → ((gI M 568 0 - i).toNat) < kf → abW d (0, 0) 112 47 [some (vr (some 0)), some (vi l), some (vi w), some (vi b), some (vi v), some (vi i), none] [] (0, 0) (A0 L) (N) (qI (A0 L) (fun x N => OKP r M N (k + 96) ∧ ((0 ≤ l ∧ l < gI M 568 1 ∧ 0 ≤ w ∧ w ≤ 1) ∧ (∃ b v : Int, bst (bsT M l) (gI M 568 0) b v ∧ (w = 0 ∧ x = b ∨ w = 1 ∧ x = v)) ∨ ¬ (0 ≤ l ∧ l < gI M 568 1 ∧ 0 ≤ w ∧ w ≤ 1) ∧ x = -1))) := by
      intro kf
      induction kf with
      | zero => intro N1 N  b v i c  k1 k2 k3 k4 hm9; exact absurd hm9 (Nat.not_lt_zero _)
      | succ kf ih47 =>
        intro N1 N  b v i c  k1 k2 k3 k4 hm47
        have ih := ih47
        have hR := k2.2.1.RF k1.1
        have gA := am_sx k1
        have hc0 := h.cm.1
        have g1 := k2
        have e12 : gI N (12 + l.toNat) = gI M (12 + l.toNat) := (g1.2.1.at _ (fun z => by omega)).trans (gA.at _ (fun z => by omega))
        have hS := g1.1.sr
        have hc : cur (cmR r 459) = 459 := hc
        refine bw_iload rfl rfl ?_
        refine bw_aload rfl rfl ?_
        refine bw_getr rfl rfl (cur_r hR hc) ?_
        refine bw_getI rfl rfl ?_
        rw [show gI N 459 0 = gI M 568 0 from hS.c0]
        refine bw_icge rfl (fun c56 => ?_) (fun c56 => ?_)
        · skip
          refine bw_iload rfl rfl ?_
          refine bw_ifne rfl (fun c100 => ?_) (fun c100 => ?_)
          · skip
            refine bw_iload rfl rfl ?_
            refine bw_ret rfl rfl ?_
            obtain rfl : i = gI M 568 0 := by omega
            refine ⟨rfl, _, rfl, ⟨cmR r 459, rfl, INV_cm (r' := cmR r 459) h hR rfl (gA.trans (g1.2.1.sx.mono (fun a z => z))) ⟨⟨by rw [g1.2.2.1]; omega, by rw [g1.2.2.1]; omega⟩, fun y y0 y1 => by rw [g1.2.2.1]; exact g1.2.2.2.1 y y0 y1⟩⟩, Or.inl ⟨k4, b, v, k2.2.2.2.2, ?_⟩⟩
            first
            | exact Or.inl ⟨by omega, rfl⟩
            | exact Or.inr ⟨by omega, rfl⟩
          · skip
            refine bw_iload rfl rfl ?_
            refine bw_goto rfl ?_
            refine bw_ret rfl rfl ?_
            obtain rfl : i = gI M 568 0 := by omega
            refine ⟨rfl, _, rfl, ⟨cmR r 459, rfl, INV_cm (r' := cmR r 459) h hR rfl (gA.trans (g1.2.1.sx.mono (fun a z => z))) ⟨⟨by rw [g1.2.2.1]; omega, by rw [g1.2.2.1]; omega⟩, fun y y0 y1 => by rw [g1.2.2.1]; exact g1.2.2.2.1 y y0 y1⟩⟩, Or.inl ⟨k4, b, v, k2.2.2.2.2, ?_⟩⟩
            first
            | exact Or.inl ⟨by omega, rfl⟩
            | exact Or.inr ⟨by omega, rfl⟩
        · skip
          refine bw_aload rfl rfl ?_
          refine bw_getr rfl rfl (hR _ _) ?_
          refine bw_aload rfl rfl ?_
          refine bw_getr rfl rfl (hR _ _) ?_
          refine bw_getr rfl rfl (hR _ _) ?_
          refine bw_iload rfl rfl ?_
          refine bw_aldr rfl (by first | rfl | assumption) (by decide) (by omega) (by omega) ((hR _ _).trans (rr_row (fun _ => rfl) (by omega) (by omega) (by omega))) ?_
          refine bw_iload rfl rfl ?_
          refine bw_callVNi (e := d - 1) (as := [_, _]) rfl (by omega) rfl rfl (Nat.le_of_ble_eq_true rfl) (Nat.le_of_ble_eq_true rfl) rfl (c_countTakes hR (by first | exact Or.inl rfl | exact Or.inr rfl) rfl rfl g1.1 (kfa (L := L) (b := 12) (n := 6) (v := (20, 96)) (by decide) (by decide) ⟨by omega, by omega⟩) (by omega) (fun j j0 j1 => by rw [e12]; exact h.rv ⟨by omega, by omega⟩ ⟨j0, j1⟩) (by omega) g1.2.2.1 (by omega) g1.2.2.2.1 (by omega)) (fun r74 M74 hM74 => ?_)
          obtain ⟨c2, vT⟩ := hM74
          refine bw_istore (ls2 := [_, _, _, _, _, _, _]) rfl rfl (Nat.le_of_ble_eq_true rfl) rfl ?_
          refine bw_iload rfl rfl ?_
          refine bw_iload rfl rfl ?_
          refine bw_icge rfl (fun c83 => ?_) (fun c83 => ?_)
          · skip
            refine bw_iinc (ls2 := [_, _, _, _, _, _, _]) rfl rfl rfl ⟨by omega, by omega⟩ rfl ?_
            refine bw_goto rfl ?_
            refine bw_forget (ls2 := [some (vr (some 0)), some (vi l), some (vi w), some (vi _), some (vi _), some (vi _), none]) ⟨rfl, rfl, rfl, rfl, rfl, rfl, trivial⟩ ?_
            first
            | exact ih _ _ _ _ _ _ k1 (bs_s h (by omega) gA (by omega) k2 vT (Or.inl ⟨by omega, rfl, rfl⟩)) (by omega) k4 (by omega)
            | exact ih _ _ _ _ _ _ k1 (bs_s h (by omega) gA (by omega) k2 vT (Or.inr ⟨by omega, rfl, rfl⟩)) (by omega) k4 (by omega)
          · skip
            refine bw_iload rfl rfl ?_
            refine bw_istore (ls2 := [_, _, _, _, _, _, _]) rfl rfl (Nat.le_of_ble_eq_true rfl) rfl ?_
            refine bw_iload rfl rfl ?_
            refine bw_istore (ls2 := [_, _, _, _, _, _, _]) rfl rfl (Nat.le_of_ble_eq_true rfl) rfl ?_
            refine bw_iinc (ls2 := [_, _, _, _, _, _, _]) rfl rfl rfl ⟨by omega, by omega⟩ rfl ?_
            refine bw_goto rfl ?_
            refine bw_forget (ls2 := [some (vr (some 0)), some (vi l), some (vi w), some (vi _), some (vi _), some (vi _), none]) ⟨rfl, rfl, rfl, rfl, rfl, rfl, trivial⟩ ?_
            first
            | exact ih _ _ _ _ _ _ k1 (bs_s h (by omega) gA (by omega) k2 vT (Or.inl ⟨by omega, rfl, rfl⟩)) (by omega) k4 (by omega)
            | exact ih _ _ _ _ _ _ k1 (bs_s h (by omega) gA (by omega) k2 vT (Or.inr ⟨by omega, rfl, rfl⟩)) (by omega) k4 (by omega)
    show abW d (0, 0) 112 0 [some (vr (some 0)), some (vi l), some (vi w), none, none, none, none] [] (0, 0) (A0 L) M (qI (A0 L) (fun x N => OKP r M N (k + 96) ∧ ((0 ≤ l ∧ l < gI M 568 1 ∧ 0 ≤ w ∧ w ≤ 1) ∧ (∃ b v : Int, bst (bsT M l) (gI M 568 0) b v ∧ (w = 0 ∧ x = b ∨ w = 1 ∧ x = v)) ∨ ¬ (0 ≤ l ∧ l < gI M 568 1 ∧ 0 ≤ w ∧ w ≤ 1) ∧ x = -1)))
    refine bw_aload rfl rfl ?_
    refine bw_getr rfl rfl (cur_r hR hc) ?_
    refine bw_iload rfl rfl ?_
    refine bw_callVNj (e := d - 1) (as := [_]) rfl (by omega) rfl rfl (Nat.le_of_ble_eq_true rfl) (Nat.le_of_ble_eq_true rfl) rfl (c_hasLayer hR (by first | exact Or.inl rfl | exact Or.inr rfl) hS) (fun r5 hr5 => ?_)
    refine bw_ifeq rfl (fun c8 => ?_) (fun c8 => ?_)
    · skip
      refine bw_push rfl ?_
      refine bw_ret rfl rfl ?_
      exact ⟨rfl, _, rfl, OKP_refl h (by omega), Or.inr ⟨by omega, rfl⟩⟩
    · skip
      refine bw_iload rfl rfl ?_
      refine bw_iflt rfl (fun c12 => ?_) (fun c12 => ?_)
      · skip
        refine bw_push rfl ?_
        refine bw_ret rfl rfl ?_
        exact ⟨rfl, _, rfl, OKP_refl h (by omega), Or.inr ⟨by omega, rfl⟩⟩
      · skip
        refine bw_iload rfl rfl ?_
        refine bw_push rfl ?_
        refine bw_icle rfl (fun c17 => ?_) (fun c17 => ?_)
        · skip
          refine bw_aload rfl rfl ?_
          refine bw_getr rfl rfl (hR _ _) ?_
          refine bw_aload rfl rfl ?_
          refine bw_getr rfl rfl (cur_r hR hc) ?_
          refine bw_aload rfl rfl ?_
          refine bw_getr rfl rfl (hR _ _) ?_
          refine bw_iload rfl rfl ?_
          refine bw_callVNv (e := d - 1) (as := [_, _, _]) rfl (by omega) rfl rfl (Nat.le_of_ble_eq_true rfl) (Nat.le_of_ble_eq_true rfl) rfl (c_aim hR (by omega)) (fun M35 hM35 => ?_)
          have hR := hM35.1
          have gA := am_sx hM35
          have hS2 := SR_sx hS gA (fun a a0 a1 z => by omega)
          have hV2 := shV_e h.sv b2.2 (fun a ha => gA.at a (fun z => by omega))
          have hC0 := CAM_0 hS2 ⟨hM35.2.2.2.1, by omega, by omega⟩ hV2 (hM35.2.2.2.2 (by omega)).1 (hM35.2.2.2.2 (by omega)).2.1 (hM35.2.2.2.2 (by omega)).2.2
          have h4 : gI M35 203 4 = gI M 203 4 := hM35.2.2.1 4 (by decide)
          have hct : ∀ x : Int, 0 ≤ x → x < 3936 → gI M35 218 x ≤ gI M 203 4 := fun x x0 x1 => by rw [hM35.2.1.at 218 (by decide)]; exact h.cm.2 x x0 x1
          have hc0 := h.cm.1
          refine bw_push rfl ?_
          refine bw_istore (ls2 := [_, _, _, _, _, _, _]) rfl rfl (Nat.le_of_ble_eq_true rfl) rfl ?_
          refine bw_push rfl ?_
          refine bw_istore (ls2 := [_, _, _, _, _, _, _]) rfl rfl (Nat.le_of_ble_eq_true rfl) rfl ?_
          refine bw_push rfl ?_
          refine bw_istore (ls2 := [_, _, _, _, _, _, _]) rfl rfl (Nat.le_of_ble_eq_true rfl) rfl ?_
          exact L47 98 M35 M35 0 97 0 0 hM35 ⟨hC0, sc_refl _ _, by rw [h4, Int.add_zero], fun x x0 x1 => by rw [Int.add_zero]; exact hct x x0 x1, Or.inl ⟨rfl, rfl, rfl⟩⟩ (by omega) (by omega) (by omega)
        · skip
          refine bw_push rfl ?_
          refine bw_ret rfl rfl ?_
          exact ⟨rfl, _, rfl, OKP_refl h (by omega), Or.inr ⟨by omega, rfl⟩⟩
theorem CAM_sp {M N : abMem} {s : Nat} {S st : Int → Int} {R0 : Int → Int → Int} {FB : Int → Int} {t c : Int} {p : Nat → Prop} (h : CAM M s S st R0 FB t c) (hs : s = 372 ∨ s = 459) (g : sc p M N) (hp : ∀ a, p a → a = 0 ∨ (546 ≤ a ∧ a ≤ 548)) : CAM N s S st R0 FB t c := by
  have n : ∀ a, a ≠ 0 → ¬ (546 ≤ a ∧ a ≤ 548) → ¬ p a := fun a a1 a2 k => by have := hp a k; omega
  have hs9 : s < 460 ∧ 372 ≤ s := by omega
  have t9 := h.tr
  have l9 := h.sr.sw.la
  refine ⟨SR_sc h.sr g (fun a a1 a2 => n a (by omega) (by omega)), ⟨by rw [g.at 203 (n _ (by decide) (by decide))]; exact h.tr.1, h.tr.2⟩, ⟨by rw [g.at 18 (n 18 (by decide) (by decide))]; exact h.sk, fun l l0 l1 => by rw [g.at _ (n (12 + l.toNat) (by omega) (by omega))]; exact h.rw l l0 l1, by rw [g.at _ (n (s + 80 + t.toNat) (by omega) (by omega))]; exact h.fb⟩, ⟨fun q q0 q1 => by rw [g.at 18 (n 18 (by decide) (by decide))]; exact h.sv.1 q q0 q1, fun l f l0 l1 f0 f1 => by rw [g.at _ (n (12 + l.toNat) (by omega) (by omega))]; exact h.sv.2 l f l0 l1 f0 f1⟩, ALB_sc h.al g (n _ (by decide) (by decide)) (n _ (by decide) (by decide)) (n _ (by decide) (by decide)) (fun a a1 a2 => n a (by omega) (by omega)), fun f dr f0 f1 d0 d1 => ?_, ?_⟩
  · rw [g.at 217 (n _ (by decide) (by decide))]
    rcases h.kn f dr f0 f1 d0 d1 with q | ⟨q, q2⟩
    · exact Or.inl q
    · exact Or.inr ⟨q, PAP_g q2 (fun y y0 y1 => congrFun (g.atL (208 + y.toNat) (n _ (by omega) (by omega))) _)⟩
  · rw [g.at 217 (n _ (by decide) (by decide))]; exact h.ct
theorem FL_ex {E : Int → Int → Prop} (hr : ∀ j, E j j) {f : Int} (hf : 0 ≤ f) : ∃ x : Int, isFL E f x := by
  have H : ∀ n : Nat, (∀ j : Int, 0 ≤ j → j < n → ¬ E j f) ∨ ∃ x : Int, 0 ≤ x ∧ x < n ∧ E x f ∧ ∀ j : Int, 0 ≤ j → j < x → ¬ E j f := by
    intro n
    induction n with
    | zero => exact Or.inl (fun j j0 j1 => by omega)
    | succ n ih =>
      rcases ih with ih | ⟨x, x0, x1, x2, x3⟩
      · by_cases q : E n f
        · exact Or.inr ⟨n, by omega, by omega, q, fun j j0 j1 => ih j j0 j1⟩
        · refine Or.inl (fun j j0 j1 => ?_)
          by_cases z : j = n
          · rw [z]; exact q
          · exact ih j j0 (by omega)
      · exact Or.inr ⟨x, x0, by omega, x2, x3⟩
  rcases H (f.toNat + 1) with h | ⟨x, x0, x1, x2, x3⟩
  · exact absurd (hr f) (h f hf (by omega))
  · exact ⟨x, x0, by omega, x2, x3⟩
/-- the frames' own pictures -/
theorem pcI_now {r : abRf} {M : abMem} {k : Int} (h : INV r M k) {P : Int → Int → Int} {st : Int → Int} {R0 : Int → Int → Int} {D : Int → Int} (hl : 0 < gI M 568 1) (e18 : st = gI M 18) (eR : ∀ i : Int, 0 ≤ i → i < gI M 568 1 → R0 i = gI M (12 + i.toNat)) {f : Int} (hf : 0 ≤ f ∧ f < gI M 568 0) (hD : D f = gI M 12 f) (q : Int) (hP : P f q = pcT (gI M 568) st R0 0 f (D f) q) : (pcI M 0 f q).1 = P f q := by
  rw [hP]
  unfold pcT
  rw [e18]
  refine congrArg Prod.fst (cB_inv (N := M) (t := 0) (dr := 0) h rfl (fun _ _ _ => rfl) hf (R := tR R0 0 (D f)) (fun l l0 l1 => ?_) q).symm
  unfold tR
  by_cases z : l = 0
  · rw [if_pos z, hD, z]; exact h.row ⟨by decide, hl⟩ hf
  · rw [if_neg z, eR l l0 l1]; exact h.row ⟨l0, l1⟩ hf
theorem pic_ok {r : abRf} {M N K : abMem} {k c x : Int} {P : Int → Int → Int} (h : INV r M k) (key : ∀ f : Int, 0 ≤ f → f < gI M 568 0 → ∀ q : Int, (pcI M 0 f q).1 = P f q) (hA : ALB K c) (hx : x = cN (pB (nwE (plE8 P))) (gI M 568 0).toNat) (hcx : c = x) (hn : ∀ j : Int, 0 ≤ j → j < gI M 568 0 → nwE (plE8 P) j → PAP (apF K (cN (pB (nwE (plE8 P))) j.toNat)) (P j)) (hp : ∀ f : Int, 0 ≤ f → f < gI M 568 0 → (0 ≤ gI K 548 f ∧ gI K 548 f < c) ∧ PAP (apF K (gI K 548 f)) (P f)) : x = tk M 0 ∧ ∀ f : Int, 0 ≤ f → f < gI M 568 0 → ∃ y : Int, isFL (alk M 0) f y ∧ gI K 548 f = cN (pB (nwE (alk M 0))) y.toNat := by
  have ek : ∀ i j : Int, 0 ≤ i → i < gI M 568 0 → 0 ≤ j → j < gI M 568 0 → (plE8 P i j ↔ alk M 0 i j) := fun i j i0 i1 j0 j1 => ⟨fun z q q0 q1 => by rw [key i i0 i1 q, key j j0 j1 q]; exact z q q0 q1, fun z q q0 q1 => by rw [← key i i0 i1 q, ← key j j0 j1 q]; exact z q q0 q1⟩
  refine ⟨by rw [hx]; exact tk_cg (Int.le_refl _) ek, fun f f0 f1 => ?_⟩
  obtain ⟨y, hy⟩ := FL_ex (E := alk M 0) (alk_refl M 0) f0
  refine ⟨y, hy, ?_⟩
  have y1 := hy.2.1
  have ny : nwE (plE8 P) y := fun j j0 j1 z => hy.2.2.2 j j0 j1 (alk_trans ((ek j y j0 (by omega) hy.1 (by omega)).mp z) hy.2.2.1)
  have b := cN_in (pB (nwE (plE8 P))) y.toNat
  have b2 : cN (pB (nwE (plE8 P))) y.toNat < c := by
    have a1 := cN_mn (pB (nwE (plE8 P))) (a := y + 1) (b := gI M 568 0) (by have := hy.1; omega) (by omega)
    have a2 := cN_t (f := pB (nwE (plE8 P))) hy.1 rfl (pB_t ny)
    omega
  have e := ap_uni hA (hp f f0 f1).1 ⟨b.1, b2⟩ (hp f f0 f1).2 (hn y hy.1 (by omega) ny) ((ek f y f0 f1 hy.1 (by omega)).mpr (alk_symm hy.2.2.1))
  rw [e]
  exact tk_cg (n := gI M 568 0) (by omega) ek
theorem pic_eq {M : abMem} (h : picO M) {e f : Int} (he : 0 ≤ e ∧ e < gI M 568 0) (hf : 0 ≤ f ∧ f < gI M 568 0) : gI M 548 e = gI M 548 f ↔ alk M 0 e f := by
  obtain ⟨x, hx, ex⟩ := h.2 e he.1 he.2
  obtain ⟨y, hy, ey⟩ := h.2 f hf.1 hf.2
  have nx : nwE (alk M 0) x := fun j j0 j1 z => hx.2.2.2 j j0 j1 (alk_trans z hx.2.2.1)
  have ny : nwE (alk M 0) y := fun j j0 j1 z => hy.2.2.2 j j0 j1 (alk_trans z hy.2.2.1)
  have lt : ∀ u v : Int, 0 ≤ u → u < v → nwE (alk M 0) u → cN (pB (nwE (alk M 0))) u.toNat < cN (pB (nwE (alk M 0))) v.toNat := fun u v u0 uv nu => by
    have a1 := cN_mn (pB (nwE (alk M 0))) (a := u + 1) (b := v) (by omega) (by omega)
    have a2 := cN_t (f := pB (nwE (alk M 0))) u0 rfl (pB_t nu)
    omega
  rw [ex, ey]
  constructor
  · intro z
    have xy : x = y := by
      by_cases q : x < y
      · have := lt x y hx.1 q nx; omega
      · by_cases q2 : y < x
        · have := lt y x hy.1 q2 ny; omega
        · omega
    rw [xy] at hx
    exact alk_trans (alk_symm hx.2.2.1) hy.2.2.1
  · intro z
    have xy : x = y := isFL_eq hx (by
      refine ⟨hy.1, ?_, alk_trans hy.2.2.1 (alk_symm z), fun j j0 j1 w => hy.2.2.2 j j0 j1 (alk_trans w z)⟩
      by_cases q : y ≤ e
      · exact q
      · exact absurd z (hy.2.2.2 e he.1 (by omega)))
    rw [xy]
theorem pic_nw {M : abMem} (h : picO M) {f : Int} (hf : 0 ≤ f ∧ f < gI M 568 0) : 0 ≤ gI M 548 f ∧ (nwE (alk M 0) f → gI M 548 f = cN (pB (nwE (alk M 0))) f.toNat) := by
  obtain ⟨x, hx, ex⟩ := h.2 f hf.1 hf.2
  rw [ex]
  refine ⟨(cN_in _ _).1, fun n => ?_⟩
  rw [(isFL_new hx).mpr n]
