set_option maxRecDepth 20000 in
set_option maxHeartbeats 4000000 in
theorem m_same {d L : Nat} {M : abMem} {r : abRf} (hR : RF r M) (hB : RB M) (hS : ∀ p : Int, 0 ≤ p → p < gI M 568 1 → 0 ≤ gI M 569 (0 + 576 + p) ∧ gI M 569 (0 + 576 + p) ≤ 5) {f e : Int} (hd : 3 ≤ d) : abW d (0, 0) 238 0 (abEnt (abL 238) [vr (some 567), vi f, vi e]) [] (0, 0) (A0 L) M (qI (A0 L) (fun x N => sm p58 M N ∧ (((0 ≤ f ∧ f < gI M 568 0) ∧ (0 ≤ e ∧ e < gI M 568 0)) ∧ (alk M 0 f e ∧ x = 1 ∨ ¬ alk M 0 f e ∧ x = 0) ∨ ¬ ((0 ≤ f ∧ f < gI M 568 0) ∧ (0 ≤ e ∧ e < gI M 568 0)) ∧ x = -1))) := by
  have b1 := hB.fr
  have b2 := hB.la
  show abW d (0, 0) 238 0 [some (vr (some 567)), some (vi f), some (vi e)] [] (0, 0) (A0 L) M (qI (A0 L) (fun x N => sm p58 M N ∧ (((0 ≤ f ∧ f < gI M 568 0) ∧ (0 ≤ e ∧ e < gI M 568 0)) ∧ (alk M 0 f e ∧ x = 1 ∨ ¬ alk M 0 f e ∧ x = 0) ∨ ¬ ((0 ≤ f ∧ f < gI M 568 0) ∧ (0 ≤ e ∧ e < gI M 568 0)) ∧ x = -1)))
  refine bw_aload rfl rfl ?_
  refine bw_iload rfl rfl ?_
  refine bw_callVj (e := d - 1) (as := [_]) rfl (by omega) rfl rfl (Nat.le_of_ble_eq_true rfl) (Nat.le_of_ble_eq_true rfl) rfl (m_isFrame hR hB (by omega)) (fun r2 hr2 => ?_)
  try simp only [e568, e569, eR]
  refine bw_ifeq rfl (fun c5 => ?_) (fun c5 => ?_)
  · skip
    refine bw_push rfl ?_
    refine bw_ret rfl rfl ?_
    exact ⟨rfl, _, rfl, sm_refl _ _, Or.inr ⟨by omega, rfl⟩⟩
  · skip
    refine bw_aload rfl rfl ?_
    refine bw_iload rfl rfl ?_
    refine bw_callVj (e := d - 1) (as := [_]) rfl (by omega) rfl rfl (Nat.le_of_ble_eq_true rfl) (Nat.le_of_ble_eq_true rfl) rfl (m_isFrame hR hB (by omega)) (fun r10 hr10 => ?_)
    try simp only [e568, e569, eR]
    refine bw_ifne rfl (fun c13 => ?_) (fun c13 => ?_)
    · skip
      refine bw_aload rfl rfl ?_
      refine bw_push rfl ?_
      refine bw_iload rfl rfl ?_
      refine bw_callVv (e := d - 1) (as := [_, _]) rfl (by omega) rfl rfl (Nat.le_of_ble_eq_true rfl) (Nat.le_of_ble_eq_true rfl) rfl (m_composes hR hB (by omega) hS (by omega) (by omega)) (fun M21 hM21 => ?_)
      obtain ⟨u21, v21⟩ := hM21
      have hRo := hR
      have hBo := hB
      have hR := u21.RF hR
      have hB := u21.RB (p58_no (by decide) (by decide)) (p58_no (by decide) (by decide)) hB
      have e568 := u21.at 568 (p58_no (by decide) (by decide))
      have e569 := u21.at 569 (p58_no (by decide) (by decide))
      have eR : ∀ i l : Int, mR M21 i l = mR M i l := u21.mR (p58_no (by decide) (by decide))
      refine bw_aload rfl rfl ?_
      refine bw_push rfl ?_
      refine bw_iload rfl rfl ?_
      refine bw_callVv (e := d - 1) (as := [_, _]) rfl (by omega) rfl rfl (Nat.le_of_ble_eq_true rfl) (Nat.le_of_ble_eq_true rfl) rfl (m_composes hR hB (by omega) (by rw [e568, e569]; exact hS) (by omega) (by omega)) (fun M27 hM27 => ?_)
      obtain ⟨u27, v27⟩ := hM27
      have hR := u27.RF hR
      have q1 : ∀ k : Int, 0 ≤ k → k < 96 → gI M27 580 (96 * e + k) = (pcI M 0 e k).1 := fun k h1 h2 => by rw [(v27.1 k h1 h2).1, pcI_sm u21 (p58_no (by decide) (by decide)) (p58_no (by decide) (by decide))]
      have q2 : ∀ k : Int, 0 ≤ k → k < 96 → gI M27 580 (96 * f + k) = (pcI M 0 f k).1 := fun k h1 h2 => by
        by_cases q : e = f
        · rw [← q]; exact q1 k h1 h2
        · rw [(v27.2 (96 * f + k) (by omega)).1]; exact (v21.1 k h1 h2).1
      have q3 : alN M27 f e ↔ alk M 0 f e := ⟨fun h k h1 h2 => by rw [← q2 k h1 h2, ← q1 k h1 h2]; exact h k h1 h2, fun h k h1 h2 => by rw [q2 k h1 h2, q1 k h1 h2]; exact h k h1 h2⟩
      refine bw_aload rfl rfl ?_
      refine bw_iload rfl rfl ?_
      refine bw_iload rfl rfl ?_
      refine bw_callVj (e := d - 1) (as := [_, _]) rfl (by omega) rfl rfl (Nat.le_of_ble_eq_true rfl) (Nat.le_of_ble_eq_true rfl) rfl (m_areAlike hR (by omega) (by omega)) (fun r33 hr33 => ?_)
      rw [q3] at hr33
      refine bw_ifeq rfl (fun c36 => ?_) (fun c36 => ?_)
      · skip
        refine bw_push rfl ?_
        refine bw_ret rfl rfl ?_
        refine ⟨rfl, _, rfl, u21.trans u27, Or.inl ⟨by omega, ?_⟩⟩
        rcases hr33 with q | q
        · first
          | exact Or.inl ⟨q.1, rfl⟩
          | (exfalso; omega)
        · first
          | exact Or.inr ⟨q.1, rfl⟩
          | (exfalso; omega)
      · skip
        refine bw_push rfl ?_
        refine bw_goto rfl ?_
        refine bw_ret rfl rfl ?_
        refine ⟨rfl, _, rfl, u21.trans u27, Or.inl ⟨by omega, ?_⟩⟩
        rcases hr33 with q | q
        · first
          | exact Or.inl ⟨q.1, rfl⟩
          | (exfalso; omega)
        · first
          | exact Or.inr ⟨q.1, rfl⟩
          | (exfalso; omega)
    · skip
      refine bw_push rfl ?_
      refine bw_ret rfl rfl ?_
      exact ⟨rfl, _, rfl, sm_refl _ _, Or.inr ⟨by omega, rfl⟩⟩
set_option maxRecDepth 20000 in
set_option maxHeartbeats 4000000 in
theorem m_takesIn {d L : Nat} {M : abMem} {r : abRf} (hR : RF r M) (hB : RB M) {a : Int} (ha : 0 ≤ a ∧ a ≤ 12000) (hS : ∀ p : Int, 0 ≤ p → p < gI M 568 1 → 0 ≤ gI M 569 (a + 576 + p) ∧ gI M 569 (a + 576 + p) ≤ 5) (hd : 4 ≤ d) : abW d (0, 0) 241 0 (abEnt (abL 241) [vr (some 567), vi a]) [] (0, 0) (A0 L) M (qI (A0 L) (fun x N => sm p58 M N ∧ x = tk M a)) := by
  have b1 := hB.fr
  have b2 := hB.la
  have L9 : ∀ (kf : Nat) (N : abMem) (c f : Int), (sm p58 M N) → (cAll M N a (gI M 568 0)) → (c = cN (pB (nwE (alk M a))) f.toNat) → (0 ≤ f ∧ f ≤ gI M 568 0) → ((gI M 568 0 - f).toNat) < kf → abW d (0, 0) 241 9 [some (vr (some 567)), some (vi a), some (vi c), some (vi f)] [] (0, 0) (A0 L) (N) (qI (A0 L) (fun x N => sm p58 M N ∧ x = tk M a)) := by
    intro kf
    induction kf with
    | zero => intro N  c f  g1 g2 g3 g4 hm9; exact absurd hm9 (Nat.not_lt_zero _)
    | succ kf ih9 =>
      intro N  c f  g1 g2 g3 g4 hm9
      have ih := ih9
      have hR := g1.RF hR
      have hB := g1.RB (p58_no (by decide) (by decide)) (p58_no (by decide) (by decide)) hB
      have e568 := g1.at 568 (p58_no (by decide) (by decide))
      have e569 := g1.at 569 (p58_no (by decide) (by decide))
      have eR : ∀ i l : Int, mR N i l = mR M i l := g1.mR (p58_no (by decide) (by decide))
      have b9 := cN_in (pB (nwE (alk M a))) f.toNat
      refine bw_iload rfl rfl ?_
      refine bw_aload rfl rfl ?_
      refine bw_callVe (e := d - 1) (as := []) rfl (by omega) rfl rfl (Nat.le_of_ble_eq_true rfl) (Nat.le_of_ble_eq_true rfl) rfl (m_frames hR) ?_
      try simp only [e568, e569, eR]
      refine bw_icge rfl (fun c14 => ?_) (fun c14 => ?_)
      · skip
        refine bw_iload rfl rfl ?_
        refine bw_ret rfl rfl ?_
        obtain rfl : f = gI M 568 0 := by omega
        exact ⟨rfl, _, rfl, g1, g3⟩
      · skip
        refine bw_iload rfl rfl ?_
        refine bw_aload rfl rfl ?_
        refine bw_iload rfl rfl ?_
        refine bw_callVj (e := d - 1) (as := [_]) rfl (by omega) rfl rfl (Nat.le_of_ble_eq_true rfl) (Nat.le_of_ble_eq_true rfl) rfl (m_firstLike hR (by omega) (by omega)) (fun r20 hr20 => ?_)
        try simp only [e568, e569, eR]
        refine bw_iload rfl rfl ?_
        refine bw_icne rfl (fun c24 => ?_) (fun c24 => ?_)
        · skip
          refine bw_push rfl ?_
          refine bw_iadd rfl ⟨by omega, by omega⟩ ?_
          refine bw_istore (ls2 := [_, _, _, _]) rfl rfl (Nat.le_of_ble_eq_true rfl) rfl ?_
          refine bw_iinc (ls2 := [_, _, _, _]) rfl rfl rfl ⟨by omega, by omega⟩ rfl ?_
          refine bw_goto rfl ?_
          have hF := isFL_new (isFL_congr hr20 (n := gI M 568 0) (by omega) (fun j h1 h2 => alN_alk g2 ⟨h1, h2⟩ ⟨by omega, by omega⟩))
          first
          | exact ih _ _ _ g1 g2 (cN_t (by omega) g3 (pB_t (hF.mp (by omega)))) (by omega) (by omega)
          | (rw [Int.add_zero]; exact ih _ _ _ g1 g2 (cN_f (by omega) g3 (pB_f (fun h => absurd (hF.mpr h) (by omega)))) (by omega) (by omega))
        · skip
          refine bw_push rfl ?_
          refine bw_goto rfl ?_
          refine bw_iadd rfl ⟨by omega, by omega⟩ ?_
          refine bw_istore (ls2 := [_, _, _, _]) rfl rfl (Nat.le_of_ble_eq_true rfl) rfl ?_
          refine bw_iinc (ls2 := [_, _, _, _]) rfl rfl rfl ⟨by omega, by omega⟩ rfl ?_
          refine bw_goto rfl ?_
          have hF := isFL_new (isFL_congr hr20 (n := gI M 568 0) (by omega) (fun j h1 h2 => alN_alk g2 ⟨h1, h2⟩ ⟨by omega, by omega⟩))
          first
          | exact ih _ _ _ g1 g2 (cN_t (by omega) g3 (pB_t (hF.mp (by omega)))) (by omega) (by omega)
          | (rw [Int.add_zero]; exact ih _ _ _ g1 g2 (cN_f (by omega) g3 (pB_f (fun h => absurd (hF.mpr h) (by omega)))) (by omega) (by omega))
  show abW d (0, 0) 241 0 [some (vr (some 567)), some (vi a), none, none] [] (0, 0) (A0 L) M (qI (A0 L) (fun x N => sm p58 M N ∧ x = tk M a))
  refine bw_aload rfl rfl ?_
  refine bw_iload rfl rfl ?_
  refine bw_callVv (e := d - 1) (as := [_]) rfl (by omega) rfl rfl (Nat.le_of_ble_eq_true rfl) (Nat.le_of_ble_eq_true rfl) rfl (m_composesAll hR hB (by omega) hS (by omega)) (fun M2 hM2 => ?_)
  obtain ⟨u2, v2⟩ := hM2
  have hR := u2.RF hR
  have hB := u2.RB (p58_no (by decide) (by decide)) (p58_no (by decide) (by decide)) hB
  have e568 := u2.at 568 (p58_no (by decide) (by decide))
  have e569 := u2.at 569 (p58_no (by decide) (by decide))
  have eR : ∀ i l : Int, mR M2 i l = mR M i l := u2.mR (p58_no (by decide) (by decide))
  refine bw_push rfl ?_
  refine bw_istore (ls2 := [_, _, _, _]) rfl rfl (Nat.le_of_ble_eq_true rfl) rfl ?_
  refine bw_push rfl ?_
  refine bw_istore (ls2 := [_, _, _, _]) rfl rfl (Nat.le_of_ble_eq_true rfl) rfl ?_
  exact L9 ((gI M 568 0).toNat + 1) M2 0 0 u2 v2 rfl (by omega) (by omega)
set_option maxRecDepth 20000 in
set_option maxHeartbeats 4000000 in
theorem m_like {d L : Nat} {M : abMem} {r : abRf} (hR : RF r M) (hB : RB M) (hS : ∀ p : Int, 0 ≤ p → p < gI M 568 1 → 0 ≤ gI M 569 (0 + 576 + p) ∧ gI M 569 (0 + 576 + p) ≤ 5) {f w : Int} (hd : 4 ≤ d) : abW d (0, 0) 240 0 (abEnt (abL 240) [vr (some 567), vi f, vi w]) [] (0, 0) (A0 L) M (qI (A0 L) (fun x N => sm p58 M N ∧ (((0 ≤ f ∧ f < gI M 568 0) ∧ 0 ≤ w ∧ w ≤ 1) ∧ (w = 0 ∧ isFL (alk M 0) f x ∨ w = 1 ∧ x = cN (pB (fun e => alk M 0 e f)) (gI M 568 0).toNat) ∨ ¬ ((0 ≤ f ∧ f < gI M 568 0) ∧ 0 ≤ w ∧ w ≤ 1) ∧ x = -1))) := by
  have b1 := hB.fr
  have b2 := hB.la
  have L39 : ∀ (kf : Nat) (N : abMem) (c e : Int), (sm p58 M N) → (cAll M N 0 (gI M 568 0)) → (c = cN (pB (fun e => alk M 0 e f)) e.toNat) → (0 ≤ e ∧ e ≤ gI M 568 0) → (0 ≤ f ∧ f < gI M 568 0) → (w = 1) → ((gI M 568 0 - e).toNat) < kf → abW d (0, 0) 240 39 [some (vr (some 567)), some (vi f), some (vi w), some (vi c), some (vi e)] [] (0, 0) (A0 L) (N) (qI (A0 L) (fun x N => sm p58 M N ∧ (((0 ≤ f ∧ f < gI M 568 0) ∧ 0 ≤ w ∧ w ≤ 1) ∧ (w = 0 ∧ isFL (alk M 0) f x ∨ w = 1 ∧ x = cN (pB (fun e => alk M 0 e f)) (gI M 568 0).toNat) ∨ ¬ ((0 ≤ f ∧ f < gI M 568 0) ∧ 0 ≤ w ∧ w ≤ 1) ∧ x = -1))) := by
    intro kf
    induction kf with
    | zero => intro N  c e  g1 g2 g3 g4 g5 g6 hm9; exact absurd hm9 (Nat.not_lt_zero _)
    | succ kf ih39 =>
      intro N  c e  g1 g2 g3 g4 g5 g6 hm39
      have ih := ih39
      have hR := g1.RF hR
      have hB := g1.RB (p58_no (by decide) (by decide)) (p58_no (by decide) (by decide)) hB
      have e568 := g1.at 568 (p58_no (by decide) (by decide))
      have e569 := g1.at 569 (p58_no (by decide) (by decide))
      have eR : ∀ i l : Int, mR N i l = mR M i l := g1.mR (p58_no (by decide) (by decide))
      have b9 := cN_in (pB (fun e => alk M 0 e f)) e.toNat
      refine bw_iload rfl rfl ?_
      refine bw_aload rfl rfl ?_
      refine bw_callVe (e := d - 1) (as := []) rfl (by omega) rfl rfl (Nat.le_of_ble_eq_true rfl) (Nat.le_of_ble_eq_true rfl) rfl (m_frames hR) ?_
      try simp only [e568, e569, eR]
      refine bw_icge rfl (fun c45 => ?_) (fun c45 => ?_)
      · skip
        refine bw_iload rfl rfl ?_
        refine bw_ret rfl rfl ?_
        obtain rfl : e = gI M 568 0 := by omega
        exact ⟨rfl, _, rfl, g1, Or.inl ⟨⟨g5, by omega⟩, Or.inr ⟨g6, g3⟩⟩⟩
      · skip
        refine bw_iload rfl rfl ?_
        refine bw_aload rfl rfl ?_
        refine bw_iload rfl rfl ?_
        refine bw_iload rfl rfl ?_
        refine bw_callVj (e := d - 1) (as := [_, _]) rfl (by omega) rfl rfl (Nat.le_of_ble_eq_true rfl) (Nat.le_of_ble_eq_true rfl) rfl (m_areAlike hR (by omega) (by omega)) (fun r53 hr53 => ?_)
        try simp only [e568, e569, eR]
        refine bw_ifeq rfl (fun c56 => ?_) (fun c56 => ?_)
        · skip
          refine bw_push rfl ?_
          refine bw_iadd rfl ⟨by omega, by omega⟩ ?_
          refine bw_istore (ls2 := [_, _, _, _, _]) rfl rfl (Nat.le_of_ble_eq_true rfl) rfl ?_
          refine bw_iinc (ls2 := [_, _, _, _, _]) rfl rfl rfl ⟨by omega, by omega⟩ rfl ?_
          refine bw_goto rfl ?_
          have hF := alN_alk g2 (f := e) (e := f) ⟨by omega, by omega⟩ g5
          rw [hF] at hr53
          first
          | exact ih _ _ _ g1 g2 (cN_t (by omega) g3 (pB_t (hr53.elim (fun q => q.1) (fun q => absurd q.2 (by omega))))) (by omega) g5 g6 (by omega)
          | (rw [Int.add_zero]; exact ih _ _ _ g1 g2 (cN_f (by omega) g3 (pB_f (hr53.elim (fun q => absurd q.2 (by omega)) (fun q => q.1)))) (by omega) g5 g6 (by omega))
        · skip
          refine bw_push rfl ?_
          refine bw_goto rfl ?_
          refine bw_iadd rfl ⟨by omega, by omega⟩ ?_
          refine bw_istore (ls2 := [_, _, _, _, _]) rfl rfl (Nat.le_of_ble_eq_true rfl) rfl ?_
          refine bw_iinc (ls2 := [_, _, _, _, _]) rfl rfl rfl ⟨by omega, by omega⟩ rfl ?_
          refine bw_goto rfl ?_
          have hF := alN_alk g2 (f := e) (e := f) ⟨by omega, by omega⟩ g5
          rw [hF] at hr53
          first
          | exact ih _ _ _ g1 g2 (cN_t (by omega) g3 (pB_t (hr53.elim (fun q => q.1) (fun q => absurd q.2 (by omega))))) (by omega) g5 g6 (by omega)
          | (rw [Int.add_zero]; exact ih _ _ _ g1 g2 (cN_f (by omega) g3 (pB_f (hr53.elim (fun q => absurd q.2 (by omega)) (fun q => q.1)))) (by omega) g5 g6 (by omega))
  show abW d (0, 0) 240 0 [some (vr (some 567)), some (vi f), some (vi w), none, none] [] (0, 0) (A0 L) M (qI (A0 L) (fun x N => sm p58 M N ∧ (((0 ≤ f ∧ f < gI M 568 0) ∧ 0 ≤ w ∧ w ≤ 1) ∧ (w = 0 ∧ isFL (alk M 0) f x ∨ w = 1 ∧ x = cN (pB (fun e => alk M 0 e f)) (gI M 568 0).toNat) ∨ ¬ ((0 ≤ f ∧ f < gI M 568 0) ∧ 0 ≤ w ∧ w ≤ 1) ∧ x = -1)))
  refine bw_aload rfl rfl ?_
  refine bw_iload rfl rfl ?_
  refine bw_callVj (e := d - 1) (as := [_]) rfl (by omega) rfl rfl (Nat.le_of_ble_eq_true rfl) (Nat.le_of_ble_eq_true rfl) rfl (m_isFrame hR hB (by omega)) (fun r2 hr2 => ?_)
  try simp only [e568, e569, eR]
  refine bw_ifeq rfl (fun c5 => ?_) (fun c5 => ?_)
  · skip
    refine bw_push rfl ?_
    refine bw_ret rfl rfl ?_
    exact ⟨rfl, _, rfl, sm_refl _ _, Or.inr ⟨by omega, rfl⟩⟩
  · skip
    refine bw_iload rfl rfl ?_
    refine bw_push rfl ?_
    refine bw_push rfl ?_
    refine bw_callSj (e := d - 1) (as := [_, _, _]) rfl (by omega) rfl rfl (Nat.le_of_ble_eq_true rfl) (Nat.le_of_ble_eq_true rfl) (m_isIn hR) (fun r11 hr11 => ?_)
    try simp only [e568, e569, eR]
    refine bw_ifne rfl (fun c14 => ?_) (fun c14 => ?_)
    · skip
      refine bw_aload rfl rfl ?_
      refine bw_push rfl ?_
      refine bw_callVv (e := d - 1) (as := [_]) rfl (by omega) rfl rfl (Nat.le_of_ble_eq_true rfl) (Nat.le_of_ble_eq_true rfl) rfl (m_composesAll hR hB (by omega) hS (by omega)) (fun M21 hM21 => ?_)
      obtain ⟨u21, v21⟩ := hM21
      have hR := u21.RF hR
      have hB := u21.RB (p58_no (by decide) (by decide)) (p58_no (by decide) (by decide)) hB
      have e568 := u21.at 568 (p58_no (by decide) (by decide))
      have e569 := u21.at 569 (p58_no (by decide) (by decide))
      have eR : ∀ i l : Int, mR M21 i l = mR M i l := u21.mR (p58_no (by decide) (by decide))
      have hz : 0 ≤ f ∧ f < gI M 568 0 := by omega
      have hw : 0 ≤ w ∧ w ≤ 1 := by omega
      refine bw_iload rfl rfl ?_
      refine bw_ifne rfl (fun c25 => ?_) (fun c25 => ?_)
      · skip
        refine bw_push rfl ?_
        refine bw_istore (ls2 := [_, _, _, _, _]) rfl rfl (Nat.le_of_ble_eq_true rfl) rfl ?_
        refine bw_push rfl ?_
        refine bw_istore (ls2 := [_, _, _, _, _]) rfl rfl (Nat.le_of_ble_eq_true rfl) rfl ?_
        exact L39 ((gI M 568 0).toNat + 1) M21 0 0 u21 v21 rfl (by omega) (by omega) (by omega) (by omega)
      · skip
        refine bw_aload rfl rfl ?_
        refine bw_iload rfl rfl ?_
        refine bw_callVj (e := d - 1) (as := [_]) rfl (by omega) rfl rfl (Nat.le_of_ble_eq_true rfl) (Nat.le_of_ble_eq_true rfl) rfl (m_firstLike hR (by omega) (by omega)) (fun r30 hr30 => ?_)
        try simp only [e568, e569, eR]
        refine bw_ret rfl rfl ?_
        exact ⟨rfl, _, rfl, u21, Or.inl ⟨⟨hz, hw⟩, Or.inl ⟨by omega, isFL_congr hr30 (n := gI M 568 0) hz.2 (fun j h1 h2 => alN_alk v21 ⟨h1, h2⟩ hz)⟩⟩⟩
    · skip
      refine bw_push rfl ?_
      refine bw_ret rfl rfl ?_
      exact ⟨rfl, _, rfl, sm_refl _ _, Or.inr ⟨by omega, rfl⟩⟩
/-- the k-th that has p, or none -/
def isKth (p : Int → Bool) (n k r : Int) : Prop := (r = -1 ∧ cN p n.toNat ≤ k) ∨ (0 ≤ r ∧ r < n ∧ p r = true ∧ cN p r.toNat = k)
theorem cN_mono {p : Int → Bool} : ∀ n m : Nat, n ≤ m → cN p n ≤ cN p m := by
  intro n m
  induction m with
  | zero => intro h; rw [show n = 0 by omega]; exact Int.le_refl _
  | succ m ih =>
    intro h
    by_cases q : n = m + 1
    · rw [q]; exact Int.le_refl _
    · have := ih (by omega)
      show _ ≤ cN p m + (if p m then 1 else 0)
      split <;> omega
theorem isKth_eq {p : Int → Bool} {n k x y : Int} (h : isKth p n k x) (g : isKth p n k y) : x = y := by
  have st : ∀ a b : Int, 0 ≤ a → a < b → p a = true → cN p a.toNat + 1 ≤ cN p b.toNat := by
    intro a b h0 h1 h2
    have e := cN_s p h0
    rw [h2] at e
    have := cN_mono (p := p) (a + 1).toNat b.toNat (by omega)
    simp at e
    omega
  rcases h with ⟨h1, h2⟩ | ⟨h1, h2, h3, h4⟩ <;> rcases g with ⟨g1, g2⟩ | ⟨g1, g2, g3, g4⟩
  · omega
  · have := st y n g1 g2 g3; omega
  · have := st x n h1 h2 h3; omega
  · by_cases q : x < y
    · have := st x y h1 q h3; omega
    · by_cases q2 : y < x
      · have := st y x g1 q2 g3; omega
      · omega
set_option maxRecDepth 20000 in
set_option maxHeartbeats 4000000 in
theorem m_take {d L : Nat} {M : abMem} {r : abRf} (hR : RF r M) (hB : RB M) (hS : ∀ p : Int, 0 ≤ p → p < gI M 568 1 → 0 ≤ gI M 569 (0 + 576 + p) ∧ gI M 569 (0 + 576 + p) ≤ 5) {k : Int} (hk : In32 k) (hd : 5 ≤ d) : abW d (0, 0) 242 0 (abEnt (abL 242) [vr (some 567), vi k]) [] (0, 0) (A0 L) M (qI (A0 L) (fun x N => sm p58 M N ∧ (k = -1 ∧ x = tk M 0 ∨ k < -1 ∧ x = -1 ∨ 0 ≤ k ∧ isKth (pB (nwE (alk M 0))) (gI M 568 0) k x))) := by
  have b1 := hB.fr
  have b2 := hB.la
  have L26 : ∀ (kf : Nat) (N : abMem) (c f : Int), (sm p58 M N) → (cAll M N 0 (gI M 568 0)) → (k - c = cN (pB (nwE (alk M 0))) f.toNat) → (0 ≤ f ∧ f ≤ gI M 568 0) → (0 ≤ c ∧ c ≤ k) → ((gI M 568 0 - f).toNat) < kf → abW d (0, 0) 242 26 [some (vr (some 567)), some (vi k), some (vi c), some (vi f)] [] (0, 0) (A0 L) (N) (qI (A0 L) (fun x N => sm p58 M N ∧ (k = -1 ∧ x = tk M 0 ∨ k < -1 ∧ x = -1 ∨ 0 ≤ k ∧ isKth (pB (nwE (alk M 0))) (gI M 568 0) k x))) := by
    intro kf
    induction kf with
    | zero => intro N  c f  g1 g2 g3 g4 g5 hm9; exact absurd hm9 (Nat.not_lt_zero _)
    | succ kf ih26 =>
      intro N  c f  g1 g2 g3 g4 g5 hm26
      have ih := ih26
      have hR := g1.RF hR
      have hB := g1.RB (p58_no (by decide) (by decide)) (p58_no (by decide) (by decide)) hB
      have e568 := g1.at 568 (p58_no (by decide) (by decide))
      have e569 := g1.at 569 (p58_no (by decide) (by decide))
      have eR : ∀ i l : Int, mR N i l = mR M i l := g1.mR (p58_no (by decide) (by decide))
      have b9 := cN_in (pB (nwE (alk M 0))) f.toNat
      refine bw_iload rfl rfl ?_
      refine bw_aload rfl rfl ?_
      refine bw_callVe (e := d - 1) (as := []) rfl (by omega) rfl rfl (Nat.le_of_ble_eq_true rfl) (Nat.le_of_ble_eq_true rfl) rfl (m_frames hR) ?_
      try simp only [e568, e569, eR]
      refine bw_icge rfl (fun c31 => ?_) (fun c31 => ?_)
      · skip
        refine bw_push rfl ?_
        refine bw_ret rfl rfl ?_
        obtain rfl : f = gI M 568 0 := by omega
        exact ⟨rfl, _, rfl, g1, Or.inr (Or.inr ⟨by omega, Or.inl ⟨rfl, by omega⟩⟩)⟩
      · skip
        refine bw_aload rfl rfl ?_
        refine bw_iload rfl rfl ?_
        refine bw_callVj (e := d - 1) (as := [_]) rfl (by omega) rfl rfl (Nat.le_of_ble_eq_true rfl) (Nat.le_of_ble_eq_true rfl) rfl (m_firstLike hR (by omega) (by omega)) (fun r36 hr36 => ?_)
        try simp only [e568, e569, eR]
        refine bw_iload rfl rfl ?_
        refine bw_iceq rfl (fun c40 => ?_) (fun c40 => ?_)
        · skip
          refine bw_iload rfl rfl ?_
          refine bw_ifne rfl (fun c47 => ?_) (fun c47 => ?_)
          · skip
            refine bw_iinc (ls2 := [_, _, _, _]) rfl rfl rfl ⟨by omega, by omega⟩ rfl ?_
            refine bw_iinc (ls2 := [_, _, _, _]) rfl rfl rfl ⟨by omega, by omega⟩ rfl ?_
            refine bw_goto rfl ?_
            have hF := isFL_new (isFL_congr hr36 (n := gI M 568 0) (by omega) (fun j h1 h2 => alN_alk g2 ⟨h1, h2⟩ ⟨by omega, by omega⟩))
            first
            | exact ih _ _ _ g1 g2 (cN_f (by omega) g3 (pB_f (fun h => absurd (hF.mpr h) (by omega)))) (by omega) (by omega) (by omega)
            | exact ih _ _ _ g1 g2 (by rw [show k - (c + -1) = k - c + 1 by omega]; exact cN_t (by omega) g3 (pB_t (hF.mp (by omega)))) (by omega) (by omega) (by omega)
          · skip
            refine bw_iload rfl rfl ?_
            refine bw_ret rfl rfl ?_
            have hF := isFL_new (isFL_congr hr36 (n := gI M 568 0) (by omega) (fun j h1 h2 => alN_alk g2 ⟨h1, h2⟩ ⟨by omega, by omega⟩))
            exact ⟨rfl, _, rfl, g1, Or.inr (Or.inr ⟨by omega, Or.inr ⟨by omega, by omega, pB_t (hF.mp (by omega)), by omega⟩⟩)⟩
        · skip
          refine bw_goto rfl ?_
          refine bw_iinc (ls2 := [_, _, _, _]) rfl rfl rfl ⟨by omega, by omega⟩ rfl ?_
          refine bw_goto rfl ?_
          have hF := isFL_new (isFL_congr hr36 (n := gI M 568 0) (by omega) (fun j h1 h2 => alN_alk g2 ⟨h1, h2⟩ ⟨by omega, by omega⟩))
          first
          | exact ih _ _ _ g1 g2 (cN_f (by omega) g3 (pB_f (fun h => absurd (hF.mpr h) (by omega)))) (by omega) (by omega) (by omega)
          | exact ih _ _ _ g1 g2 (by rw [show k - (c + -1) = k - c + 1 by omega]; exact cN_t (by omega) g3 (pB_t (hF.mp (by omega)))) (by omega) (by omega) (by omega)
  show abW d (0, 0) 242 0 [some (vr (some 567)), some (vi k), none, none] [] (0, 0) (A0 L) M (qI (A0 L) (fun x N => sm p58 M N ∧ (k = -1 ∧ x = tk M 0 ∨ k < -1 ∧ x = -1 ∨ 0 ≤ k ∧ isKth (pB (nwE (alk M 0))) (gI M 568 0) k x)))
  refine bw_iload rfl rfl ?_
  refine bw_push rfl ?_
  refine bw_icne rfl (fun c2 => ?_) (fun c2 => ?_)
  · skip
    refine bw_iload rfl rfl ?_
    refine bw_ifge rfl (fun c12 => ?_) (fun c12 => ?_)
    · skip
      refine bw_aload rfl rfl ?_
      refine bw_push rfl ?_
      refine bw_callVv (e := d - 1) (as := [_]) rfl (by omega) rfl rfl (Nat.le_of_ble_eq_true rfl) (Nat.le_of_ble_eq_true rfl) rfl (m_composesAll hR hB (by omega) hS (by omega)) (fun M19 hM19 => ?_)
      obtain ⟨u19, v19⟩ := hM19
      have hR := u19.RF hR
      have hB := u19.RB (p58_no (by decide) (by decide)) (p58_no (by decide) (by decide)) hB
      have e568 := u19.at 568 (p58_no (by decide) (by decide))
      have e569 := u19.at 569 (p58_no (by decide) (by decide))
      have eR : ∀ i l : Int, mR M19 i l = mR M i l := u19.mR (p58_no (by decide) (by decide))
      refine bw_iload rfl rfl ?_
      refine bw_istore (ls2 := [_, _, _, _]) rfl rfl (Nat.le_of_ble_eq_true rfl) rfl ?_
      refine bw_push rfl ?_
      refine bw_istore (ls2 := [_, _, _, _]) rfl rfl (Nat.le_of_ble_eq_true rfl) rfl ?_
      exact L26 ((gI M 568 0).toNat + 1) M19 k 0 u19 v19 (by rw [Int.sub_self]; rfl) (by omega) (by omega) (by omega)
    · skip
      refine bw_push rfl ?_
      refine bw_ret rfl rfl ?_
      exact ⟨rfl, _, rfl, sm_refl _ _, Or.inr (Or.inl ⟨by omega, rfl⟩)⟩
  · skip
    refine bw_aload rfl rfl ?_
    refine bw_push rfl ?_
    refine bw_callVi (e := d - 1) (as := [_]) rfl (by omega) rfl rfl (Nat.le_of_ble_eq_true rfl) (Nat.le_of_ble_eq_true rfl) rfl (m_takesIn hR hB (by omega) hS (by omega)) (fun r7 M7 hM7 => ?_)
    refine bw_ret rfl rfl ?_
    exact ⟨rfl, _, rfl, hM7.1, Or.inl ⟨by omega, hM7.2⟩⟩
/-- the layer changes in the frame -/
def pCh (R : Int → Int → Int) (f l : Int) : Bool := decide (R l f ≠ if f = 0 then 0 else R l (f - 1))
set_option maxRecDepth 20000 in
set_option maxHeartbeats 4000000 in
theorem m_changes {d L : Nat} {M : abMem} {r : abRf} (hR : RF r M) (hB : RB M) {f : Int} (hd : 2 ≤ d) : abW d (0, 0) 245 0 (abEnt (abL 245) [vr (some 567), vi f]) [] (0, 0) (A0 L) M (qE (some (vi (if 0 ≤ f ∧ f < gI M 568 0 then cN (pCh (mR M 0) f) (gI M 568 1).toNat else -1))) (A0 L) M) := by
  have b1 := hB.fr
  have b2 := hB.la
  have L14 : ∀ (kf : Nat) (c l : Int), (c = cN (pCh (mR M 0) f) l.toNat) → (0 ≤ l ∧ l ≤ gI M 568 1) → (0 ≤ f ∧ f < gI M 568 0) → ((gI M 568 1 - l).toNat) < kf → abW d (0, 0) 245 14 [some (vr (some 567)), some (vi f), some (vi c), some (vi l)] [] (0, 0) (A0 L) (M) (qE (some (vi (if 0 ≤ f ∧ f < gI M 568 0 then cN (pCh (mR M 0) f) (gI M 568 1).toNat else -1))) (A0 L) M) := by
    intro kf
    induction kf with
    | zero => intro c l  g1 g2 g3 hm9; exact absurd hm9 (Nat.not_lt_zero _)
    | succ kf ih14 =>
      intro c l  g1 g2 g3 hm14
      have ih := ih14
      have b9 := cN_in (pCh (mR M 0) f) l.toNat
      refine bw_iload rfl rfl ?_
      refine bw_aload rfl rfl ?_
      refine bw_callVe (e := d - 1) (as := []) rfl (by omega) rfl rfl (Nat.le_of_ble_eq_true rfl) (Nat.le_of_ble_eq_true rfl) rfl (m_layers hR) ?_
      refine bw_icge rfl (fun c19 => ?_) (fun c19 => ?_)
      · skip
        refine bw_iload rfl rfl ?_
        refine bw_ret rfl rfl ?_
        obtain rfl : l = gI M 568 1 := by omega
        exact ⟨by rw [g1, if_pos g3], rfl, rfl⟩
      · skip
        refine bw_iload rfl rfl ?_
        refine bw_aload rfl rfl ?_
        refine bw_push rfl ?_
        refine bw_iload rfl rfl ?_
        refine bw_iload rfl rfl ?_
        refine bw_callVe (e := d - 1) (as := [_, _, _]) rfl (by omega) rfl rfl (Nat.le_of_ble_eq_true rfl) (Nat.le_of_ble_eq_true rfl) rfl (m_has hR (by omega) (by omega) (by omega)) ?_
        refine bw_iload rfl rfl ?_
        refine bw_ifne rfl (fun c31 => ?_) (fun c31 => ?_)
        · skip
          refine bw_aload rfl rfl ?_
          refine bw_push rfl ?_
          refine bw_iload rfl rfl ?_
          refine bw_iload rfl rfl ?_
          refine bw_push rfl ?_
          refine bw_isub rfl ⟨by omega, by omega⟩ ?_
          refine bw_callVe (e := d - 1) (as := [_, _, _]) rfl (by omega) rfl rfl (Nat.le_of_ble_eq_true rfl) (Nat.le_of_ble_eq_true rfl) rfl (m_has hR (by omega) (by omega) (by omega)) ?_
          refine bw_iceq rfl (fun c47 => ?_) (fun c47 => ?_)
          · skip
            refine bw_push rfl ?_
            refine bw_iadd rfl ⟨by omega, by omega⟩ ?_
            refine bw_istore (ls2 := [_, _, _, _]) rfl rfl (Nat.le_of_ble_eq_true rfl) rfl ?_
            refine bw_iinc (ls2 := [_, _, _, _]) rfl rfl rfl ⟨by omega, by omega⟩ rfl ?_
            refine bw_goto rfl ?_
            first
            | exact ih _ _ (cN_t (by omega) g1 (decide_eq_true (by rw [if_pos (by omega)]; omega))) (by omega) g3 (by omega)
            | exact ih _ _ (cN_t (by omega) g1 (decide_eq_true (by rw [if_neg (by omega)]; omega))) (by omega) g3 (by omega)
            | (rw [Int.add_zero]; exact ih _ _ (cN_f (by omega) g1 (decide_eq_false (by rw [if_pos (by omega)]; omega))) (by omega) g3 (by omega))
            | (rw [Int.add_zero]; exact ih _ _ (cN_f (by omega) g1 (decide_eq_false (by rw [if_neg (by omega)]; omega))) (by omega) g3 (by omega))
          · skip
            refine bw_push rfl ?_
            refine bw_goto rfl ?_
            refine bw_iadd rfl ⟨by omega, by omega⟩ ?_
            refine bw_istore (ls2 := [_, _, _, _]) rfl rfl (Nat.le_of_ble_eq_true rfl) rfl ?_
            refine bw_iinc (ls2 := [_, _, _, _]) rfl rfl rfl ⟨by omega, by omega⟩ rfl ?_
            refine bw_goto rfl ?_
            first
            | exact ih _ _ (cN_t (by omega) g1 (decide_eq_true (by rw [if_pos (by omega)]; omega))) (by omega) g3 (by omega)
            | exact ih _ _ (cN_t (by omega) g1 (decide_eq_true (by rw [if_neg (by omega)]; omega))) (by omega) g3 (by omega)
            | (rw [Int.add_zero]; exact ih _ _ (cN_f (by omega) g1 (decide_eq_false (by rw [if_pos (by omega)]; omega))) (by omega) g3 (by omega))
            | (rw [Int.add_zero]; exact ih _ _ (cN_f (by omega) g1 (decide_eq_false (by rw [if_neg (by omega)]; omega))) (by omega) g3 (by omega))
        · skip
          refine bw_push rfl ?_
          refine bw_goto rfl ?_
          refine bw_iceq rfl (fun c47 => ?_) (fun c47 => ?_)
          · skip
            refine bw_push rfl ?_
            refine bw_iadd rfl ⟨by omega, by omega⟩ ?_
            refine bw_istore (ls2 := [_, _, _, _]) rfl rfl (Nat.le_of_ble_eq_true rfl) rfl ?_
            refine bw_iinc (ls2 := [_, _, _, _]) rfl rfl rfl ⟨by omega, by omega⟩ rfl ?_
            refine bw_goto rfl ?_
            first
            | exact ih _ _ (cN_t (by omega) g1 (decide_eq_true (by rw [if_pos (by omega)]; omega))) (by omega) g3 (by omega)
            | exact ih _ _ (cN_t (by omega) g1 (decide_eq_true (by rw [if_neg (by omega)]; omega))) (by omega) g3 (by omega)
            | (rw [Int.add_zero]; exact ih _ _ (cN_f (by omega) g1 (decide_eq_false (by rw [if_pos (by omega)]; omega))) (by omega) g3 (by omega))
            | (rw [Int.add_zero]; exact ih _ _ (cN_f (by omega) g1 (decide_eq_false (by rw [if_neg (by omega)]; omega))) (by omega) g3 (by omega))
          · skip
            refine bw_push rfl ?_
            refine bw_goto rfl ?_
            refine bw_iadd rfl ⟨by omega, by omega⟩ ?_
            refine bw_istore (ls2 := [_, _, _, _]) rfl rfl (Nat.le_of_ble_eq_true rfl) rfl ?_
            refine bw_iinc (ls2 := [_, _, _, _]) rfl rfl rfl ⟨by omega, by omega⟩ rfl ?_
            refine bw_goto rfl ?_
            first
            | exact ih _ _ (cN_t (by omega) g1 (decide_eq_true (by rw [if_pos (by omega)]; omega))) (by omega) g3 (by omega)
            | exact ih _ _ (cN_t (by omega) g1 (decide_eq_true (by rw [if_neg (by omega)]; omega))) (by omega) g3 (by omega)
            | (rw [Int.add_zero]; exact ih _ _ (cN_f (by omega) g1 (decide_eq_false (by rw [if_pos (by omega)]; omega))) (by omega) g3 (by omega))
            | (rw [Int.add_zero]; exact ih _ _ (cN_f (by omega) g1 (decide_eq_false (by rw [if_neg (by omega)]; omega))) (by omega) g3 (by omega))
  show abW d (0, 0) 245 0 [some (vr (some 567)), some (vi f), none, none] [] (0, 0) (A0 L) M (qE (some (vi (if 0 ≤ f ∧ f < gI M 568 0 then cN (pCh (mR M 0) f) (gI M 568 1).toNat else -1))) (A0 L) M)
  refine bw_aload rfl rfl ?_
  refine bw_iload rfl rfl ?_
  refine bw_callVj (e := d - 1) (as := [_]) rfl (by omega) rfl rfl (Nat.le_of_ble_eq_true rfl) (Nat.le_of_ble_eq_true rfl) rfl (m_isFrame hR hB (by omega)) (fun r2 hr2 => ?_)
  refine bw_ifne rfl (fun c5 => ?_) (fun c5 => ?_)
  · skip
    refine bw_push rfl ?_
    refine bw_istore (ls2 := [_, _, _, _]) rfl rfl (Nat.le_of_ble_eq_true rfl) rfl ?_
    refine bw_push rfl ?_
    refine bw_istore (ls2 := [_, _, _, _]) rfl rfl (Nat.le_of_ble_eq_true rfl) rfl ?_
    exact L14 ((gI M 568 1).toNat + 1) 0 0 rfl (by omega) (by omega) (by omega)
  · skip
    refine bw_push rfl ?_
    refine bw_ret rfl rfl ?_
    exact ⟨congrArg (fun x => some (vi x)) (by first | rfl | ((repeat (first | rw [if_pos (by omega)] | rw [if_neg (by omega)])) <;> first | rfl | omega)), rfl, rfl⟩
set_option maxRecDepth 20000 in
set_option maxHeartbeats 4000000 in
theorem m_savedByHolds {d L : Nat} {M : abMem} {r : abRf} (hR : RF r M) (hB : RB M) (hd : 3 ≤ d) : abW d (0, 0) 246 0 (abEnt (abL 246) [vr (some 567)]) [] (0, 0) (A0 L) M (qE (some (vi (sN (fun l => cN (pF (mR M 0 l)) (gI M 568 0).toNat - cN (pXE 0 (mR M 0 l)) (gI M 568 0).toNat) (gI M 568 1).toNat))) (A0 L) M) := by
  have b1 := hB.fr
  have b2 := hB.la
  have L4 : ∀ (kf : Nat) (c l : Int), (c = sN (fun l => cN (pF (mR M 0 l)) (gI M 568 0).toNat - cN (pXE 0 (mR M 0 l)) (gI M 568 0).toNat) l.toNat) → (0 ≤ l ∧ l ≤ gI M 568 1) → ((gI M 568 1 - l).toNat) < kf → abW d (0, 0) 246 4 [some (vr (some 567)), some (vi c), some (vi l)] [] (0, 0) (A0 L) (M) (qE (some (vi (sN (fun l => cN (pF (mR M 0 l)) (gI M 568 0).toNat - cN (pXE 0 (mR M 0 l)) (gI M 568 0).toNat) (gI M 568 1).toNat))) (A0 L) M) := by
    intro kf
    induction kf with
    | zero => intro c l  g1 g2 hm9; exact absurd hm9 (Nat.not_lt_zero _)
    | succ kf ih4 =>
      intro c l  g1 g2 hm4
      have ih := ih4
      have b9 := sN_in (f := fun l => cN (pF (mR M 0 l)) (gI M 568 0).toNat - cN (pXE 0 (mR M 0 l)) (gI M 568 0).toNat) (b := 200) l.toNat (fun i h1 h2 => by
        have := cN_in (pF (mR M 0 i)) (gI M 568 0).toNat
        have := cN_in (pXE 0 (mR M 0 i)) (gI M 568 0).toNat
        show -200 ≤ cN (pF (mR M 0 i)) (gI M 568 0).toNat - cN (pXE 0 (mR M 0 i)) (gI M 568 0).toNat ∧ cN (pF (mR M 0 i)) (gI M 568 0).toNat - cN (pXE 0 (mR M 0 i)) (gI M 568 0).toNat ≤ 200
        omega)
      refine bw_iload rfl rfl ?_
      refine bw_aload rfl rfl ?_
      refine bw_callVe (e := d - 1) (as := []) rfl (by omega) rfl rfl (Nat.le_of_ble_eq_true rfl) (Nat.le_of_ble_eq_true rfl) rfl (m_layers hR) ?_
      refine bw_icge rfl (fun c9 => ?_) (fun c9 => ?_)
      · skip
        refine bw_iload rfl rfl ?_
        refine bw_ret rfl rfl ?_
        obtain rfl : l = gI M 568 1 := by omega
        exact ⟨by rw [g1], rfl, rfl⟩
      · skip
        have := cN_in (pF (mR M 0 l)) (gI M 568 0).toNat
        have := cN_in (pXE 0 (mR M 0 l)) (gI M 568 0).toNat
        refine bw_iload rfl rfl ?_
        refine bw_aload rfl rfl ?_
        refine bw_iload rfl rfl ?_
        refine bw_callVe (e := d - 1) (as := [_]) rfl (by omega) rfl rfl (Nat.le_of_ble_eq_true rfl) (Nat.le_of_ble_eq_true rfl) rfl (m_filled hR hB (by omega) (by omega)) ?_
        refine bw_iadd rfl ⟨by omega, by omega⟩ ?_
        refine bw_istore (ls2 := [_, _, _]) rfl rfl (Nat.le_of_ble_eq_true rfl) rfl ?_
        refine bw_iload rfl rfl ?_
        refine bw_aload rfl rfl ?_
        refine bw_push rfl ?_
        refine bw_iload rfl rfl ?_
        refine bw_push rfl ?_
        refine bw_callVe (e := d - 1) (as := [_, _, _]) rfl (by omega) rfl rfl (Nat.le_of_ble_eq_true rfl) (Nat.le_of_ble_eq_true rfl) rfl (m_exposures hR hB (by omega) (by omega) (by omega)) ?_
        refine bw_isub rfl ⟨by omega, by omega⟩ ?_
        refine bw_istore (ls2 := [_, _, _]) rfl rfl (Nat.le_of_ble_eq_true rfl) rfl ?_
        refine bw_iinc (ls2 := [_, _, _]) rfl rfl rfl ⟨by omega, by omega⟩ rfl ?_
        refine bw_goto rfl ?_
        exact ih _ _ (by rw [sN_s _ (by omega), ← g1, Int.add_sub_assoc]) (by omega) (by omega)
  show abW d (0, 0) 246 0 [some (vr (some 567)), none, none] [] (0, 0) (A0 L) M (qE (some (vi (sN (fun l => cN (pF (mR M 0 l)) (gI M 568 0).toNat - cN (pXE 0 (mR M 0 l)) (gI M 568 0).toNat) (gI M 568 1).toNat))) (A0 L) M)
  refine bw_push rfl ?_
  refine bw_istore (ls2 := [_, _, _]) rfl rfl (Nat.le_of_ble_eq_true rfl) rfl ?_
  refine bw_push rfl ?_
  refine bw_istore (ls2 := [_, _, _]) rfl rfl (Nat.le_of_ble_eq_true rfl) rfl ?_
  exact L4 ((gI M 568 1).toNat + 1) 0 0 rfl (by omega) (by omega)
set_option maxRecDepth 20000 in
set_option maxHeartbeats 4000000 in
theorem m_savedAgain {d L : Nat} {M : abMem} {r : abRf} (hR : RF r M) (hB : RB M) (hd : 3 ≤ d) : abW d (0, 0) 247 0 (abEnt (abL 247) [vr (some 567)]) [] (0, 0) (A0 L) M (qE (some (vi (sN (fun l => cN (pXE 0 (mR M 0 l)) (gI M 568 0).toNat - cN (pU (mR M 0 l)) (gI M 568 0).toNat) (gI M 568 1).toNat))) (A0 L) M) := by
  have b1 := hB.fr
  have b2 := hB.la
  have L4 : ∀ (kf : Nat) (c l : Int), (c = sN (fun l => cN (pXE 0 (mR M 0 l)) (gI M 568 0).toNat - cN (pU (mR M 0 l)) (gI M 568 0).toNat) l.toNat) → (0 ≤ l ∧ l ≤ gI M 568 1) → ((gI M 568 1 - l).toNat) < kf → abW d (0, 0) 247 4 [some (vr (some 567)), some (vi c), some (vi l)] [] (0, 0) (A0 L) (M) (qE (some (vi (sN (fun l => cN (pXE 0 (mR M 0 l)) (gI M 568 0).toNat - cN (pU (mR M 0 l)) (gI M 568 0).toNat) (gI M 568 1).toNat))) (A0 L) M) := by
    intro kf
    induction kf with
    | zero => intro c l  g1 g2 hm9; exact absurd hm9 (Nat.not_lt_zero _)
    | succ kf ih4 =>
      intro c l  g1 g2 hm4
      have ih := ih4
      have b9 := sN_in (f := fun l => cN (pXE 0 (mR M 0 l)) (gI M 568 0).toNat - cN (pU (mR M 0 l)) (gI M 568 0).toNat) (b := 200) l.toNat (fun i h1 h2 => by
        have := cN_in (pXE 0 (mR M 0 i)) (gI M 568 0).toNat
        have := cN_in (pU (mR M 0 i)) (gI M 568 0).toNat
        show -200 ≤ cN (pXE 0 (mR M 0 i)) (gI M 568 0).toNat - cN (pU (mR M 0 i)) (gI M 568 0).toNat ∧ cN (pXE 0 (mR M 0 i)) (gI M 568 0).toNat - cN (pU (mR M 0 i)) (gI M 568 0).toNat ≤ 200
        omega)
      refine bw_iload rfl rfl ?_
      refine bw_aload rfl rfl ?_
      refine bw_callVe (e := d - 1) (as := []) rfl (by omega) rfl rfl (Nat.le_of_ble_eq_true rfl) (Nat.le_of_ble_eq_true rfl) rfl (m_layers hR) ?_
      refine bw_icge rfl (fun c9 => ?_) (fun c9 => ?_)
      · skip
        refine bw_iload rfl rfl ?_
        refine bw_ret rfl rfl ?_
        obtain rfl : l = gI M 568 1 := by omega
        exact ⟨by rw [g1], rfl, rfl⟩
      · skip
        have := cN_in (pXE 0 (mR M 0 l)) (gI M 568 0).toNat
        have := cN_in (pU (mR M 0 l)) (gI M 568 0).toNat
        refine bw_iload rfl rfl ?_
        refine bw_aload rfl rfl ?_
        refine bw_push rfl ?_
        refine bw_iload rfl rfl ?_
        refine bw_push rfl ?_
        refine bw_callVe (e := d - 1) (as := [_, _, _]) rfl (by omega) rfl rfl (Nat.le_of_ble_eq_true rfl) (Nat.le_of_ble_eq_true rfl) rfl (m_exposures hR hB (by omega) (by omega) (by omega)) ?_
        refine bw_iadd rfl ⟨by omega, by omega⟩ ?_
        refine bw_istore (ls2 := [_, _, _]) rfl rfl (Nat.le_of_ble_eq_true rfl) rfl ?_
        refine bw_iload rfl rfl ?_
        refine bw_aload rfl rfl ?_
        refine bw_iload rfl rfl ?_
        refine bw_callVe (e := d - 1) (as := [_]) rfl (by omega) rfl rfl (Nat.le_of_ble_eq_true rfl) (Nat.le_of_ble_eq_true rfl) rfl (m_unlike hR hB (by omega) (by omega)) ?_
        refine bw_isub rfl ⟨by omega, by omega⟩ ?_
        refine bw_istore (ls2 := [_, _, _]) rfl rfl (Nat.le_of_ble_eq_true rfl) rfl ?_
        refine bw_iinc (ls2 := [_, _, _]) rfl rfl rfl ⟨by omega, by omega⟩ rfl ?_
        refine bw_goto rfl ?_
        exact ih _ _ (by rw [sN_s _ (by omega), ← g1, Int.add_sub_assoc]) (by omega) (by omega)
  show abW d (0, 0) 247 0 [some (vr (some 567)), none, none] [] (0, 0) (A0 L) M (qE (some (vi (sN (fun l => cN (pXE 0 (mR M 0 l)) (gI M 568 0).toNat - cN (pU (mR M 0 l)) (gI M 568 0).toNat) (gI M 568 1).toNat))) (A0 L) M)
  refine bw_push rfl ?_
  refine bw_istore (ls2 := [_, _, _]) rfl rfl (Nat.le_of_ble_eq_true rfl) rfl ?_
  refine bw_push rfl ?_
  refine bw_istore (ls2 := [_, _, _]) rfl rfl (Nat.le_of_ble_eq_true rfl) rfl ?_
  exact L4 ((gI M 568 1).toNat + 1) 0 0 rfl (by omega) (by omega)
