abbrev p57 (a : Nat) : Prop := a = 577 ∨ a = 578 ∨ a = 579
abbrev q25 (j : Int) : Prop := j = 25
theorem p57_no {a : Nat} (h : a ≠ 577 ∧ a ≠ 578 ∧ a ≠ 579) : ¬ p57 a := fun k => k.elim h.1 (fun k => k.elim h.2.1 h.2.2)
theorem up_eq {α : Type} {f : Int → α} {j k : Int} {x : α} (h : k = j) : up f j x k = x := by unfold up; rw [if_pos h]
theorem up_ne {α : Type} {f : Int → α} {j k : Int} {x : α} (h : k ≠ j) : up f j x k = f k := by unfold up; rw [if_neg h]
/-- what is known of the fewest so far -/
def lbP (D T : Int → Int) (F : Int → Int → Int) (a m k0 x : Int) : Prop := cdP D T F a m x ∧ x ≤ m ∧ (rnP D T a m → x ≤ 2) ∧ (∀ k : Int, 1 ≤ k → k < k0 → k < m → x ≤ F a k + F (a + k) (m - k)) ∧ (∀ k : Int, 1 ≤ k → k < k0 → k < m → m % k = 0 → rdP D T a m k → x ≤ F a k + 1)
theorem cd_min {D T : Int → Int} {F : Int → Int → Int} {a m x v : Int} (h : cdP D T F a m x) (k : cdP D T F a m v) : cdP D T F a m (min x v) := by
  have : min x v = x ∨ min x v = v := by omega
  rcases this with q | q
  · rw [q]; exact h
  · rw [q]; exact k
theorem lbP_1 {D T : Int → Int} {F : Int → Int → Int} {a m k0 x : Int} (h : lbP D T F a m k0 x) (hk : 1 ≤ k0 ∧ k0 < m) (hn : ¬ (m % k0 = 0 ∧ rdP D T a m k0)) : lbP D T F a m (k0 + 1) (min x (F a k0 + F (a + k0) (m - k0))) := by
  obtain ⟨h1, h2, h3, h4, h5⟩ := h
  refine ⟨cd_min h1 (Or.inr (Or.inr (Or.inl ⟨k0, hk.1, hk.2, rfl⟩))), by omega, fun r => by have := h3 r; omega, fun k k1 k2 k3 => ?_, fun k k1 k2 k3 k4 k5 => ?_⟩
  · by_cases q : k = k0
    · rw [q]; omega
    · have := h4 k k1 (by omega) k3; omega
  · by_cases q : k = k0
    · exact absurd ⟨q ▸ k4, q ▸ k5⟩ hn
    · have := h5 k k1 (by omega) k3 k4 k5; omega
theorem lbP_2 {D T : Int → Int} {F : Int → Int → Int} {a m k0 x : Int} (h : lbP D T F a m k0 x) (hk : 1 ≤ k0 ∧ k0 < m) (h6 : m % k0 = 0) (h7 : rdP D T a m k0) : lbP D T F a m (k0 + 1) (min (min x (F a k0 + F (a + k0) (m - k0))) (F a k0 + 1)) := by
  obtain ⟨h1, h2, h3, h4, h5⟩ := h
  refine ⟨cd_min (cd_min h1 (Or.inr (Or.inr (Or.inl ⟨k0, hk.1, hk.2, rfl⟩)))) (Or.inr (Or.inr (Or.inr (Or.inl ⟨k0, hk.1, hk.2, h6, h7, rfl⟩)))), by omega, fun r => by have := h3 r; omega, fun k k1 k2 k3 => ?_, fun k k1 k2 k3 k4 k5 => ?_⟩
  · by_cases q : k = k0
    · rw [q]; omega
    · have := h4 k k1 (by omega) k3; omega
  · by_cases q : k = k0
    · rw [q]; omega
    · have := h5 k k1 (by omega) k3 k4 k5; omega
theorem lbP_s {D T : Int → Int} {F : Int → Int → Int} {a m x : Int} (h : lbP D T F a m m x) (h6 : m % 2 = 0) (h7 : 4 ≤ m) (h8 : sgP D T a m (m / 2 + 1)) : isMn (cdP D T F a m) (min x (F a (m / 2 + 1) + 1)) := by
  obtain ⟨h1, h2, h3, h4, h5⟩ := h
  refine ⟨cd_min h1 (Or.inr (Or.inr (Or.inr (Or.inr ⟨h6, h7, h8, rfl⟩)))), fun y hy => ?_⟩
  rcases hy with c | ⟨r, c⟩ | ⟨k, k1, k2, c⟩ | ⟨k, k1, k2, k3, k4, c⟩ | ⟨c1, c2, c3, c⟩
  · omega
  · have := h3 r; omega
  · have := h4 k k1 k2 k2; omega
  · have := h5 k k1 k2 k2 k3 k4; omega
  · omega
theorem lbP_e {D T : Int → Int} {F : Int → Int → Int} {a m x : Int} (h : lbP D T F a m m x) (hn : ¬ (m % 2 = 0 ∧ 4 ≤ m ∧ sgP D T a m (m / 2 + 1))) : isMn (cdP D T F a m) x := by
  obtain ⟨h1, h2, h3, h4, h5⟩ := h
  refine ⟨h1, fun y hy => ?_⟩
  rcases hy with c | ⟨r, c⟩ | ⟨k, k1, k2, c⟩ | ⟨k, k1, k2, k3, k4, c⟩ | ⟨c1, c2, c3, c⟩
  · omega
  · have := h3 r; omega
  · have := h4 k k1 k2 k2; omega
  · have := h5 k k1 k2 k2 k3 k4; omega
  · exact absurd ⟨c1, c2, c3⟩ hn
theorem rnP_step {D T : Int → Int} {a m s : Int} (hm : 2 ≤ m) (h : rnP D T a m) (hs : s = D (a + 1) - D a) : (s = 1 ∨ s = -1) ∧ ∀ k : Int, 1 ≤ k → k < m → 0 < D (a + k) ∧ D (a + k) - D (a + k - 1) = s ∧ T (a + k) = T a := by
  obtain ⟨h0, t, h1, h2⟩ := h
  have q := h2 1 (by omega) (by omega)
  rw [show a + 1 - 1 = a by omega] at q
  obtain rfl : s = t := by omega
  exact ⟨h1, h2⟩
set_option maxRecDepth 20000 in
set_option maxHeartbeats 4000000 in
theorem m_areLike {d L : Nat} {M : abMem} {r : abRf} (hR : RF r M) {i j : Int} (hi : 0 ≤ i ∧ i ≤ 95) (hj : 0 ≤ j ∧ j ≤ 95) : abW d (0, 0) 217 0 (abEnt (abL 217) [vr (some 567), vi i, vi j]) [] (0, 0) (A0 L) M (qJ (A0 L) M (fun x => lkP (gI M 577) (gI M 578) i j ∧ x = 1 ∨ ¬ lkP (gI M 577) (gI M 578) i j ∧ x = 0)) := by
  show abW d (0, 0) 217 0 [some (vr (some 567)), some (vi i), some (vi j)] [] (0, 0) (A0 L) M (qJ (A0 L) M (fun x => lkP (gI M 577) (gI M 578) i j ∧ x = 1 ∨ ¬ lkP (gI M 577) (gI M 578) i j ∧ x = 0))
  refine bw_aload rfl rfl ?_
  refine bw_getr rfl rfl (hR _ _) ?_
  refine bw_iload rfl rfl ?_
  refine bw_aldi rfl (by first | rfl | assumption) (by omega) (by omega) ?_
  refine bw_aload rfl rfl ?_
  refine bw_getr rfl rfl (hR _ _) ?_
  refine bw_iload rfl rfl ?_
  refine bw_aldi rfl (by first | rfl | assumption) (by omega) (by omega) ?_
  refine bw_icne rfl (fun c12 => ?_) (fun c12 => ?_)
  · skip
    refine bw_push rfl ?_
    refine bw_retz rfl rfl (by omega) ?_
    first
    | exact ⟨rfl, rfl, _, rfl, Or.inl ⟨⟨by omega, by omega⟩, rfl⟩⟩
    | exact ⟨rfl, rfl, _, rfl, Or.inr ⟨fun h => by have := h.1; have := h.2; omega, rfl⟩⟩
  · skip
    refine bw_aload rfl rfl ?_
    refine bw_getr rfl rfl (hR _ _) ?_
    refine bw_iload rfl rfl ?_
    refine bw_aldi rfl (by first | rfl | assumption) (by omega) (by omega) ?_
    refine bw_aload rfl rfl ?_
    refine bw_getr rfl rfl (hR _ _) ?_
    refine bw_iload rfl rfl ?_
    refine bw_aldi rfl (by first | rfl | assumption) (by omega) (by omega) ?_
    refine bw_icne rfl (fun c27 => ?_) (fun c27 => ?_)
    · skip
      refine bw_push rfl ?_
      refine bw_retz rfl rfl (by omega) ?_
      first
      | exact ⟨rfl, rfl, _, rfl, Or.inl ⟨⟨by omega, by omega⟩, rfl⟩⟩
      | exact ⟨rfl, rfl, _, rfl, Or.inr ⟨fun h => by have := h.1; have := h.2; omega, rfl⟩⟩
    · skip
      refine bw_push rfl ?_
      refine bw_goto rfl ?_
      refine bw_retz rfl rfl (by omega) ?_
      first
      | exact ⟨rfl, rfl, _, rfl, Or.inl ⟨⟨by omega, by omega⟩, rfl⟩⟩
      | exact ⟨rfl, rfl, _, rfl, Or.inr ⟨fun h => by have := h.1; have := h.2; omega, rfl⟩⟩
set_option maxRecDepth 20000 in
set_option maxHeartbeats 4000000 in
theorem m_isRun {d L : Nat} {M : abMem} {r : abRf} (hR : RF r M) {n a m : Int} (hn : n ≤ 96) (ha : 0 ≤ a ∧ a + m ≤ n) (hD : ∀ j : Int, 0 ≤ j → j < n → 0 ≤ gI M 577 j ∧ gI M 577 j ≤ 99) (hm : 2 ≤ m) (hd : 1 ≤ d) : abW d (0, 0) 218 0 (abEnt (abL 218) [vr (some 567), vi a, vi m]) [] (0, 0) (A0 L) M (qJ (A0 L) M (fun x => rnP (gI M 577) (gI M 578) a m ∧ x = 1 ∨ ¬ rnP (gI M 577) (gI M 578) a m ∧ x = 0)) := by
  have d0 := hD a (by omega) (by omega)
  have d1 := hD (a + 1) (by omega) (by omega)
  have L43 : ∀ (kf : Nat) (w k : Int), (1 ≤ k ∧ k ≤ m) → ((w = 1 ∧ 0 < gI M 577 a ∧ ((gI M 577 (a + 1) - gI M 577 a) = 1 ∨ (gI M 577 (a + 1) - gI M 577 a) = -1) ∧ ∀ j : Int, 1 ≤ j → j < k → 0 < gI M 577 (a + j) ∧ gI M 577 (a + j) - gI M 577 (a + j - 1) = gI M 577 (a + 1) - gI M 577 a ∧ gI M 578 (a + j) = gI M 578 a) ∨ (w = 0 ∧ ¬ rnP (gI M 577) (gI M 578) a m)) → ((m - k).toNat) < kf → abW d (0, 0) 218 43 [some (vr (some 567)), some (vi a), some (vi m), some (vi (gI M 577 (a + 1) - gI M 577 a)), some (vi w), some (vi k)] [] (0, 0) (A0 L) (M) (qJ (A0 L) M (fun x => rnP (gI M 577) (gI M 578) a m ∧ x = 1 ∨ ¬ rnP (gI M 577) (gI M 578) a m ∧ x = 0)) := by
    intro kf
    induction kf with
    | zero => intro w k  g1 g2 hm9; exact absurd hm9 (Nat.not_lt_zero _)
    | succ kf ih43 =>
      intro w k  g1 g2 hm43
      have ih := ih43
      refine bw_iload rfl rfl ?_
      refine bw_iload rfl rfl ?_
      refine bw_icge rfl (fun c46 => ?_) (fun c46 => ?_)
      · skip
        refine bw_iload rfl rfl ?_
        refine bw_retz rfl rfl (by omega) ?_
        rcases g2 with ⟨q1, q2, q3, q4⟩ | ⟨q1, q2⟩
        · first
          | (exfalso; omega)
          | exact ⟨rfl, rfl, _, rfl, Or.inl ⟨⟨q2, _, q3, fun j h1 h2 => q4 j h1 (by omega)⟩, q1⟩⟩
        · exact ⟨rfl, rfl, _, rfl, Or.inr ⟨q2, q1⟩⟩
      · skip
        refine bw_iload rfl rfl ?_
        refine bw_ifeq rfl (fun c51 => ?_) (fun c51 => ?_)
        · skip
          refine bw_iload rfl rfl ?_
          refine bw_retz rfl rfl (by omega) ?_
          rcases g2 with ⟨q1, q2, q3, q4⟩ | ⟨q1, q2⟩
          · first
            | (exfalso; omega)
            | exact ⟨rfl, rfl, _, rfl, Or.inl ⟨⟨q2, _, q3, fun j h1 h2 => q4 j h1 (by omega)⟩, q1⟩⟩
          · exact ⟨rfl, rfl, _, rfl, Or.inr ⟨q2, q1⟩⟩
        · skip
          have d2 := hD (a + k) (by omega) (by omega)
          have d3 := hD (a + k - 1) (by omega) (by omega)
          refine bw_aload rfl rfl ?_
          refine bw_getr rfl rfl (hR _ _) ?_
          refine bw_iload rfl rfl ?_
          refine bw_iload rfl rfl ?_
          refine bw_iadd rfl ⟨by omega, by omega⟩ ?_
          refine bw_aldi rfl (by first | rfl | assumption) (by omega) (by omega) ?_
          refine bw_ifle rfl (fun c63 => ?_) (fun c63 => ?_)
          · skip
            refine bw_push rfl ?_
            refine bw_istore (ls2 := [_, _, _, _, _, _]) rfl rfl (Nat.le_of_ble_eq_true rfl) rfl ?_
            refine bw_iinc (ls2 := [_, _, _, _, _, _]) rfl rfl rfl ⟨by omega, by omega⟩ rfl ?_
            refine bw_goto rfl ?_
            have g3 := g2.resolve_right (fun q => absurd q.1 (by omega))
            first
            | (refine ih _ _ (by omega) (Or.inl ⟨rfl, g3.2.1, g3.2.2.1, fun j h1 h2 => ?_⟩) (by omega)
               by_cases q : j = k
               · rw [q]; exact ⟨by omega, by omega, by omega⟩
               · exact g3.2.2.2 j h1 (by omega))
            | exact ih _ _ (by omega) (Or.inr ⟨rfl, fun h => by have := (rnP_step hm h rfl).2 k (by omega) (by omega); omega⟩) (by omega)
          · skip
            refine bw_aload rfl rfl ?_
            refine bw_getr rfl rfl (hR _ _) ?_
            refine bw_iload rfl rfl ?_
            refine bw_iload rfl rfl ?_
            refine bw_iadd rfl ⟨by omega, by omega⟩ ?_
            refine bw_aldi rfl (by first | rfl | assumption) (by omega) (by omega) ?_
            refine bw_aload rfl rfl ?_
            refine bw_getr rfl rfl (hR _ _) ?_
            refine bw_iload rfl rfl ?_
            refine bw_iload rfl rfl ?_
            refine bw_iadd rfl ⟨by omega, by omega⟩ ?_
            refine bw_push rfl ?_
            refine bw_isub rfl ⟨by omega, by omega⟩ ?_
            refine bw_aldi rfl (by first | rfl | assumption) (by omega) (by omega) ?_
            refine bw_isub rfl ⟨by omega, by omega⟩ ?_
            refine bw_iload rfl rfl ?_
            refine bw_icne rfl (fun c88 => ?_) (fun c88 => ?_)
            · skip
              refine bw_push rfl ?_
              refine bw_istore (ls2 := [_, _, _, _, _, _]) rfl rfl (Nat.le_of_ble_eq_true rfl) rfl ?_
              refine bw_iinc (ls2 := [_, _, _, _, _, _]) rfl rfl rfl ⟨by omega, by omega⟩ rfl ?_
              refine bw_goto rfl ?_
              have g3 := g2.resolve_right (fun q => absurd q.1 (by omega))
              first
              | (refine ih _ _ (by omega) (Or.inl ⟨rfl, g3.2.1, g3.2.2.1, fun j h1 h2 => ?_⟩) (by omega)
                 by_cases q : j = k
                 · rw [q]; exact ⟨by omega, by omega, by omega⟩
                 · exact g3.2.2.2 j h1 (by omega))
              | exact ih _ _ (by omega) (Or.inr ⟨rfl, fun h => by have := (rnP_step hm h rfl).2 k (by omega) (by omega); omega⟩) (by omega)
            · skip
              refine bw_aload rfl rfl ?_
              refine bw_getr rfl rfl (hR _ _) ?_
              refine bw_iload rfl rfl ?_
              refine bw_iload rfl rfl ?_
              refine bw_iadd rfl ⟨by omega, by omega⟩ ?_
              refine bw_aldi rfl (by first | rfl | assumption) (by omega) (by omega) ?_
              refine bw_aload rfl rfl ?_
              refine bw_getr rfl rfl (hR _ _) ?_
              refine bw_iload rfl rfl ?_
              refine bw_aldi rfl (by first | rfl | assumption) (by omega) (by omega) ?_
              refine bw_icne rfl (fun c106 => ?_) (fun c106 => ?_)
              · skip
                refine bw_push rfl ?_
                refine bw_istore (ls2 := [_, _, _, _, _, _]) rfl rfl (Nat.le_of_ble_eq_true rfl) rfl ?_
                refine bw_iinc (ls2 := [_, _, _, _, _, _]) rfl rfl rfl ⟨by omega, by omega⟩ rfl ?_
                refine bw_goto rfl ?_
                have g3 := g2.resolve_right (fun q => absurd q.1 (by omega))
                first
                | (refine ih _ _ (by omega) (Or.inl ⟨rfl, g3.2.1, g3.2.2.1, fun j h1 h2 => ?_⟩) (by omega)
                   by_cases q : j = k
                   · rw [q]; exact ⟨by omega, by omega, by omega⟩
                   · exact g3.2.2.2 j h1 (by omega))
                | exact ih _ _ (by omega) (Or.inr ⟨rfl, fun h => by have := (rnP_step hm h rfl).2 k (by omega) (by omega); omega⟩) (by omega)
              · skip
                refine bw_push rfl ?_
                refine bw_goto rfl ?_
                refine bw_istore (ls2 := [_, _, _, _, _, _]) rfl rfl (Nat.le_of_ble_eq_true rfl) rfl ?_
                refine bw_iinc (ls2 := [_, _, _, _, _, _]) rfl rfl rfl ⟨by omega, by omega⟩ rfl ?_
                refine bw_goto rfl ?_
                have g3 := g2.resolve_right (fun q => absurd q.1 (by omega))
                first
                | (refine ih _ _ (by omega) (Or.inl ⟨rfl, g3.2.1, g3.2.2.1, fun j h1 h2 => ?_⟩) (by omega)
                   by_cases q : j = k
                   · rw [q]; exact ⟨by omega, by omega, by omega⟩
                   · exact g3.2.2.2 j h1 (by omega))
                | exact ih _ _ (by omega) (Or.inr ⟨rfl, fun h => by have := (rnP_step hm h rfl).2 k (by omega) (by omega); omega⟩) (by omega)
  show abW d (0, 0) 218 0 [some (vr (some 567)), some (vi a), some (vi m), none, none, none] [] (0, 0) (A0 L) M (qJ (A0 L) M (fun x => rnP (gI M 577) (gI M 578) a m ∧ x = 1 ∨ ¬ rnP (gI M 577) (gI M 578) a m ∧ x = 0))
  refine bw_aload rfl rfl ?_
  refine bw_getr rfl rfl (hR _ _) ?_
  refine bw_iload rfl rfl ?_
  refine bw_push rfl ?_
  refine bw_iadd rfl ⟨by omega, by omega⟩ ?_
  refine bw_aldi rfl (by first | rfl | assumption) (by omega) (by omega) ?_
  refine bw_aload rfl rfl ?_
  refine bw_getr rfl rfl (hR _ _) ?_
  refine bw_iload rfl rfl ?_
  refine bw_aldi rfl (by first | rfl | assumption) (by omega) (by omega) ?_
  refine bw_isub rfl ⟨by omega, by omega⟩ ?_
  refine bw_istore (ls2 := [_, _, _, _, _, _]) rfl rfl (Nat.le_of_ble_eq_true rfl) rfl ?_
  refine bw_iload rfl rfl ?_
  refine bw_callSe (e := d - 1) (as := [_]) rfl (by omega) rfl rfl (Nat.le_of_ble_eq_true rfl) (Nat.le_of_ble_eq_true rfl) (m_bare hR (by omega)) ?_
  refine bw_push rfl ?_
  refine bw_icne rfl (fun c21 => ?_) (fun c21 => ?_)
  · skip
    refine bw_push rfl ?_
    refine bw_istore (ls2 := [_, _, _, _, _, _]) rfl rfl (Nat.le_of_ble_eq_true rfl) rfl ?_
    refine bw_push rfl ?_
    refine bw_istore (ls2 := [_, _, _, _, _, _]) rfl rfl (Nat.le_of_ble_eq_true rfl) rfl ?_
    have aa := ab1_c (gI M 577 (a + 1) - gI M 577 a)
    first
    | exact L43 (m.toNat + 1) 1 1 (by omega) (Or.inl ⟨rfl, by omega, by omega, fun j h1 h2 => by omega⟩) (by omega)
    | exact L43 (m.toNat + 1) 0 1 (by omega) (Or.inr ⟨rfl, fun h => by have := (rnP_step hm h rfl).1; have := h.1; omega⟩) (by omega)
  · skip
    refine bw_aload rfl rfl ?_
    refine bw_getr rfl rfl (hR _ _) ?_
    refine bw_iload rfl rfl ?_
    refine bw_aldi rfl (by first | rfl | assumption) (by omega) (by omega) ?_
    refine bw_ifle rfl (fun c30 => ?_) (fun c30 => ?_)
    · skip
      refine bw_push rfl ?_
      refine bw_istore (ls2 := [_, _, _, _, _, _]) rfl rfl (Nat.le_of_ble_eq_true rfl) rfl ?_
      refine bw_push rfl ?_
      refine bw_istore (ls2 := [_, _, _, _, _, _]) rfl rfl (Nat.le_of_ble_eq_true rfl) rfl ?_
      have aa := ab1_c (gI M 577 (a + 1) - gI M 577 a)
      first
      | exact L43 (m.toNat + 1) 1 1 (by omega) (Or.inl ⟨rfl, by omega, by omega, fun j h1 h2 => by omega⟩) (by omega)
      | exact L43 (m.toNat + 1) 0 1 (by omega) (Or.inr ⟨rfl, fun h => by have := (rnP_step hm h rfl).1; have := h.1; omega⟩) (by omega)
    · skip
      refine bw_push rfl ?_
      refine bw_goto rfl ?_
      refine bw_istore (ls2 := [_, _, _, _, _, _]) rfl rfl (Nat.le_of_ble_eq_true rfl) rfl ?_
      refine bw_push rfl ?_
      refine bw_istore (ls2 := [_, _, _, _, _, _]) rfl rfl (Nat.le_of_ble_eq_true rfl) rfl ?_
      have aa := ab1_c (gI M 577 (a + 1) - gI M 577 a)
      first
      | exact L43 (m.toNat + 1) 1 1 (by omega) (Or.inl ⟨rfl, by omega, by omega, fun j h1 h2 => by omega⟩) (by omega)
      | exact L43 (m.toNat + 1) 0 1 (by omega) (Or.inr ⟨rfl, fun h => by have := (rnP_step hm h rfl).1; have := h.1; omega⟩) (by omega)
set_option maxRecDepth 20000 in
set_option maxHeartbeats 4000000 in
theorem m_isRound {d L : Nat} {M : abMem} {r : abRf} (hR : RF r M) {a m e : Int} (ha : 0 ≤ a ∧ a + m ≤ 96) (he : 1 ≤ e ∧ e ≤ m) (hd : 1 ≤ d) : abW d (0, 0) 219 0 (abEnt (abL 219) [vr (some 567), vi a, vi m, vi e]) [] (0, 0) (A0 L) M (qJ (A0 L) M (fun x => rdP (gI M 577) (gI M 578) a m e ∧ x = 1 ∨ ¬ rdP (gI M 577) (gI M 578) a m e ∧ x = 0)) := by
  have L3 : ∀ (kf : Nat) (k : Int), (e ≤ k ∧ k ≤ m) → (∀ j : Int, e ≤ j → j < k → lkP (gI M 577) (gI M 578) (a + j) (a + j - e)) → ((m - k).toNat) < kf → abW d (0, 0) 219 3 [some (vr (some 567)), some (vi a), some (vi m), some (vi e), some (vi k)] [] (0, 0) (A0 L) (M) (qJ (A0 L) M (fun x => rdP (gI M 577) (gI M 578) a m e ∧ x = 1 ∨ ¬ rdP (gI M 577) (gI M 578) a m e ∧ x = 0)) := by
    intro kf
    induction kf with
    | zero => intro k  g1 g2 hm9; exact absurd hm9 (Nat.not_lt_zero _)
    | succ kf ih3 =>
      intro k  g1 g2 hm3
      have ih := ih3
      refine bw_iload rfl rfl ?_
      refine bw_iload rfl rfl ?_
      refine bw_icge rfl (fun c6 => ?_) (fun c6 => ?_)
      · skip
        refine bw_push rfl ?_
        refine bw_retz rfl rfl (by omega) ?_
        exact ⟨rfl, rfl, _, rfl, Or.inl ⟨fun j h1 h2 => g2 j h1 (by omega), rfl⟩⟩
      · skip
        refine bw_aload rfl rfl ?_
        refine bw_iload rfl rfl ?_
        refine bw_iload rfl rfl ?_
        refine bw_iadd rfl ⟨by omega, by omega⟩ ?_
        refine bw_iload rfl rfl ?_
        refine bw_iload rfl rfl ?_
        refine bw_iadd rfl ⟨by omega, by omega⟩ ?_
        refine bw_iload rfl rfl ?_
        refine bw_isub rfl ⟨by omega, by omega⟩ ?_
        refine bw_callVj (e := d - 1) (as := [_, _]) rfl (by omega) rfl rfl (Nat.le_of_ble_eq_true rfl) (Nat.le_of_ble_eq_true rfl) rfl (m_areLike hR (by omega) (by omega)) (fun r20 hr20 => ?_)
        refine bw_ifne rfl (fun c23 => ?_) (fun c23 => ?_)
        · skip
          refine bw_iinc (ls2 := [_, _, _, _, _]) rfl rfl rfl ⟨by omega, by omega⟩ rfl ?_
          refine bw_goto rfl ?_
          refine ih _ (by omega) (fun j h1 h2 => ?_) (by omega)
          by_cases q : j = k
          · rw [q]; exact hr20.elim (fun z => z.1) (fun z => absurd z.2 (by omega))
          · exact g2 j h1 (by omega)
        · skip
          refine bw_push rfl ?_
          refine bw_retz rfl rfl (by omega) ?_
          exact ⟨rfl, rfl, _, rfl, Or.inr ⟨fun h => hr20.elim (fun z => absurd z.2 (by omega)) (fun z => z.1 (h k (by omega) (by omega))), rfl⟩⟩
  show abW d (0, 0) 219 0 [some (vr (some 567)), some (vi a), some (vi m), some (vi e), none] [] (0, 0) (A0 L) M (qJ (A0 L) M (fun x => rdP (gI M 577) (gI M 578) a m e ∧ x = 1 ∨ ¬ rdP (gI M 577) (gI M 578) a m e ∧ x = 0))
  refine bw_iload rfl rfl ?_
  refine bw_istore (ls2 := [_, _, _, _, _]) rfl rfl (Nat.le_of_ble_eq_true rfl) rfl ?_
  exact L3 ((m - e).toNat + 1) e (by omega) (fun j h1 h2 => by omega) (by omega)
set_option maxRecDepth 20000 in
set_option maxHeartbeats 4000000 in
theorem m_isSwing {d L : Nat} {M : abMem} {r : abRf} (hR : RF r M) {a m e : Int} (ha : 0 ≤ a ∧ a + m ≤ 96) (he : 1 ≤ e ∧ e ≤ m ∧ m ≤ 2 * e - 2) (hd : 1 ≤ d) : abW d (0, 0) 220 0 (abEnt (abL 220) [vr (some 567), vi a, vi m, vi e]) [] (0, 0) (A0 L) M (qJ (A0 L) M (fun x => sgP (gI M 577) (gI M 578) a m e ∧ x = 1 ∨ ¬ sgP (gI M 577) (gI M 578) a m e ∧ x = 0)) := by
  have L3 : ∀ (kf : Nat) (k : Int), (e ≤ k ∧ k ≤ m) → (∀ j : Int, e ≤ j → j < k → lkP (gI M 577) (gI M 578) (a + j) (a + 2 * e - 2 - j)) → ((m - k).toNat) < kf → abW d (0, 0) 220 3 [some (vr (some 567)), some (vi a), some (vi m), some (vi e), some (vi k)] [] (0, 0) (A0 L) (M) (qJ (A0 L) M (fun x => sgP (gI M 577) (gI M 578) a m e ∧ x = 1 ∨ ¬ sgP (gI M 577) (gI M 578) a m e ∧ x = 0)) := by
    intro kf
    induction kf with
    | zero => intro k  g1 g2 hm9; exact absurd hm9 (Nat.not_lt_zero _)
    | succ kf ih3 =>
      intro k  g1 g2 hm3
      have ih := ih3
      refine bw_iload rfl rfl ?_
      refine bw_iload rfl rfl ?_
      refine bw_icge rfl (fun c6 => ?_) (fun c6 => ?_)
      · skip
        refine bw_push rfl ?_
        refine bw_retz rfl rfl (by omega) ?_
        exact ⟨rfl, rfl, _, rfl, Or.inl ⟨fun j h1 h2 => g2 j h1 (by omega), rfl⟩⟩
      · skip
        refine bw_aload rfl rfl ?_
        refine bw_iload rfl rfl ?_
        refine bw_iload rfl rfl ?_
        refine bw_iadd rfl ⟨by omega, by omega⟩ ?_
        refine bw_iload rfl rfl ?_
        refine bw_push rfl ?_
        refine bw_iload rfl rfl ?_
        refine bw_imul rfl ⟨by omega, by omega⟩ ?_
        refine bw_iadd rfl ⟨by omega, by omega⟩ ?_
        refine bw_push rfl ?_
        refine bw_isub rfl ⟨by omega, by omega⟩ ?_
        refine bw_iload rfl rfl ?_
        refine bw_isub rfl ⟨by omega, by omega⟩ ?_
        refine bw_callVj (e := d - 1) (as := [_, _]) rfl (by omega) rfl rfl (Nat.le_of_ble_eq_true rfl) (Nat.le_of_ble_eq_true rfl) rfl (m_areLike hR (by omega) (by omega)) (fun r24 hr24 => ?_)
        refine bw_ifne rfl (fun c27 => ?_) (fun c27 => ?_)
        · skip
          refine bw_iinc (ls2 := [_, _, _, _, _]) rfl rfl rfl ⟨by omega, by omega⟩ rfl ?_
          refine bw_goto rfl ?_
          refine ih _ (by omega) (fun j h1 h2 => ?_) (by omega)
          by_cases q : j = k
          · rw [q]; exact hr24.elim (fun z => z.1) (fun z => absurd z.2 (by omega))
          · exact g2 j h1 (by omega)
        · skip
          refine bw_push rfl ?_
          refine bw_retz rfl rfl (by omega) ?_
          exact ⟨rfl, rfl, _, rfl, Or.inr ⟨fun h => hr24.elim (fun z => absurd z.2 (by omega)) (fun z => z.1 (h k (by omega) (by omega))), rfl⟩⟩
  show abW d (0, 0) 220 0 [some (vr (some 567)), some (vi a), some (vi m), some (vi e), none] [] (0, 0) (A0 L) M (qJ (A0 L) M (fun x => sgP (gI M 577) (gI M 578) a m e ∧ x = 1 ∨ ¬ sgP (gI M 577) (gI M 578) a m e ∧ x = 0))
  refine bw_iload rfl rfl ?_
  refine bw_istore (ls2 := [_, _, _, _, _]) rfl rfl (Nat.le_of_ble_eq_true rfl) rfl ?_
  exact L3 ((m - e).toNat + 1) e (by omega) (fun j h1 h2 => by omega) (by omega)
set_option maxRecDepth 20000 in
set_option maxHeartbeats 4000000 in
theorem m_fewestOf {d L : Nat} {M : abMem} {r : abRf} (hR : RF r M) {a k : Int} (ha : 0 ≤ a ∧ a ≤ 96) (hk : 0 ≤ k ∧ 97 * a + k ≤ 9408) : abW d (0, 0) 221 0 (abEnt (abL 221) [vr (some 567), vi a, vi k]) [] (0, 0) (A0 L) M (qE (some (vi (if k = 0 then 0 else gI M 579 (97 * a + k)))) (A0 L) M) := by
  show abW d (0, 0) 221 0 [some (vr (some 567)), some (vi a), some (vi k)] [] (0, 0) (A0 L) M (qE (some (vi (if k = 0 then 0 else gI M 579 (97 * a + k)))) (A0 L) M)
  refine bw_iload rfl rfl ?_
  refine bw_ifne rfl (fun c1 => ?_) (fun c1 => ?_)
  · skip
    refine bw_aload rfl rfl ?_
    refine bw_getr rfl rfl (hR _ _) ?_
    refine bw_push rfl ?_
    refine bw_iload rfl rfl ?_
    refine bw_imul rfl ⟨by omega, by omega⟩ ?_
    refine bw_iload rfl rfl ?_
    refine bw_iadd rfl ⟨by omega, by omega⟩ ?_
    refine bw_aldi rfl (by first | rfl | assumption) (by omega) (by omega) ?_
    refine bw_ret rfl rfl ?_
    exact ⟨congrArg (fun x => some (vi x)) (by first | rfl | ((repeat (first | rw [if_pos (by omega)] | rw [if_neg (by omega)])) <;> first | rfl | omega)), rfl, rfl⟩
  · skip
    refine bw_push rfl ?_
    refine bw_goto rfl ?_
    refine bw_ret rfl rfl ?_
    exact ⟨congrArg (fun x => some (vi x)) (by first | rfl | ((repeat (first | rw [if_pos (by omega)] | rw [if_neg (by omega)])) <;> first | rfl | omega)), rfl, rfl⟩
set_option maxRecDepth 20000 in
set_option maxHeartbeats 4000000 in
theorem m_marksOf {d L : Nat} {M : abMem} {r : abRf} (hR : RF r M) {n a m : Int} (hn : n ≤ 96) (ha : 0 ≤ a ∧ a + m ≤ n) (hD : ∀ j : Int, 0 ≤ j → j < n → 0 ≤ gI M 577 j ∧ gI M 577 j ≤ 99) (hm : 1 ≤ m) (hF : ∀ b k : Int, a ≤ b → 1 ≤ k → k < m → b + k ≤ a + m → 1 ≤ gI M 579 (97 * b + k) ∧ gI M 579 (97 * b + k) ≤ k) (hd : 2 ≤ d) : abW d (0, 0) 222 0 (abEnt (abL 222) [vr (some 567), vi a, vi m]) [] (0, 0) (A0 L) M (qJ (A0 L) M (fun x => (m = 1 ∧ x = 1) ∨ (2 ≤ m ∧ isMn (cdP (gI M 577) (gI M 578) (fun b k : Int => gI M 579 (97 * b + k)) a m) x))) := by
  have L25 : ∀ (kf : Nat) (x k : Int), (1 ≤ k ∧ k ≤ m) → (lbP (gI M 577) (gI M 578) (fun b k : Int => gI M 579 (97 * b + k)) a m k x) → (2 ≤ m) → (0 ≤ x ∧ x ≤ 96) → ((m - k).toNat) < kf → abW d (0, 0) 222 25 [some (vr (some 567)), some (vi a), some (vi m), some (vi x), some (vi k)] [] (0, 0) (A0 L) (M) (qJ (A0 L) M (fun x => (m = 1 ∧ x = 1) ∨ (2 ≤ m ∧ isMn (cdP (gI M 577) (gI M 578) (fun b k : Int => gI M 579 (97 * b + k)) a m) x))) := by
    intro kf
    induction kf with
    | zero => intro x k  g1 g2 g3 g4 hm9; exact absurd hm9 (Nat.not_lt_zero _)
    | succ kf ih25 =>
      intro x k  g1 g2 g3 g4 hm25
      have ih := ih25
      refine bw_iload rfl rfl ?_
      refine bw_iload rfl rfl ?_
      refine bw_icge rfl (fun c28 => ?_) (fun c28 => ?_)
      · skip
        refine bw_iload rfl rfl ?_
        refine bw_push rfl ?_
        refine bw_idiv rfl (by omega) (by omega) ?_
        refine bw_push rfl ?_
        refine bw_iadd rfl ⟨by omega, by omega⟩ ?_
        refine bw_istore (ls2 := [_, _, _, _, _]) rfl rfl (Nat.le_of_ble_eq_true rfl) rfl ?_
        refine bw_iload rfl rfl ?_
        refine bw_push rfl ?_
        refine bw_irem rfl (by omega) (by omega) ?_
        refine bw_ifne rfl (fun c104 => ?_) (fun c104 => ?_)
        · skip
          refine bw_iload rfl rfl ?_
          refine bw_ret rfl rfl ?_
          obtain rfl : k = m := by omega
          first
          | exact ⟨rfl, rfl, _, rfl, Or.inr ⟨g3, lbP_e g2 (fun q => by omega)⟩⟩
          | exact ⟨rfl, rfl, _, rfl, Or.inr ⟨g3, lbP_e g2 (fun q => hr118.elim (fun z => absurd z.2 (by omega)) (fun z => z.1 q.2.2))⟩⟩
          | exact ⟨rfl, rfl, _, rfl, Or.inr ⟨g3, lbP_s g2 (by omega) (by omega) (hr118.elim (fun z => z.1) (fun z => absurd z.2 (by omega)))⟩⟩
        · skip
          refine bw_iload rfl rfl ?_
          refine bw_push rfl ?_
          refine bw_icle rfl (fun c110 => ?_) (fun c110 => ?_)
          · skip
            refine bw_iload rfl rfl ?_
            refine bw_ret rfl rfl ?_
            obtain rfl : k = m := by omega
            first
            | exact ⟨rfl, rfl, _, rfl, Or.inr ⟨g3, lbP_e g2 (fun q => by omega)⟩⟩
            | exact ⟨rfl, rfl, _, rfl, Or.inr ⟨g3, lbP_e g2 (fun q => hr118.elim (fun z => absurd z.2 (by omega)) (fun z => z.1 q.2.2))⟩⟩
            | exact ⟨rfl, rfl, _, rfl, Or.inr ⟨g3, lbP_s g2 (by omega) (by omega) (hr118.elim (fun z => z.1) (fun z => absurd z.2 (by omega)))⟩⟩
          · skip
            refine bw_aload rfl rfl ?_
            refine bw_iload rfl rfl ?_
            refine bw_iload rfl rfl ?_
            refine bw_iload rfl rfl ?_
            refine bw_callVj (e := d - 1) (as := [_, _, _]) rfl (by omega) rfl rfl (Nat.le_of_ble_eq_true rfl) (Nat.le_of_ble_eq_true rfl) rfl (m_isSwing hR (by omega) (by omega) (by omega)) (fun r118 hr118 => ?_)
            refine bw_ifeq rfl (fun c121 => ?_) (fun c121 => ?_)
            · skip
              refine bw_iload rfl rfl ?_
              refine bw_ret rfl rfl ?_
              obtain rfl : k = m := by omega
              first
              | exact ⟨rfl, rfl, _, rfl, Or.inr ⟨g3, lbP_e g2 (fun q => by omega)⟩⟩
              | exact ⟨rfl, rfl, _, rfl, Or.inr ⟨g3, lbP_e g2 (fun q => hr118.elim (fun z => absurd z.2 (by omega)) (fun z => z.1 q.2.2))⟩⟩
              | exact ⟨rfl, rfl, _, rfl, Or.inr ⟨g3, lbP_s g2 (by omega) (by omega) (hr118.elim (fun z => z.1) (fun z => absurd z.2 (by omega)))⟩⟩
            · skip
              refine bw_iload rfl rfl ?_
              refine bw_aload rfl rfl ?_
              refine bw_iload rfl rfl ?_
              refine bw_iload rfl rfl ?_
              refine bw_callVe (e := d - 1) (as := [_, _]) rfl (by omega) rfl rfl (Nat.le_of_ble_eq_true rfl) (Nat.le_of_ble_eq_true rfl) rfl (m_fewestOf hR (by omega) (by omega)) ?_
              rw [if_neg (by omega)]
              have f3 := hF a (m / 2 + 1) (by omega) (by omega) (by omega) (by omega)
              refine bw_push rfl ?_
              refine bw_iadd rfl ⟨by omega, by omega⟩ ?_
              refine bw_callSe (e := d - 1) (as := [_, _]) rfl (by omega) rfl rfl (Nat.le_of_ble_eq_true rfl) (Nat.le_of_ble_eq_true rfl) (m_lesser hR) ?_
              refine bw_istore (ls2 := [_, _, _, _, _]) rfl rfl (Nat.le_of_ble_eq_true rfl) rfl ?_
              refine bw_iload rfl rfl ?_
              refine bw_ret rfl rfl ?_
              obtain rfl : k = m := by omega
              first
              | exact ⟨rfl, rfl, _, rfl, Or.inr ⟨g3, lbP_e g2 (fun q => by omega)⟩⟩
              | exact ⟨rfl, rfl, _, rfl, Or.inr ⟨g3, lbP_e g2 (fun q => hr118.elim (fun z => absurd z.2 (by omega)) (fun z => z.1 q.2.2))⟩⟩
              | exact ⟨rfl, rfl, _, rfl, Or.inr ⟨g3, lbP_s g2 (by omega) (by omega) (hr118.elim (fun z => z.1) (fun z => absurd z.2 (by omega)))⟩⟩
      · skip
        refine bw_iload rfl rfl ?_
        refine bw_aload rfl rfl ?_
        refine bw_iload rfl rfl ?_
        refine bw_iload rfl rfl ?_
        refine bw_callVe (e := d - 1) (as := [_, _]) rfl (by omega) rfl rfl (Nat.le_of_ble_eq_true rfl) (Nat.le_of_ble_eq_true rfl) rfl (m_fewestOf hR (by omega) (by omega)) ?_
        rw [if_neg (by omega)]
        have f1 := hF a k (by omega) (by omega) (by omega) (by omega)
        refine bw_aload rfl rfl ?_
        refine bw_iload rfl rfl ?_
        refine bw_iload rfl rfl ?_
        refine bw_iadd rfl ⟨by omega, by omega⟩ ?_
        refine bw_iload rfl rfl ?_
        refine bw_iload rfl rfl ?_
        refine bw_isub rfl ⟨by omega, by omega⟩ ?_
        refine bw_callVe (e := d - 1) (as := [_, _]) rfl (by omega) rfl rfl (Nat.le_of_ble_eq_true rfl) (Nat.le_of_ble_eq_true rfl) rfl (m_fewestOf hR (by omega) (by omega)) ?_
        rw [if_neg (by omega)]
        have f2 := hF (a + k) (m - k) (by omega) (by omega) (by omega) (by omega)
        refine bw_iadd rfl ⟨by omega, by omega⟩ ?_
        refine bw_callSe (e := d - 1) (as := [_, _]) rfl (by omega) rfl rfl (Nat.le_of_ble_eq_true rfl) (Nat.le_of_ble_eq_true rfl) (m_lesser hR) ?_
        refine bw_istore (ls2 := [_, _, _, _, _]) rfl rfl (Nat.le_of_ble_eq_true rfl) rfl ?_
        refine bw_iload rfl rfl ?_
        refine bw_iload rfl rfl ?_
        refine bw_irem rfl (by omega) (by omega) ?_
        refine bw_ifne rfl (fun c60 => ?_) (fun c60 => ?_)
        · skip
          refine bw_iinc (ls2 := [_, _, _, _, _]) rfl rfl rfl ⟨by omega, by omega⟩ rfl ?_
          refine bw_goto rfl ?_
          first
          | exact ih _ _ (by omega) (lbP_1 g2 (by omega) (fun q => by omega)) g3 (by omega) (by omega)
          | exact ih _ _ (by omega) (lbP_1 g2 (by omega) (fun q => hr68.elim (fun z => absurd z.2 (by omega)) (fun z => z.1 q.2))) g3 (by omega) (by omega)
          | exact ih _ _ (by omega) (lbP_2 g2 (by omega) (by omega) (hr68.elim (fun z => z.1) (fun z => absurd z.2 (by omega)))) g3 (by omega) (by omega)
        · skip
          refine bw_aload rfl rfl ?_
          refine bw_iload rfl rfl ?_
          refine bw_iload rfl rfl ?_
          refine bw_iload rfl rfl ?_
          refine bw_callVj (e := d - 1) (as := [_, _, _]) rfl (by omega) rfl rfl (Nat.le_of_ble_eq_true rfl) (Nat.le_of_ble_eq_true rfl) rfl (m_isRound hR (by omega) (by omega) (by omega)) (fun r68 hr68 => ?_)
          refine bw_ifeq rfl (fun c71 => ?_) (fun c71 => ?_)
          · skip
            refine bw_iinc (ls2 := [_, _, _, _, _]) rfl rfl rfl ⟨by omega, by omega⟩ rfl ?_
            refine bw_goto rfl ?_
            first
            | exact ih _ _ (by omega) (lbP_1 g2 (by omega) (fun q => by omega)) g3 (by omega) (by omega)
            | exact ih _ _ (by omega) (lbP_1 g2 (by omega) (fun q => hr68.elim (fun z => absurd z.2 (by omega)) (fun z => z.1 q.2))) g3 (by omega) (by omega)
            | exact ih _ _ (by omega) (lbP_2 g2 (by omega) (by omega) (hr68.elim (fun z => z.1) (fun z => absurd z.2 (by omega)))) g3 (by omega) (by omega)
          · skip
            refine bw_iload rfl rfl ?_
            refine bw_aload rfl rfl ?_
            refine bw_iload rfl rfl ?_
            refine bw_iload rfl rfl ?_
            refine bw_callVe (e := d - 1) (as := [_, _]) rfl (by omega) rfl rfl (Nat.le_of_ble_eq_true rfl) (Nat.le_of_ble_eq_true rfl) rfl (m_fewestOf hR (by omega) (by omega)) ?_
            rw [if_neg (by omega)]
            refine bw_push rfl ?_
            refine bw_iadd rfl ⟨by omega, by omega⟩ ?_
            refine bw_callSe (e := d - 1) (as := [_, _]) rfl (by omega) rfl rfl (Nat.le_of_ble_eq_true rfl) (Nat.le_of_ble_eq_true rfl) (m_lesser hR) ?_
            refine bw_istore (ls2 := [_, _, _, _, _]) rfl rfl (Nat.le_of_ble_eq_true rfl) rfl ?_
            refine bw_iinc (ls2 := [_, _, _, _, _]) rfl rfl rfl ⟨by omega, by omega⟩ rfl ?_
            refine bw_goto rfl ?_
            first
            | exact ih _ _ (by omega) (lbP_1 g2 (by omega) (fun q => by omega)) g3 (by omega) (by omega)
            | exact ih _ _ (by omega) (lbP_1 g2 (by omega) (fun q => hr68.elim (fun z => absurd z.2 (by omega)) (fun z => z.1 q.2))) g3 (by omega) (by omega)
            | exact ih _ _ (by omega) (lbP_2 g2 (by omega) (by omega) (hr68.elim (fun z => z.1) (fun z => absurd z.2 (by omega)))) g3 (by omega) (by omega)
  show abW d (0, 0) 222 0 [some (vr (some 567)), some (vi a), some (vi m), none, none] [] (0, 0) (A0 L) M (qJ (A0 L) M (fun x => (m = 1 ∧ x = 1) ∨ (2 ≤ m ∧ isMn (cdP (gI M 577) (gI M 578) (fun b k : Int => gI M 579 (97 * b + k)) a m) x)))
  refine bw_iload rfl rfl ?_
  refine bw_push rfl ?_
  refine bw_icne rfl (fun c2 => ?_) (fun c2 => ?_)
  · skip
    refine bw_aload rfl rfl ?_
    refine bw_iload rfl rfl ?_
    refine bw_iload rfl rfl ?_
    refine bw_callVj (e := d - 1) (as := [_, _]) rfl (by omega) rfl rfl (Nat.le_of_ble_eq_true rfl) (Nat.le_of_ble_eq_true rfl) rfl (m_isRun hR hn (by omega) hD (by omega) (by omega)) (fun r10 hr10 => ?_)
    refine bw_ifeq rfl (fun c13 => ?_) (fun c13 => ?_)
    · skip
      refine bw_iload rfl rfl ?_
      refine bw_istore (ls2 := [_, _, _, _, _]) rfl rfl (Nat.le_of_ble_eq_true rfl) rfl ?_
      refine bw_push rfl ?_
      refine bw_istore (ls2 := [_, _, _, _, _]) rfl rfl (Nat.le_of_ble_eq_true rfl) rfl ?_
      first
      | (have hr := hr10.elim (fun q => q.1) (fun q => absurd q.2 (by omega))
         exact L25 (m.toNat + 1) 2 1 (by omega) ⟨Or.inr (Or.inl ⟨hr, rfl⟩), by omega, fun _ => Int.le_refl _, fun k h1 h2 _ => by omega, fun k h1 h2 _ => by omega⟩ (by omega) (by omega) (by omega))
      | (have hr := hr10.elim (fun q => absurd q.2 (by omega)) (fun q => q.1)
         exact L25 (m.toNat + 1) m 1 (by omega) ⟨Or.inl rfl, by omega, fun h => absurd h hr, fun k h1 h2 _ => by omega, fun k h1 h2 _ => by omega⟩ (by omega) (by omega) (by omega))
    · skip
      refine bw_push rfl ?_
      refine bw_goto rfl ?_
      refine bw_istore (ls2 := [_, _, _, _, _]) rfl rfl (Nat.le_of_ble_eq_true rfl) rfl ?_
      refine bw_push rfl ?_
      refine bw_istore (ls2 := [_, _, _, _, _]) rfl rfl (Nat.le_of_ble_eq_true rfl) rfl ?_
      first
      | (have hr := hr10.elim (fun q => q.1) (fun q => absurd q.2 (by omega))
         exact L25 (m.toNat + 1) 2 1 (by omega) ⟨Or.inr (Or.inl ⟨hr, rfl⟩), by omega, fun _ => Int.le_refl _, fun k h1 h2 _ => by omega, fun k h1 h2 _ => by omega⟩ (by omega) (by omega) (by omega))
      | (have hr := hr10.elim (fun q => absurd q.2 (by omega)) (fun q => q.1)
         exact L25 (m.toNat + 1) m 1 (by omega) ⟨Or.inl rfl, by omega, fun h => absurd h hr, fun k h1 h2 _ => by omega, fun k h1 h2 _ => by omega⟩ (by omega) (by omega) (by omega))
  · skip
    refine bw_push rfl ?_
    refine bw_ret rfl rfl ?_
    exact ⟨rfl, rfl, _, rfl, Or.inl ⟨by omega, rfl⟩⟩
