/-- the table of the fewest marks -/
def leF (N : abMem) : Int → Int → Int := fun b k => gI N (275 + b.toNat) (b + k)
def lbQ (D T : Int → Int) (F : Int → Int → Int) (a m k0 x : Int) : Prop := cdP D T F a m x ∧ x ≤ m ∧ (rnP D T a m → x ≤ 2) ∧ (∀ k : Int, 1 ≤ k → k < k0 → k < m → x ≤ F a k + F (a + k) (m - k))
def lbR (D T : Int → Int) (F : Int → Int → Int) (a m k0 x : Int) : Prop := lbQ D T F a m m x ∧ (∀ k : Int, 1 ≤ k → k < k0 → k < m → m % k = 0 → rdP D T a m k → x ≤ F a k + 1)
section
variable {D T : Int → Int} {F : Int → Int → Int} {a m k x : Int}
theorem lbQ_0 (h : (rnP D T a m ∧ x = 2 ∧ 2 ≤ m) ∨ (¬ rnP D T a m ∧ x = m)) : lbQ D T F a m 1 x := by
  rcases h with ⟨h1, h2, h3⟩ | ⟨h1, h2⟩
  · exact ⟨Or.inr (Or.inl ⟨h1, h2⟩), by omega, fun _ => by omega, fun k k1 k2 => by omega⟩
  · exact ⟨Or.inl h2, by omega, fun h => absurd h h1, fun k k1 k2 => by omega⟩
theorem lbQ_s (h : lbQ D T F a m k x) (hk : 1 ≤ k ∧ k < m) : lbQ D T F a m (k + 1) (min x (F a k + F (a + k) (m - k))) := by
  obtain ⟨h1, h2, h3, h4⟩ := h
  refine ⟨?_, by omega, fun r => by have := h3 r; omega, fun j j1 j2 j3 => ?_⟩
  · by_cases q : x ≤ F a k + F (a + k) (m - k)
    · rw [show min x (F a k + F (a + k) (m - k)) = x by omega]; exact h1
    · rw [show min x (F a k + F (a + k) (m - k)) = F a k + F (a + k) (m - k) by omega]
      exact Or.inr (Or.inr (Or.inl ⟨k, hk.1, hk.2, rfl⟩))
  · by_cases q : j = k
    · rw [q]; omega
    · have := h4 j j1 (by omega) j3; omega
theorem lbR_s (h : lbR D T F a m k x) (hk : 1 ≤ k ∧ k < m) (hd : m % k = 0) (hr : rdP D T a m k) : lbR D T F a m (k + 1) (min x (F a k + 1)) := by
  obtain ⟨⟨h1, h2, h3, h4⟩, h5⟩ := h
  refine ⟨⟨?_, by omega, fun r => by have := h3 r; omega, fun j j1 j2 j3 => by have := h4 j j1 j2 j3; omega⟩, fun j j1 j2 j3 j4 j5 => ?_⟩
  · by_cases q : x ≤ F a k + 1
    · rw [show min x (F a k + 1) = x by omega]; exact h1
    · rw [show min x (F a k + 1) = F a k + 1 by omega]
      exact Or.inr (Or.inr (Or.inr (Or.inl ⟨k, hk.1, hk.2, hd, hr, rfl⟩)))
  · by_cases q : j = k
    · rw [q]; omega
    · have := h5 j j1 (by omega) j3 j4 j5; omega
theorem lbR_k (h : lbR D T F a m k x) (hk : ¬ (m % k = 0 ∧ rdP D T a m k)) : lbR D T F a m (k + 1) x := by
  refine ⟨h.1, fun j j1 j2 j3 j4 j5 => ?_⟩
  by_cases q : j = k
  · rw [q] at j4 j5; exact absurd ⟨j4, j5⟩ hk
  · exact h.2 j j1 (by omega) j3 j4 j5
theorem mod_half (hk : 1 ≤ k) (h : m < 2 * k) (hm : k < m) : m % k ≠ 0 := by
  have e : m % k = m - k := by
    rw [← Int.sub_emod_right m k]
    exact Int.emod_eq_of_lt (by omega) (by omega)
  omega
theorem lb_all (h : lbR D T F a m k x) (hk : m < 2 * k) (hk1 : 1 ≤ k) : ∀ j : Int, 1 ≤ j → j < m → m % j = 0 → rdP D T a m j → x ≤ F a j + 1 := fun j j1 j2 j3 j4 => by
  by_cases q : j < k
  · exact h.2 j j1 q j2 j3 j4
  · exact absurd j3 (mod_half j1 (by omega) j2)
theorem lb_mn0 (h : lbR D T F a m k x) (hk : m < 2 * k) (hk1 : 1 ≤ k) (hs : ¬ (m % 2 = 0 ∧ 4 ≤ m ∧ sgP D T a m (m / 2 + 1))) : isMn (cdP D T F a m) x := by
  have ha := lb_all h hk hk1
  obtain ⟨⟨h1, h2, h3, h4⟩, h5⟩ := h
  refine ⟨h1, fun y hy => ?_⟩
  rcases hy with c | ⟨c0, c⟩ | ⟨j, j1, j2, c⟩ | ⟨j, j1, j2, j3, j4, c⟩ | ⟨c1, c2, c3, c⟩
  · omega
  · have := h3 c0; omega
  · have := h4 j j1 j2 j2; omega
  · have := ha j j1 j2 j3 j4; omega
  · exact absurd ⟨c1, c2, c3⟩ hs
theorem lb_mn1 (h : lbR D T F a m k x) (hk : m < 2 * k) (hk1 : 1 ≤ k) (hs : m % 2 = 0 ∧ 4 ≤ m ∧ sgP D T a m (m / 2 + 1)) : isMn (cdP D T F a m) (min x (F a (m / 2 + 1) + 1)) := by
  have ha := lb_all h hk hk1
  obtain ⟨⟨h1, h2, h3, h4⟩, h5⟩ := h
  refine ⟨?_, fun y hy => ?_⟩
  · by_cases q : x ≤ F a (m / 2 + 1) + 1
    · rw [show min x (F a (m / 2 + 1) + 1) = x by omega]; exact h1
    · rw [show min x (F a (m / 2 + 1) + 1) = F a (m / 2 + 1) + 1 by omega]
      exact Or.inr (Or.inr (Or.inr (Or.inr ⟨hs.1, hs.2.1, hs.2.2, rfl⟩)))
  · rcases hy with c | ⟨c0, c⟩ | ⟨j, j1, j2, c⟩ | ⟨j, j1, j2, j3, j4, c⟩ | ⟨c1, c2, c3, c⟩
    · omega
    · have := h3 c0; omega
    · have := h4 j j1 j2 j2; omega
    · have := ha j j1 j2 j3 j4; omega
    · omega
theorem lb_in (h : cdP D T F a m x) (hm : 2 ≤ m) (hF : ∀ k : Int, 1 ≤ k → k < m → (1 ≤ F a k ∧ F a k ≤ k) ∧ (1 ≤ F (a + k) (m - k) ∧ F (a + k) (m - k) ≤ m - k)) : 1 ≤ x ∧ x ≤ m + 96 := by
  rcases h with c | ⟨c0, c⟩ | ⟨j, j1, j2, c⟩ | ⟨j, j1, j2, j3, j4, c⟩ | ⟨c1, c2, c3, c⟩
  · omega
  · omega
  · have := hF j j1 j2; omega
  · have := hF j j1 j2; omega
  · have := hF (m / 2 + 1) (by omega) (by omega); omega
end
set_option maxRecDepth 20000 in
set_option maxHeartbeats 4000000 in
theorem c_fewestOf {d L : Nat} {M : abMem} {r : abRf} (hR : RF r M) {D T : Int → Int} {c : Int} (hM : MkP M D T c) (hr : rnT M D T c c) (hi : mrT M D T c c) (he : ecT M D T c 97) {a m : Int} (ha : 0 ≤ a ∧ 2 ≤ m ∧ a + m ≤ c) (hF : ∀ b k : Int, a ≤ b → 1 ≤ k → k < m → b + k ≤ a + m → 1 ≤ leF M b k ∧ leF M b k ≤ k) (hd : 1 ≤ d) : abW d (0, 0) 28 0 (abEnt (abL 28) [vr (some 219), vi a, vi m]) [] (0, 0) (A0 L) M (qJ (A0 L) M (fun x => isMn (cdP D T (leF M) a m) x)) := by
  have c0 := hM.1
  have c1 := hM.2.1
  have hF2 : ∀ k : Int, 1 ≤ k → k < m → (1 ≤ leF M a k ∧ leF M a k ≤ k) ∧ (1 ≤ leF M (a + k) (m - k) ∧ leF M (a + k) (m - k) ≤ m - k) := fun k k1 k2 => ⟨hF a k (by omega) k1 k2 (by omega), hF (a + k) (m - k) (by omega) (by omega) (by omega) (by omega)⟩
  have rn := hr a (by omega) (by omega) m (by omega) (by omega)
  have L67 : ∀ (kf : Nat) (x i : Int), (lbR D T (leF M) a m i x) → (1 ≤ i ∧ 2 * i ≤ m + 2) → ((m + 2 - i).toNat) < kf → abW d (0, 0) 28 67 [some (vr (some 219)), some (vi a), some (vi m), some (vi (a + m)), some (vi x), some (vi i)] [] (0, 0) (A0 L) (M) (qJ (A0 L) M (fun x => isMn (cdP D T (leF M) a m) x)) := by
    intro kf
    induction kf with
    | zero => intro x i  g1 g2 hm9; exact absurd hm9 (Nat.not_lt_zero _)
    | succ kf ih67 =>
      intro x i  g1 g2 hm67
      have ih := ih67
      have lx := lb_in g1.1.1 (by omega) hF2
      refine bw_push rfl ?_
      refine bw_iload rfl rfl ?_
      refine bw_imul rfl ⟨by omega, by omega⟩ ?_
      refine bw_iload rfl rfl ?_
      refine bw_icgt rfl (fun c72 => ?_) (fun c72 => ?_)
      · skip
        refine bw_iload rfl rfl ?_
        refine bw_iload rfl rfl ?_
        refine bw_push rfl ?_
        refine bw_idiv rfl (by omega) (by omega) ?_
        refine bw_iadd rfl ⟨by omega, by omega⟩ ?_
        refine bw_istore (ls2 := [_, _, _, _, _, _]) rfl rfl (Nat.le_of_ble_eq_true rfl) rfl ?_
        refine bw_iload rfl rfl ?_
        refine bw_push rfl ?_
        refine bw_iclt rfl (fun c133 => ?_) (fun c133 => ?_)
        · skip
          refine bw_iload rfl rfl ?_
          refine bw_ret rfl rfl ?_
          first
          | exact ⟨rfl, rfl, _, rfl, lb_mn1 g1 (by omega) (by omega) ⟨by omega, by omega, ms.mpr (by omega)⟩⟩
          | exact ⟨rfl, rfl, _, rfl, lb_mn0 g1 (by omega) (by omega) (fun h => by have := h.1; have := h.2.1; omega)⟩
          | exact ⟨rfl, rfl, _, rfl, lb_mn0 g1 (by omega) (by omega) (fun h => by have := ms.mp h.2.2; omega)⟩
        · skip
          refine bw_iload rfl rfl ?_
          refine bw_push rfl ?_
          refine bw_irem rfl (by omega) (by omega) ?_
          refine bw_ifne rfl (fun c139 => ?_) (fun c139 => ?_)
          · skip
            refine bw_iload rfl rfl ?_
            refine bw_ret rfl rfl ?_
            first
            | exact ⟨rfl, rfl, _, rfl, lb_mn1 g1 (by omega) (by omega) ⟨by omega, by omega, ms.mpr (by omega)⟩⟩
            | exact ⟨rfl, rfl, _, rfl, lb_mn0 g1 (by omega) (by omega) (fun h => by have := h.1; have := h.2.1; omega)⟩
            | exact ⟨rfl, rfl, _, rfl, lb_mn0 g1 (by omega) (by omega) (fun h => by have := ms.mp h.2.2; omega)⟩
          · skip
            refine bw_aload rfl rfl ?_
            refine bw_getr rfl rfl (hR _ _) ?_
            refine bw_iload rfl rfl ?_
            have ms := mr_sw (D := D) (T := T) (a := a) (m := m) (by omega) (by omega) (by omega) (by omega) (hi (a + m / 2) (by omega) (by omega))
            refine bw_aldi rfl (by first | rfl | assumption) (by omega) (by omega) ?_
            refine bw_iload rfl rfl ?_
            refine bw_push rfl ?_
            refine bw_idiv rfl (by omega) (by omega) ?_
            refine bw_push rfl ?_
            refine bw_isub rfl ⟨by omega, by omega⟩ ?_
            refine bw_iclt rfl (fun c154 => ?_) (fun c154 => ?_)
            · skip
              refine bw_iload rfl rfl ?_
              refine bw_ret rfl rfl ?_
              first
              | exact ⟨rfl, rfl, _, rfl, lb_mn1 g1 (by omega) (by omega) ⟨by omega, by omega, ms.mpr (by omega)⟩⟩
              | exact ⟨rfl, rfl, _, rfl, lb_mn0 g1 (by omega) (by omega) (fun h => by have := h.1; have := h.2.1; omega)⟩
              | exact ⟨rfl, rfl, _, rfl, lb_mn0 g1 (by omega) (by omega) (fun h => by have := ms.mp h.2.2; omega)⟩
            · skip
              refine bw_iload rfl rfl ?_
              refine bw_aload rfl rfl ?_
              refine bw_getr rfl rfl (hR _ _) ?_
              refine bw_iload rfl rfl ?_
              refine bw_aldr rfl (by first | rfl | assumption) (by decide) (by omega) (by omega) ((hR _ _).trans (rr_row (fun _ => rfl) (by omega) (by omega) (by omega))) ?_
              refine bw_iload rfl rfl ?_
              refine bw_push rfl ?_
              refine bw_iadd rfl ⟨by omega, by omega⟩ ?_
              refine bw_aldi rfl (kfa (b := 275) (n := 97) (v := (20, 97)) (by decide) (by decide) ⟨by omega, by omega⟩) (by omega) (by omega) ?_
              have e1 : gI M (275 + a.toNat) (a + m / 2 + 1) = leF M a (m / 2 + 1) := by show _ = gI M (275 + a.toNat) (a + (m / 2 + 1)); rw [Int.add_assoc]
              rw [e1]
              have b1 := hF2 (m / 2 + 1) (by omega) (by omega)
              refine bw_push rfl ?_
              refine bw_iadd rfl ⟨by omega, by omega⟩ ?_
              refine bw_min rfl (by omega) (Nat.le_of_ble_eq_true rfl) (by decide) (by decide) ?_
              refine bw_istore (ls2 := [_, _, _, _, _, _]) rfl rfl (Nat.le_of_ble_eq_true rfl) rfl ?_
              refine bw_iload rfl rfl ?_
              refine bw_ret rfl rfl ?_
              first
              | exact ⟨rfl, rfl, _, rfl, lb_mn1 g1 (by omega) (by omega) ⟨by omega, by omega, ms.mpr (by omega)⟩⟩
              | exact ⟨rfl, rfl, _, rfl, lb_mn0 g1 (by omega) (by omega) (fun h => by have := h.1; have := h.2.1; omega)⟩
              | exact ⟨rfl, rfl, _, rfl, lb_mn0 g1 (by omega) (by omega) (fun h => by have := ms.mp h.2.2; omega)⟩
      · skip
        refine bw_iload rfl rfl ?_
        refine bw_iload rfl rfl ?_
        refine bw_irem rfl (by omega) (by omega) ?_
        refine bw_ifne rfl (fun c79 => ?_) (fun c79 => ?_)
        · skip
          refine bw_iinc (ls2 := [_, _, _, _, _, _]) rfl rfl rfl ⟨by omega, by omega⟩ rfl ?_
          refine bw_goto rfl ?_
          first
          | exact ih _ _ (lbR_s g1 (by omega) (by omega) (ek.mpr (by omega))) (by omega) (by omega)
          | exact ih _ _ (lbR_k g1 (fun h => by have := h.1; omega)) (by omega) (by omega)
          | exact ih _ _ (lbR_k g1 (fun h => by have := ek.mp h.2; omega)) (by omega) (by omega)
        · skip
          refine bw_aload rfl rfl ?_
          refine bw_getr rfl rfl (hR _ _) ?_
          refine bw_iload rfl rfl ?_
          refine bw_aldr rfl (by first | rfl | assumption) (by decide) (by omega) (by omega) ((hR _ _).trans (rr_row (fun _ => rfl) (by omega) (by omega) (by omega))) ?_
          refine bw_iload rfl rfl ?_
          have ek := ec_rd (D := D) (T := T) (a := a) (m := m) (by omega) (by omega) (he i (by omega) (by omega) (by omega) a (by omega) (by omega))
          refine bw_aldi rfl (kfa (b := 225) (n := 49) (v := (20, 96)) (by decide) (by decide) ⟨by omega, by omega⟩) (by omega) (by omega) ?_
          refine bw_iload rfl rfl ?_
          refine bw_iload rfl rfl ?_
          refine bw_isub rfl ⟨by omega, by omega⟩ ?_
          refine bw_iclt rfl (fun c95 => ?_) (fun c95 => ?_)
          · skip
            refine bw_iinc (ls2 := [_, _, _, _, _, _]) rfl rfl rfl ⟨by omega, by omega⟩ rfl ?_
            refine bw_goto rfl ?_
            first
            | exact ih _ _ (lbR_s g1 (by omega) (by omega) (ek.mpr (by omega))) (by omega) (by omega)
            | exact ih _ _ (lbR_k g1 (fun h => by have := h.1; omega)) (by omega) (by omega)
            | exact ih _ _ (lbR_k g1 (fun h => by have := ek.mp h.2; omega)) (by omega) (by omega)
          · skip
            refine bw_iload rfl rfl ?_
            refine bw_aload rfl rfl ?_
            refine bw_getr rfl rfl (hR _ _) ?_
            refine bw_iload rfl rfl ?_
            refine bw_aldr rfl (by first | rfl | assumption) (by decide) (by omega) (by omega) ((hR _ _).trans (rr_row (fun _ => rfl) (by omega) (by omega) (by omega))) ?_
            refine bw_iload rfl rfl ?_
            refine bw_iload rfl rfl ?_
            refine bw_iadd rfl ⟨by omega, by omega⟩ ?_
            refine bw_aldi rfl (kfa (b := 275) (n := 97) (v := (20, 97)) (by decide) (by decide) ⟨by omega, by omega⟩) (by omega) (by omega) ?_
            have e1 : gI M (275 + a.toNat) (a + i) = leF M a i := rfl
            rw [e1]
            have b1 := hF2 i (by omega) (by omega)
            refine bw_push rfl ?_
            refine bw_iadd rfl ⟨by omega, by omega⟩ ?_
            refine bw_min rfl (by omega) (Nat.le_of_ble_eq_true rfl) (by decide) (by decide) ?_
            refine bw_istore (ls2 := [_, _, _, _, _, _]) rfl rfl (Nat.le_of_ble_eq_true rfl) rfl ?_
            refine bw_iinc (ls2 := [_, _, _, _, _, _]) rfl rfl rfl ⟨by omega, by omega⟩ rfl ?_
            refine bw_goto rfl ?_
            first
            | exact ih _ _ (lbR_s g1 (by omega) (by omega) (ek.mpr (by omega))) (by omega) (by omega)
            | exact ih _ _ (lbR_k g1 (fun h => by have := h.1; omega)) (by omega) (by omega)
            | exact ih _ _ (lbR_k g1 (fun h => by have := ek.mp h.2; omega)) (by omega) (by omega)
  have L26 : ∀ (kf : Nat) (x i : Int), (lbQ D T (leF M) a m (i - a) x) → (a + 1 ≤ i ∧ i ≤ a + m) → ((a + m - i).toNat) < kf → abW d (0, 0) 28 26 [some (vr (some 219)), some (vi a), some (vi m), some (vi (a + m)), some (vi x), some (vi i)] [] (0, 0) (A0 L) (M) (qJ (A0 L) M (fun x => isMn (cdP D T (leF M) a m) x)) := by
    intro kf
    induction kf with
    | zero => intro x i  g1 g2 hm9; exact absurd hm9 (Nat.not_lt_zero _)
    | succ kf ih26 =>
      intro x i  g1 g2 hm26
      have ih := ih26
      have lx := lb_in g1.1 (by omega) hF2
      refine bw_iload rfl rfl ?_
      refine bw_iload rfl rfl ?_
      refine bw_icge rfl (fun c29 => ?_) (fun c29 => ?_)
      · skip
        refine bw_push rfl ?_
        refine bw_istore (ls2 := [_, _, _, _, _, _]) rfl rfl (Nat.le_of_ble_eq_true rfl) rfl ?_
        obtain rfl : i = a + m := by omega
        rw [show a + m - a = m by omega] at g1
        exact L67 (m.toNat + 3) _ 1 ⟨g1, fun k k1 k2 => by omega⟩ (by omega) (by omega)
      · skip
        refine bw_iload rfl rfl ?_
        refine bw_aload rfl rfl ?_
        refine bw_getr rfl rfl (hR _ _) ?_
        refine bw_iload rfl rfl ?_
        refine bw_aldr rfl (by first | rfl | assumption) (by decide) (by omega) (by omega) ((hR _ _).trans (rr_row (fun _ => rfl) (by omega) (by omega) (by omega))) ?_
        refine bw_iload rfl rfl ?_
        refine bw_aldi rfl (kfa (b := 275) (n := 97) (v := (20, 97)) (by decide) (by decide) ⟨by omega, by omega⟩) (by omega) (by omega) ?_
        have e1 : gI M (275 + a.toNat) i = leF M a (i - a) := by show _ = gI M (275 + a.toNat) (a + (i - a)); rw [show a + (i - a) = i by omega]
        rw [e1]
        have b1 := hF2 (i - a) (by omega) (by omega)
        refine bw_aload rfl rfl ?_
        refine bw_getr rfl rfl (hR _ _) ?_
        refine bw_iload rfl rfl ?_
        refine bw_aldr rfl (by first | rfl | assumption) (by decide) (by omega) (by omega) ((hR _ _).trans (rr_row (fun _ => rfl) (by omega) (by omega) (by omega))) ?_
        refine bw_iload rfl rfl ?_
        refine bw_aldi rfl (kfa (b := 275) (n := 97) (v := (20, 97)) (by decide) (by decide) ⟨by omega, by omega⟩) (by omega) (by omega) ?_
        have e2 : gI M (275 + i.toNat) (a + m) = leF M (a + (i - a)) (m - (i - a)) := by show _ = gI M (275 + (a + (i - a)).toNat) (a + (i - a) + (m - (i - a))); rw [show a + (i - a) + (m - (i - a)) = a + m by omega, show a + (i - a) = i by omega]
        rw [e2]
        refine bw_iadd rfl ⟨by omega, by omega⟩ ?_
        refine bw_min rfl (by omega) (Nat.le_of_ble_eq_true rfl) (by decide) (by decide) ?_
        refine bw_istore (ls2 := [_, _, _, _, _, _]) rfl rfl (Nat.le_of_ble_eq_true rfl) rfl ?_
        refine bw_iinc (ls2 := [_, _, _, _, _, _]) rfl rfl rfl ⟨by omega, by omega⟩ rfl ?_
        refine bw_goto rfl ?_
        exact ih _ _ (by rw [show i + 1 - a = i - a + 1 by omega]; exact lbQ_s g1 (by omega)) (by omega) (by omega)
  show abW d (0, 0) 28 0 [some (vr (some 219)), some (vi a), some (vi m), none, none, none] [] (0, 0) (A0 L) M (qJ (A0 L) M (fun x => isMn (cdP D T (leF M) a m) x))
  refine bw_iload rfl rfl ?_
  refine bw_iload rfl rfl ?_
  refine bw_iadd rfl ⟨by omega, by omega⟩ ?_
  refine bw_istore (ls2 := [_, _, _, _, _, _]) rfl rfl (Nat.le_of_ble_eq_true rfl) rfl ?_
  refine bw_aload rfl rfl ?_
  refine bw_getr rfl rfl (hR _ _) ?_
  refine bw_iload rfl rfl ?_
  refine bw_aldi rfl (by first | rfl | assumption) (by omega) (by omega) ?_
  refine bw_iload rfl rfl ?_
  refine bw_iclt rfl (fun c11 => ?_) (fun c11 => ?_)
  · skip
    refine bw_iload rfl rfl ?_
    refine bw_istore (ls2 := [_, _, _, _, _, _]) rfl rfl (Nat.le_of_ble_eq_true rfl) rfl ?_
    refine bw_iload rfl rfl ?_
    refine bw_push rfl ?_
    refine bw_iadd rfl ⟨by omega, by omega⟩ ?_
    refine bw_istore (ls2 := [_, _, _, _, _, _]) rfl rfl (Nat.le_of_ble_eq_true rfl) rfl ?_
    exact L26 (m.toNat + 1) _ (a + 1) (by rw [show a + 1 - a = 1 by omega]; first | exact lbQ_0 (Or.inl ⟨rn.mpr (by omega), rfl, by omega⟩) | exact lbQ_0 (Or.inr ⟨fun h => by have := rn.mp h; omega, rfl⟩)) (by omega) (by omega)
  · skip
    refine bw_push rfl ?_
    refine bw_goto rfl ?_
    refine bw_istore (ls2 := [_, _, _, _, _, _]) rfl rfl (Nat.le_of_ble_eq_true rfl) rfl ?_
    refine bw_iload rfl rfl ?_
    refine bw_push rfl ?_
    refine bw_iadd rfl ⟨by omega, by omega⟩ ?_
    refine bw_istore (ls2 := [_, _, _, _, _, _]) rfl rfl (Nat.le_of_ble_eq_true rfl) rfl ?_
    exact L26 (m.toNat + 1) _ (a + 1) (by rw [show a + 1 - a = 1 by omega]; first | exact lbQ_0 (Or.inl ⟨rn.mpr (by omega), rfl, by omega⟩) | exact lbQ_0 (Or.inr ⟨fun h => by have := rn.mp h; omega, rfl⟩)) (by omega) (by omega)
abbrev pLe (a : Nat) : Prop := 275 ≤ a ∧ a < 372
/-- what the table tells is so for all shorter pieces, and for those of m up to first a -/
def leT (N : abMem) (D T : Int → Int) (c m a : Int) : Prop := ∀ b k : Int, 0 ≤ b → 1 ≤ k → b + k ≤ c → (k < m ∨ (k = m ∧ b < a)) → gdF D T (leF N) b k
theorem leF_w {N : abMem} {a m x b k : Int} (ha : 0 ≤ a) (hb : 0 ≤ b) (h : ¬ (b = a ∧ k = m)) : leF (sI N (275 + a.toNat) (a + m) x) b k = leF N b k := by
  unfold leF
  by_cases q : b = a
  · rw [q]; exact gI_sI_nj (by omega)
  · rw [gI_sI_ne (by omega)]
theorem leF_n {N : abMem} {a m x : Int} : leF (sI N (275 + a.toNat) (a + m) x) a m = x := gI_sI_eq
theorem leT_s {N : abMem} {D T : Int → Int} {c m a x : Int} (h : leT N D T c m a) (ha : 0 ≤ a ∧ 1 ≤ m ∧ a + m ≤ c) (hx : (m = 1 ∧ x = 1) ∨ (2 ≤ m ∧ isMn (cdP D T (leF N) a m) x)) : leT (sI N (275 + a.toNat) (a + m) x) D T c m (a + 1) := by
  intro b k b0 k1 bk hlt
  by_cases q : b = a ∧ k = m
  · rw [q.1, q.2]
    rcases hx with ⟨h1, h2⟩ | ⟨h1, h2⟩
    · exact Or.inl ⟨h1, by rw [leF_n]; exact h2⟩
    · have e : ∀ b k : Int, a ≤ b → 1 ≤ k → k < m → b + k ≤ a + m → leF N b k = leF (sI N (275 + a.toNat) (a + m) x) b k := fun b k b1 b2 b3 b4 => (leF_w ha.1 (by omega) (by omega)).symm
      refine Or.inr ⟨h1, ?_, fun y hy => ?_⟩
      · rw [leF_n]
        exact cdP_congr h1 (fun _ _ _ => ⟨rfl, rfl⟩) e h2.1
      · rw [leF_n]
        exact h2.2 y (cdP_congr h1 (fun _ _ _ => ⟨rfl, rfl⟩) (fun b k b1 b2 b3 b4 => (e b k b1 b2 b3 b4).symm) hy)
  · exact gdF_congr (fun _ _ _ => ⟨rfl, rfl⟩) (fun d j d1 d2 d3 d4 => (leF_w ha.1 (by omega) (by omega)).symm) (h b k b0 k1 bk (by omega))
theorem leT_n {N : abMem} {D T : Int → Int} {c m a : Int} (h : leT N D T c m a) (ha : c < a + m) : leT N D T c (m + 1) 0 := fun b k b0 k1 bk hlt => h b k b0 k1 bk (by omega)
theorem leT_in {N : abMem} {D T : Int → Int} {c m a : Int} (h : leT N D T c m a) {b k : Int} (hb : 0 ≤ b ∧ 1 ≤ k ∧ b + k ≤ c) (hk : k < m) : 1 ≤ leF N b k ∧ leF N b k ≤ k := gdF_in k.toNat b k (by omega) hb.2.1 (fun e j e1 e2 e3 => h e j (by omega) e2 (by omega) (Or.inl (by omega)))
theorem rnT_sm {p : Nat → Prop} {M N : abMem} {D T : Int → Int} {c k : Int} (h : rnT M D T c k) (g : sm p M N) (hp : ¬ p 222) : rnT N D T c k := fun i i0 i1 m m2 mc => by rw [g.at 222 hp]; exact h i i0 i1 m m2 mc
theorem mrT_sm {p : Nat → Prop} {M N : abMem} {D T : Int → Int} {c k : Int} (h : mrT M D T c k) (g : sm p M N) (hp : ¬ p 223) : mrT N D T c k := fun i i0 i1 => by rw [g.at 223 hp]; exact h i i0 i1
theorem ecT_sm {p : Nat → Prop} {M N : abMem} {D T : Int → Int} {c k : Int} (h : ecT M D T c k) (g : sm p M N) (hp : ∀ a, 225 ≤ a → a < 274 → ¬ p a) (hk : k ≤ 97) (hc : c ≤ 96) : ecT N D T c k := fun j j1 j2 j3 i i0 i1 => by rw [g.at _ (hp _ (by omega) (by omega))]; exact h j j1 j2 j3 i i0 i1
/-- the measures stand -/
abbrev meS (M : abMem) (D T : Int → Int) (c : Int) : Prop := MkP M D T c ∧ rnT M D T c c ∧ mrT M D T c c ∧ ecT M D T c 97
theorem meS_sm {M N : abMem} {D T : Int → Int} {c : Int} (h : meS M D T c) (g : sm pLe M N) : meS N D T c := ⟨MkP_sm h.1 g (by decide) (by decide) (by decide), rnT_sm h.2.1 g (by decide), mrT_sm h.2.2.1 g (by decide), ecT_sm h.2.2.2 g (fun a a1 a2 k => by have := k.1; omega) (by decide) h.1.1.2⟩
theorem MkP_of {N : abMem} {f : Int → Int} {n : Int} (hn : 0 ≤ n ∧ n ≤ 96) (hv : ∀ j : Int, 0 ≤ j → j < n → 0 ≤ f j ∧ f j ≤ 99) (h : aSq N (sp f n.toNat)) : MkP N (gI N 220) (gI N 221) (sp f n.toNat).1 := by
  have q := sp_in f n.toNat
  refine ⟨⟨q.1.1, by have := q.1.2.1; omega⟩, h.1, rfl, rfl, fun e e0 e1 => ?_⟩
  obtain ⟨h1, h2⟩ := h.2 e e0 e1
  obtain ⟨j, j0, j1, j2⟩ := q.2.2.2 e e0 e1
  have b1 := q.2.1 e e0 e1
  have b2 := hv j j0 (by omega)
  exact ⟨by omega, by omega⟩
theorem mk_end {N : abMem} {f : Int → Int} {n : Int} {D T : Int → Int} (hq : ∀ e : Int, 0 ≤ e → e < (sp f n.toNat).1 → D e = (sp f n.toNat).2.1 e ∧ T e = (sp f n.toNat).2.2 e) (h1 : 1 ≤ (sp f n.toNat).1) (h : leT N D T (sp f n.toNat).1 ((sp f n.toNat).1 + 1) 0) : isMk f n (gI N 275 (sp f n.toNat).1) := Or.inr ⟨h1, leF N, fun a m a0 m1 am => gdF_congr (fun j j0 j1 => hq j (by omega) (by omega)) (fun _ _ _ _ _ _ => rfl) (h a m a0 m1 am (Or.inl (by omega))), by
  show _ = gI N (275 + (0 : Int).toNat) (0 + (sp f n.toNat).1)
  rw [Int.zero_add]; rfl⟩
set_option maxRecDepth 20000 in
set_option maxHeartbeats 4000000 in
theorem c_fewest0 {d L : Nat} {M : abMem} {r : abRf} (hR : RF r M) {W : abMem} {D T : Int → Int} {c n : Int} {o : Nat} (hWM : meS W D T c) (g0 : sm pLe W M) (hd : 3 ≤ d) : abW d (0, 0) 26 18 [some (vr (some 219)), some (vr (some o)), some (vi n), none, none] [] (0, 0) (A0 L) M (qI (A0 L) (fun x N => sm pLe W N ∧ (c = 0 ∧ x = 0 ∨ 1 ≤ c ∧ leT N D T c (c + 1) 0 ∧ x = gI N 275 c))) := by
  have hRM : RF r W := fun a j => by rw [← hR a j]; show W.2.2 a j = M.2.2 a j; rw [g0.1]
  have L47 : ∀ (kf : Nat) (N : abMem) (m : Int), (sm pLe W N) → (leT N D T c m 0) → (2 ≤ m ∧ (m ≤ c + 1 ∨ c ≤ 1 ∧ m = 2)) → ((98 - m).toNat) < kf → abW d (0, 0) 26 47 [some (vr (some 219)), some (vr (some o)), some (vi n), some (vi m), none] [] (0, 0) (A0 L) (N) (qI (A0 L) (fun x N => sm pLe W N ∧ (c = 0 ∧ x = 0 ∨ 1 ≤ c ∧ leT N D T c (c + 1) 0 ∧ x = gI N 275 c))) := by
    intro kf
    induction kf with
    | zero => intro N  m  g1 g2 g3 hm9; exact absurd hm9 (Nat.not_lt_zero _)
    | succ kf ih47 =>
      intro N  m  g1 g2 g3 hm47
      have ih := ih47
      have hR := g1.RF hRM
      have hW := meS_sm hWM g1
      have hM := hW.1
      have c0 := hM.1
      have c1 := hM.2.1
      have L58 : ∀ (kf : Nat) (K : abMem) (i : Int), (sm pLe W K) → (leT K D T c m i) → ((2 ≤ m ∧ m ≤ c) ∧ 0 ≤ i ∧ i + m ≤ c + 1) → ((98 - i).toNat) < kf → abW d (0, 0) 26 58 [some (vr (some 219)), some (vr (some o)), some (vi n), some (vi m), some (vi i)] [] (0, 0) (A0 L) (K) (qI (A0 L) (fun x N => sm pLe W N ∧ (c = 0 ∧ x = 0 ∨ 1 ≤ c ∧ leT N D T c (c + 1) 0 ∧ x = gI N 275 c))) := by
        intro kf
        induction kf with
        | zero => intro K  i  k1 k2 k3 hm9; exact absurd hm9 (Nat.not_lt_zero _)
        | succ kf ih58 =>
          intro K  i  k1 k2 k3 hm58
          have ih := ih58
          have hR := k1.RF hRM
          have hW := meS_sm hWM k1
          have hM := hW.1
          have c0 := hM.1
          have c1 := hM.2.1
          refine bw_iload rfl rfl ?_
          refine bw_iload rfl rfl ?_
          refine bw_iadd rfl ⟨by omega, by omega⟩ ?_
          refine bw_aload rfl rfl ?_
          refine bw_getI rfl rfl ?_
          refine bw_icgt rfl (fun c66 => ?_) (fun c66 => ?_)
          · skip
            refine bw_iinc (ls2 := [_, _, _, _, _]) rfl rfl rfl ⟨by omega, by omega⟩ rfl ?_
            refine bw_goto rfl ?_
            refine bw_forget (ls2 := [some (vr (some 219)), some (vr (some o)), some (vi n), some (vi _), none]) ⟨rfl, rfl, rfl, rfl, trivial⟩ ?_
            exact ih47 _ _ k1 (leT_n k2 (by omega)) (by omega) (by omega)
          · skip
            refine bw_aload rfl rfl ?_
            refine bw_getr rfl rfl (hR _ _) ?_
            refine bw_iload rfl rfl ?_
            refine bw_aldr rfl (by first | rfl | assumption) (by decide) (by omega) (by omega) ((hR _ _).trans (rr_row (fun _ => rfl) (by omega) (by omega) (by omega))) ?_
            refine bw_iload rfl rfl ?_
            refine bw_iload rfl rfl ?_
            refine bw_iadd rfl ⟨by omega, by omega⟩ ?_
            refine bw_aload rfl rfl ?_
            refine bw_iload rfl rfl ?_
            refine bw_iload rfl rfl ?_
            refine bw_callVj (e := d - 1) (as := [_, _]) rfl (by omega) rfl rfl (Nat.le_of_ble_eq_true rfl) (Nat.le_of_ble_eq_true rfl) rfl (c_fewestOf hR hM hW.2.1 hW.2.2.1 hW.2.2.2 (by omega) (fun b j b1 b2 b3 b4 => leT_in k2 (by omega) b3) (by omega)) (fun r84 hr84 => ?_)
            refine bw_asti rfl (kfa (b := 275) (n := 97) (v := (20, 97)) (by decide) (by decide) ⟨by omega, by omega⟩) (by omega) (by omega) ?_
            refine bw_iinc (ls2 := [_, _, _, _, _]) rfl rfl rfl ⟨by omega, by omega⟩ rfl ?_
            refine bw_goto rfl ?_
            exact ih _ _ (k1.sI _ _ ⟨by omega, by omega⟩) (leT_s k2 (by omega) (Or.inr ⟨by omega, hr84⟩)) (by omega) (by omega)
      refine bw_iload rfl rfl ?_
      refine bw_aload rfl rfl ?_
      refine bw_getI rfl rfl ?_
      refine bw_icgt rfl (fun c52 => ?_) (fun c52 => ?_)
      · skip
        refine bw_aload rfl rfl ?_
        refine bw_getI rfl rfl ?_
        refine bw_ifne rfl (fun c104 => ?_) (fun c104 => ?_)
        · skip
          refine bw_aload rfl rfl ?_
          refine bw_getr rfl rfl (hR _ _) ?_
          refine bw_push rfl ?_
          refine bw_aldr rfl (by first | rfl | assumption) (by decide) (by omega) (by omega) ((hR _ _).trans (rr_row (fun _ => rfl) (by omega) (by omega) (by omega))) ?_
          refine bw_aload rfl rfl ?_
          refine bw_getI rfl rfl ?_
          refine bw_aldi rfl (by first | rfl | assumption) (by omega) (by omega) ?_
          refine bw_ret rfl rfl ?_
          first
          | exact ⟨rfl, _, rfl, g1, Or.inl ⟨by omega, rfl⟩⟩
          | exact ⟨rfl, _, rfl, g1, Or.inr ⟨by omega, fun b k b0 k1 bk h => g2 b k b0 k1 bk (by omega), by rw [c1]; rfl⟩⟩
        · skip
          refine bw_push rfl ?_
          refine bw_goto rfl ?_
          refine bw_ret rfl rfl ?_
          first
          | exact ⟨rfl, _, rfl, g1, Or.inl ⟨by omega, rfl⟩⟩
          | exact ⟨rfl, _, rfl, g1, Or.inr ⟨by omega, fun b k b0 k1 bk h => g2 b k b0 k1 bk (by omega), by rw [c1]; rfl⟩⟩
      · skip
        refine bw_push rfl ?_
        refine bw_istore (ls2 := [_, _, _, _, _]) rfl rfl (Nat.le_of_ble_eq_true rfl) rfl ?_
        exact L58 99 N 0 g1 g2 (by omega) (by omega)
  have L20 : ∀ (kf : Nat) (N : abMem) (i : Int), (sm pLe W N) → (leT N D T c 1 i) → (0 ≤ i ∧ i ≤ c) → ((c - i).toNat) < kf → abW d (0, 0) 26 20 [some (vr (some 219)), some (vr (some o)), some (vi n), some (vi i), none] [] (0, 0) (A0 L) (N) (qI (A0 L) (fun x N => sm pLe W N ∧ (c = 0 ∧ x = 0 ∨ 1 ≤ c ∧ leT N D T c (c + 1) 0 ∧ x = gI N 275 c))) := by
    intro kf
    induction kf with
    | zero => intro N  i  g1 g2 g3 hm9; exact absurd hm9 (Nat.not_lt_zero _)
    | succ kf ih20 =>
      intro N  i  g1 g2 g3 hm20
      have ih := ih20
      have hR := g1.RF hRM
      have hW := meS_sm hWM g1
      have hM := hW.1
      have c0 := hM.1
      have c1 := hM.2.1
      refine bw_iload rfl rfl ?_
      refine bw_aload rfl rfl ?_
      refine bw_getI rfl rfl ?_
      refine bw_icge rfl (fun c25 => ?_) (fun c25 => ?_)
      · skip
        refine bw_push rfl ?_
        refine bw_istore (ls2 := [_, _, _, _, _]) rfl rfl (Nat.le_of_ble_eq_true rfl) rfl ?_
        obtain rfl : i = c := by omega
        refine bw_forget (ls2 := [some (vr (some 219)), some (vr (some o)), some (vi n), some (vi _), none]) ⟨rfl, rfl, rfl, rfl, trivial⟩ ?_
        exact L47 98 N 2 g1 (leT_n g2 (by omega)) (by omega) (by omega)
      · skip
        refine bw_aload rfl rfl ?_
        refine bw_getr rfl rfl (hR _ _) ?_
        refine bw_iload rfl rfl ?_
        refine bw_aldr rfl (by first | rfl | assumption) (by decide) (by omega) (by omega) ((hR _ _).trans (rr_row (fun _ => rfl) (by omega) (by omega) (by omega))) ?_
        refine bw_iload rfl rfl ?_
        refine bw_push rfl ?_
        refine bw_iadd rfl ⟨by omega, by omega⟩ ?_
        refine bw_push rfl ?_
        refine bw_asti rfl (kfa (b := 275) (n := 97) (v := (20, 97)) (by decide) (by decide) ⟨by omega, by omega⟩) (by omega) (by omega) ?_
        refine bw_iinc (ls2 := [_, _, _, _, _]) rfl rfl rfl ⟨by omega, by omega⟩ rfl ?_
        refine bw_goto rfl ?_
        exact ih _ _ (g1.sI _ _ ⟨by omega, by omega⟩) (leT_s g2 (by omega) (Or.inl ⟨rfl, rfl⟩)) (by omega) (by omega)
  refine bw_push rfl ?_
  refine bw_istore (ls2 := [_, _, _, _, _]) rfl rfl (Nat.le_of_ble_eq_true rfl) rfl ?_
  exact L20 98 M 0 g0 (fun b k b0 k1 bk h => by omega) (by have := hWM.1.1; omega) (by have := hWM.1.1; omega)
set_option maxRecDepth 20000 in
set_option maxHeartbeats 4000000 in
theorem c_fewest {d L : Nat} {M : abMem} {r : abRf} (hR : RF r M) {o : Nat} (hk : (A0 L).2 o = (20, 96)) (ho : ¬ pMk o) {n : Int} (hn : 0 ≤ n ∧ n ≤ 96) (hv : ∀ j : Int, 0 ≤ j → j < n → 0 ≤ gI M o j ∧ gI M o j ≤ 99) (hd : 3 ≤ d) : abW d (0, 0) 26 0 (abEnt (abL 26) [vr (some 219), vr (some o), vi n]) [] (0, 0) (A0 L) M (qI (A0 L) (fun x N => sm pMk M N ∧ isMk (gI M o) n x)) := by
  show abW d (0, 0) 26 0 [some (vr (some 219)), some (vr (some o)), some (vi n), none, none] [] (0, 0) (A0 L) M (qI (A0 L) (fun x N => sm pMk M N ∧ isMk (gI M o) n x))
  refine bw_aload rfl rfl ?_
  refine bw_aload rfl rfl ?_
  refine bw_iload rfl rfl ?_
  refine bw_callVv (e := d - 1) (as := [_, _]) rfl (by omega) rfl rfl (Nat.le_of_ble_eq_true rfl) (Nat.le_of_ble_eq_true rfl) rfl (c_split hR hk ho hn) (fun M3 hM3 => ?_)
  obtain ⟨u3, v3⟩ := hM3
  have hR := u3.RF hR
  have hM := MkP_of hn hv v3
  refine bw_aload rfl rfl ?_
  refine bw_callVv (e := d - 1) (as := []) rfl (by omega) rfl rfl (Nat.le_of_ble_eq_true rfl) (Nat.le_of_ble_eq_true rfl) rfl (c_measureRuns hR hM (by omega)) (fun M7 hM7 => ?_)
  obtain ⟨u7, v7⟩ := hM7
  have hR := u7.RF hR
  have hM := MkP_sm hM u7 (by decide) (by decide) (by decide)
  refine bw_aload rfl rfl ?_
  refine bw_callVv (e := d - 1) (as := []) rfl (by omega) rfl rfl (Nat.le_of_ble_eq_true rfl) (Nat.le_of_ble_eq_true rfl) rfl (c_measureMirrors hR hM (by omega)) (fun M11 hM11 => ?_)
  obtain ⟨u11, v11⟩ := hM11
  have hR := u11.RF hR
  have hM := MkP_sm hM u11 (by decide) (by decide) (by decide)
  have v7 := rnT_sm v7 u11 (by decide)
  refine bw_aload rfl rfl ?_
  refine bw_callVv (e := d - 1) (as := []) rfl (by omega) rfl rfl (Nat.le_of_ble_eq_true rfl) (Nat.le_of_ble_eq_true rfl) rfl (c_measureEchoes hR hM (by omega)) (fun M15 hM15 => ?_)
  obtain ⟨u15, v15⟩ := hM15
  have hR := u15.RF hR
  have hM := MkP_sm hM u15 (by decide) (by decide) (by decide)
  have v7 := rnT_sm v7 u15 (by decide)
  have v11 := mrT_sm v11 u15 (by decide)
  refine bw_conseq (c_fewest0 (c := (sp (gI M o) n.toNat).1) hR ⟨hM, v7, v11, v15⟩ (sm_refl _ _) (by omega)) (fun v A2 M2 h => ?_)
  obtain ⟨rfl, x, rfl, h1, h2⟩ := h
  have hF : sm pMk M M2 := (((u3.trans (u7.mono (fun a h => by have h : a = 222 := h; exact ⟨by omega, by omega⟩))).trans (u11.mono (fun a h => by have h : a = 223 := h; exact ⟨by omega, by omega⟩))).trans (u15.mono (fun a h => ⟨by have := h.1; omega, by have := h.2; omega⟩))).trans (h1.mono (fun a h => ⟨by have := h.1; omega, by have := h.2; omega⟩))
  refine ⟨rfl, x, rfl, hF, ?_⟩
  rcases h2 with ⟨e1, e2⟩ | ⟨e1, e2, e3⟩
  · exact Or.inl ⟨e1, e2⟩
  · rw [e3]; exact mk_end v3.2 e1 e2
