theorem kfa {L b n : Nat} {v : Nat × Int} {i : Int} (hb : b + n ≤ 582) (H : ∀ j : Nat, j < n → kT (b + j) = v) (h : 0 ≤ i ∧ i < n) : (A0 L).2 (b + i.toNat) = v := (kk_in (by omega)).trans (H i.toNat (by omega))
abbrev pSc (s a : Nat) : Prop := s ≤ a ∧ a < s + 87
set_option maxRecDepth 20000 in
set_option maxHeartbeats 4000000 in
theorem c_hasLayer {d L : Nat} {M : abMem} {r : abRf} (hR : RF r M) {s : Nat} (hs : s = 372 ∨ s = 459) {S : Int → Int} (hS : SR M s S) {l : Int} : abW d (0, 0) 59 0 (abEnt (abL 59) [vr (some s), vi l]) [] (0, 0) (A0 L) M (qJ (A0 L) M (fun x => (0 ≤ l ∧ l < S 1) ∧ x = 1 ∨ ¬ (0 ≤ l ∧ l < S 1) ∧ x = 0)) := by
  rcases hs with rfl | rfl
  · show abW d (0, 0) 59 0 [some (vr (some 372)), some (vi l)] [] (0, 0) (A0 L) M (qJ (A0 L) M (fun x => (0 ≤ l ∧ l < S 1) ∧ x = 1 ∨ ¬ (0 ≤ l ∧ l < S 1) ∧ x = 0))
    refine bw_iload rfl rfl ?_
    refine bw_iflt rfl (fun c1 => ?_) (fun c1 => ?_)
    · skip
      refine bw_push rfl ?_
      refine bw_retz rfl rfl (by omega) ?_
      exact ⟨rfl, rfl, _, rfl, by omega⟩
    · skip
      refine bw_iload rfl rfl ?_
      refine bw_aload rfl rfl ?_
      refine bw_getI rfl rfl ?_
      rw [show gI M 372 2 = S 1 from hS.c2]
      refine bw_icge rfl (fun c9 => ?_) (fun c9 => ?_)
      · skip
        refine bw_push rfl ?_
        refine bw_retz rfl rfl (by omega) ?_
        exact ⟨rfl, rfl, _, rfl, by omega⟩
      · skip
        refine bw_push rfl ?_
        refine bw_goto rfl ?_
        refine bw_retz rfl rfl (by omega) ?_
        exact ⟨rfl, rfl, _, rfl, by omega⟩
  · show abW d (0, 0) 59 0 [some (vr (some 459)), some (vi l)] [] (0, 0) (A0 L) M (qJ (A0 L) M (fun x => (0 ≤ l ∧ l < S 1) ∧ x = 1 ∨ ¬ (0 ≤ l ∧ l < S 1) ∧ x = 0))
    refine bw_iload rfl rfl ?_
    refine bw_iflt rfl (fun c1 => ?_) (fun c1 => ?_)
    · skip
      refine bw_push rfl ?_
      refine bw_retz rfl rfl (by omega) ?_
      exact ⟨rfl, rfl, _, rfl, by omega⟩
    · skip
      refine bw_iload rfl rfl ?_
      refine bw_aload rfl rfl ?_
      refine bw_getI rfl rfl ?_
      rw [show gI M 459 2 = S 1 from hS.c2]
      refine bw_icge rfl (fun c9 => ?_) (fun c9 => ?_)
      · skip
        refine bw_push rfl ?_
        refine bw_retz rfl rfl (by omega) ?_
        exact ⟨rfl, rfl, _, rfl, by omega⟩
      · skip
        refine bw_push rfl ?_
        refine bw_goto rfl ?_
        refine bw_retz rfl rfl (by omega) ?_
        exact ⟨rfl, rfl, _, rfl, by omega⟩
set_option maxRecDepth 20000 in
set_option maxHeartbeats 4000000 in
theorem c_hasFrame {d L : Nat} {M : abMem} {r : abRf} (hR : RF r M) {s : Nat} (hs : s = 372 ∨ s = 459) {S : Int → Int} (hS : SR M s S) {f : Int} : abW d (0, 0) 60 0 (abEnt (abL 60) [vr (some s), vi f]) [] (0, 0) (A0 L) M (qJ (A0 L) M (fun x => (0 ≤ f ∧ f < S 0) ∧ x = 1 ∨ ¬ (0 ≤ f ∧ f < S 0) ∧ x = 0)) := by
  rcases hs with rfl | rfl
  · show abW d (0, 0) 60 0 [some (vr (some 372)), some (vi f)] [] (0, 0) (A0 L) M (qJ (A0 L) M (fun x => (0 ≤ f ∧ f < S 0) ∧ x = 1 ∨ ¬ (0 ≤ f ∧ f < S 0) ∧ x = 0))
    refine bw_iload rfl rfl ?_
    refine bw_iflt rfl (fun c1 => ?_) (fun c1 => ?_)
    · skip
      refine bw_push rfl ?_
      refine bw_retz rfl rfl (by omega) ?_
      exact ⟨rfl, rfl, _, rfl, by omega⟩
    · skip
      refine bw_iload rfl rfl ?_
      refine bw_aload rfl rfl ?_
      refine bw_getI rfl rfl ?_
      rw [show gI M 372 0 = S 0 from hS.c0]
      refine bw_icge rfl (fun c9 => ?_) (fun c9 => ?_)
      · skip
        refine bw_push rfl ?_
        refine bw_retz rfl rfl (by omega) ?_
        exact ⟨rfl, rfl, _, rfl, by omega⟩
      · skip
        refine bw_push rfl ?_
        refine bw_goto rfl ?_
        refine bw_retz rfl rfl (by omega) ?_
        exact ⟨rfl, rfl, _, rfl, by omega⟩
  · show abW d (0, 0) 60 0 [some (vr (some 459)), some (vi f)] [] (0, 0) (A0 L) M (qJ (A0 L) M (fun x => (0 ≤ f ∧ f < S 0) ∧ x = 1 ∨ ¬ (0 ≤ f ∧ f < S 0) ∧ x = 0))
    refine bw_iload rfl rfl ?_
    refine bw_iflt rfl (fun c1 => ?_) (fun c1 => ?_)
    · skip
      refine bw_push rfl ?_
      refine bw_retz rfl rfl (by omega) ?_
      exact ⟨rfl, rfl, _, rfl, by omega⟩
    · skip
      refine bw_iload rfl rfl ?_
      refine bw_aload rfl rfl ?_
      refine bw_getI rfl rfl ?_
      rw [show gI M 459 0 = S 0 from hS.c0]
      refine bw_icge rfl (fun c9 => ?_) (fun c9 => ?_)
      · skip
        refine bw_push rfl ?_
        refine bw_retz rfl rfl (by omega) ?_
        exact ⟨rfl, rfl, _, rfl, by omega⟩
      · skip
        refine bw_push rfl ?_
        refine bw_goto rfl ?_
        refine bw_retz rfl rfl (by omega) ?_
        exact ⟨rfl, rfl, _, rfl, by omega⟩
set_option maxRecDepth 20000 in
set_option maxHeartbeats 4000000 in
theorem c_isSpelt {d L : Nat} {M : abMem} {r : abRf} (hR : RF r M) {a : Int → Int} {n : Int} (hT : TP M a n) {s : Nat} (hs : s = 372 ∨ s = 459) {S : Int → Int} (hS : SR M s S) {l b : Int} (hl : 0 ≤ l ∧ l < S 1) (hb : 0 ≤ b ∧ b + S (12 + 7 * l) ≤ n) : abW d (0, 0) 62 0 (abEnt (abL 62) [vr (some s), vi l, vr (some 2), vi b]) [] (0, 0) (A0 L) M (qJ (A0 L) M (fun x => ((∀ i : Int, 0 ≤ i → i < S (12 + 7 * l) → S (13 + 7 * l + i) = a (b + i)) ∧ x = 1 ∨ ¬ (∀ i : Int, 0 ≤ i → i < S (12 + 7 * l) → S (13 + 7 * l + i) = a (b + i)) ∧ x = 0))) := by
  rcases hs with rfl | rfl
  · have t1 := hT.le
    have t2 := hT.ok.1
    have w0 := hS.sw.fr
    have w1 := hS.sw.la
    have w2 := hS.sw.bo
    have w3 := hS.sw.sl
    have w4 := hS.sw.hi
    have w5 := hS.sw.st
    have nm := hS.sw.nm l hl.1 hl.2
    have L3 : ∀ (kf : Nat) (i : Int), (0 ≤ i ∧ i ≤ S (12 + 7 * l)) → (∀ j : Int, 0 ≤ j → j < i → S (13 + 7 * l + j) = a (b + j)) → ((7 - i).toNat) < kf → abW d (0, 0) 62 3 [some (vr (some 372)), some (vi l), some (vr (some 2)), some (vi b), some (vi i)] [] (0, 0) (A0 L) (M) (qJ (A0 L) M (fun x => ((∀ i : Int, 0 ≤ i → i < S (12 + 7 * l) → S (13 + 7 * l + i) = a (b + i)) ∧ x = 1 ∨ ¬ (∀ i : Int, 0 ≤ i → i < S (12 + 7 * l) → S (13 + 7 * l + i) = a (b + i)) ∧ x = 0))) := by
      intro kf
      induction kf with
      | zero => intro i  g1 g2 hm9; exact absurd hm9 (Nat.not_lt_zero _)
      | succ kf ih3 =>
        intro i  g1 g2 hm3
        have ih := ih3
        refine bw_iload rfl rfl ?_
        refine bw_aload rfl rfl ?_
        refine bw_getr rfl rfl (hR _ _) ?_
        refine bw_iload rfl rfl ?_
        refine bw_aldi rfl (by first | rfl | assumption) (by omega) (by omega) ?_
        rw [show gI M 374 l = S (12 + 7 * l) from hS.nl l hl.1 hl.2]
        refine bw_icge rfl (fun c11 => ?_) (fun c11 => ?_)
        · skip
          refine bw_push rfl ?_
          refine bw_retz rfl rfl (by omega) ?_
          first
          | (exfalso; omega)
          | exact ⟨rfl, rfl, _, rfl, Or.inl ⟨fun j h1 h2 => g2 j h1 (by omega), rfl⟩⟩
        · skip
          refine bw_iload rfl rfl ?_
          refine bw_iload rfl rfl ?_
          refine bw_iadd rfl ⟨by omega, by omega⟩ ?_
          refine bw_aload rfl rfl ?_
          refine bw_len rfl (by first | rfl | assumption) (by decide) ?_
          refine bw_icge rfl (fun c20 => ?_) (fun c20 => ?_)
          · first
            | (exfalso; omega)
            | (refine bw_push rfl ?_
               refine bw_retz rfl rfl (by omega) ?_
               first
               | (exfalso; omega)
               | exact ⟨rfl, rfl, _, rfl, Or.inl ⟨fun j h1 h2 => g2 j h1 (by omega), rfl⟩⟩)
          · first
            | (exfalso; omega)
            | (refine bw_aload rfl rfl ?_
               refine bw_getr rfl rfl (hR _ _) ?_
               refine bw_iload rfl rfl ?_
               refine bw_aldr rfl (by first | rfl | assumption) (by decide) (by omega) (by omega) ((hR _ _).trans (rr_row (fun _ => rfl) (by omega) (by omega) (by omega))) ?_
               refine bw_iload rfl rfl ?_
               refine bw_aldi rfl (kfa (b := 376) (n := 6) (v := (20, 6)) (by decide) (by decide) ⟨by omega, by omega⟩) (by omega) (by omega) ?_
               rw [show gI M (376 + l.toNat) i = S (13 + 7 * l + i) from hS.nm l i hl.1 hl.2 (by omega) (by omega)]
               have le := hS.sw.le l i hl.1 hl.2 (by omega) (by omega)
               refine bw_aload rfl rfl ?_
               refine bw_iload rfl rfl ?_
               refine bw_iload rfl rfl ?_
               refine bw_iadd rfl ⟨by omega, by omega⟩ ?_
               refine bw_aldb rfl (by first | rfl | assumption) (by decide) (by omega) (by omega) ?_
               rw [hT.by _ (by omega) (by omega)]
               have sx := sg_c (a (b + i))
               have sy := hT.ok.2.2 (b + i) (by omega) (by omega)
               refine bw_iceq rfl (fun c38 => ?_) (fun c38 => ?_)
               · skip
                 refine bw_iinc (ls2 := [_, _, _, _, _]) rfl rfl rfl ⟨by omega, by omega⟩ rfl ?_
                 refine bw_goto rfl ?_
                 refine ih _ (by omega) (fun j h1 h2 => ?_) (by omega)
                 by_cases q : j = i
                 · rw [q]; omega
                 · exact g2 j h1 (by omega)
               · skip
                 refine bw_push rfl ?_
                 refine bw_retz rfl rfl (by omega) ?_
                 exact ⟨rfl, rfl, _, rfl, Or.inr ⟨fun h => by have := h i (by omega) (by omega); omega, rfl⟩⟩)
    show abW d (0, 0) 62 0 [some (vr (some 372)), some (vi l), some (vr (some 2)), some (vi b), none] [] (0, 0) (A0 L) M (qJ (A0 L) M (fun x => ((∀ i : Int, 0 ≤ i → i < S (12 + 7 * l) → S (13 + 7 * l + i) = a (b + i)) ∧ x = 1 ∨ ¬ (∀ i : Int, 0 ≤ i → i < S (12 + 7 * l) → S (13 + 7 * l + i) = a (b + i)) ∧ x = 0)))
    refine bw_push rfl ?_
    refine bw_istore (ls2 := [_, _, _, _, _]) rfl rfl (Nat.le_of_ble_eq_true rfl) rfl ?_
    exact L3 8 0 (by omega) (fun j h1 h2 => by omega) (by omega)
  · have t1 := hT.le
    have t2 := hT.ok.1
    have w0 := hS.sw.fr
    have w1 := hS.sw.la
    have w2 := hS.sw.bo
    have w3 := hS.sw.sl
    have w4 := hS.sw.hi
    have w5 := hS.sw.st
    have nm := hS.sw.nm l hl.1 hl.2
    have L3 : ∀ (kf : Nat) (i : Int), (0 ≤ i ∧ i ≤ S (12 + 7 * l)) → (∀ j : Int, 0 ≤ j → j < i → S (13 + 7 * l + j) = a (b + j)) → ((7 - i).toNat) < kf → abW d (0, 0) 62 3 [some (vr (some 459)), some (vi l), some (vr (some 2)), some (vi b), some (vi i)] [] (0, 0) (A0 L) (M) (qJ (A0 L) M (fun x => ((∀ i : Int, 0 ≤ i → i < S (12 + 7 * l) → S (13 + 7 * l + i) = a (b + i)) ∧ x = 1 ∨ ¬ (∀ i : Int, 0 ≤ i → i < S (12 + 7 * l) → S (13 + 7 * l + i) = a (b + i)) ∧ x = 0))) := by
      intro kf
      induction kf with
      | zero => intro i  g1 g2 hm9; exact absurd hm9 (Nat.not_lt_zero _)
      | succ kf ih3 =>
        intro i  g1 g2 hm3
        have ih := ih3
        refine bw_iload rfl rfl ?_
        refine bw_aload rfl rfl ?_
        refine bw_getr rfl rfl (hR _ _) ?_
        refine bw_iload rfl rfl ?_
        refine bw_aldi rfl (by first | rfl | assumption) (by omega) (by omega) ?_
        rw [show gI M 461 l = S (12 + 7 * l) from hS.nl l hl.1 hl.2]
        refine bw_icge rfl (fun c11 => ?_) (fun c11 => ?_)
        · skip
          refine bw_push rfl ?_
          refine bw_retz rfl rfl (by omega) ?_
          first
          | (exfalso; omega)
          | exact ⟨rfl, rfl, _, rfl, Or.inl ⟨fun j h1 h2 => g2 j h1 (by omega), rfl⟩⟩
        · skip
          refine bw_iload rfl rfl ?_
          refine bw_iload rfl rfl ?_
          refine bw_iadd rfl ⟨by omega, by omega⟩ ?_
          refine bw_aload rfl rfl ?_
          refine bw_len rfl (by first | rfl | assumption) (by decide) ?_
          refine bw_icge rfl (fun c20 => ?_) (fun c20 => ?_)
          · first
            | (exfalso; omega)
            | (refine bw_push rfl ?_
               refine bw_retz rfl rfl (by omega) ?_
               first
               | (exfalso; omega)
               | exact ⟨rfl, rfl, _, rfl, Or.inl ⟨fun j h1 h2 => g2 j h1 (by omega), rfl⟩⟩)
          · first
            | (exfalso; omega)
            | (refine bw_aload rfl rfl ?_
               refine bw_getr rfl rfl (hR _ _) ?_
               refine bw_iload rfl rfl ?_
               refine bw_aldr rfl (by first | rfl | assumption) (by decide) (by omega) (by omega) ((hR _ _).trans (rr_row (fun _ => rfl) (by omega) (by omega) (by omega))) ?_
               refine bw_iload rfl rfl ?_
               refine bw_aldi rfl (kfa (b := 463) (n := 6) (v := (20, 6)) (by decide) (by decide) ⟨by omega, by omega⟩) (by omega) (by omega) ?_
               rw [show gI M (463 + l.toNat) i = S (13 + 7 * l + i) from hS.nm l i hl.1 hl.2 (by omega) (by omega)]
               have le := hS.sw.le l i hl.1 hl.2 (by omega) (by omega)
               refine bw_aload rfl rfl ?_
               refine bw_iload rfl rfl ?_
               refine bw_iload rfl rfl ?_
               refine bw_iadd rfl ⟨by omega, by omega⟩ ?_
               refine bw_aldb rfl (by first | rfl | assumption) (by decide) (by omega) (by omega) ?_
               rw [hT.by _ (by omega) (by omega)]
               have sx := sg_c (a (b + i))
               have sy := hT.ok.2.2 (b + i) (by omega) (by omega)
               refine bw_iceq rfl (fun c38 => ?_) (fun c38 => ?_)
               · skip
                 refine bw_iinc (ls2 := [_, _, _, _, _]) rfl rfl rfl ⟨by omega, by omega⟩ rfl ?_
                 refine bw_goto rfl ?_
                 refine ih _ (by omega) (fun j h1 h2 => ?_) (by omega)
                 by_cases q : j = i
                 · rw [q]; omega
                 · exact g2 j h1 (by omega)
               · skip
                 refine bw_push rfl ?_
                 refine bw_retz rfl rfl (by omega) ?_
                 exact ⟨rfl, rfl, _, rfl, Or.inr ⟨fun h => by have := h i (by omega) (by omega); omega, rfl⟩⟩)
    show abW d (0, 0) 62 0 [some (vr (some 459)), some (vi l), some (vr (some 2)), some (vi b), none] [] (0, 0) (A0 L) M (qJ (A0 L) M (fun x => ((∀ i : Int, 0 ≤ i → i < S (12 + 7 * l) → S (13 + 7 * l + i) = a (b + i)) ∧ x = 1 ∨ ¬ (∀ i : Int, 0 ≤ i → i < S (12 + 7 * l) → S (13 + 7 * l + i) = a (b + i)) ∧ x = 0)))
    refine bw_push rfl ?_
    refine bw_istore (ls2 := [_, _, _, _, _]) rfl rfl (Nat.le_of_ble_eq_true rfl) rfl ?_
    exact L3 8 0 (by omega) (fun j h1 h2 => by omega) (by omega)
set_option maxRecDepth 20000 in
set_option maxHeartbeats 4000000 in
theorem c_layerWithName {d L : Nat} {M : abMem} {r : abRf} (hR : RF r M) {a : Int → Int} {n : Int} (hT : TP M a n) {s : Nat} (hs : s = 372 ∨ s = 459) {S : Int → Int} (hS : SR M s S) {b m : Int} (hb : 0 ≤ b ∧ b + m ≤ n) (hd : 1 ≤ d) : abW d (0, 0) 61 0 (abEnt (abL 61) [vr (some s), vr (some 2), vi b, vi m]) [] (0, 0) (A0 L) M (qE (some (vi (fnL S a (S 1) b m))) (A0 L) M) := by
  rcases hs with rfl | rfl
  · have t1 := hT.le
    have t2 := hT.ok.1
    have w0 := hS.sw.fr
    have w1 := hS.sw.la
    have w2 := hS.sw.bo
    have w3 := hS.sw.sl
    have w4 := hS.sw.hi
    have w5 := hS.sw.st
    have L3 : ∀ (kf : Nat) (l : Int), (0 ≤ l ∧ l ≤ S 1) → (∀ j : Int, 0 ≤ j → j < l → ¬ nmE S a b m j) → ((S 1 - l).toNat) < kf → abW d (0, 0) 61 3 [some (vr (some 372)), some (vr (some 2)), some (vi b), some (vi m), some (vi l)] [] (0, 0) (A0 L) (M) (qE (some (vi (fnL S a (S 1) b m))) (A0 L) M) := by
      intro kf
      induction kf with
      | zero => intro l  g1 g2 hm9; exact absurd hm9 (Nat.not_lt_zero _)
      | succ kf ih3 =>
        intro l  g1 g2 hm3
        have ih := ih3
        refine bw_iload rfl rfl ?_
        refine bw_aload rfl rfl ?_
        refine bw_getI rfl rfl ?_
        rw [show gI M 372 2 = S 1 from hS.c2]
        refine bw_icge rfl (fun c9 => ?_) (fun c9 => ?_)
        · skip
          refine bw_push rfl ?_
          refine bw_ret rfl rfl ?_
          exact ⟨by rw [fnL_eq (x := -1) (Or.inl ⟨rfl, fun j h1 h2 => g2 j h1 (by omega)⟩)], rfl, rfl⟩
        · skip
          refine bw_aload rfl rfl ?_
          refine bw_getr rfl rfl (hR _ _) ?_
          refine bw_iload rfl rfl ?_
          refine bw_aldi rfl (by first | rfl | assumption) (by omega) (by omega) ?_
          rw [show gI M 374 l = S (12 + 7 * l) from hS.nl l (by omega) (by omega)]
          refine bw_iload rfl rfl ?_
          refine bw_icne rfl (fun c20 => ?_) (fun c20 => ?_)
          · skip
            refine bw_iinc (ls2 := [_, _, _, _, _]) rfl rfl rfl ⟨by omega, by omega⟩ rfl ?_
            refine bw_goto rfl ?_
            refine ih _ (by omega) (fun j h1 h2 => ?_) (by omega)
            by_cases q : j = l
            · rw [q]
              intro hn
              have e1 := hn.1
              first
              | omega
              | (rcases hr28 with h | h
                 · omega
                 · exact h.1 (fun i i0 i1 => hn.2 i i0 (by omega)))
            · exact g2 j h1 (by omega)
          · skip
            refine bw_aload rfl rfl ?_
            refine bw_iload rfl rfl ?_
            refine bw_aload rfl rfl ?_
            refine bw_iload rfl rfl ?_
            refine bw_callVj (e := d - 1) (as := [_, _, _]) rfl (by omega) rfl rfl (Nat.le_of_ble_eq_true rfl) (Nat.le_of_ble_eq_true rfl) rfl (c_isSpelt hR hT (by first | exact Or.inl rfl | exact Or.inr rfl) hS (by omega) (by omega)) (fun r28 hr28 => ?_)
            refine bw_ifeq rfl (fun c31 => ?_) (fun c31 => ?_)
            · skip
              refine bw_iinc (ls2 := [_, _, _, _, _]) rfl rfl rfl ⟨by omega, by omega⟩ rfl ?_
              refine bw_goto rfl ?_
              refine ih _ (by omega) (fun j h1 h2 => ?_) (by omega)
              by_cases q : j = l
              · rw [q]
                intro hn
                have e1 := hn.1
                first
                | omega
                | (rcases hr28 with h | h
                   · omega
                   · exact h.1 (fun i i0 i1 => hn.2 i i0 (by omega)))
              · exact g2 j h1 (by omega)
            · skip
              refine bw_iload rfl rfl ?_
              refine bw_ret rfl rfl ?_
              rcases hr28 with h | h
              · exact ⟨by rw [fnL_eq (x := l) (Or.inr ⟨by omega, ⟨by omega, fun i i0 i1 => h.1 i i0 (by omega)⟩, g2⟩)], rfl, rfl⟩
              · exfalso; omega
    show abW d (0, 0) 61 0 [some (vr (some 372)), some (vr (some 2)), some (vi b), some (vi m), none] [] (0, 0) (A0 L) M (qE (some (vi (fnL S a (S 1) b m))) (A0 L) M)
    refine bw_push rfl ?_
    refine bw_istore (ls2 := [_, _, _, _, _]) rfl rfl (Nat.le_of_ble_eq_true rfl) rfl ?_
    exact L3 ((S 1).toNat + 1) 0 (by omega) (fun j h1 h2 => by omega) (by omega)
  · have t1 := hT.le
    have t2 := hT.ok.1
    have w0 := hS.sw.fr
    have w1 := hS.sw.la
    have w2 := hS.sw.bo
    have w3 := hS.sw.sl
    have w4 := hS.sw.hi
    have w5 := hS.sw.st
    have L3 : ∀ (kf : Nat) (l : Int), (0 ≤ l ∧ l ≤ S 1) → (∀ j : Int, 0 ≤ j → j < l → ¬ nmE S a b m j) → ((S 1 - l).toNat) < kf → abW d (0, 0) 61 3 [some (vr (some 459)), some (vr (some 2)), some (vi b), some (vi m), some (vi l)] [] (0, 0) (A0 L) (M) (qE (some (vi (fnL S a (S 1) b m))) (A0 L) M) := by
      intro kf
      induction kf with
      | zero => intro l  g1 g2 hm9; exact absurd hm9 (Nat.not_lt_zero _)
      | succ kf ih3 =>
        intro l  g1 g2 hm3
        have ih := ih3
        refine bw_iload rfl rfl ?_
        refine bw_aload rfl rfl ?_
        refine bw_getI rfl rfl ?_
        rw [show gI M 459 2 = S 1 from hS.c2]
        refine bw_icge rfl (fun c9 => ?_) (fun c9 => ?_)
        · skip
          refine bw_push rfl ?_
          refine bw_ret rfl rfl ?_
          exact ⟨by rw [fnL_eq (x := -1) (Or.inl ⟨rfl, fun j h1 h2 => g2 j h1 (by omega)⟩)], rfl, rfl⟩
        · skip
          refine bw_aload rfl rfl ?_
          refine bw_getr rfl rfl (hR _ _) ?_
          refine bw_iload rfl rfl ?_
          refine bw_aldi rfl (by first | rfl | assumption) (by omega) (by omega) ?_
          rw [show gI M 461 l = S (12 + 7 * l) from hS.nl l (by omega) (by omega)]
          refine bw_iload rfl rfl ?_
          refine bw_icne rfl (fun c20 => ?_) (fun c20 => ?_)
          · skip
            refine bw_iinc (ls2 := [_, _, _, _, _]) rfl rfl rfl ⟨by omega, by omega⟩ rfl ?_
            refine bw_goto rfl ?_
            refine ih _ (by omega) (fun j h1 h2 => ?_) (by omega)
            by_cases q : j = l
            · rw [q]
              intro hn
              have e1 := hn.1
              first
              | omega
              | (rcases hr28 with h | h
                 · omega
                 · exact h.1 (fun i i0 i1 => hn.2 i i0 (by omega)))
            · exact g2 j h1 (by omega)
          · skip
            refine bw_aload rfl rfl ?_
            refine bw_iload rfl rfl ?_
            refine bw_aload rfl rfl ?_
            refine bw_iload rfl rfl ?_
            refine bw_callVj (e := d - 1) (as := [_, _, _]) rfl (by omega) rfl rfl (Nat.le_of_ble_eq_true rfl) (Nat.le_of_ble_eq_true rfl) rfl (c_isSpelt hR hT (by first | exact Or.inl rfl | exact Or.inr rfl) hS (by omega) (by omega)) (fun r28 hr28 => ?_)
            refine bw_ifeq rfl (fun c31 => ?_) (fun c31 => ?_)
            · skip
              refine bw_iinc (ls2 := [_, _, _, _, _]) rfl rfl rfl ⟨by omega, by omega⟩ rfl ?_
              refine bw_goto rfl ?_
              refine ih _ (by omega) (fun j h1 h2 => ?_) (by omega)
              by_cases q : j = l
              · rw [q]
                intro hn
                have e1 := hn.1
                first
                | omega
                | (rcases hr28 with h | h
                   · omega
                   · exact h.1 (fun i i0 i1 => hn.2 i i0 (by omega)))
              · exact g2 j h1 (by omega)
            · skip
              refine bw_iload rfl rfl ?_
              refine bw_ret rfl rfl ?_
              rcases hr28 with h | h
              · exact ⟨by rw [fnL_eq (x := l) (Or.inr ⟨by omega, ⟨by omega, fun i i0 i1 => h.1 i i0 (by omega)⟩, g2⟩)], rfl, rfl⟩
              · exfalso; omega
    show abW d (0, 0) 61 0 [some (vr (some 459)), some (vr (some 2)), some (vi b), some (vi m), none] [] (0, 0) (A0 L) M (qE (some (vi (fnL S a (S 1) b m))) (A0 L) M)
    refine bw_push rfl ?_
    refine bw_istore (ls2 := [_, _, _, _, _]) rfl rfl (Nat.le_of_ble_eq_true rfl) rfl ?_
    exact L3 ((S 1).toNat + 1) 0 (by omega) (fun j h1 h2 => by omega) (by omega)
theorem SR_0 {M : abMem} {s : Nat} (h0 : gI M s 0 = 0) (h1 : gI M s 1 = 0) (h2 : gI M s 2 = 0) (h3 : gI M s 3 = 0) (h4 : gI M s 4 = 0) (h5 : gI M s 5 = 0) : SR M s (fun _ => 0) := by
  have z : ∀ l : Int, 0 ≤ l → l < (0 : Int) → False := fun l a b => by omega
  exact ⟨⟨by decide, by decide, by decide, by decide, by decide, by decide, fun l a b => (z l a b).elim, fun l a b => (z l a b).elim, fun l i a b => (z l a b).elim, fun l a b => (z l a b).elim, fun l a b => (z l a b).elim, fun l a b => (z l a b).elim, fun j a b => ⟨Int.le_refl _, by show (0 : Int) ≤ 99; decide⟩⟩, h0, h1, h2, h3, h4, h5, fun l a b => (z l a b).elim, fun l a b => (z l a b).elim, fun l i a b => (z l a b).elim, fun l f a b => (z l a b).elim, fun l f a b => (z l a b).elim, fun l f a b => (z l a b).elim, fun l f a b => (z l a b).elim, fun l c a b => (z l a b).elim, fun l v a b => (z l a b).elim, fun l a b => (z l a b).elim⟩
set_option maxRecDepth 20000 in
set_option maxHeartbeats 4000000 in
theorem c_clear {d L : Nat} {M : abMem} {r : abRf} (hR : RF r M) {s : Nat} (hs : s = 372 ∨ s = 459) : abW d (0, 0) 58 0 (abEnt (abL 58) [vr (some s)]) [] (0, 0) (A0 L) M (qV (A0 L) (fun N => sm (pSc s) M N ∧ SR N s (fun _ => 0))) := by
  rcases hs with rfl | rfl
  · show abW d (0, 0) 58 0 [some (vr (some 372))] [] (0, 0) (A0 L) M (qV (A0 L) (fun N => sm (pSc 372) M N ∧ SR N 372 (fun _ => 0)))
    refine bw_aload rfl rfl ?_
    refine bw_push rfl ?_
    refine bw_putI rfl rfl ?_
    refine bw_aload rfl rfl ?_
    refine bw_push rfl ?_
    refine bw_putI rfl rfl ?_
    refine bw_aload rfl rfl ?_
    refine bw_push rfl ?_
    refine bw_putI rfl rfl ?_
    refine bw_aload rfl rfl ?_
    refine bw_push rfl ?_
    refine bw_putI rfl rfl ?_
    refine bw_aload rfl rfl ?_
    refine bw_push rfl ?_
    refine bw_putI rfl rfl ?_
    refine bw_aload rfl rfl ?_
    refine bw_push rfl ?_
    refine bw_putI rfl rfl ?_
    refine bw_retv rfl rfl ?_
    have hp : pSc 372 372 := ⟨Nat.le_refl _, by decide⟩
    exact ⟨rfl, rfl, ((((((sm_refl (pSc 372) _).sI _ _ hp).sI _ _ hp).sI _ _ hp).sI _ _ hp).sI _ _ hp).sI _ _ hp, SR_0 (by rw [gI_sI_nj (by decide), gI_sI_nj (by decide), gI_sI_nj (by decide), gI_sI_nj (by decide), gI_sI_nj (by decide), gI_sI_eq]) (by rw [gI_sI_nj (by decide), gI_sI_nj (by decide), gI_sI_nj (by decide), gI_sI_nj (by decide), gI_sI_eq]) (by rw [gI_sI_nj (by decide), gI_sI_nj (by decide), gI_sI_nj (by decide), gI_sI_eq]) (by rw [gI_sI_nj (by decide), gI_sI_nj (by decide), gI_sI_eq]) (by rw [gI_sI_nj (by decide), gI_sI_eq]) (by rw [gI_sI_eq])⟩
  · show abW d (0, 0) 58 0 [some (vr (some 459))] [] (0, 0) (A0 L) M (qV (A0 L) (fun N => sm (pSc 459) M N ∧ SR N 459 (fun _ => 0)))
    refine bw_aload rfl rfl ?_
    refine bw_push rfl ?_
    refine bw_putI rfl rfl ?_
    refine bw_aload rfl rfl ?_
    refine bw_push rfl ?_
    refine bw_putI rfl rfl ?_
    refine bw_aload rfl rfl ?_
    refine bw_push rfl ?_
    refine bw_putI rfl rfl ?_
    refine bw_aload rfl rfl ?_
    refine bw_push rfl ?_
    refine bw_putI rfl rfl ?_
    refine bw_aload rfl rfl ?_
    refine bw_push rfl ?_
    refine bw_putI rfl rfl ?_
    refine bw_aload rfl rfl ?_
    refine bw_push rfl ?_
    refine bw_putI rfl rfl ?_
    refine bw_retv rfl rfl ?_
    have hp : pSc 459 459 := ⟨Nat.le_refl _, by decide⟩
    exact ⟨rfl, rfl, ((((((sm_refl (pSc 459) _).sI _ _ hp).sI _ _ hp).sI _ _ hp).sI _ _ hp).sI _ _ hp).sI _ _ hp, SR_0 (by rw [gI_sI_nj (by decide), gI_sI_nj (by decide), gI_sI_nj (by decide), gI_sI_nj (by decide), gI_sI_nj (by decide), gI_sI_eq]) (by rw [gI_sI_nj (by decide), gI_sI_nj (by decide), gI_sI_nj (by decide), gI_sI_nj (by decide), gI_sI_eq]) (by rw [gI_sI_nj (by decide), gI_sI_nj (by decide), gI_sI_nj (by decide), gI_sI_eq]) (by rw [gI_sI_nj (by decide), gI_sI_nj (by decide), gI_sI_eq]) (by rw [gI_sI_nj (by decide), gI_sI_eq]) (by rw [gI_sI_eq])⟩
