theorem bxN_o {S : Int → Int} {l dr x y w i g j : Int} (h2 : j ≠ 2) (hj : j < 54 + 7 * S 2 ∨ 61 + 7 * S 2 ≤ j) : up (bxU S l dr x y w i g) 2 (S 2 + 1) j = S j := by
  rw [up_ne h2]
  unfold bxU
  rw [up_ne (by omega), up_ne (by omega), up_ne (by omega), up_ne (by omega), up_ne (by omega), up_ne (by omega), up_ne (by omega)]
theorem bxN_2 {S : Int → Int} {l dr x y w i g : Int} : up (bxU S l dr x y w i g) 2 (S 2 + 1) 2 = S 2 + 1 := up_eq rfl
theorem bxN_n {S : Int → Int} {l dr x y w i g : Int} (h : 0 ≤ S 2) : up (bxU S l dr x y w i g) 2 (S 2 + 1) (54 + 7 * S 2) = l ∧ up (bxU S l dr x y w i g) 2 (S 2 + 1) (54 + 7 * S 2 + 1) = dr ∧ up (bxU S l dr x y w i g) 2 (S 2 + 1) (54 + 7 * S 2 + 2) = x ∧ up (bxU S l dr x y w i g) 2 (S 2 + 1) (54 + 7 * S 2 + 3) = y ∧ up (bxU S l dr x y w i g) 2 (S 2 + 1) (54 + 7 * S 2 + 4) = w ∧ up (bxU S l dr x y w i g) 2 (S 2 + 1) (54 + 7 * S 2 + 5) = i ∧ up (bxU S l dr x y w i g) 2 (S 2 + 1) (54 + 7 * S 2 + 6) = g := by
  rw [up_ne (by omega), up_ne (by omega), up_ne (by omega), up_ne (by omega), up_ne (by omega), up_ne (by omega), up_ne (by omega)]
  unfold bxU
  refine ⟨?_, ?_, ?_, ?_, ?_, ?_, ?_⟩
  · rw [up_ne (by omega), up_ne (by omega), up_ne (by omega), up_ne (by omega), up_ne (by omega), up_ne (by omega), up_eq rfl]
  · rw [up_ne (by omega), up_ne (by omega), up_ne (by omega), up_ne (by omega), up_ne (by omega), up_eq rfl]
  · rw [up_ne (by omega), up_ne (by omega), up_ne (by omega), up_ne (by omega), up_eq rfl]
  · rw [up_ne (by omega), up_ne (by omega), up_ne (by omega), up_eq rfl]
  · rw [up_ne (by omega), up_ne (by omega), up_eq rfl]
  · rw [up_ne (by omega), up_eq rfl]
  · rw [up_eq rfl]
theorem sw_bx {S : Int → Int} {l dr x y w i g : Int} (h : SW S) (h2 : S 2 ≤ 39) (v0 : 0 ≤ l ∧ l < S 1) (v1 : 1 ≤ dr ∧ dr ≤ 99) (v2 : 0 ≤ x ∧ x ≤ 11) (v3 : 0 ≤ y ∧ y ≤ 7) (v4 : 1 ≤ w ∧ w ≤ 12) (v5 : 1 ≤ i ∧ i ≤ 8) (v6 : 1 ≤ g ∧ g ≤ 9) : SW (up (bxU S l dr x y w i g) 2 (S 2 + 1)) := by
  have f1 := h.la
  have f2 := h.bo
  have f3 := h.sl
  have f4 := h.hi
  have n2 := bxN_2 (S := S) (l := l) (dr := dr) (x := x) (y := y) (w := w) (i := i) (g := g)
  have nn := bxN_n (S := S) (l := l) (dr := dr) (x := x) (y := y) (w := w) (i := i) (g := g) (by omega)
  have o : ∀ j : Int, (j ≠ 2 ∧ (j < 54 + 7 * S 2 ∨ 61 + 7 * S 2 ≤ j)) → up (bxU S l dr x y w i g) 2 (S 2 + 1) j = S j := fun j hj => bxN_o hj.1 hj.2
  generalize up (bxU S l dr x y w i g) 2 (S 2 + 1) = T at n2 nn o ⊢
  exact ⟨by rw [o 0 (by omega)]; exact h.fr, by rw [o 1 (by omega)]; exact h.la, by rw [n2]; omega, by rw [o 3 (by omega)]; exact h.sl, by rw [o 4 (by omega)]; exact h.hi, by rw [o 5 (by omega)]; exact h.st, fun l l0 l1 => by rw [o 1 (by omega)] at l1; rw [o (6 + l) (by omega)]; exact h.on l l0 l1, fun l l0 l1 => by rw [o 1 (by omega)] at l1; rw [o (12 + 7 * l) (by omega)]; exact h.nm l l0 l1, fun l i l0 l1 i0 i1 => by rw [o 1 (by omega)] at l1; rw [o (12 + 7 * l) (by omega)] at i1; have := (h.nm l l0 l1).2; rw [o (13 + 7 * l + i) (by omega)]; exact h.le l i l0 l1 i0 i1, fun k k0 k1 => by by_cases q : k = S 2; (rw [q, nn.1, nn.2.1, nn.2.2.1, nn.2.2.2.1, nn.2.2.2.2.1, nn.2.2.2.2.2.1, nn.2.2.2.2.2.2, o 1 (by omega)]; exact ⟨v0, v1, v2, v3, v4, v5, v6⟩); (rw [n2] at k1; rw [o 1 (by omega), o (54 + 7 * k) (by omega), o (54 + 7 * k + 1) (by omega), o (54 + 7 * k + 2) (by omega), o (54 + 7 * k + 3) (by omega), o (54 + 7 * k + 4) (by omega), o (54 + 7 * k + 5) (by omega), o (54 + 7 * k + 6) (by omega)]; exact h.bx k k0 (by omega)), fun k k0 k1 => by rw [o 3 (by omega)] at k1; rw [o 1 (by omega), o 0 (by omega), o (334 + 5 * k) (by omega), o (334 + 5 * k + 1) (by omega), o (334 + 5 * k + 2) (by omega), o (334 + 5 * k + 3) (by omega), o (334 + 5 * k + 4) (by omega)]; exact h.sd k k0 k1, fun k k0 k1 => by rw [o 4 (by omega)] at k1; rw [o 1 (by omega), o 0 (by omega), o (394 + 3 * k) (by omega), o (394 + 3 * k + 1) (by omega), o (394 + 3 * k + 2) (by omega)]; exact h.hd k k0 k1, fun j j0 j1 => by rw [o (430 + j) (by omega)]; exact h.td j j0 j1⟩
theorem sw_sl {S T : Int → Int} (h : SW S) (h3 : S 3 ≤ 11) (o : ∀ j : Int, (j ≠ 3 ∧ (j < 334 + 5 * S 3 ∨ 339 + 5 * S 3 ≤ j)) → T j = S j) (n3 : T 3 = S 3 + 1) (v0 : 0 ≤ T (334 + 5 * S 3) ∧ T (334 + 5 * S 3) < S 1) (v1 : 0 ≤ T (334 + 5 * S 3 + 1) ∧ T (334 + 5 * S 3 + 1) ≤ T (334 + 5 * S 3 + 2) ∧ T (334 + 5 * S 3 + 2) < S 0) (v3 : -9 ≤ T (334 + 5 * S 3 + 3) ∧ T (334 + 5 * S 3 + 3) ≤ 9) (v4 : -9 ≤ T (334 + 5 * S 3 + 4) ∧ T (334 + 5 * S 3 + 4) ≤ 9) : SW T := by
  have f1 := h.la
  have f2 := h.bo
  have f3 := h.sl
  have f4 := h.hi
  exact ⟨by rw [o 0 (by omega)]; exact h.fr, by rw [o 1 (by omega)]; exact h.la, by rw [o 2 (by omega)]; exact h.bo, by rw [n3]; omega, by rw [o 4 (by omega)]; exact h.hi, by rw [o 5 (by omega)]; exact h.st, fun l l0 l1 => by rw [o 1 (by omega)] at l1; rw [o (6 + l) (by omega)]; exact h.on l l0 l1, fun l l0 l1 => by rw [o 1 (by omega)] at l1; rw [o (12 + 7 * l) (by omega)]; exact h.nm l l0 l1, fun l i l0 l1 i0 i1 => by rw [o 1 (by omega)] at l1; rw [o (12 + 7 * l) (by omega)] at i1; have := (h.nm l l0 l1).2; rw [o (13 + 7 * l + i) (by omega)]; exact h.le l i l0 l1 i0 i1, fun k k0 k1 => by rw [o 2 (by omega)] at k1; rw [o 1 (by omega), o (54 + 7 * k) (by omega), o (54 + 7 * k + 1) (by omega), o (54 + 7 * k + 2) (by omega), o (54 + 7 * k + 3) (by omega), o (54 + 7 * k + 4) (by omega), o (54 + 7 * k + 5) (by omega), o (54 + 7 * k + 6) (by omega)]; exact h.bx k k0 k1, fun k k0 k1 => by by_cases q : k = S 3; (rw [q, o 1 (by omega), o 0 (by omega)]; exact ⟨v0, v1, v3, v4⟩); (rw [n3] at k1; rw [o 1 (by omega), o 0 (by omega), o (334 + 5 * k) (by omega), o (334 + 5 * k + 1) (by omega), o (334 + 5 * k + 2) (by omega), o (334 + 5 * k + 3) (by omega), o (334 + 5 * k + 4) (by omega)]; exact h.sd k k0 (by omega)), fun k k0 k1 => by rw [o 4 (by omega)] at k1; rw [o 1 (by omega), o 0 (by omega), o (394 + 3 * k) (by omega), o (394 + 3 * k + 1) (by omega), o (394 + 3 * k + 2) (by omega)]; exact h.hd k k0 k1, fun j j0 j1 => by rw [o (430 + j) (by omega)]; exact h.td j j0 j1⟩
theorem sw_hd {S T : Int → Int} (h : SW S) (h4 : S 4 ≤ 11) (o : ∀ j : Int, (j ≠ 4 ∧ (j < 394 + 3 * S 4 ∨ 397 + 3 * S 4 ≤ j)) → T j = S j) (n4 : T 4 = S 4 + 1) (v0 : 0 ≤ T (394 + 3 * S 4) ∧ T (394 + 3 * S 4) < S 1) (v1 : 0 ≤ T (394 + 3 * S 4 + 1) ∧ T (394 + 3 * S 4 + 1) ≤ T (394 + 3 * S 4 + 2) ∧ T (394 + 3 * S 4 + 2) < S 0) : SW T := by
  have f1 := h.la
  have f2 := h.bo
  have f3 := h.sl
  have f4 := h.hi
  exact ⟨by rw [o 0 (by omega)]; exact h.fr, by rw [o 1 (by omega)]; exact h.la, by rw [o 2 (by omega)]; exact h.bo, by rw [o 3 (by omega)]; exact h.sl, by rw [n4]; omega, by rw [o 5 (by omega)]; exact h.st, fun l l0 l1 => by rw [o 1 (by omega)] at l1; rw [o (6 + l) (by omega)]; exact h.on l l0 l1, fun l l0 l1 => by rw [o 1 (by omega)] at l1; rw [o (12 + 7 * l) (by omega)]; exact h.nm l l0 l1, fun l i l0 l1 i0 i1 => by rw [o 1 (by omega)] at l1; rw [o (12 + 7 * l) (by omega)] at i1; have := (h.nm l l0 l1).2; rw [o (13 + 7 * l + i) (by omega)]; exact h.le l i l0 l1 i0 i1, fun k k0 k1 => by rw [o 2 (by omega)] at k1; rw [o 1 (by omega), o (54 + 7 * k) (by omega), o (54 + 7 * k + 1) (by omega), o (54 + 7 * k + 2) (by omega), o (54 + 7 * k + 3) (by omega), o (54 + 7 * k + 4) (by omega), o (54 + 7 * k + 5) (by omega), o (54 + 7 * k + 6) (by omega)]; exact h.bx k k0 k1, fun k k0 k1 => by rw [o 3 (by omega)] at k1; rw [o 1 (by omega), o 0 (by omega), o (334 + 5 * k) (by omega), o (334 + 5 * k + 1) (by omega), o (334 + 5 * k + 2) (by omega), o (334 + 5 * k + 3) (by omega), o (334 + 5 * k + 4) (by omega)]; exact h.sd k k0 k1, fun k k0 k1 => by by_cases q : k = S 4; (rw [q, o 1 (by omega), o 0 (by omega)]; exact ⟨v0, v1⟩); (rw [n4] at k1; rw [o 1 (by omega), o 0 (by omega), o (394 + 3 * k) (by omega), o (394 + 3 * k + 1) (by omega), o (394 + 3 * k + 2) (by omega)]; exact h.hd k k0 (by omega)), fun j j0 j1 => by rw [o (430 + j) (by omega)]; exact h.td j j0 j1⟩
theorem sw_la {S T : Int → Int} (h : SW S) (h1 : S 1 ≤ 5) (o : ∀ j : Int, (j ≠ 1 ∧ j ≠ 6 + S 1 ∧ (j < 12 + 7 * S 1 ∨ 19 + 7 * S 1 ≤ j) ∧ (j < 430 + 96 * S 1 ∨ 526 + 96 * S 1 ≤ j)) → T j = S j) (n1 : T 1 = S 1 + 1) (v0 : 1 ≤ T (6 + S 1) ∧ T (6 + S 1) ≤ 24) (v1 : 1 ≤ T (12 + 7 * S 1) ∧ T (12 + 7 * S 1) ≤ 6) (v2 : ∀ i : Int, 0 ≤ i → i < T (12 + 7 * S 1) → 97 ≤ T (13 + 7 * S 1 + i) ∧ T (13 + 7 * S 1 + i) ≤ 122) (v3 : ∀ f : Int, 0 ≤ f → f < 96 → 0 ≤ T (430 + 96 * S 1 + f) ∧ T (430 + 96 * S 1 + f) ≤ 99) : SW T := by
  have f1 := h.la
  have f2 := h.bo
  have f3 := h.sl
  have f4 := h.hi
  exact ⟨by rw [o 0 (by omega)]; exact h.fr, by rw [n1]; omega, by rw [o 2 (by omega)]; exact h.bo, by rw [o 3 (by omega)]; exact h.sl, by rw [o 4 (by omega)]; exact h.hi, by rw [o 5 (by omega)]; exact h.st, fun l l0 l1 => by by_cases q : l = S 1; (rw [q]; exact v0); (rw [n1] at l1; rw [o (6 + l) (by omega)]; exact h.on l l0 (by omega)), fun l l0 l1 => by by_cases q : l = S 1; (rw [q]; exact v1); (rw [n1] at l1; rw [o (12 + 7 * l) (by omega)]; exact h.nm l l0 (by omega)), fun l i l0 l1 i0 i1 => by by_cases q : l = S 1; (rw [q] at i1 ⊢; exact v2 i i0 i1); (rw [n1] at l1; rw [o (12 + 7 * l) (by omega)] at i1; have := (h.nm l l0 (by omega)).2; rw [o (13 + 7 * l + i) (by omega)]; exact h.le l i l0 (by omega) i0 i1), fun k k0 k1 => by rw [o 2 (by omega)] at k1; rw [n1, o (54 + 7 * k) (by omega), o (54 + 7 * k + 1) (by omega), o (54 + 7 * k + 2) (by omega), o (54 + 7 * k + 3) (by omega), o (54 + 7 * k + 4) (by omega), o (54 + 7 * k + 5) (by omega), o (54 + 7 * k + 6) (by omega)]; have := h.bx k k0 k1; exact ⟨by omega, this.2⟩, fun k k0 k1 => by rw [o 3 (by omega)] at k1; rw [n1, o 0 (by omega), o (334 + 5 * k) (by omega), o (334 + 5 * k + 1) (by omega), o (334 + 5 * k + 2) (by omega), o (334 + 5 * k + 3) (by omega), o (334 + 5 * k + 4) (by omega)]; have := h.sd k k0 k1; exact ⟨by omega, this.2⟩, fun k k0 k1 => by rw [o 4 (by omega)] at k1; rw [n1, o 0 (by omega), o (394 + 3 * k) (by omega), o (394 + 3 * k + 1) (by omega), o (394 + 3 * k + 2) (by omega)]; have := h.hd k k0 k1; exact ⟨by omega, this.2⟩, fun j j0 j1 => by by_cases q : 96 * S 1 ≤ j ∧ j < 96 * S 1 + 96; (have := v3 (j - 96 * S 1) (by omega) (by omega); rw [show 430 + 96 * S 1 + (j - 96 * S 1) = 430 + j by omega] at this; exact this); (rw [o (430 + j) (by omega)]; exact h.td j j0 j1)⟩
theorem mv_congr {S T : Int → Int} (h3 : T 3 = S 3) (o : ∀ j : Int, 334 ≤ j → j < 334 + 5 * S 3 → T j = S j) (l f t : Int) (ht : t = 0 ∨ t = 1) : mv T l f t = mv S l f t := by
  unfold mv
  rw [h3]
  refine sN_congr _ (fun k k0 k1 => ?_)
  unfold mvT
  rw [o (334 + 5 * k) (by omega) (by omega), o (334 + 5 * k + 1) (by omega) (by omega), o (334 + 5 * k + 2) (by omega) (by omega), o (334 + 5 * k + 3 + t) (by omega) (by omega)]
theorem hid_congr {S T : Int → Int} (h4 : T 4 = S 4) (o : ∀ j : Int, 394 ≤ j → j < 394 + 3 * S 4 → T j = S j) (l f : Int) : hid T l f ↔ hid S l f := by
  unfold hid
  constructor
  · rintro ⟨k, k0, k1, k2, k3, k4⟩
    rw [h4] at k1
    rw [o _ (by omega) (by omega)] at k2
    rw [o _ (by omega) (by omega)] at k3
    rw [o _ (by omega) (by omega)] at k4
    exact ⟨k, k0, k1, k2, k3, k4⟩
  · rintro ⟨k, k0, k1, k2, k3, k4⟩
    refine ⟨k, k0, by rw [h4]; exact k1, ?_, ?_, ?_⟩
    · rw [o _ (by omega) (by omega)]; exact k2
    · rw [o _ (by omega) (by omega)]; exact k3
    · rw [o _ (by omega) (by omega)]; exact k4
/-- the box of that drawing of that layer next behind k -/
def isNx (S : Int → Int) (l dr k x : Int) : Prop := (x = -1 ∧ ∀ j : Int, k < j → 0 ≤ j → j < S 2 → ¬ (S (54 + 7 * j) = l ∧ S (54 + 7 * j + 1) = dr)) ∨ ((k < x ∧ 0 ≤ x ∧ x < S 2) ∧ (S (54 + 7 * x) = l ∧ S (54 + 7 * x + 1) = dr) ∧ ∀ j : Int, k < j → 0 ≤ j → j < x → ¬ (S (54 + 7 * j) = l ∧ S (54 + 7 * j + 1) = dr))
theorem nx_congr {S T : Int → Int} {l dr k x : Int} (h2 : T 2 = S 2) (o : ∀ j : Int, 54 ≤ j → j < 54 + 7 * S 2 → T j = S j) (h : isNx S l dr k x) : isNx T l dr k x := by
  rcases h with ⟨h1, h3⟩ | ⟨h1, h3, h4⟩
  · refine Or.inl ⟨h1, fun j j0 j1 j2 => ?_⟩
    rw [h2] at j2
    rw [o _ (by omega) (by omega), o _ (by omega) (by omega)]
    exact h3 j j0 j1 j2
  · refine Or.inr ⟨by omega, ?_, fun j j0 j1 j2 => ?_⟩
    · rw [o _ (by omega) (by omega), o _ (by omega) (by omega)]; exact h3
    · rw [o _ (by omega) (by omega), o _ (by omega) (by omega)]; exact h4 j j0 j1 j2
/-- the class's scene at s is S -/
abbrev SR (M : abMem) (s : Nat) (S : Int → Int) : Prop := (SW S) ∧ (gI M s 0 = S 0) ∧ (gI M s 1 = S 5) ∧ (gI M s 2 = S 1) ∧ (gI M s 3 = S 2) ∧ (gI M s 4 = S 3) ∧ (gI M s 5 = S 4) ∧ (∀ l : Int, 0 ≤ l → l < S 1 → gI M (s + 1) l = S (6 + l)) ∧ (∀ l : Int, 0 ≤ l → l < S 1 → gI M (s + 2) l = S (12 + 7 * l)) ∧ (∀ l i : Int, 0 ≤ l → l < S 1 → 0 ≤ i → i < S (12 + 7 * l) → gI M (s + 4 + l.toNat) i = S (13 + 7 * l + i)) ∧ (∀ l f : Int, 0 ≤ l → l < S 1 → 0 ≤ f → f < S 0 → gI M (s + 11 + l.toNat) f = S (430 + 96 * l + f)) ∧ (∀ l f : Int, 0 ≤ l → l < S 1 → 0 ≤ f → f < S 0 → gI M (s + 18 + l.toNat) f = mv S l f 0) ∧ (∀ l f : Int, 0 ≤ l → l < S 1 → 0 ≤ f → f < S 0 → gI M (s + 25 + l.toNat) f = mv S l f 1) ∧ (∀ l f : Int, 0 ≤ l → l < S 1 → 0 ≤ f → f < S 0 → (hid S l f ∧ gI M (s + 32 + l.toNat) f = 1) ∨ (¬ hid S l f ∧ gI M (s + 32 + l.toNat) f = 0)) ∧ (∀ k c : Int, 0 ≤ k → k < S 2 → 0 ≤ c → c < 7 → gI M (s + 39 + k.toNat) c = S (54 + 7 * k + c)) ∧ (∀ l v : Int, 0 ≤ l → l < S 1 → 0 ≤ v → v ≤ 99 → isNx S l v (-1) (gI M (s + 80 + l.toNat) v)) ∧ (∀ k : Int, 0 ≤ k → k < S 2 → isNx S (S (54 + 7 * k)) (S (54 + 7 * k + 1)) k (gI M (s + 86) k))
theorem SR.sw {M : abMem} {s : Nat} {S : Int → Int} (h : SR M s S) : SW S := h.1
theorem SR.c0 {M : abMem} {s : Nat} {S : Int → Int} (h : SR M s S) : gI M s 0 = S 0 := h.2.1
theorem SR.c1 {M : abMem} {s : Nat} {S : Int → Int} (h : SR M s S) : gI M s 1 = S 5 := h.2.2.1
theorem SR.c2 {M : abMem} {s : Nat} {S : Int → Int} (h : SR M s S) : gI M s 2 = S 1 := h.2.2.2.1
theorem SR.c3 {M : abMem} {s : Nat} {S : Int → Int} (h : SR M s S) : gI M s 3 = S 2 := h.2.2.2.2.1
theorem SR.c4 {M : abMem} {s : Nat} {S : Int → Int} (h : SR M s S) : gI M s 4 = S 3 := h.2.2.2.2.2.1
theorem SR.c5 {M : abMem} {s : Nat} {S : Int → Int} (h : SR M s S) : gI M s 5 = S 4 := h.2.2.2.2.2.2.1
theorem SR.on {M : abMem} {s : Nat} {S : Int → Int} (h : SR M s S) : ∀ l : Int, 0 ≤ l → l < S 1 → gI M (s + 1) l = S (6 + l) := h.2.2.2.2.2.2.2.1
theorem SR.nl {M : abMem} {s : Nat} {S : Int → Int} (h : SR M s S) : ∀ l : Int, 0 ≤ l → l < S 1 → gI M (s + 2) l = S (12 + 7 * l) := h.2.2.2.2.2.2.2.2.1
theorem SR.nm {M : abMem} {s : Nat} {S : Int → Int} (h : SR M s S) : ∀ l i : Int, 0 ≤ l → l < S 1 → 0 ≤ i → i < S (12 + 7 * l) → gI M (s + 4 + l.toNat) i = S (13 + 7 * l + i) := h.2.2.2.2.2.2.2.2.2.1
theorem SR.rw {M : abMem} {s : Nat} {S : Int → Int} (h : SR M s S) : ∀ l f : Int, 0 ≤ l → l < S 1 → 0 ≤ f → f < S 0 → gI M (s + 11 + l.toNat) f = S (430 + 96 * l + f) := h.2.2.2.2.2.2.2.2.2.2.1
theorem SR.rt {M : abMem} {s : Nat} {S : Int → Int} (h : SR M s S) : ∀ l f : Int, 0 ≤ l → l < S 1 → 0 ≤ f → f < S 0 → gI M (s + 18 + l.toNat) f = mv S l f 0 := h.2.2.2.2.2.2.2.2.2.2.2.1
theorem SR.dn {M : abMem} {s : Nat} {S : Int → Int} (h : SR M s S) : ∀ l f : Int, 0 ≤ l → l < S 1 → 0 ≤ f → f < S 0 → gI M (s + 25 + l.toNat) f = mv S l f 1 := h.2.2.2.2.2.2.2.2.2.2.2.2.1
theorem SR.cv {M : abMem} {s : Nat} {S : Int → Int} (h : SR M s S) : ∀ l f : Int, 0 ≤ l → l < S 1 → 0 ≤ f → f < S 0 → (hid S l f ∧ gI M (s + 32 + l.toNat) f = 1) ∨ (¬ hid S l f ∧ gI M (s + 32 + l.toNat) f = 0) := h.2.2.2.2.2.2.2.2.2.2.2.2.2.1
theorem SR.bx {M : abMem} {s : Nat} {S : Int → Int} (h : SR M s S) : ∀ k c : Int, 0 ≤ k → k < S 2 → 0 ≤ c → c < 7 → gI M (s + 39 + k.toNat) c = S (54 + 7 * k + c) := h.2.2.2.2.2.2.2.2.2.2.2.2.2.2.1
theorem SR.fb {M : abMem} {s : Nat} {S : Int → Int} (h : SR M s S) : ∀ l v : Int, 0 ≤ l → l < S 1 → 0 ≤ v → v ≤ 99 → isNx S l v (-1) (gI M (s + 80 + l.toNat) v) := h.2.2.2.2.2.2.2.2.2.2.2.2.2.2.2.1
theorem SR.nb {M : abMem} {s : Nat} {S : Int → Int} (h : SR M s S) : ∀ k : Int, 0 ≤ k → k < S 2 → isNx S (S (54 + 7 * k)) (S (54 + 7 * k + 1)) k (gI M (s + 86) k) := h.2.2.2.2.2.2.2.2.2.2.2.2.2.2.2.2
