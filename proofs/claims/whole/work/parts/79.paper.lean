theorem nb_mul (x y : Int64) : nb (x * y) = nb x * nb y % 18446744073709551616 := by
  show (x * y).toBitVec.toNat = _
  rw [Int64.toBitVec_mul, BitVec.toNat_mul]; rfl
/-- place x of a row of places -/
def nib (z : Int64) (x : Nat) : Nat := nb z / 2 ^ (4 * x) % 2 ^ 4
theorem nib_lt {z : Int64} {x : Nat} : nib z x < 16 := Nat.mod_lt _ (by decide)
theorem nib_of {z : Int64} {x m : Nat} (hm : m < 16) (h : ∀ j : Nat, j < 4 → (nb z).testBit (4 * x + j) = m.testBit j) : nib z x = m := by
  apply Nat.eq_of_testBit_eq
  intro j
  unfold nib
  rw [Nat.testBit_mod_two_pow, Nat.testBit_div_two_pow]
  by_cases q : j < 4
  · rw [decide_eq_true q, Bool.true_and, Nat.add_comm j]; exact h j q
  · rw [decide_eq_false q, Bool.false_and]
    exact (Nat.testBit_lt_two_pow (Nat.lt_of_lt_of_le (show m < 2 ^ 4 from hm) (Nat.pow_le_pow_right (by decide) (show 4 ≤ j by omega)))).symm
theorem nib_bit {z : Int64} {x j : Nat} (q : j < 4) : (nb z).testBit (4 * x + j) = (nib z x).testBit j := by
  unfold nib
  rw [Nat.testBit_mod_two_pow, Nat.testBit_div_two_pow, decide_eq_true q, Bool.true_and, Nat.add_comm j]
abbrev mkL (W L : Int) : Int64 := xlshl (xlshl (Int64.ofInt 1) (W * 4) - Int64.ofInt 1) (L * 4)
theorem nb_mask {W L : Int} (h : 0 ≤ L ∧ 1 ≤ W ∧ L + W ≤ 12) : nb (mkL W L) = (2 ^ (4 * W.toNat) - 1) * 2 ^ (4 * L.toNat) := by
  obtain ⟨w, rfl⟩ := Int.eq_ofNat_of_zero_le (show 0 ≤ W by omega)
  obtain ⟨l, rfl⟩ := Int.eq_ofNat_of_zero_le (show 0 ≤ L by omega)
  have o1 : nb (Int64.ofInt 1) = 1 := by decide
  have h1 : 2 ^ (4 * w) ≤ 2 ^ 48 := Nat.pow_le_pow_right (by decide) (by omega)
  have h2 : 2 ^ (4 * w) * 2 ^ (4 * l) ≤ 2 ^ 48 := by rw [← Nat.pow_add]; exact Nat.pow_le_pow_right (by decide) (by omega)
  have h0 : 1 ≤ 2 ^ (4 * w) := Nat.one_le_two_pow
  have e1 : nb (xlshl (Int64.ofInt 1) ((w : Int) * 4)) = 2 ^ (4 * w) := by
    rw [nb_shl ⟨by omega, by omega⟩, o1, Nat.one_mul, show ((w : Int) * 4).toNat = 4 * w by omega]
    exact Nat.mod_eq_of_lt (Nat.lt_of_le_of_lt h1 (by decide))
  have e2 : nb (xlshl (Int64.ofInt 1) ((w : Int) * 4) - Int64.ofInt 1) = 2 ^ (4 * w) - 1 := by
    rw [nb_sub, e1, o1]
    have h3 : 2 ^ (4 * w) ≤ 281474976710656 := h1
    generalize 2 ^ (4 * w) = n at h0 h3 ⊢
    omega
  show nb (xlshl (xlshl (Int64.ofInt 1) ((w : Int) * 4) - Int64.ofInt 1) ((l : Int) * 4)) = _
  rw [nb_shl ⟨by omega, by omega⟩, e2, show ((l : Int) * 4).toNat = 4 * l by omega]
  show _ = (2 ^ (4 * w) - 1) * 2 ^ (4 * l)
  refine Nat.mod_eq_of_lt (Nat.lt_of_le_of_lt (Nat.mul_le_mul_right _ (Nat.sub_le _ 1)) (Nat.lt_of_le_of_lt h2 (by decide)))
theorem mask_bit {W L : Int} (h : 0 ≤ L ∧ 1 ≤ W ∧ L + W ≤ 12) (i : Nat) : (nb (mkL W L)).testBit i = (decide (4 * L.toNat ≤ i) && decide (i - 4 * L.toNat < 4 * W.toNat)) := by
  rw [nb_mask h, Nat.testBit_mul_two_pow, Nat.testBit_two_pow_sub_one]
theorem mask_nib {W L : Int} (h : 0 ≤ L ∧ 1 ≤ W ∧ L + W ≤ 12) {x j : Nat} (hj : j < 4) : (nb (mkL W L)).testBit (4 * x + j) = decide (L ≤ x ∧ (x : Int) < L + W) := by
  rw [mask_bit h]
  by_cases q : L ≤ x ∧ (x : Int) < L + W
  · rw [decide_eq_true q, decide_eq_true (show 4 * L.toNat ≤ 4 * x + j by omega), decide_eq_true (show 4 * x + j - 4 * L.toNat < 4 * W.toNat by omega)]; rfl
  · rw [decide_eq_false q]
    by_cases q2 : 4 * L.toNat ≤ 4 * x + j
    · rw [decide_eq_true q2, decide_eq_false (show ¬ 4 * x + j - 4 * L.toNat < 4 * W.toNat by omega)]; rfl
    · rw [decide_eq_false q2]; rfl
theorem nb_i2l : ∀ k : Nat, k < 16 → nb (xi2l (k : Int)) = k := by decide
set_option maxRecDepth 100000 in
theorem one_bit : ∀ k : Nat, k < 16 → ∀ x : Nat, x < 12 → ∀ j : Nat, j < 4 → (18764998447377 * k).testBit (4 * x + j) = k.testBit j := by decide +kernel
theorem nb_one {v : Int} (h : 0 ≤ v ∧ v ≤ 15) : nb (Int64.ofInt 18764998447377 * xi2l v) = 18764998447377 * v.toNat := by
  obtain ⟨k, rfl⟩ := Int.eq_ofNat_of_zero_le h.1
  rw [nb_mul, nb_i2l k (by omega), show nb (Int64.ofInt 18764998447377) = 18764998447377 from by decide]
  show _ = 18764998447377 * k
  omega
abbrev pnL (z : Int64) (W L v : Int) : Int64 := (z &&& (mkL W L ^^^ Int64.ofInt (-1))) ||| ((Int64.ofInt 18764998447377 * xi2l v) &&& mkL W L)
theorem pn_bit {z : Int64} {W L v : Int} (i : Nat) (hi : i < 64) : (nb (pnL z W L v)).testBit i = (((nb z).testBit i && !(nb (mkL W L)).testBit i) || ((nb (Int64.ofInt 18764998447377 * xi2l v)).testBit i && (nb (mkL W L)).testBit i)) := by
  rw [nb_or, Nat.testBit_or, nb_and, Nat.testBit_and, nb_and, Nat.testBit_and, nb_xor, Nat.testBit_xor, show nb (Int64.ofInt (-1)) = 2 ^ 64 - 1 from by decide, Nat.testBit_two_pow_sub_one, decide_eq_true hi, Bool.xor_true]
theorem pn_nib {z : Int64} {W L v : Int} (h : 0 ≤ L ∧ 1 ≤ W ∧ L + W ≤ 12) (hv : 0 ≤ v ∧ v ≤ 15) {x : Nat} (hx : x < 12) : nib (pnL z W L v) x = if L ≤ x ∧ (x : Int) < L + W then v.toNat else nib z x := by
  by_cases q : L ≤ x ∧ (x : Int) < L + W
  · rw [if_pos q]
    refine nib_of (by omega) (fun j hj => ?_)
    rw [pn_bit _ (by omega), mask_nib h hj, decide_eq_true q, Bool.not_true, Bool.and_false, Bool.false_or, Bool.and_true, nb_one hv]
    exact one_bit v.toNat (by omega) x hx j hj
  · rw [if_neg q]
    refine nib_of nib_lt (fun j hj => ?_)
    rw [pn_bit _ (by omega), mask_nib h hj, decide_eq_false q, Bool.not_false, Bool.and_true, Bool.and_false, Bool.or_false]
    exact nib_bit hj
theorem big_bit {n i : Nat} (h : n < 281474976710656) (hi : 48 ≤ i) : n.testBit i = false := Nat.testBit_lt_two_pow (Nat.lt_of_lt_of_le (show n < 2 ^ 48 from h) (Nat.pow_le_pow_right (by decide) hi))
theorem pn_lt {z : Int64} {W L v : Int} (h : 0 ≤ L ∧ 1 ≤ W ∧ L + W ≤ 12) (hz : nb z < 281474976710656) : nb (pnL z W L v) < 281474976710656 := by
  refine Nat.lt_pow_two_of_testBit (n := 48) _ (fun i hi => ?_)
  by_cases q : i < 64
  · rw [pn_bit i q, big_bit hz hi, mask_bit h]
    rw [decide_eq_false (show ¬ i - 4 * L.toNat < 4 * W.toNat by omega)]
    simp
  · exact Nat.testBit_lt_two_pow (Nat.lt_of_lt_of_le (nb_lt _) (Nat.pow_le_pow_right (n := 2) (by decide) (show 64 ≤ i by omega)))
theorem xl2i_small {x : Int64} (h : nb x < 2147483648) : xl2i x = ((nb x : Nat) : Int) := by
  have e : x.toInt32.toInt = x.toInt.bmod (2 ^ 32) := Int64.toInt_toInt32 x
  have e2 : x.toInt = (x.toBitVec.toNat : Int).bmod (2 ^ 64) := BitVec.toInt_eq_toNat_bmod x.toBitVec
  show x.toInt32.toInt = ((x.toBitVec.toNat : Nat) : Int)
  have h' : x.toBitVec.toNat < 2147483648 := h
  rw [e, e2]
  generalize x.toBitVec.toNat = n at h'
  have b2 : ((n : Nat) : Int).bmod (2 ^ 64) = n := by
    unfold Int.bmod
    simp only
    split <;> omega
  rw [b2]
  unfold Int.bmod
  simp only
  split <;> omega
theorem val_at {z : Int64} {X : Int} (h : 0 ≤ X ∧ X < 12) : xl2i (xlushr z (X * 4) &&& Int64.ofInt 15) = ((nib z X.toNat : Nat) : Int) := by
  have e : nb (xlushr z (X * 4) &&& Int64.ofInt 15) = nib z X.toNat := by
    rw [nb_and, nb_shr ⟨by omega, by omega⟩, show nb (Int64.ofInt 15) = 2 ^ 4 - 1 from by decide, Nat.and_two_pow_sub_one_eq_mod, show (X * 4).toNat = 4 * X.toNat by omega]
    rfl
  rw [xl2i_small (by rw [e]; exact Nat.lt_trans nib_lt (by decide)), e]
theorem lcmp_0 {x y : Int64} : xlcmp x y = 0 ↔ x = y := by
  show (lg_cmp x y).toInt = 0 ↔ x = y
  unfold lg_cmp
  by_cases q : x > y
  · rw [if_pos q]
    constructor
    · intro h; exact absurd h (by decide)
    · intro h
      rw [h] at q
      exact absurd q Int64.lt_irrefl
  · rw [if_neg q]
    by_cases q2 : x = y
    · rw [if_pos q2]; exact ⟨fun _ => q2, fun _ => by decide⟩
    · rw [if_neg q2]; exact ⟨fun h => absurd h (by decide), fun h => absurd h q2⟩
/-- eight rows of places have the places P -/
def PAP (g : Int → Int64) (P : Int → Int) : Prop := ∀ y : Int, 0 ≤ y → y < 8 → nb (g y) < 281474976710656 ∧ ∀ x : Nat, x < 12 → ((nib (g y) x : Nat) : Int) = P (12 * y + x)
theorem PAP_congr {g : Int → Int64} {P Q : Int → Int} (h : PAP g P) (e : ∀ k : Int, 0 ≤ k → k < 96 → P k = Q k) : PAP g Q := fun y y0 y1 => ⟨(h y y0 y1).1, fun x hx => by rw [← e _ (by omega) (by omega)]; exact (h y y0 y1).2 x hx⟩
theorem PAP_g {g h : Int → Int64} {P : Int → Int} (H : PAP g P) (e : ∀ y : Int, 0 ≤ y → y < 8 → h y = g y) : PAP h P := fun y y0 y1 => by rw [e y y0 y1]; exact H y y0 y1
theorem PAP_up {g : Int → Int64} {P Q : Int → Int} {y : Int} {z : Int64} (h : PAP g P) (hy : 0 ≤ y ∧ y < 8) (hz : nb z < 281474976710656) (hq : ∀ x : Nat, x < 12 → ((nib z x : Nat) : Int) = Q (12 * y + x)) (o : ∀ k : Int, 0 ≤ k → k < 96 → ¬ (12 * y ≤ k ∧ k < 12 * y + 12) → Q k = P k) : PAP (up g y z) Q := fun i i0 i1 => by
  by_cases q : i = y
  · rw [q, up_eq rfl]; exact ⟨hz, hq⟩
  · rw [up_ne q]
    exact ⟨(h i i0 i1).1, fun x hx => by rw [o _ (by omega) (by omega) (by omega)]; exact (h i i0 i1).2 x hx⟩
theorem long_eq {z w : Int64} (h1 : nb z < 281474976710656) (h2 : nb w < 281474976710656) (h : ∀ x : Nat, x < 12 → nib z x = nib w x) : z = w := by
  refine nb_inj (Nat.eq_of_testBit_eq (fun i => ?_))
  by_cases q : i < 48
  · have e : i = 4 * (i / 4) + i % 4 := by omega
    rw [e, nib_bit (Nat.mod_lt _ (by decide)), nib_bit (Nat.mod_lt _ (by decide)), h _ (by omega)]
  · rw [big_bit h1 (by omega), big_bit h2 (by omega)]
theorem PAP_eq {g h : Int → Int64} {P Q : Int → Int} (hg : PAP g P) (hh : PAP h Q) : (∀ y : Int, 0 ≤ y → y < 8 → g y = h y) ↔ ∀ k : Int, 0 ≤ k → k < 96 → P k = Q k := by
  constructor
  · intro e k k0 k1
    have a := (hg (k / 12) (by omega) (by omega)).2 (k % 12).toNat (by omega)
    have b := (hh (k / 12) (by omega) (by omega)).2 (k % 12).toNat (by omega)
    rw [show 12 * (k / 12) + (((k % 12).toNat : Nat) : Int) = k by omega] at a b
    rw [← a, ← b, e _ (by omega) (by omega)]
  · intro e y y0 y1
    refine long_eq (hg y y0 y1).1 (hh y y0 y1).1 (fun x hx => ?_)
    have a := (hg y y0 y1).2 x hx
    have b := (hh y y0 y1).2 x hx
    rw [e _ (by omega) (by omega), ← b] at a
    exact Int.ofNat_inj.mp a
theorem PAP_in {g : Int → Int64} {P : Int → Int} (h : PAP g P) {k : Int} (hk : 0 ≤ k ∧ k < 96) : 0 ≤ P k ∧ P k < 16 := by
  have a := (h (k / 12) (by omega) (by omega)).2 (k % 12).toNat (by omega)
  rw [show 12 * (k / 12) + (((k % 12).toNat : Nat) : Int) = k by omega] at a
  have b := nib_lt (z := g (k / 12)) (x := (k % 12).toNat)
  omega
-- the memory but for the cells with p, longs too
def sc (p : Nat → Prop) (M N : abMem) : Prop := N.2.2 = M.2.2 ∧ ∀ a : Nat, ¬ p a → gI N a = gI M a ∧ gL N a = gL M a
section
variable {p q : Nat → Prop} {M N K : abMem}
theorem sc_refl (p : Nat → Prop) (M : abMem) : sc p M M := ⟨rfl, fun _ _ => ⟨rfl, rfl⟩⟩
theorem sc.at (h : sc p M N) (a : Nat) (hp : ¬ p a) : gI N a = gI M a := (h.2 a hp).1
theorem sc.atL (h : sc p M N) (a : Nat) (hp : ¬ p a) : gL N a = gL M a := (h.2 a hp).2
theorem sc.trans (h : sc p M N) (k : sc p N K) : sc p M K := ⟨k.1.trans h.1, fun a ha => ⟨(k.2 a ha).1.trans (h.2 a ha).1, (k.2 a ha).2.trans (h.2 a ha).2⟩⟩
theorem sc.mono (h : sc p M N) (hq : ∀ a, p a → q a) : sc q M N := ⟨h.1, fun a ha => h.2 a (fun hp => ha (hq a hp))⟩
theorem sm.sc (h : sm p M N) : sc p M N := ⟨by rw [h.1], fun a ha => ⟨h.2 a ha, by funext j; show N.2.1 a j = M.2.1 a j; rw [h.1]⟩⟩
theorem sc.RF {r : abRf} (h : sc p M N) (hR : RF r M) : RF r N := fun a j => by
  show N.2.2 a j = _
  rw [h.1]
  exact hR a j
theorem gL_sI {a b : Nat} {j x : Int} : gL (sI M a j x) b = gL M b := rfl
theorem sc.sI (h : sc p M N) {a : Nat} (j x : Int) (ha : p a) : sc p M (sI N a j x) := h.trans ((sm_refl p N).sI j x ha).sc
theorem sc.wI (h : sc p M N) {a : Nat} (f : Int → Int) (ha : p a) : sc p M (wI N a f) := h.trans ((sm_refl p N).wI f ha).sc
theorem sc.wL (h : sc p M N) {a : Nat} (f : Int → Int64) (ha : p a) : sc p M (wL N a f) := h.trans ⟨rfl, fun b hb => ⟨rfl, gL_wL_ne (fun e => hb (by rw [e]; exact ha))⟩⟩
theorem sc.sL (h : sc p M N) {a : Nat} (j : Int) (x : Int64) (ha : p a) : sc p M (sL N a j x) := h.wL _ ha
theorem gL_sL_eq {a : Nat} {j : Int} {x : Int64} : gL (sL M a j x) a = up (gL M a) j x := gL_wL_eq
theorem gL_sL_ne {a b : Nat} {j : Int} {x : Int64} (h : b ≠ a) : gL (sL M a j x) b = gL M b := gL_wL_ne h
end
