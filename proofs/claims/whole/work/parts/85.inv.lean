/-- the scene in use -/
def cur (r : abRf) : Nat := if r.1 then 459 else 372
def oth (r : abRf) : Nat := if r.1 then 372 else 459
theorem cur_in (r : abRf) : cur r = 372 ∨ cur r = 459 := by
  unfold cur
  split
  · exact Or.inr rfl
  · exact Or.inl rfl
theorem cur_r {r : abRf} {M : abMem} {s : Nat} (hR : RF r M) (hc : cur r = s) : gR M 0 8 = some s := by rw [← hc]; exact hR 0 8
theorem oth_r {r : abRf} {M : abMem} {s : Nat} (hR : RF r M) (hc : oth r = s) : gR M 0 9 = some s := by rw [← hc]; exact hR 0 9
/-- the class's sheet at b is the reference's at i -/
def shP (M : abMem) (b : Nat) (i : Int) : Prop := (∀ l f : Int, 0 ≤ l → l < gI M 568 1 → 0 ≤ f → f < gI M 568 0 → gI M (b + 2 + l.toNat) f = gI M 569 (i + 96 * l + f)) ∧ (∀ p : Int, 0 ≤ p → p < 6 → gI M (b + 8) p = gI M 569 (i + 576 + p)) ∧ (∀ p : Int, 0 ≤ p → p < gI M 568 1 → 0 ≤ gI M 569 (i + 576 + p) ∧ gI M 569 (i + 576 + p) < gI M 568 1) ∧ (∀ l : Int, 0 ≤ l → l < gI M 568 1 → ∃ p : Int, 0 ≤ p ∧ p < gI M 568 1 ∧ gI M 569 (i + 576 + p) = l)
/-- where the ring has the j-th of the acts -/
def hix (n a j : Int) : Int := if n - a + j < 0 then n - a + j + 20 else n - a + j
theorem hix_in {n a j : Int} (hn : 0 ≤ n ∧ n < 20) (ha : 0 ≤ a ∧ a ≤ 20) (hj : 0 ≤ j ∧ j < a) : 0 ≤ hix n a j ∧ hix n a j < 20 := by
  unfold hix
  split <;> omega
def picO (M : abMem) : Prop := gI M 0 13 = tk M 0 ∧ ∀ f : Int, 0 ≤ f → f < gI M 568 0 → ∃ x : Int, isFL (alk M 0) f x ∧ gI M 548 f = cN (pB (nwE (alk M 0))) x.toNat
def hisO (M : abMem) : Prop := (gI M 19 2 = gI M 567 3 ∧ 0 ≤ gI M 567 3 ∧ gI M 567 3 ≤ 20) ∧ (0 ≤ gI M 19 1 ∧ gI M 19 1 < 20) ∧ ∀ j : Int, 0 ≤ j → j < gI M 567 3 → shP M (21 + 9 * (hix (gI M 19 1) (gI M 567 3) j).toNat) (2328 + 582 * j)
def kepO (M : abMem) : Prop := ∀ k : Int, 0 ≤ k → k ≤ 1 → gI M 202 k = gI M 570 k ∧ (gI M 570 k = 0 ∨ (gI M 570 k = 1 ∧ shP M (549 + 9 * k.toNat) (1164 + 582 * k)))
def tapO (M : abMem) : Prop := gI M 1 1 = gI M 567 5 ∧ (0 ≤ gI M 567 5 ∧ gI M 567 5 ≤ 1200) ∧ ∀ j : Int, 0 ≤ j → j < gI M 567 5 → (0 ≤ gI M 571 j ∧ gI M 571 j ≤ 255) ∧ gI M 2 j = sg (gI M 571 j)
def ownO (M : abMem) : Prop := ∀ j : Int, 0 ≤ j → j < 94 → gI M 572 j = ownT j
def mkcO (M : abMem) : Prop := ∀ l : Int, 0 ≤ l → l < gI M 568 1 → gI M 547 l = -1 ∨ isMk (mR M 0 l) (gI M 568 0) (gI M 547 l)
def pctO (M : abMem) : Prop := gI M 0 14 = 0 ∨ (gI M 0 14 = 1 ∧ picO M)
def cmrO (M : abMem) (k : Int) : Prop := (0 ≤ gI M 203 4 ∧ gI M 203 4 ≤ k) ∧ ∀ x : Int, 0 ≤ x → x < 3936 → gI M 218 x ≤ gI M 203 4
/-- no name is a word of the language -/
def nmO (S : Int → Int) : Prop := ∀ l : Int, 0 ≤ l → l < S 1 → ow S (13 + 7 * l) (S (12 + 7 * l)) = -1
def layO (M : abMem) : Prop := (gI M 568 1 = 0 → gI M 568 0 = 0) ∧ nmO (gI M 568)
/-- what holds between calls; k: no more rounds of the camera than that -/
def INV (r : abRf) (M : abMem) (k : Int) : Prop := RF r M ∧ RB M ∧ SR M (cur r) (gI M 568) ∧ shP M 10 0 ∧ hisO M ∧ kepO M ∧ tapO M ∧ ownO M ∧ (gI M 3 5 = gI M 567 6 ∧ gI M 3 6 = gI M 567 7) ∧ mkcO M ∧ pctO M ∧ cmrO M k ∧ layO M
section
variable {r : abRf} {M : abMem} {k : Int}
theorem INV.rf (h : INV r M k) : RF r M := h.1
theorem INV.rb (h : INV r M k) : RB M := h.2.1
theorem INV.sr (h : INV r M k) : SR M (cur r) (gI M 568) := h.2.2.1
theorem INV.sh (h : INV r M k) : shP M 10 0 := h.2.2.2.1
theorem INV.hi (h : INV r M k) : hisO M := h.2.2.2.2.1
theorem INV.ke (h : INV r M k) : kepO M := h.2.2.2.2.2.1
theorem INV.ta (h : INV r M k) : tapO M := h.2.2.2.2.2.2.1
theorem INV.ow (h : INV r M k) : ownO M := h.2.2.2.2.2.2.2.1
theorem INV.fa (h : INV r M k) : gI M 3 5 = gI M 567 6 ∧ gI M 3 6 = gI M 567 7 := h.2.2.2.2.2.2.2.2.1
theorem INV.mk (h : INV r M k) : mkcO M := h.2.2.2.2.2.2.2.2.2.1
theorem INV.pc (h : INV r M k) : pctO M := h.2.2.2.2.2.2.2.2.2.2.1
theorem INV.cm (h : INV r M k) : cmrO M k := h.2.2.2.2.2.2.2.2.2.2.2.1
theorem INV.ly (h : INV r M k) : layO M := h.2.2.2.2.2.2.2.2.2.2.2.2
theorem INV.fr (h : INV r M k) : 0 ≤ gI M 568 0 ∧ gI M 568 0 ≤ 96 := h.rb.fr
theorem INV.la (h : INV r M k) : 0 ≤ gI M 568 1 ∧ gI M 568 1 ≤ 6 := h.rb.la
/-- the reference's stack -/
theorem INV.hS (h : INV r M k) : ∀ p : Int, 0 ≤ p → p < gI M 568 1 → 0 ≤ gI M 569 (0 + 576 + p) ∧ gI M 569 (0 + 576 + p) ≤ 5 := fun p p0 p1 => by
  have a := h.sh.2.2.1 p p0 p1
  have b := h.la
  omega
theorem INV.hp (h : INV r M k) {l : Int} : 0 ≤ l → l < gI M 568 1 → ∃ p : Int, 0 ≤ p ∧ p ≤ 5 ∧ gI M 569 (576 + p) = l := fun l0 l1 => by
  obtain ⟨p, p0, p1, p2⟩ := h.sh.2.2.2 l l0 l1
  have b := h.la
  exact ⟨p, p0, by omega, p2⟩
theorem INV.hp2 (h : INV r M k) {l : Int} : 0 ≤ l → l < gI M 568 1 → ∃ p : Int, 0 ≤ p ∧ p < gI M 568 1 ∧ gI M 569 (576 + p) = l := fun l0 l1 => by
  obtain ⟨p, p0, p1, p2⟩ := h.sh.2.2.2 l l0 l1
  exact ⟨p, p0, p1, p2⟩
/-- a row of the class's sheet -/
theorem INV.row (h : INV r M k) {l f : Int} (hl : 0 ≤ l ∧ l < gI M 568 1) (hf : 0 ≤ f ∧ f < gI M 568 0) : gI M (12 + l.toNat) f = mR M 0 l f := h.sh.1 l f hl.1 hl.2 hf.1 hf.2
theorem INV.rv (h : INV r M k) {l f : Int} (hl : 0 ≤ l ∧ l < gI M 568 1) (hf : 0 ≤ f ∧ f < gI M 568 0) : 0 ≤ gI M (12 + l.toNat) f ∧ gI M (12 + l.toNat) f ≤ 99 := by
  have a := h.fr
  have b := h.la
  rw [h.row hl hf]
  exact h.rb.mR (by omega) (by omega)
theorem INV.sv (h : INV r M k) : shV M (gI M 568) := ⟨fun p p0 p1 => by
  have b := h.la
  have e := h.sh.2.1 p p0 (by omega)
  rw [show gI M 18 p = gI M 569 (0 + 576 + p) from e]
  exact h.sh.2.2.1 p p0 p1, fun l f l0 l1 f0 f1 => h.rv ⟨l0, l1⟩ ⟨f0, f1⟩⟩
end
theorem pE_cg {f g : Int → Int} {n : Int} (e : ∀ j : Int, 0 ≤ j → j < n → f j = g j) : cN (pE f) n.toNat = cN (pE g) n.toNat := cN_congr n.toNat (fun j j0 j1 => by
  unfold pE
  by_cases q : j = 0
  · simp [q]
  · rw [e j j0 (by omega), e (j - 1) (by omega) (by omega)])
theorem pF_cg {f g : Int → Int} {n : Int} (e : ∀ j : Int, 0 ≤ j → j < n → f j = g j) : cN (pF f) n.toNat = cN (pF g) n.toNat := cN_congr n.toNat (fun j j0 j1 => by
  unfold pF
  rw [e j j0 (by omega)])
theorem pFE_cg {f g : Int → Int} {n : Int} (e : ∀ j : Int, 0 ≤ j → j < n → f j = g j) : cN (pFE f) n.toNat = cN (pFE g) n.toNat := cN_congr n.toNat (fun j j0 j1 => by
  unfold pFE
  by_cases q : j = 0
  · rw [e j j0 (by omega)]; simp [q]
  · rw [e j j0 (by omega), e (j - 1) (by omega) (by omega)])
theorem pJ_cg {f g : Int → Int} {n : Int} (e : ∀ j : Int, 0 ≤ j → j < n → f j = g j) : cN (pJ f) n.toNat = cN (pJ g) n.toNat := cN_congr n.toNat (fun j j0 j1 => by
  unfold pJ
  by_cases q : 1 ≤ j
  · rw [e j j0 (by omega), e (j - 1) (by omega) (by omega)]
  · rw [decide_eq_false (fun h => q h.1), decide_eq_false (fun h => q h.1)])
theorem pD_cg {f g f' g' : Int → Int} {n : Int} (e : ∀ j : Int, 0 ≤ j → j < n → f j = f' j ∧ g j = g' j) : cN (pD f g) n.toNat = cN (pD f' g') n.toNat := cN_congr n.toNat (fun j j0 j1 => by
  unfold pD
  rw [(e j j0 (by omega)).1, (e j j0 (by omega)).2])
theorem pU_cg {f g : Int → Int} {n : Int} (e : ∀ j : Int, 0 ≤ j → j < n → f j = g j) : cN (pU f) n.toNat = cN (pU g) n.toNat := cN_congr n.toNat (fun j j0 j1 => by
  have w : pWA f j ↔ pWA g j := by
    constructor
    · rintro ⟨i, i0, i1, i2⟩; exact ⟨i, i0, i1, by rw [← e i i0 (by omega), ← e j j0 (by omega)]; exact i2⟩
    · rintro ⟨i, i0, i1, i2⟩; exact ⟨i, i0, i1, by rw [e i i0 (by omega), e j j0 (by omega)]; exact i2⟩
  by_cases q : f j ≠ 0 ∧ ¬ pWA f j
  · rw [pU_t q.1 q.2, pU_t (by rw [← e j j0 (by omega)]; exact q.1) (fun k => q.2 (w.mpr k))]
  · rw [pU_f q, pU_f (fun k => q ⟨by rw [e j j0 (by omega)]; exact k.1, fun z => k.2 (w.mp z)⟩)])
theorem mX_cg {f g : Int → Int} : ∀ n : Nat, (∀ j : Int, 0 ≤ j → j < n → f j = g j) → mX f n = mX g n := by
  intro n
  induction n with
  | zero => intro _; rfl
  | succ n ih =>
    intro e
    show max (mX f n) (f n) = max (mX g n) (g n)
    rw [ih (fun j j0 j1 => e j j0 (by omega)), e n (by omega) (by omega)]
theorem isFst_cg {f g : Int → Int} {e r n : Int} (hn : e < n) (h : isFst f e r) (c : ∀ j : Int, 0 ≤ j → j < n → f j = g j) : isFst g e r := by
  obtain ⟨h1, h2, h3, h4⟩ := h
  refine ⟨h1, h2, fun j j0 j1 => by rw [← c j (by omega) (by omega), ← c e (by omega) hn]; exact h3 j j0 j1, ?_⟩
  by_cases q : r = 0
  · exact Or.inl q
  · rw [← c (r - 1) (by omega) (by omega), ← c e (by omega) hn]; exact h4
theorem isStp_cg {f g : Int → Int} {e n r : Int} (he : 0 ≤ e ∧ e < n) (h : isStp f e n r) (c : ∀ j : Int, 0 ≤ j → j < n → f j = g j) : isStp g e n r := by
  obtain ⟨h1, h2, h3, h4⟩ := h
  refine ⟨h1, h2, fun j j0 j1 => by rw [← c j (by omega) (by omega), ← c e he.1 he.2]; exact h3 j j0 j1, ?_⟩
  by_cases q : r = n
  · exact Or.inl q
  · rw [← c r (by omega) (by omega), ← c e he.1 he.2]; exact h4
theorem isMk_cg {f g : Int → Int} {n x : Int} (h : isMk f n x) (c : ∀ j : Int, 0 ≤ j → j < n → f j = g j) : isMk g n x := by
  unfold isMk at h ⊢
  rw [← sp_congr n.toNat (fun j j0 j1 => c j j0 (by omega))]
  exact h
