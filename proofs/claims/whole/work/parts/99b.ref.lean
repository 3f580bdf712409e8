theorem SW_cg {S T : Int → Int} (h : SW S) (o : ∀ j : Int, 0 ≤ j → j < 1006 → T j = S j) : SW T := by
  have f0 := h.fr
  have f1 := h.la
  have f2 := h.bo
  have f3 := h.sl
  have f4 := h.hi
  exact ⟨by rw [o 0 (by omega) (by omega)]; exact h.fr, by rw [o 1 (by omega) (by omega)]; exact h.la, by rw [o 2 (by omega) (by omega)]; exact h.bo, by rw [o 3 (by omega) (by omega)]; exact h.sl, by rw [o 4 (by omega) (by omega)]; exact h.hi, by rw [o 5 (by omega) (by omega)]; exact h.st, fun l l0 l1 => by rw [o 1 (by omega) (by omega)] at l1; rw [o (6 + l) (by omega) (by omega)]; exact h.on l l0 l1, fun l l0 l1 => by rw [o 1 (by omega) (by omega)] at l1; rw [o (12 + 7 * l) (by omega) (by omega)]; exact h.nm l l0 l1, fun l i l0 l1 i0 i1 => by rw [o 1 (by omega) (by omega)] at l1; rw [o (12 + 7 * l) (by omega) (by omega)] at i1; have := (h.nm l l0 l1).2; rw [o (13 + 7 * l + i) (by omega) (by omega)]; exact h.le l i l0 l1 i0 i1, fun k k0 k1 => by rw [o 2 (by omega) (by omega)] at k1; rw [o 1 (by omega) (by omega), o (54 + 7 * k) (by omega) (by omega), o (54 + 7 * k + 1) (by omega) (by omega), o (54 + 7 * k + 2) (by omega) (by omega), o (54 + 7 * k + 3) (by omega) (by omega), o (54 + 7 * k + 4) (by omega) (by omega), o (54 + 7 * k + 5) (by omega) (by omega), o (54 + 7 * k + 6) (by omega) (by omega)]; exact h.bx k k0 k1, fun k k0 k1 => by rw [o 3 (by omega) (by omega)] at k1; rw [o 1 (by omega) (by omega), o 0 (by omega) (by omega), o (334 + 5 * k) (by omega) (by omega), o (334 + 5 * k + 1) (by omega) (by omega), o (334 + 5 * k + 2) (by omega) (by omega), o (334 + 5 * k + 3) (by omega) (by omega), o (334 + 5 * k + 4) (by omega) (by omega)]; exact h.sd k k0 k1, fun k k0 k1 => by rw [o 4 (by omega) (by omega)] at k1; rw [o 1 (by omega) (by omega), o 0 (by omega) (by omega), o (394 + 3 * k) (by omega) (by omega), o (394 + 3 * k + 1) (by omega) (by omega), o (394 + 3 * k + 2) (by omega) (by omega)]; exact h.hd k k0 k1, fun j j0 j1 => by rw [o (430 + j) (by omega) (by omega)]; exact h.td j j0 j1⟩
theorem mv_cg {S T : Int → Int} (h : SW S) (o : ∀ j : Int, 0 ≤ j → j < 1006 → T j = S j) {l f t : Int} (ht : t = 0 ∨ t = 1) : mv T l f t = mv S l f t := by
  have := h.sl
  exact mv_congr (o 3 (by decide) (by decide)) (fun j j0 j1 => o j (by omega) (by omega)) l f t ht
theorem hid_cg {S T : Int → Int} (h : SW S) (o : ∀ j : Int, 0 ≤ j → j < 1006 → T j = S j) {l f : Int} : hid T l f = hid S l f := by
  have := h.hi
  exact propext (hid_congr (o 4 (by decide) (by decide)) (fun j j0 j1 => o j (by omega) (by omega)) l f)
theorem SR_cg {M : abMem} {s : Nat} {S T : Int → Int} (hS : SR M s S) (o : ∀ j : Int, 0 ≤ j → j < 1006 → T j = S j) : SR M s T := by
  have hT := SW_cg hS.sw o
  have w0 := hS.sw.fr
  have w1 := hS.sw.la
  have w2 := hS.sw.bo
  have w3 := hS.sw.sl
  have w4 := hS.sw.hi
  have em : ∀ i f t : Int, (t = 0 ∨ t = 1) → mv T i f t = mv S i f t := fun i f t ht => mv_cg hS.sw o ht
  have eh : ∀ i f : Int, (hid T i f) = (hid S i f) := fun i f => hid_cg hS.sw o
  have en : ∀ {i v k x : Int}, isNx S i v k x → isNx T i v k x := fun h => nx_congr (o 2 (by decide) (by decide)) (fun j j0 j1 => o j (by omega) (by omega)) h
  exact ⟨hT, by rw [o 0 (by omega) (by omega)]; exact hS.c0, by rw [o 5 (by omega) (by omega)]; exact hS.c1, by rw [o 1 (by omega) (by omega)]; exact hS.c2, by rw [o 2 (by omega) (by omega)]; exact hS.c3, by rw [o 3 (by omega) (by omega)]; exact hS.c4, by rw [o 4 (by omega) (by omega)]; exact hS.c5, fun i i0 i1 => by rw [o 1 (by omega) (by omega)] at i1; rw [o (6 + i) (by omega) (by omega)]; exact hS.on i i0 i1, fun i i0 i1 => by rw [o 1 (by omega) (by omega)] at i1; rw [o (12 + 7 * i) (by omega) (by omega)]; exact hS.nl i i0 i1, fun i j i0 i1 j0 j1 => by rw [o 1 (by omega) (by omega)] at i1; rw [o (12 + 7 * i) (by omega) (by omega)] at j1; have := (hS.sw.nm i i0 i1).2; rw [o (13 + 7 * i + j) (by omega) (by omega)]; exact hS.nm i j i0 i1 j0 j1, fun i f i0 i1 f0 f1 => by rw [o 1 (by omega) (by omega)] at i1; rw [o 0 (by omega) (by omega)] at f1; rw [o (430 + 96 * i + f) (by omega) (by omega)]; exact hS.rw i f i0 i1 f0 f1, fun i f i0 i1 f0 f1 => by rw [o 1 (by omega) (by omega)] at i1; rw [o 0 (by omega) (by omega)] at f1; rw [em i f 0 (by omega)]; exact hS.rt i f i0 i1 f0 f1, fun i f i0 i1 f0 f1 => by rw [o 1 (by omega) (by omega)] at i1; rw [o 0 (by omega) (by omega)] at f1; rw [em i f 1 (by omega)]; exact hS.dn i f i0 i1 f0 f1, fun i f i0 i1 f0 f1 => by rw [o 1 (by omega) (by omega)] at i1; rw [o 0 (by omega) (by omega)] at f1; rw [eh i f]; exact hS.cv i f i0 i1 f0 f1, fun i j i0 i1 j0 j1 => by rw [o 2 (by omega) (by omega)] at i1; rw [o (54 + 7 * i + j) (by omega) (by omega)]; exact hS.bx i j i0 i1 j0 j1, fun i v i0 i1 v0 v1 => by rw [o 1 (by omega) (by omega)] at i1; exact en (hS.fb i v i0 i1 v0 v1), fun i i0 i1 => by rw [o 2 (by omega) (by omega)] at i1; rw [o (54 + 7 * i) (by omega) (by omega), o (54 + 7 * i + 1) (by omega) (by omega)]; exact en (hS.nb i i0 i1)⟩
theorem ink_cg {S T : Int → Int} (h : SW S) (o : ∀ j : Int, 0 ≤ j → j < 1006 → T j = S j) {l dr x y : Int} : ink T l dr x y = ink S l dr x y := by
  have b := h.bo
  unfold ink
  rw [o 2 (by decide) (by decide)]
  have key : ∀ n : Nat, (n : Int) ≤ S 2 → inkN T l dr x y n = inkN S l dr x y n := by
    intro n
    induction n with
    | zero => intro _; rfl
    | succ n ih =>
      intro hn
      show (if bxH T l dr x y n then T (54 + 7 * (n : Int) + 6) else inkN T l dr x y n) = (if bxH S l dr x y n then S (54 + 7 * (n : Int) + 6) else inkN S l dr x y n)
      have e : bxH T l dr x y n = bxH S l dr x y n := by
        unfold bxH
        rw [o _ (by omega) (by omega), o _ (by omega) (by omega), o _ (by omega) (by omega), o _ (by omega) (by omega), o _ (by omega) (by omega), o _ (by omega) (by omega)]
      rw [e, o _ (by omega) (by omega), ih (by omega)]
  exact key _ (by omega)
theorem lyI_cg {S T : Int → Int} (h : SW S) (o : ∀ j : Int, 0 ≤ j → j < 1006 → T j = S j) {dr l f k : Int} : lyI T dr l f k = lyI S dr l f k := by
  unfold lyI
  rw [hid_cg h o, mv_cg h o (Or.inl rfl), mv_cg h o (Or.inr rfl), ink_cg h o]
theorem cB_cg {S T st st' : Int → Int} {R R' : Int → Int → Int} {f k : Int} (h : SW S) (o : ∀ j : Int, 0 ≤ j → j < 1006 → T j = S j) : ∀ n : Nat, (∀ p : Int, 0 ≤ p → p < n → st' p = st p ∧ R' (st p) f = R (st p) f) → cB T st' R' f k n = cB S st R f k n := by
  intro n
  induction n with
  | zero => intro _; rfl
  | succ n ih =>
    intro e
    have e1 := e n (by omega) (by omega)
    show (if 0 < lyI T (R' (st' n) f) (st' n) f k then (lyI T (R' (st' n) f) (st' n) f k, st' n) else cB T st' R' f k n) = (if 0 < lyI S (R (st n) f) (st n) f k then (lyI S (R (st n) f) (st n) f k, st n) else cB S st R f k n)
    rw [e1.1, e1.2, lyI_cg h o, ih (fun p p0 p1 => e p p0 (by omega))]
section
variable {r : abRf} {M N : abMem} {k : Int}
/-- the reference's numbers that stand between calls are the same -/
def rE (M N : abMem) : Prop := (∀ j : Int, 0 ≤ j → j < 1006 → gI N 568 j = gI M 568 j) ∧ ∀ j : Int, (0 ≤ j ∧ j < 582) ∨ 1164 ≤ j → gI N 569 j = gI M 569 j
theorem pcI_cg (h : INV r M k) (e : rE M N) {f q : Int} (hf : 0 ≤ f ∧ f < 96) : pcI N 0 f q = pcI M 0 f q := by
  have b := h.la
  unfold pcI
  rw [e.1 1 (by decide) (by decide)]
  refine cB_cg h.rb.sw e.1 _ (fun p p0 p1 => ?_)
  have hs := h.hS p p0 (by omega)
  refine ⟨e.2 _ (Or.inl ⟨by omega, by omega⟩), e.2 _ (Or.inl ?_)⟩
  show 0 ≤ 0 + 96 * gI M 569 (0 + 576 + p) + f ∧ 0 + 96 * gI M 569 (0 + 576 + p) + f < 582
  omega
theorem alk_cg (h : INV r M k) (e : rE M N) {f g : Int} (hf : 0 ≤ f ∧ f < 96) (hg : 0 ≤ g ∧ g < 96) : alk N 0 f g ↔ alk M 0 f g := by
  unfold alk
  exact ⟨fun z q q0 q1 => by rw [← pcI_cg h e hf, ← pcI_cg h e hg]; exact z q q0 q1, fun z q q0 q1 => by rw [pcI_cg h e hf, pcI_cg h e hg]; exact z q q0 q1⟩
theorem pctO_cg (h : INV r M k) (e : rE M N) (h0 : gI N 0 = gI M 0) (h1 : gI N 548 = gI M 548) : pctO N := by
  have b := h.fr
  have p := h.pc
  unfold pctO picO at p ⊢
  rw [h0, h1, e.1 0 (by decide) (by decide)]
  have et : ∀ m : Int, m ≤ gI M 568 0 → cN (pB (nwE (alk N 0))) m.toNat = cN (pB (nwE (alk M 0))) m.toNat := fun m hm => tk_cg hm (fun i j i0 i1 j0 j1 => alk_cg h e ⟨i0, by omega⟩ ⟨j0, by omega⟩)
  rcases p with p | ⟨p1, p2, p3⟩
  · exact Or.inl p
  · refine Or.inr ⟨p1, ?_, fun f f0 f1 => ?_⟩
    · rw [p2]
      unfold tk
      rw [e.1 0 (by decide) (by decide)]
      exact (et _ (Int.le_refl _)).symm
    · obtain ⟨x, x1, x2⟩ := p3 f f0 f1
      refine ⟨x, isFL_congr x1 f1 (fun j j0 j1 => (alk_cg h e ⟨j0, by omega⟩ ⟨f0, by omega⟩).symm), ?_⟩
      rw [x2]
      exact (et x (by have := x1.2.1; omega)).symm
theorem shP_cg {b : Nat} {i : Int} (h : shP M b i) (hl : 0 ≤ gI M 568 1 ∧ gI M 568 1 ≤ 6) (hn : gI M 568 0 ≤ 96) (e : rE M N) (hi : i = 0 ∨ 1164 ≤ i) (g : ∀ a : Nat, b ≤ a ∧ a < b + 9 → gI N a = gI M a) : shP N b i := by
  have e0 := e.1 0 (by decide) (by decide)
  have e1 := e.1 1 (by decide) (by decide)
  obtain ⟨h1, h2, h3, h4⟩ := h
  refine ⟨fun l f l0 l1 f0 f1 => ?_, fun p p0 p1 => ?_, fun p p0 p1 => ?_, fun l l0 l1 => ?_⟩
  · rw [e1] at l1; rw [e0] at f1
    rw [e.2 _ (by omega), g (b + 2 + l.toNat) ⟨by omega, by omega⟩]; exact h1 l f l0 l1 f0 f1
  · rw [e.2 _ (by omega), g (b + 8) ⟨by omega, by omega⟩]; exact h2 p p0 p1
  · rw [e1] at p1 ⊢
    rw [e.2 _ (by omega)]; exact h3 p p0 p1
  · rw [e1] at l1 ⊢
    obtain ⟨p, p0, p1, p2⟩ := h4 l l0 l1
    exact ⟨p, p0, p1, by rw [e.2 _ (by omega)]; exact p2⟩
/-- cells that a text that ends with a fault may change -/
abbrev pFl (r : abRf) (a : Nat) : Prop := (1 ≤ a ∧ a ≤ 9) ∨ (oth r ≤ a ∧ a < oth r + 87)
theorem INV_g {r' : abRf} (h : INV r M k) (hR : RF r' N) (hr : r'.1 = r.1) (c : ∀ a : Nat, a < 567 → ¬ pFl r a → gI N a = gI M a) (c70 : gI N 570 = gI M 570) (e : rE M N) (sh : ∀ j : Int, 0 ≤ j → j < 13968 → 0 ≤ gI N 569 j ∧ gI N 569 j ≤ 99) (c72 : gI N 572 = gI M 572) (e3 : gI N 567 3 = gI M 567 3) (ht : tapO N) (hf : gI N 3 5 = gI N 567 6 ∧ gI N 3 6 = gI N 567 7) : INV r' N k := by
  have la := h.la
  have fr := h.fr
  have hcr : cur r' = cur r := by unfold cur; rw [hr]
  have ho : (oth r = 372 ∧ cur r = 459) ∨ (oth r = 459 ∧ cur r = 372) := by
    unfold oth cur
    split
    · exact Or.inl ⟨rfl, rfl⟩
    · exact Or.inr ⟨rfl, rfl⟩
  have cc : ∀ a : Nat, a < 567 → (10 ≤ a ∧ ¬ (oth r ≤ a ∧ a < oth r + 87) ∨ a = 0) → gI N a = gI M a := fun a ha hq => c a ha (fun z => by omega)
  have shh : ∀ (b : Nat) (i : Int), shP M b i → (i = 0 ∨ 1164 ≤ i) → (∀ a, b ≤ a → a < b + 9 → (10 ≤ a ∧ a < 372) ∨ (546 ≤ a ∧ a < 567)) → shP N b i := fun b i hb hi hq => shP_cg hb la fr.2 e hi (fun a ha => by
    have := hq a ha.1 ha.2
    exact cc a (by omega) (by omega))
  refine ⟨hR, ⟨SW_cg h.rb.sw e.1, sh⟩, ?_, shh 10 0 h.sh (Or.inl rfl) (fun a a0 a1 => by omega), ?_, ?_, ht, ?_, hf, ?_, pctO_cg h e (cc 0 (by decide) (by omega)) (cc 548 (by decide) (by omega)), cmrO_e h.cm (by rw [cc 203 (by decide) (by omega)]) (cc 218 (by decide) (by omega)), ?_⟩
  · rw [hcr]
    refine SR_cg (SR_sm (M := M) (N := (N.1, M.2)) (p := fun x => x < cur r ∨ cur r + 87 ≤ x) h.sr ⟨rfl, fun x hx => cc x (by omega) (by omega)⟩ (fun x x0 x1 z => by omega)) e.1
  · obtain ⟨i1, i2, i3⟩ := h.hi
    unfold hisO
    rw [cc 19 (by decide) (by omega), e3]
    refine ⟨i1, i2, fun j j0 j1 => shh _ _ (i3 j j0 j1) (Or.inr (by omega)) (fun a a0 a1 => ?_)⟩
    have := hix_in i2 i1.2 ⟨j0, j1⟩
    omega
  · intro q q0 q1
    obtain ⟨i1, i2⟩ := h.ke q q0 q1
    rw [cc 202 (by decide) (by omega), c70]
    exact ⟨i1, i2.elim Or.inl (fun z => Or.inr ⟨z.1, shh _ _ z.2 (Or.inr (by omega)) (fun a a0 a1 => by omega)⟩)⟩
  · have i := h.ow
    unfold ownO at i ⊢
    rw [c72]; exact i
  · intro l l0 l1
    rw [e.1 1 (by decide) (by decide)] at l1
    rw [cc 547 (by decide) (by omega), e.1 0 (by decide) (by decide)]
    exact (h.mk l l0 l1).elim Or.inl (fun z => Or.inr (isMk_cg z (fun j j0 j1 => (e.2 _ (Or.inl ⟨by omega, by omega⟩)).symm)))
  · obtain ⟨i1, i2⟩ := h.ly
    refine ⟨?_, nmO_cg i2 la.2 (e.1 1 (by decide) (by decide)) (fun j j0 j1 => e.1 j (by omega) (by omega))⟩
    rw [e.1 1 (by decide) (by decide), e.1 0 (by decide) (by decide)]; exact i1
end
