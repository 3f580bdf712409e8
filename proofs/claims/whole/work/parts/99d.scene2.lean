section
variable {r : abRf} {M N N2 : abMem} {k x y : Int}
theorem oth_in (r : abRf) : oth r = 372 ∨ oth r = 459 := by
  unfold oth
  split
  · exact Or.inl rfl
  · exact Or.inr rfl
theorem pZ_lo {a : Nat} (h : pZ a) : 567 < a := by
  by_cases q : 567 < a
  · exact q
  · exfalso; omega
theorem scF_inv (h : INV r M k) (hF : scnF r (oth r) M x N) (u : f5 pZ qZ N N2) (v : gI N2 567 5 = 0) (w : scQ N (txA M) (gI M 567 5) y N2) : y = x ∧ INV (r.1, (some (oth r), r.2.2)) N2 k := by
  obtain ⟨e, h1, h2, h3, h4, h5, h6⟩ := hF
  have ho := oth_in r
  have g : ∀ a : Nat, ¬ (pA (oth r) a ∨ a = 1) → gI N a = gI M a := fun a ha => (h3.at a ha).trans rfl
  have g2 : ∀ a : Nat, a < 567 → gI N2 a = gI N a := fun a ha => u.at a (fun z => by have := pZ_lo z; omega) (by omega)
  rcases w with ⟨e', w1, w2, w3, w4, w5, w6, w7⟩ | ⟨S, w1, _⟩
  · have ee : e' = e := by
      have := isSc_eq w1 h1
      cases this; rfl
    subst ee
    refine ⟨by rw [w2, h2], INV_g h (u.RF (h3.RF (RF_3 h.rf _))) rfl (fun a ha hp => (g2 a ha).trans (g a (fun z => by omega))) (w6.trans (g 570 (fun z => by omega))) ⟨fun j j0 j1 => by rw [w4 j j1, g 568 (fun z => by omega)], fun j hj => by rw [w5, g 569 (fun z => by omega)]⟩ (fun j j0 j1 => by rw [w5, g 569 (fun z => by omega)]; exact h.rb.sh j j0 j1) ((u.at 572 (fun z => by omega) (by decide)).trans (g 572 (fun z => by omega))) (w7.trans (by rw [g 567 (fun z => by omega)])) ⟨by rw [g2 1 (by decide), h4, v], by omega, fun j j0 j1 => by omega⟩ ⟨by rw [g2 3 (by decide), h5, w3.1], by rw [g2 3 (by decide), h6, w3.2]⟩⟩
  · exfalso
    have := isSc_eq w1 h1
    cases this
theorem scG_inv (h : INV r M k) (hG : scnG r (oth r) M x N) (u : f5 pZ qZ N N2) (v : gI N2 567 5 = 0) (w : scQ N (txA M) (gI M 567 5) y N2) : y = x ∧ INV (!r.1, (some (oth r), r.2.2)) N2 k := by
  obtain ⟨S, h0, ⟨h1, h2, h3, h4, h5, h6, h7, h8⟩, h9, h10, h11⟩ := hG
  have ho := oth_in r
  have g2 : ∀ a : Nat, a < 567 → gI N2 a = gI N a := fun a ha => u.at a (fun z => by have := pZ_lo z; omega) (by omega)
  rcases w with ⟨e', w1, _⟩ | ⟨T, w1, w2, w3, w4, w5, w6, w7, w8, w9, w10⟩
  · exfalso
    have := isSc_eq w1 h1
    cases this
  · have ee : T = S := by
      have := isSc_eq w1 h1
      cases this; rfl
    subst ee
    have o : ∀ j : Int, 0 ≤ j → j < 1006 → gI N2 568 j = T j := fun j j0 j1 => by
      have := w4 j j0 j1
      rw [Int.zero_add] at this; exact this
    have nm := isTx_nm w1
    have sw := h4.sw
    have la := sw.la
    have fr := sw.fr
    have o1 := o 1 (by decide) (by decide)
    have o0 := o 0 (by decide) (by decide)
    have s2 : SR N2 (oth r) T := SR_sm (M := N) (N := (N2.1, N.2)) (p := fun a => 567 ≤ a) h4 ⟨rfl, fun a ha => g2 a (by omega)⟩ (fun c c0 c1 z => by omega)
    have hi := h.hi
    have cm := h.cm
    refine ⟨by rw [w2, h0], ?_⟩
    refine ⟨u.RF h2, ⟨SW_cg sw o, fun j j0 j1 => ?_⟩, ?_, ⟨fun l f l0 l1 f0 f1 => ?_, fun p p0 p1 => ?_, fun p p0 p1 => ?_, fun l l0 l1 => ?_⟩, ⟨⟨?_, ?_⟩, ?_, fun j j0 j1 => ?_⟩, fun q q0 q1 => ?_, ⟨?_, ?_, fun j j0 j1 => ?_⟩, ?_, ⟨?_, ?_⟩, fun l l0 l1 => Or.inl ?_, Or.inl ?_, ⟨?_, fun z z0 z1 => ?_⟩, ?_, ?_⟩
    · by_cases c1 : j < 576
      · rw [w5 j j0 c1]; exact sw.td j j0 c1
      · by_cases c2 : j < 582
        · rw [show j = 576 + (j - 576) by omega, w6 (j - 576) (by omega) (by omega)]; omega
        · rw [w7 j (by omega), h3 569 (fun z => by omega)]; exact h.rb.sh j j0 j1
    · rw [cur_sw rfl]
      exact SR_cg s2 o
    · rw [o1] at l1; rw [o0] at f1
      have e1 := h6 l f l0 (by omega) f0 (by omega)
      have e2 := h4.rw l f l0 l1 f0 f1
      rw [g2 _ (by omega), e1, show oth r + 9 + 2 + l.toNat = oth r + 11 + l.toNat by omega, e2, w5 _ (by omega) (by omega)]
      exact congrArg T (by omega)
    · rw [g2 18 (by decide), show 0 + 576 + p = 576 + p by omega, w6 p p0 p1]; exact h7 p p0 p1
    · rw [o1] at p1 ⊢
      rw [show 0 + 576 + p = 576 + p by omega, w6 p p0 (by omega)]; exact ⟨p0, p1⟩
    · rw [o1] at l1 ⊢
      exact ⟨l, l0, l1, by rw [show 0 + 576 + l = 576 + l by omega, w6 l l0 (by omega)]⟩
    · rw [g2 19 (by decide), h8.1, w8]
    · rw [w8]; decide
    · rw [g2 19 (by decide), h8.2]; exact hi.2.1
    · rw [w8] at j1; omega
    · have hq : q = 0 ∨ q = 1 := by omega
      rw [g2 202 (by decide)]
      rcases hq with rfl | rfl
      · exact ⟨by rw [h9.1, w9], Or.inl w9⟩
      · exact ⟨by rw [h9.2, w10], Or.inl w10⟩
    · rw [g2 1 (by decide), h5.1, v]
    · omega
    · omega
    · have i := h.ow
      unfold ownO at i ⊢
      rw [u.at 572 (fun z => by omega) (by decide), h3 572 (fun z => by omega)]; exact i
    · rw [g2 3 (by decide), h5.2.1, w3.1]
    · rw [g2 3 (by decide), h5.2.2, w3.2]
    · rw [o1] at l1
      rw [g2 547 (by decide)]; exact h10 l l0 (by omega)
    · rw [g2 0 (by decide)]; exact h11
    · rw [g2 203 (by decide), h3 203 (fun z => by omega)]; exact cm.1
    · rw [g2 203 (by decide), h3 203 (fun z => by omega), g2 218 (by decide), h3 218 (fun z => by omega)]; exact cm.2 z z0 z1
    · intro z
      rw [o1] at z
      exact absurd z nm.2
    · exact nmO_cg nm.1 la.2 o1 (fun j j0 j1 => o j (by omega) (by omega))
end
