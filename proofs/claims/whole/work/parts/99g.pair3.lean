theorem TX_e {M N : abMem} {a : Int → Int} {n : Int} (h : TX M a n) (e : ∀ x : Nat, 567 ≤ x → gI N x = gI M x) : TX N a n := ⟨h.1, by rw [e 567 (by decide)]; exact h.2.1, by rw [e 571 (by decide)]; exact h.2.2.1, by rw [e 572 (by decide)]; exact h.2.2.2⟩
theorem SIm_s (f : Int → Int) : SIm f 0 f := fun j _ _ => by rw [Int.zero_add]
theorem pr_undo {r : abRf} {M : abMem} {k : Int} {L : Nat} (h : INV r M k) : PR L 121 267 [] k M := PR_i (x_undo h.rf (cur_in r) rfl h (by decide)) (fun x N hxN => by
  have hm : RF r N ∧ ∀ a : Nat, 567 ≤ a → gI N a = gI M a := by
    rcases hxN with ⟨_, _, u⟩ | ⟨_, _, u⟩
    · rw [u]; exact ⟨h.rf, fun _ _ => rfl⟩
    · exact ⟨u.1.RF h.rf, fun a ha => u.1.at a (fun z => by omega)⟩
  have e8 : gI N 568 = gI M 568 := hm.2 568 (by decide)
  have e9 : gI N 569 = gI M 569 := hm.2 569 (by decide)
  have e7 : gI N 567 = gI M 567 := hm.2 567 (by decide)
  have e70 : gI N 570 = gI M 570 := hm.2 570 (by decide)
  have hi := h.hi.1
  refine ⟨hm.2 1000042 (by decide), _, m_undo hm.1 (by rw [e7]; exact ⟨hi.2.1, hi.2.2⟩) (by decide), fun y N2 hy => ?_⟩
  have hq : gI N 567 3 = gI M 567 3 := by rw [e7]
  rw [hq] at hy
  rcases hxN with ⟨b, c, u⟩ | ⟨b, c, u⟩ <;> rcases hy with ⟨b2, c2, w⟩ | ⟨b2, c2, w⟩ <;> first | exact absurd b b2 | exact absurd b2 b | skip
  · exact ⟨c2.trans c.symm, by rw [w, u], r, by rw [w, u]; exact h.le (by omega)⟩
  · refine ⟨c2.trans c.symm, by rw [w, gI_wI_ne (by decide), gI_sI_ne (by decide)]; exact hm.2 1000042 (by decide), r, (und_inv h u b ?_).le (by omega)⟩
    rw [hq]; exact w)
theorem pr_keep {r : abRf} {M : abMem} {k : Int} {L : Nat} (h : INV r M k) {z : Int} : PR L 122 268 [vi z] k M := PR_i (x_keep h.rf (cur_in r) rfl h (by decide)) (fun x N hxN => by
  have hm : RF r N ∧ ∀ a : Nat, 567 ≤ a → gI N a = gI M a := by
    rcases hxN with ⟨_, _, u⟩ | ⟨_, _, _, u⟩ | ⟨hz, _, _, u⟩
    · rw [u]; exact ⟨h.rf, fun _ _ => rfl⟩
    · rw [u]; exact ⟨h.rf, fun _ _ => rfl⟩
    · exact ⟨u.1.RF h.rf, fun a ha => u.1.at a (fun z => by omega)⟩
  have e8 : gI N 568 = gI M 568 := hm.2 568 (by decide)
  have e9 : gI N 569 = gI M 569 := hm.2 569 (by decide)
  have e7 : gI N 567 = gI M 567 := hm.2 567 (by decide)
  have e70 : gI N 570 = gI M 570 := hm.2 570 (by decide)
  have hi := h.hi.1
  refine ⟨hm.2 1000042 (by decide), _, m_keep hm.1 (RB_e h.rb e8 e9) (by decide), fun y N2 hy => ?_⟩
  rw [e8] at hy
  rcases hxN with ⟨a, c, u⟩ | ⟨a, b, c, u⟩ | ⟨a, b, c, u⟩ <;> rcases hy with ⟨a2, c2, w⟩ | ⟨a2, b2, c2, w⟩ | ⟨a2, b2, c2, w⟩ <;> first | exact absurd a a2 | exact absurd a2 a | exact absurd b b2 | exact absurd b2 b | (exfalso; omega) | skip
  · exact ⟨c2.trans c.symm, by rw [w, u], r, by rw [w, u]; exact h.le (by omega)⟩
  · exact ⟨c2.trans c.symm, by rw [w, u], r, by rw [w, u]; exact h.le (by omega)⟩
  · exact ⟨c2.trans c.symm, by rw [w, gI_sI_ne (by decide), gI_wI_ne (by decide)]; exact hm.2 1000042 (by decide), r, (kep_inv h a u w).le (by omega)⟩)
theorem pr_back {r : abRf} {M : abMem} {k : Int} {L : Nat} (h : INV r M k) {z : Int} : PR L 123 269 [vi z] k M := PR_i (x_back h.rf (cur_in r) rfl h (by decide)) (fun x N hxN => by
  have hm : RF r N ∧ ∀ a : Nat, 567 ≤ a → gI N a = gI M a := by
    rcases hxN with ⟨_, _, u⟩ | ⟨_, _, _, u⟩ | ⟨hz, _, _, u⟩
    · rw [u]; exact ⟨h.rf, fun _ _ => rfl⟩
    · rw [u]; exact ⟨h.rf, fun _ _ => rfl⟩
    · exact ⟨u.1.RF h.rf, fun a ha => u.1.at a (fun z => by omega)⟩
  have e8 : gI N 568 = gI M 568 := hm.2 568 (by decide)
  have e9 : gI N 569 = gI M 569 := hm.2 569 (by decide)
  have e7 : gI N 567 = gI M 567 := hm.2 567 (by decide)
  have e70 : gI N 570 = gI M 570 := hm.2 570 (by decide)
  have hi := h.hi.1
  refine ⟨hm.2 1000042 (by decide), _, m_back hm.1 (RB_e h.rb e8 e9) (by decide), fun y N2 hy => ?_⟩
  rw [e8, e70] at hy
  rcases hxN with ⟨a, c, u⟩ | ⟨a, b, c, u⟩ | ⟨a, b, c, u⟩ <;> rcases hy with ⟨a2, c2, w⟩ | ⟨a2, b2, c2, w⟩ | ⟨a2, b2, c2, w⟩ <;> first | exact absurd a a2 | exact absurd a2 a | exact absurd b b2 | exact absurd b2 b | (exfalso; omega) | skip
  · exact ⟨c2.trans c.symm, by rw [w, u], r, by rw [w, u]; exact h.le (by omega)⟩
  · exact ⟨c2.trans c.symm, by rw [w, u], r, by rw [w, u]; exact h.le (by omega)⟩
  · exact ⟨c2.trans c.symm, by rw [w, gI_sI_ne (by decide), gI_wI_ne (by decide)]; exact hm.2 1000042 (by decide), r, (bac_inv h a b u w).le (by omega)⟩)
theorem pr_feed {r : abRf} {M : abMem} {k : Int} {L : Nat} (h : INV r M k) {a b c g e : Int} : PR L 84 143 [vi a, vi b, vi c, vi g, vi e] k M := PR_i (x_feed h.rf h (by decide)) (fun x N hxN => by
  have ta := h.ta.2.1
  have hm : RF r N ∧ ∀ x : Nat, 567 ≤ x → gI N x = gI M x := by
    rcases hxN with ⟨_, _, u⟩ | ⟨_, _, u, _, _⟩
    · rw [u]; exact ⟨h.rf, fun _ _ => rfl⟩
    · exact ⟨u.RF h.rf, fun x hx => u.at x (fun z => by omega)⟩
  have e7 : gI N 567 5 = gI M 567 5 := by rw [hm.2 567 (by decide)]
  refine ⟨hm.2 1000042 (by decide), _, m_feed hm.1 (by rw [e7]; exact ta) (by decide), fun y N2 hy => ?_⟩
  rcases hxN with ⟨b1, c1, u⟩ | ⟨b1, c1, u, v, w⟩ <;> rcases hy with ⟨b2, c2, u2⟩ | ⟨b2, c2, u2, v2, w2⟩ <;> first | (exfalso; omega) | skip
  · exact ⟨c2.trans c1.symm, by rw [u2, u], r, by rw [u2, u]; exact h.le (by omega)⟩
  · exact ⟨by omega, (u2.at 1000042 (fun z => by omega) (by decide)).trans (hm.2 1000042 (by decide)), r, (feed_inv h u v w b2 u2 v2 w2).le (by omega)⟩)
theorem pr_end {r : abRf} {M : abMem} {k : Int} {L : Nat} (h : INV r M k) {n : Int} : PR L 85 144 [vi n] k M := PR_i (x_end h.rf h) (fun x N hxN => by
  have hm : RF r N ∧ ∀ x : Nat, 567 ≤ x → gI N x = gI M x := by
    rcases hxN with ⟨_, _, u⟩ | ⟨_, _, u⟩
    · rw [u]; exact ⟨h.rf, fun x hx => gI_sI_ne (by omega)⟩
    · rw [u]; exact ⟨h.rf, fun _ _ => rfl⟩
  have e7 : gI N 567 5 = gI M 567 5 := by rw [hm.2 567 (by decide)]
  refine ⟨hm.2 1000042 (by decide), _, m_end hm.1, fun y N2 hy => ?_⟩
  rw [e7] at hy
  rcases hxN with ⟨a, c, u⟩ | ⟨a, c, u⟩ <;> rcases hy with ⟨a2, c2, w⟩ | ⟨a2, c2, w⟩ <;> first | exact absurd a a2 | exact absurd a2 a | skip
  · exact ⟨c2.trans c.symm, by rw [w, u, gI_sI_ne (by decide), gI_sI_ne (by decide)], r, (end_inv h a (by rw [w, u])).le (by omega)⟩
  · exact ⟨c2.trans c.symm, by rw [w, u], r, by rw [w, u]; exact h.le (by omega)⟩)
theorem pr_named {r : abRf} {M : abMem} {k : Int} {L : Nat} (h : INV r M k) : PR L 88 189 [] k M := PR_i (x_named h.rf (cur_in r) rfl h (by decide)) (fun x N hxN => by
  obtain ⟨u, v, hx⟩ := hxN
  have g : ∀ x : Nat, x ≠ 1 → gI N x = gI M x := fun x hx => u.at x hx
  have la := h.la
  refine ⟨g 1000042 (by decide), _, m_named (u.RF h.rf) (TX_e (tx_TX h) (fun x hx => g x (by omega))) (S := gI M 568) (by rw [g 568 (by decide)]; exact SIm_s _) la (by decide), fun y N2 hyN => ?_⟩
  obtain ⟨u2, v2, hy⟩ := hyN
  have g2 : ∀ x : Nat, x ≠ 567 → gI N2 x = gI N x := fun x hx => u2.at x (fun z => z) hx
  have q7 : ∀ j : Int, j = 3 ∨ j = 6 ∨ j = 7 → gI N2 567 j = gI M 567 j := fun j hj => by rw [u2.sl j (fun z => by omega), g 567 (by decide)]
  refine ⟨hy.trans hx.symm, (g2 1000042 (by decide)).trans (g 1000042 (by decide)), r, (INV_g h (u2.RF (u.RF h.rf)) rfl (fun x hx hp => (g2 x (by omega)).trans (g x (by omega))) ((g2 570 (by decide)).trans (g 570 (by decide))) ⟨fun j _ _ => by rw [g2 568 (by decide), g 568 (by decide)], fun j _ => by rw [g2 569 (by decide), g 569 (by decide)]⟩ (fun j j0 j1 => by rw [g2 569 (by decide), g 569 (by decide)]; exact h.rb.sh j j0 j1) ((g2 572 (by decide)).trans (g 572 (by decide))) (q7 3 (by omega)) ⟨by rw [g2 1 (by decide), v, v2], by omega, fun j j0 j1 => by omega⟩ ?_).le (by omega)⟩
  rw [g2 3 (by decide), g 3 (by decide), q7 6 (by omega), q7 7 (by omega)]; exact h.fa)
theorem pr_scene {r : abRf} {M : abMem} {k : Int} {L : Nat} (h : INV r M k) : PR L 86 187 [] k M := PR_i (x_scene h.rf (oth_in r) rfl h (by decide)) (fun x N hxN => by
  rcases hxN with hF | hG
  · obtain ⟨e, _, _, u, _, _⟩ := id hF
    have ho := oth_in r
    have g : ∀ x : Nat, 567 ≤ x → gI N x = gI M x := fun x hx => (u.at x (fun z => by omega)).trans rfl
    refine ⟨g 1000042 (by decide), _, m_scene (u.RF (RF_3 h.rf _)) (TX_e (tx_TX h) g) (by decide), fun y N2 hyN => ?_⟩
    obtain ⟨u2, v2, w2⟩ := hyN
    have z := scF_inv h hF u2 v2 w2
    exact ⟨z.1, (u2.at 1000042 (fun z => by omega) (by decide)).trans (g 1000042 (by decide)), _, z.2.le (by omega)⟩
  · obtain ⟨S, _, ⟨_, hR, gg, _⟩, _⟩ := id hG
    have ho := oth_in r
    have g : ∀ x : Nat, 567 ≤ x → gI N x = gI M x := fun x hx => gg x (fun z => by omega)
    refine ⟨g 1000042 (by decide), _, m_scene hR (TX_e (tx_TX h) g) (by decide), fun y N2 hyN => ?_⟩
    obtain ⟨u2, v2, w2⟩ := hyN
    have z := scG_inv h hG u2 v2 w2
    exact ⟨z.1, (u2.at 1000042 (fun z => by omega) (by decide)).trans (g 1000042 (by decide)), _, z.2.le (by omega)⟩)
