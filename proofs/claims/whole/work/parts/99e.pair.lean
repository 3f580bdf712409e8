section
variable {r : abRf} {M N : abMem} {k : Int} {L : Nat}
theorem INV.le {k' : Int} (h : INV r M k) (e : k ≤ k') : INV r M k' := ⟨h.rf, h.rb, h.sr, h.sh, h.hi, h.ke, h.ta, h.ow, h.fa, h.mk, h.pc, cmrO_le h.cm e, h.ly⟩
theorem tapO_e (h : tapO M) (e1 : gI N 1 1 = gI M 1 1) (e2 : gI N 2 = gI M 2) (e3 : gI N 567 5 = gI M 567 5) (e4 : gI N 571 = gI M 571) : tapO N := by
  unfold tapO at h ⊢
  rw [e1, e2, e3, e4]; exact h
/-- the reference's work cells -/
theorem INV_wk (h : INV r M k) (hR : RF r N) (c : ∀ a : Nat, a < 567 ∨ (568 ≤ a ∧ a < 573) ∨ a = 1000042 → a ≠ 569 → gI N a = gI M a) (c9 : npS (gI M 569) (gI N 569)) (sh : ∀ j : Int, 0 ≤ j → j < 13968 → 0 ≤ gI N 569 j ∧ gI N 569 j ≤ 99) (e : ∀ j : Int, j = 3 ∨ j = 5 ∨ j = 6 ∨ j = 7 → gI N 567 j = gI M 567 j) : INV r N k ∧ gI N 1000042 = gI M 1000042 := by
  refine ⟨INV_g h hR rfl (fun a ha _ => c a (Or.inl ha) (by omega)) (c 570 (by omega) (by decide)) ⟨fun j _ _ => by rw [c 568 (by omega) (by decide)], fun j hj => c9 j (by omega)⟩ sh (c 572 (by omega) (by decide)) (e 3 (by omega)) (tapO_e h.ta (by rw [c 1 (by omega) (by decide)]) (c 2 (by omega) (by decide)) (e 5 (by omega)) (c 571 (by omega) (by decide))) ?_, c 1000042 (by omega) (by decide)⟩
  rw [c 3 (by omega) (by decide), e 6 (by omega), e 7 (by omega)]; exact h.fa
theorem INV_s5 {p : Nat → Prop} {q : Int → Prop} (h : INV r M k) (u : s5 p q M N) (hp : ∀ a, p a → 573 ≤ a ∧ a < 1000042) (hq : ∀ j, q j → j ≠ 3 ∧ j ≠ 5 ∧ j ≠ 6 ∧ j ≠ 7) : INV r N k ∧ gI N 1000042 = gI M 1000042 := by
  have c : ∀ a : Nat, a < 567 ∨ (568 ≤ a ∧ a < 573) ∨ a = 1000042 → gI N a = gI M a := fun a ha => u.at a (fun z => by have := hp a z; omega) (by omega)
  refine INV_wk h (u.RF h.rf) (fun a ha _ => c a ha) (fun j _ => by rw [c 569 (by omega)]) (fun j j0 j1 => by rw [c 569 (by omega)]; exact h.rb.sh j j0 j1) (fun j hj => u.sl j (fun z => by have := hq j z; omega))
theorem INV_sm {p : Nat → Prop} (h : INV r M k) (u : sm p M N) (hp : ∀ a, p a → 573 ≤ a ∧ a < 1000042) : INV r N k ∧ gI N 1000042 = gI M 1000042 := by
  have c : ∀ a : Nat, a < 573 ∨ a = 1000042 → gI N a = gI M a := fun a ha => u.at a (fun z => by have := hp a z; omega)
  refine INV_wk h (u.RF h.rf) (fun a ha _ => c a (by omega)) (fun j _ => by rw [c 569 (by omega)]) (fun j j0 j1 => by rw [c 569 (by omega)]; exact h.rb.sh j j0 j1) (fun j hj => by rw [c 567 (by omega)])
theorem INV_np {q : Int → Prop} (h : INV r M k) (u : np q M N) (hq : ∀ j, q j → j ≠ 3 ∧ j ≠ 5 ∧ j ≠ 6 ∧ j ≠ 7) : INV r N k ∧ gI N 1000042 = gI M 1000042 :=
  INV_wk h (u.1.RF h.rf) (fun a ha h9 => u.1.at a (fun z => by omega) (by omega)) u.2.1 u.2.2 (fun j hj => u.1.sl j (fun z => by have := hq j z; omega))
theorem INV_546 (h : INV r M k) (u : sm pSp M N) : INV r N k := by
  have c : ∀ a : Nat, a ≠ 546 → gI N a = gI M a := fun a ha => u.at a ha
  exact INV_sx h (u.RF h.rf) rfl (p := pSp) (fun a ha => ⟨c a ha, by show N.2.1 a = M.2.1 a; rw [u.1]⟩) (fun a ha => by omega) (mkcO_e h.mk (c 547 (by decide)) (c 568 (by decide)) (c 569 (by decide))) (pctO_e h.pc (c 0 (by decide)) (c 548 (by decide)) (c 568 (by decide)) (c 569 (by decide))) (cmrO_e h.cm (by rw [c 203 (by decide)]) (c 218 (by decide)))
/-- a method of the class, then the reference's -/
def PR (L iX iM : Nat) (as : List abV) (k : Int) (M : abMem) : Prop := ∃ R : abQ, abW 13 (0, 0) iX 0 (abEnt (abL iX) (vr (some 0) :: as)) [] (0, 0) (A0 L) M R ∧ ∀ v A N, R v A N → A = A0 L ∧ gI N 1000042 = gI M 1000042 ∧ ∃ x : Int, v = some (vi x) ∧ ∃ R2 : abQ, abW 13 (0, 0) iM 0 (abEnt (abL iM) (vr (some 567) :: as)) [] (0, 0) (A0 L) N R2 ∧ ∀ v2 A2 N2, R2 v2 A2 N2 → A2 = A0 L ∧ v2 = some (vi x) ∧ gI N2 1000042 = gI M 1000042 ∧ ∃ r' : abRf, INV r' N2 (k + 98)
theorem PR_e {iX iM : Nat} {as : List abV} {x : Int} (h : INV r M k) (a : abW 13 (0, 0) iX 0 (abEnt (abL iX) (vr (some 0) :: as)) [] (0, 0) (A0 L) M (qE (some (vi x)) (A0 L) M)) (b : abW 13 (0, 0) iM 0 (abEnt (abL iM) (vr (some 567) :: as)) [] (0, 0) (A0 L) M (qE (some (vi x)) (A0 L) M)) : PR L iX iM as k M := ⟨_, a, fun v A N hv => by
  obtain ⟨rfl, rfl, rfl⟩ := hv
  exact ⟨rfl, rfl, x, rfl, _, b, fun v2 A2 N2 h2 => by
    obtain ⟨rfl, rfl, rfl⟩ := h2
    exact ⟨rfl, rfl, rfl, r, h.le (by omega)⟩⟩⟩
theorem PR_j {iX iM : Nat} {as : List abV} {P Q : Int → Prop} (h : INV r M k) (a : abW 13 (0, 0) iX 0 (abEnt (abL iX) (vr (some 0) :: as)) [] (0, 0) (A0 L) M (qJ (A0 L) M P)) (b : abW 13 (0, 0) iM 0 (abEnt (abL iM) (vr (some 567) :: as)) [] (0, 0) (A0 L) M (qJ (A0 L) M Q)) (e : ∀ x y : Int, P x → Q y → y = x) : PR L iX iM as k M := ⟨_, a, fun v A N hv => by
  obtain ⟨rfl, rfl, x, rfl, hx⟩ := hv
  exact ⟨rfl, rfl, x, rfl, _, b, fun v2 A2 N2 h2 => by
    obtain ⟨rfl, rfl, y, rfl, hy⟩ := h2
    exact ⟨rfl, by rw [e x y hx hy], rfl, r, h.le (by omega)⟩⟩⟩
theorem PR_i {iX iM : Nat} {as : List abV} {P : Int → abMem → Prop} (a : abW 13 (0, 0) iX 0 (abEnt (abL iX) (vr (some 0) :: as)) [] (0, 0) (A0 L) M (qI (A0 L) P)) (b : ∀ (x : Int) (N : abMem), P x N → gI N 1000042 = gI M 1000042 ∧ ∃ Q : Int → abMem → Prop, abW 13 (0, 0) iM 0 (abEnt (abL iM) (vr (some 567) :: as)) [] (0, 0) (A0 L) N (qI (A0 L) Q) ∧ ∀ (y : Int) (N2 : abMem), Q y N2 → y = x ∧ gI N2 1000042 = gI M 1000042 ∧ ∃ r' : abRf, INV r' N2 (k + 98)) : PR L iX iM as k M := ⟨_, a, fun v A N hv => by
  obtain ⟨rfl, x, rfl, hx⟩ := hv
  obtain ⟨q0, Q, q1, q2⟩ := b x N hx
  exact ⟨rfl, q0, x, rfl, _, q1, fun v2 A2 N2 h2 => by
    obtain ⟨rfl, y, rfl, hy⟩ := h2
    obtain ⟨z1, z2, z3⟩ := q2 y N2 hy
    exact ⟨rfl, by rw [z1], z2, z3⟩⟩⟩
theorem uq_if {A : Prop} {P : Int → Prop} {x y c : Int} (hx : A ∧ P x ∨ ¬ A ∧ x = c) (hy : A ∧ P y ∨ ¬ A ∧ y = c) (hP : ∀ x y, P x → P y → y = x) : y = x := by
  rcases hx with ⟨a, hx⟩ | ⟨a, hx⟩
  · rcases hy with ⟨b, hy⟩ | ⟨b, hy⟩
    · exact hP x y hx hy
    · exact absurd a b
  · rcases hy with ⟨b, hy⟩ | ⟨b, hy⟩
    · exact absurd b a
    · rw [hx, hy]
theorem mR_f (e9 : gI N 569 = gI M 569) : mR N = mR M := funext fun i => funext fun l => mR_e e9 i l
theorem tk_w (e8 : gI N 568 = gI M 568) (W : Int → Int) (a : Int) : tk (wI N 569 W) a = tk (wI M 569 W) a := tk_eq (by rw [gI_wI_ne (by decide), gI_wI_ne (by decide), e8]) (by rw [gI_wI_eq, gI_wI_eq])
theorem bsT_f (e8 : gI N 568 = gI M 568) (e9 : gI N 569 = gI M 569) : bsT N = bsT M := funext fun l => funext fun q => by
  unfold bsT
  rw [e8, e9, tk_w e8]
theorem rwW_f (e8 : gI N 568 = gI M 568) (e9 : gI N 569 = gI M 569) (l : Int) (g : Int → Int) : rwW N l g = rwW M l g := by
  show (fun j => paF (gI N 569) l (gI N 568 0) g (582 + j)) = _
  rw [e8, e9]
theorem RB_e (h : RB M) (e8 : gI N 568 = gI M 568) (e9 : gI N 569 = gI M 569) : RB N := ⟨by rw [e8]; exact h.sw, by rw [e9]; exact h.sh⟩
end
theorem pr_look {r : abRf} {M : abMem} {k : Int} {L : Nat} (h : INV r M k) {w : Int} : PR L 89 195 [vi w] k M := PR_e h (x_look h.rf (cur_in r) rfl h) (m_look h.rf (by decide))
theorem pr_layer {r : abRf} {M : abMem} {k : Int} {L : Nat} (h : INV r M k) {l w : Int} : PR L 90 204 [vi l, vi w] k M := PR_e h (x_layer h.rf (cur_in r) rfl h (by decide)) (m_layer h.rf h.rb h.hp (by decide))
theorem pr_spelt {r : abRf} {M : abMem} {k : Int} {L : Nat} (h : INV r M k) {l w : Int} (hw : In32 w) : PR L 91 205 [vi l, vi w] k M := PR_e h (x_spelt h.rf (cur_in r) rfl h (by decide)) (m_spelt h.rf h.rb hw (by decide))
theorem pr_box {r : abRf} {M : abMem} {k : Int} {L : Nat} (h : INV r M k) {z w : Int} : PR L 92 206 [vi z, vi w] k M := PR_e h (x_box h.rf (cur_in r) rfl h) (m_box h.rf h.rb (by decide))
theorem pr_at {r : abRf} {M : abMem} {k : Int} {L : Nat} (h : INV r M k) {l f : Int} : PR L 93 207 [vi l, vi f] k M := PR_e h (x_at h.rf (cur_in r) rfl h (by decide)) (m_at h.rf h.rb (by decide))
theorem pr_told {r : abRf} {M : abMem} {k : Int} {L : Nat} (h : INV r M k) {l f : Int} : PR L 94 208 [vi l, vi f] k M := PR_e h (x_told h.rf (cur_in r) rfl h (by decide)) (m_told h.rf h.rb (by decide))
theorem pr_fault {r : abRf} {M : abMem} {k : Int} {L : Nat} (h : INV r M k) {w : Int} : PR L 87 188 [vi w] k M := PR_e h (x_fault h.rf h) (m_fault h.rf)
theorem pr_shift {r : abRf} {M : abMem} {k : Int} {L : Nat} (h : INV r M k) {l f w : Int} : PR L 99 226 [vi l, vi f, vi w] k M := PR_e h (x_shift h.rf (cur_in r) rfl h (by decide)) (m_shift h.rf h.rb (by decide))
theorem pr_changes {r : abRf} {M : abMem} {k : Int} {L : Nat} (h : INV r M k) {f : Int} : PR L 109 245 [vi f] k M := PR_e h (x_changes h.rf (cur_in r) rfl h (by decide)) (m_changes h.rf h.rb (by decide))
theorem fnd_k {f : Int → Int} {v n k x : Int} (h : isFnd f v n k x) : isKth (fun j => decide (f j = v)) n k x := h.elim Or.inl (fun h => Or.inr ⟨h.1, h.2.1, decide_eq_true h.2.2.1, h.2.2.2⟩)
theorem fnd_eq {f : Int → Int} {v n k x y : Int} (h : isFnd f v n k x) (g : isFnd f v n k y) : x = y := isKth_eq (fnd_k h) (fnd_k g)
theorem pr_hidden {r : abRf} {M : abMem} {k : Int} {L : Nat} (h : INV r M k) {l f : Int} : PR L 100 228 [vi l, vi f] k M := PR_j h (x_hidden h.rf (cur_in r) rfl h (by decide)) (m_hidden h.rf h.rb (by decide)) (fun x y hx hy => by
    rcases hx with ⟨a0, a⟩ | ⟨a0, a⟩
    · rcases hy with ⟨b0, b⟩ | ⟨b0, b⟩
      · rcases a with a | a <;> rcases b with b | b <;> first | exact absurd a.1 b.1 | exact absurd b.1 a.1 | exact b.2.trans a.2.symm
      · exact absurd a0 b0
    · rcases hy with ⟨b0, b⟩ | ⟨b0, b⟩
      · exact absurd b0 a0
      · exact b.trans a.symm)
theorem pr_hold {r : abRf} {M : abMem} {k : Int} {L : Nat} (h : INV r M k) {l f w : Int} : PR L 95 209 [vi l, vi f, vi w] k M := PR_j h (x_hold h.rf (cur_in r) rfl h (by decide)) (m_hold h.rf h.rb (by decide)) (fun x y hx hy => by
    rcases hx with ⟨a0, a⟩ | ⟨a0, a⟩
    · rcases hy with ⟨b0, b⟩ | ⟨b0, b⟩
      · obtain ⟨u, u1, u2⟩ := a
        obtain ⟨v, v1, v2⟩ := b
        have e := isFst_eq u1 v1
        subst e
        rcases u2 with ⟨c, u2⟩ | ⟨c, t, t1, u2⟩ | ⟨c, u2⟩ <;> rcases v2 with ⟨c2, v2⟩ | ⟨c2, t2, t3, v2⟩ | ⟨c2, v2⟩ <;> first | (exfalso; omega) | exact v2.trans u2.symm | (rw [v2, u2, isStp_eq t1 t3])
      · exact absurd a0 b0
    · rcases hy with ⟨b0, b⟩ | ⟨b0, b⟩
      · exact absurd b0 a0
      · exact b.trans a.symm)
theorem pr_find {r : abRf} {M : abMem} {k : Int} {L : Nat} (h : INV r M k) {l v z : Int} (hz : In32 z) : PR L 96 211 [vi l, vi v, vi z] k M := PR_j h (x_find h.rf (cur_in r) rfl h (by decide)) (m_find h.rf h.rb hz (by decide)) (fun x y hx hy => by
    rcases hx with ⟨a0, a⟩ | ⟨a0, a⟩
    · rcases hy with ⟨b0, b⟩ | ⟨b0, b⟩
      · exact fnd_eq b a
      · exact absurd a0 b0
    · rcases hy with ⟨b0, b⟩ | ⟨b0, b⟩
      · exact absurd b0 a0
      · exact b.trans a.symm)
theorem pr_apart {r : abRf} {M : abMem} {k : Int} {L : Nat} (h : INV r M k) {z : Int} : PR L 124 270 [vi z] k M := PR_j h (x_apart h.rf (cur_in r) rfl h (by decide)) (m_apart h.rf h.rb (by decide)) (fun x y hx hy => by
  rcases hx with ⟨a, hx⟩ | ⟨a, b, hx⟩ | ⟨a, b, hx⟩ <;> rcases hy with ⟨a2, hy⟩ | ⟨a2, b2, hy⟩ | ⟨a2, b2, hy⟩ <;> first | exact hy.trans hx.symm | exact absurd a a2 | exact absurd a2 a | exact absurd b b2 | exact absurd b2 b)
