/-- the first n frames are composed -/
def cAll (M N : abMem) (a n : Int) : Prop := ∀ f : Int, 0 ≤ f → f < n → ∀ k : Int, 0 ≤ k → k < 96 → gI N 580 (96 * f + k) = (pcI M a f k).1 ∧ gI N 581 (96 * f + k) = (pcI M a f k).2
theorem cAll_s {M N K : abMem} {a n : Int} (h : cAll M N a n) (h1 : sm p58 M N) (h2 : cmpd N K a n) : cAll M K a (n + 1) := by
  intro f f0 f1 k k0 k1
  by_cases q : f = n
  · subst q
    have := h2.1 k k0 k1
    rw [pcI_sm h1 (p58_no (by decide) (by decide)) (p58_no (by decide) (by decide))] at this
    exact this
  · have := h2.2 (96 * f + k) (by omega)
    rw [this.1, this.2]
    exact h f f0 (by omega) k k0 k1
/-- two composed frames are alike -/
def alk (M : abMem) (a f e : Int) : Prop := ∀ k : Int, 0 ≤ k → k < 96 → (pcI M a f k).1 = (pcI M a e k).1
def alN (N : abMem) (f e : Int) : Prop := ∀ k : Int, 0 ≤ k → k < 96 → gI N 580 (96 * f + k) = gI N 580 (96 * e + k)
theorem alN_alk {M N : abMem} {a n f e : Int} (h : cAll M N a n) (hf : 0 ≤ f ∧ f < n) (he : 0 ≤ e ∧ e < n) : alN N f e ↔ alk M a f e := by
  constructor
  · intro q k k0 k1
    have := q k k0 k1
    rw [(h f hf.1 hf.2 k k0 k1).1, (h e he.1 he.2 k k0 k1).1] at this
    exact this
  · intro q k k0 k1
    rw [(h f hf.1 hf.2 k k0 k1).1, (h e he.1 he.2 k k0 k1).1]
    exact q k k0 k1
/-- the first that is as f -/
def isFL (E : Int → Int → Prop) (f x : Int) : Prop := 0 ≤ x ∧ x ≤ f ∧ E x f ∧ ∀ j : Int, 0 ≤ j → j < x → ¬ E j f
theorem isFL_eq {E : Int → Int → Prop} {f x y : Int} (h : isFL E f x) (k : isFL E f y) : x = y := by
  by_cases q : x < y
  · exact absurd h.2.2.1 (k.2.2.2 x h.1 q)
  · by_cases q2 : y < x
    · exact absurd k.2.2.1 (h.2.2.2 y k.1 q2)
    · omega
theorem isFL_congr {E D : Int → Int → Prop} {f x n : Int} (h : isFL E f x) (hf : f < n) (e : ∀ j : Int, 0 ≤ j → j < n → (E j f ↔ D j f)) : isFL D f x := ⟨h.1, h.2.1, (e x h.1 (by have := h.2.1; omega)).mp h.2.2.1, fun j h1 h2 k => h.2.2.2 j h1 h2 ((e j h1 (by have := h.2.1; omega)).mpr k)⟩
noncomputable def pB (P : Int → Prop) (i : Int) : Bool := @decide (P i) (Classical.propDecidable _)
theorem pB_t {P : Int → Prop} {i : Int} (h : P i) : pB P i = true := @decide_eq_true _ (Classical.propDecidable _) h
theorem pB_f {P : Int → Prop} {i : Int} (h : ¬ P i) : pB P i = false := @decide_eq_false _ (Classical.propDecidable _) h
theorem pB_iff {P : Int → Prop} {i : Int} : pB P i = true ↔ P i := by
  unfold pB; exact @decide_eq_true_iff _ (Classical.propDecidable _)
/-- none ahead is as f -/
def nwE (E : Int → Int → Prop) (f : Int) : Prop := ∀ j : Int, 0 ≤ j → j < f → ¬ E j f
/-- how many takes -/
noncomputable def tk (M : abMem) (a : Int) : Int := cN (pB (nwE (alk M a))) (gI M 568 0).toNat
theorem isFL_new {E : Int → Int → Prop} {f x : Int} (h : isFL E f x) : (x = f ↔ nwE E f) := by
  constructor
  · intro e j h1 h2; exact h.2.2.2 j h1 (by omega)
  · intro n
    by_cases q : x = f
    · exact q
    · exact absurd h.2.2.1 (n x h.1 (by have := h.2.1; omega))
set_option maxRecDepth 20000 in
set_option maxHeartbeats 4000000 in
theorem m_composesAll {d L : Nat} {M : abMem} {r : abRf} (hR : RF r M) (hB : RB M) {a : Int} (ha : 0 ≤ a ∧ a ≤ 12000) (hS : ∀ p : Int, 0 ≤ p → p < gI M 568 1 → 0 ≤ gI M 569 (a + 576 + p) ∧ gI M 569 (a + 576 + p) ≤ 5) (hd : 3 ≤ d) : abW d (0, 0) 231 0 (abEnt (abL 231) [vr (some 567), vi a]) [] (0, 0) (A0 L) M (qV (A0 L) (fun N => sm p58 M N ∧ cAll M N a (gI M 568 0))) := by
  have b1 := hB.fr
  have b2 := hB.la
  have L2 : ∀ (kf : Nat) (N : abMem) (f : Int), (sm p58 M N) → (cAll M N a f) → (0 ≤ f ∧ f ≤ gI M 568 0) → ((gI M 568 0 - f).toNat) < kf → abW d (0, 0) 231 2 [some (vr (some 567)), some (vi a), some (vi f)] [] (0, 0) (A0 L) (N) (qV (A0 L) (fun N => sm p58 M N ∧ cAll M N a (gI M 568 0))) := by
    intro kf
    induction kf with
    | zero => intro N  f  g1 g2 g3 hm9; exact absurd hm9 (Nat.not_lt_zero _)
    | succ kf ih2 =>
      intro N  f  g1 g2 g3 hm2
      have ih := ih2
      have hR := g1.RF hR
      have hB := g1.RB (p58_no (by decide) (by decide)) (p58_no (by decide) (by decide)) hB
      have e568 := g1.at 568 (p58_no (by decide) (by decide))
      have e569 := g1.at 569 (p58_no (by decide) (by decide))
      have eR : ∀ i l : Int, mR N i l = mR M i l := g1.mR (p58_no (by decide) (by decide))
      have hS : ∀ p : Int, 0 ≤ p → p < gI N 568 1 → 0 ≤ gI N 569 (a + 576 + p) ∧ gI N 569 (a + 576 + p) ≤ 5 := by rw [e568, e569]; exact hS
      refine bw_iload rfl rfl ?_
      refine bw_aload rfl rfl ?_
      refine bw_callVe (e := d - 1) (as := []) rfl (by omega) rfl rfl (Nat.le_of_ble_eq_true rfl) (Nat.le_of_ble_eq_true rfl) rfl (m_frames hR) ?_
      try simp only [e568, e569, eR]
      refine bw_icge rfl (fun c7 => ?_) (fun c7 => ?_)
      · skip
        refine bw_retv rfl rfl ?_
        obtain rfl : f = gI M 568 0 := by omega
        exact ⟨rfl, rfl, g1, g2⟩
      · skip
        refine bw_aload rfl rfl ?_
        refine bw_iload rfl rfl ?_
        refine bw_iload rfl rfl ?_
        refine bw_callVv (e := d - 1) (as := [_, _]) rfl (by omega) rfl rfl (Nat.le_of_ble_eq_true rfl) (Nat.le_of_ble_eq_true rfl) rfl (m_composes hR hB (by omega) hS (by omega) (by omega)) (fun M13 hM13 => ?_)
        obtain ⟨u13, v13⟩ := hM13
        refine bw_iinc (ls2 := [_, _, _]) rfl rfl rfl ⟨by omega, by omega⟩ rfl ?_
        refine bw_goto rfl ?_
        exact ih _ _ (g1.trans u13) (cAll_s g2 g1 v13) (by omega) (by omega)
  show abW d (0, 0) 231 0 [some (vr (some 567)), some (vi a), none] [] (0, 0) (A0 L) M (qV (A0 L) (fun N => sm p58 M N ∧ cAll M N a (gI M 568 0)))
  refine bw_push rfl ?_
  refine bw_istore (ls2 := [_, _, _]) rfl rfl (Nat.le_of_ble_eq_true rfl) rfl ?_
  exact L2 ((gI M 568 0).toNat + 1) M 0 (sm_refl _ _) (fun f h1 h2 => by omega) (by omega) (by omega)
set_option maxRecDepth 20000 in
set_option maxHeartbeats 4000000 in
theorem m_isPlace {d L : Nat} {M : abMem} {r : abRf} (hR : RF r M) {u v : Int} (hd : 1 ≤ d) : abW d (0, 0) 232 0 (abEnt (abL 232) [vi u, vi v]) [] (0, 0) (A0 L) M (qJ (A0 L) M (fun x => ((0 ≤ u ∧ u ≤ 11) ∧ (0 ≤ v ∧ v ≤ 7)) ∧ x = 1 ∨ ¬ ((0 ≤ u ∧ u ≤ 11) ∧ (0 ≤ v ∧ v ≤ 7)) ∧ x = 0)) := by
  show abW d (0, 0) 232 0 [some (vi u), some (vi v)] [] (0, 0) (A0 L) M (qJ (A0 L) M (fun x => ((0 ≤ u ∧ u ≤ 11) ∧ (0 ≤ v ∧ v ≤ 7)) ∧ x = 1 ∨ ¬ ((0 ≤ u ∧ u ≤ 11) ∧ (0 ≤ v ∧ v ≤ 7)) ∧ x = 0))
  refine bw_iload rfl rfl ?_
  refine bw_push rfl ?_
  refine bw_push rfl ?_
  refine bw_callSj (e := d - 1) (as := [_, _, _]) rfl (by omega) rfl rfl (Nat.le_of_ble_eq_true rfl) (Nat.le_of_ble_eq_true rfl) (m_isIn hR) (fun r4 hr4 => ?_)
  refine bw_ifeq rfl (fun c7 => ?_) (fun c7 => ?_)
  · skip
    refine bw_push rfl ?_
    refine bw_retz rfl rfl (by omega) ?_
    exact ⟨rfl, rfl, _, rfl, by omega⟩
  · skip
    refine bw_iload rfl rfl ?_
    refine bw_push rfl ?_
    refine bw_push rfl ?_
    refine bw_callSj (e := d - 1) (as := [_, _, _]) rfl (by omega) rfl rfl (Nat.le_of_ble_eq_true rfl) (Nat.le_of_ble_eq_true rfl) (m_isIn hR) (fun r14 hr14 => ?_)
    refine bw_ifeq rfl (fun c17 => ?_) (fun c17 => ?_)
    · skip
      refine bw_push rfl ?_
      refine bw_retz rfl rfl (by omega) ?_
      exact ⟨rfl, rfl, _, rfl, by omega⟩
    · skip
      refine bw_push rfl ?_
      refine bw_goto rfl ?_
      refine bw_retz rfl rfl (by omega) ?_
      exact ⟨rfl, rfl, _, rfl, by omega⟩
set_option maxRecDepth 20000 in
set_option maxHeartbeats 4000000 in
theorem m_cell {d L : Nat} {M : abMem} {r : abRf} (hR : RF r M) (hB : RB M) (hS : ∀ p : Int, 0 ≤ p → p < gI M 568 1 → 0 ≤ gI M 569 (0 + 576 + p) ∧ gI M 569 (0 + 576 + p) ≤ 5) {f u v : Int} (hd : 3 ≤ d) : abW d (0, 0) 233 0 (abEnt (abL 233) [vr (some 567), vi f, vi u, vi v]) [] (0, 0) (A0 L) M (qI (A0 L) (fun x N => sm p58 M N ∧ x = if (0 ≤ f ∧ f < gI M 568 0) ∧ (0 ≤ u ∧ u ≤ 11) ∧ (0 ≤ v ∧ v ≤ 7) then (pcI M 0 f (12 * v + u)).1 else -1)) := by
  have b1 := hB.fr
  have b2 := hB.la
  show abW d (0, 0) 233 0 [some (vr (some 567)), some (vi f), some (vi u), some (vi v)] [] (0, 0) (A0 L) M (qI (A0 L) (fun x N => sm p58 M N ∧ x = if (0 ≤ f ∧ f < gI M 568 0) ∧ (0 ≤ u ∧ u ≤ 11) ∧ (0 ≤ v ∧ v ≤ 7) then (pcI M 0 f (12 * v + u)).1 else -1))
  refine bw_aload rfl rfl ?_
  refine bw_iload rfl rfl ?_
  refine bw_callVj (e := d - 1) (as := [_]) rfl (by omega) rfl rfl (Nat.le_of_ble_eq_true rfl) (Nat.le_of_ble_eq_true rfl) rfl (m_isFrame hR hB (by omega)) (fun r2 hr2 => ?_)
  try simp only [e568, e569, eR]
  refine bw_ifeq rfl (fun c5 => ?_) (fun c5 => ?_)
  · skip
    refine bw_push rfl ?_
    refine bw_ret rfl rfl ?_
    exact ⟨rfl, _, rfl, sm_refl _ _, by rw [if_neg (by omega)]⟩
  · skip
    refine bw_iload rfl rfl ?_
    refine bw_iload rfl rfl ?_
    refine bw_callSj (e := d - 1) (as := [_, _]) rfl (by omega) rfl rfl (Nat.le_of_ble_eq_true rfl) (Nat.le_of_ble_eq_true rfl) (m_isPlace hR (by omega)) (fun r10 hr10 => ?_)
    try simp only [e568, e569, eR]
    refine bw_ifne rfl (fun c13 => ?_) (fun c13 => ?_)
    · skip
      refine bw_aload rfl rfl ?_
      refine bw_push rfl ?_
      refine bw_iload rfl rfl ?_
      refine bw_callVv (e := d - 1) (as := [_, _]) rfl (by omega) rfl rfl (Nat.le_of_ble_eq_true rfl) (Nat.le_of_ble_eq_true rfl) rfl (m_composes hR hB (by omega) hS (by omega) (by omega)) (fun M21 hM21 => ?_)
      obtain ⟨u21, v21⟩ := hM21
      have hRo := hR
      have hBo := hB
      have hR := u21.RF hR
      have hB := u21.RB (p58_no (by decide) (by decide)) (p58_no (by decide) (by decide)) hB
      have e568 := u21.at 568 (p58_no (by decide) (by decide))
      have e569 := u21.at 569 (p58_no (by decide) (by decide))
      have eR : ∀ i l : Int, mR M21 i l = mR M i l := u21.mR (p58_no (by decide) (by decide))
      refine bw_aload rfl rfl ?_
      refine bw_getr rfl rfl (hR _ _) ?_
      refine bw_push rfl ?_
      refine bw_iload rfl rfl ?_
      refine bw_imul rfl ⟨by omega, by omega⟩ ?_
      refine bw_push rfl ?_
      refine bw_iload rfl rfl ?_
      refine bw_imul rfl ⟨by omega, by omega⟩ ?_
      refine bw_iadd rfl ⟨by omega, by omega⟩ ?_
      refine bw_iload rfl rfl ?_
      refine bw_iadd rfl ⟨by omega, by omega⟩ ?_
      refine bw_aldi rfl (by first | rfl | assumption) (by omega) (by omega) ?_
      try simp only [e568, e569, eR]
      refine bw_ret rfl rfl ?_
      exact ⟨rfl, _, rfl, u21, by rw [if_pos (by omega), ← (v21.1 (12 * v + u) (by omega) (by omega)).1, Int.add_assoc]⟩
    · skip
      refine bw_push rfl ?_
      refine bw_ret rfl rfl ?_
      exact ⟨rfl, _, rfl, sm_refl _ _, by rw [if_neg (by omega)]⟩
set_option maxRecDepth 20000 in
set_option maxHeartbeats 4000000 in
theorem m_top {d L : Nat} {M : abMem} {r : abRf} (hR : RF r M) (hB : RB M) (hS : ∀ p : Int, 0 ≤ p → p < gI M 568 1 → 0 ≤ gI M 569 (0 + 576 + p) ∧ gI M 569 (0 + 576 + p) ≤ 5) {f u v : Int} (hd : 3 ≤ d) : abW d (0, 0) 234 0 (abEnt (abL 234) [vr (some 567), vi f, vi u, vi v]) [] (0, 0) (A0 L) M (qI (A0 L) (fun x N => sm p58 M N ∧ x = if (0 ≤ f ∧ f < gI M 568 0) ∧ (0 ≤ u ∧ u ≤ 11) ∧ (0 ≤ v ∧ v ≤ 7) then (pcI M 0 f (12 * v + u)).2 else -1)) := by
  have b1 := hB.fr
  have b2 := hB.la
  show abW d (0, 0) 234 0 [some (vr (some 567)), some (vi f), some (vi u), some (vi v)] [] (0, 0) (A0 L) M (qI (A0 L) (fun x N => sm p58 M N ∧ x = if (0 ≤ f ∧ f < gI M 568 0) ∧ (0 ≤ u ∧ u ≤ 11) ∧ (0 ≤ v ∧ v ≤ 7) then (pcI M 0 f (12 * v + u)).2 else -1))
  refine bw_aload rfl rfl ?_
  refine bw_iload rfl rfl ?_
  refine bw_callVj (e := d - 1) (as := [_]) rfl (by omega) rfl rfl (Nat.le_of_ble_eq_true rfl) (Nat.le_of_ble_eq_true rfl) rfl (m_isFrame hR hB (by omega)) (fun r2 hr2 => ?_)
  try simp only [e568, e569, eR]
  refine bw_ifeq rfl (fun c5 => ?_) (fun c5 => ?_)
  · skip
    refine bw_push rfl ?_
    refine bw_ret rfl rfl ?_
    exact ⟨rfl, _, rfl, sm_refl _ _, by rw [if_neg (by omega)]⟩
  · skip
    refine bw_iload rfl rfl ?_
    refine bw_iload rfl rfl ?_
    refine bw_callSj (e := d - 1) (as := [_, _]) rfl (by omega) rfl rfl (Nat.le_of_ble_eq_true rfl) (Nat.le_of_ble_eq_true rfl) (m_isPlace hR (by omega)) (fun r10 hr10 => ?_)
    try simp only [e568, e569, eR]
    refine bw_ifne rfl (fun c13 => ?_) (fun c13 => ?_)
    · skip
      refine bw_aload rfl rfl ?_
      refine bw_push rfl ?_
      refine bw_iload rfl rfl ?_
      refine bw_callVv (e := d - 1) (as := [_, _]) rfl (by omega) rfl rfl (Nat.le_of_ble_eq_true rfl) (Nat.le_of_ble_eq_true rfl) rfl (m_composes hR hB (by omega) hS (by omega) (by omega)) (fun M21 hM21 => ?_)
      obtain ⟨u21, v21⟩ := hM21
      have hRo := hR
      have hBo := hB
      have hR := u21.RF hR
      have hB := u21.RB (p58_no (by decide) (by decide)) (p58_no (by decide) (by decide)) hB
      have e568 := u21.at 568 (p58_no (by decide) (by decide))
      have e569 := u21.at 569 (p58_no (by decide) (by decide))
      have eR : ∀ i l : Int, mR M21 i l = mR M i l := u21.mR (p58_no (by decide) (by decide))
      refine bw_aload rfl rfl ?_
      refine bw_getr rfl rfl (hR _ _) ?_
      refine bw_push rfl ?_
      refine bw_iload rfl rfl ?_
      refine bw_imul rfl ⟨by omega, by omega⟩ ?_
      refine bw_push rfl ?_
      refine bw_iload rfl rfl ?_
      refine bw_imul rfl ⟨by omega, by omega⟩ ?_
      refine bw_iadd rfl ⟨by omega, by omega⟩ ?_
      refine bw_iload rfl rfl ?_
      refine bw_iadd rfl ⟨by omega, by omega⟩ ?_
      refine bw_aldi rfl (by first | rfl | assumption) (by omega) (by omega) ?_
      try simp only [e568, e569, eR]
      refine bw_ret rfl rfl ?_
      exact ⟨rfl, _, rfl, u21, by rw [if_pos (by omega), ← (v21.1 (12 * v + u) (by omega) (by omega)).2, Int.add_assoc]⟩
    · skip
      refine bw_push rfl ?_
      refine bw_ret rfl rfl ?_
      exact ⟨rfl, _, rfl, sm_refl _ _, by rw [if_neg (by omega)]⟩
set_option maxRecDepth 20000 in
set_option maxHeartbeats 4000000 in
theorem m_ink {d L : Nat} {M : abMem} {r : abRf} (hR : RF r M) (hB : RB M) (hS : ∀ p : Int, 0 ≤ p → p < gI M 568 1 → 0 ≤ gI M 569 (0 + 576 + p) ∧ gI M 569 (0 + 576 + p) ≤ 5) {f v : Int} (hd : 3 ≤ d) : abW d (0, 0) 235 0 (abEnt (abL 235) [vr (some 567), vi f, vi v]) [] (0, 0) (A0 L) M (qI (A0 L) (fun x N => sm p58 M N ∧ x = if (0 ≤ f ∧ f < gI M 568 0) ∧ (0 ≤ v ∧ v ≤ 9) then cN (fun k => decide ((pcI M 0 f k).1 = v)) 96 else -1)) := by
  have b1 := hB.fr
  have b2 := hB.la
  have L31 : ∀ (kf : Nat) (N : abMem) (c k : Int), (sm p58 M N) → (cmpd M N 0 f) → (c = cN (fun k => decide ((pcI M 0 f k).1 = v)) k.toNat) → (0 ≤ k ∧ k ≤ 96) → ((0 ≤ f ∧ f < gI M 568 0) ∧ (0 ≤ v ∧ v ≤ 9)) → ((96 - k).toNat) < kf → abW d (0, 0) 235 31 [some (vr (some 567)), some (vi f), some (vi v), some (vi c), some (vi k)] [] (0, 0) (A0 L) (N) (qI (A0 L) (fun x N => sm p58 M N ∧ x = if (0 ≤ f ∧ f < gI M 568 0) ∧ (0 ≤ v ∧ v ≤ 9) then cN (fun k => decide ((pcI M 0 f k).1 = v)) 96 else -1)) := by
    intro kf
    induction kf with
    | zero => intro N  c k  g1 g2 g3 g4 g5 hm9; exact absurd hm9 (Nat.not_lt_zero _)
    | succ kf ih31 =>
      intro N  c k  g1 g2 g3 g4 g5 hm31
      have ih := ih31
      have hR := g1.RF hR
      have b9 := cN_in (fun k => decide ((pcI M 0 f k).1 = v)) k.toNat
      have q9 : k < 96 → gI N 580 (96 * f + k) = (pcI M 0 f k).1 := fun h => (g2.1 k (by omega) h).1
      have e568 := g1.at 568 (p58_no (by decide) (by decide))
      refine bw_iload rfl rfl ?_
      refine bw_push rfl ?_
      refine bw_icge rfl (fun c35 => ?_) (fun c35 => ?_)
      · skip
        refine bw_iload rfl rfl ?_
        refine bw_ret rfl rfl ?_
        obtain rfl : k = 96 := by omega
        exact ⟨rfl, _, rfl, g1, by rw [if_pos g5, g3]; rfl⟩
      · skip
        refine bw_iload rfl rfl ?_
        refine bw_aload rfl rfl ?_
        refine bw_getr rfl rfl (hR _ _) ?_
        refine bw_push rfl ?_
        refine bw_iload rfl rfl ?_
        refine bw_imul rfl ⟨by omega, by omega⟩ ?_
        refine bw_iload rfl rfl ?_
        refine bw_iadd rfl ⟨by omega, by omega⟩ ?_
        refine bw_aldi rfl (by first | rfl | assumption) (by omega) (by omega) ?_
        try simp only [e568, e569, eR]
        refine bw_iload rfl rfl ?_
        refine bw_icne rfl (fun c52 => ?_) (fun c52 => ?_)
        · skip
          refine bw_push rfl ?_
          refine bw_iadd rfl ⟨by omega, by omega⟩ ?_
          refine bw_istore (ls2 := [_, _, _, _, _]) rfl rfl (Nat.le_of_ble_eq_true rfl) rfl ?_
          refine bw_iinc (ls2 := [_, _, _, _, _]) rfl rfl rfl ⟨by omega, by omega⟩ rfl ?_
          refine bw_goto rfl ?_
          have q8 := q9 (by omega)
          first
          | exact ih _ _ _ g1 g2 (cN_t (by omega) g3 (decide_eq_true (by omega))) (by omega) g5 (by omega)
          | (rw [Int.add_zero]; exact ih _ _ _ g1 g2 (cN_f (by omega) g3 (decide_eq_false (by omega))) (by omega) g5 (by omega))
        · skip
          refine bw_push rfl ?_
          refine bw_goto rfl ?_
          refine bw_iadd rfl ⟨by omega, by omega⟩ ?_
          refine bw_istore (ls2 := [_, _, _, _, _]) rfl rfl (Nat.le_of_ble_eq_true rfl) rfl ?_
          refine bw_iinc (ls2 := [_, _, _, _, _]) rfl rfl rfl ⟨by omega, by omega⟩ rfl ?_
          refine bw_goto rfl ?_
          have q8 := q9 (by omega)
          first
          | exact ih _ _ _ g1 g2 (cN_t (by omega) g3 (decide_eq_true (by omega))) (by omega) g5 (by omega)
          | (rw [Int.add_zero]; exact ih _ _ _ g1 g2 (cN_f (by omega) g3 (decide_eq_false (by omega))) (by omega) g5 (by omega))
  show abW d (0, 0) 235 0 [some (vr (some 567)), some (vi f), some (vi v), none, none] [] (0, 0) (A0 L) M (qI (A0 L) (fun x N => sm p58 M N ∧ x = if (0 ≤ f ∧ f < gI M 568 0) ∧ (0 ≤ v ∧ v ≤ 9) then cN (fun k => decide ((pcI M 0 f k).1 = v)) 96 else -1))
  refine bw_aload rfl rfl ?_
  refine bw_iload rfl rfl ?_
  refine bw_callVj (e := d - 1) (as := [_]) rfl (by omega) rfl rfl (Nat.le_of_ble_eq_true rfl) (Nat.le_of_ble_eq_true rfl) rfl (m_isFrame hR hB (by omega)) (fun r2 hr2 => ?_)
  try simp only [e568, e569, eR]
  refine bw_ifeq rfl (fun c5 => ?_) (fun c5 => ?_)
  · skip
    refine bw_push rfl ?_
    refine bw_ret rfl rfl ?_
    exact ⟨rfl, _, rfl, sm_refl _ _, by rw [if_neg (by omega)]⟩
  · skip
    refine bw_iload rfl rfl ?_
    refine bw_push rfl ?_
    refine bw_push rfl ?_
    refine bw_callSj (e := d - 1) (as := [_, _, _]) rfl (by omega) rfl rfl (Nat.le_of_ble_eq_true rfl) (Nat.le_of_ble_eq_true rfl) (m_isIn hR) (fun r12 hr12 => ?_)
    try simp only [e568, e569, eR]
    refine bw_ifne rfl (fun c15 => ?_) (fun c15 => ?_)
    · skip
      refine bw_aload rfl rfl ?_
      refine bw_push rfl ?_
      refine bw_iload rfl rfl ?_
      refine bw_callVv (e := d - 1) (as := [_, _]) rfl (by omega) rfl rfl (Nat.le_of_ble_eq_true rfl) (Nat.le_of_ble_eq_true rfl) rfl (m_composes hR hB (by omega) hS (by omega) (by omega)) (fun M23 hM23 => ?_)
      obtain ⟨u23, v23⟩ := hM23
      have hRo := hR
      have hBo := hB
      have hR := u23.RF hR
      have hB := u23.RB (p58_no (by decide) (by decide)) (p58_no (by decide) (by decide)) hB
      have e568 := u23.at 568 (p58_no (by decide) (by decide))
      have e569 := u23.at 569 (p58_no (by decide) (by decide))
      have eR : ∀ i l : Int, mR M23 i l = mR M i l := u23.mR (p58_no (by decide) (by decide))
      have hz : (0 ≤ f ∧ f < gI M 568 0) ∧ (0 ≤ v ∧ v ≤ 9) := by omega
      refine bw_push rfl ?_
      refine bw_istore (ls2 := [_, _, _, _, _]) rfl rfl (Nat.le_of_ble_eq_true rfl) rfl ?_
      refine bw_push rfl ?_
      refine bw_istore (ls2 := [_, _, _, _, _]) rfl rfl (Nat.le_of_ble_eq_true rfl) rfl ?_
      exact L31 97 _ 0 0 u23 v23 rfl (by omega) hz (by omega)
    · skip
      refine bw_push rfl ?_
      refine bw_ret rfl rfl ?_
      exact ⟨rfl, _, rfl, sm_refl _ _, by rw [if_neg (by omega)]⟩
set_option maxRecDepth 20000 in
set_option maxHeartbeats 4000000 in
theorem m_seen {d L : Nat} {M : abMem} {r : abRf} (hR : RF r M) (hB : RB M) (hS : ∀ p : Int, 0 ≤ p → p < gI M 568 1 → 0 ≤ gI M 569 (0 + 576 + p) ∧ gI M 569 (0 + 576 + p) ≤ 5) {l f : Int} (hd : 3 ≤ d) : abW d (0, 0) 236 0 (abEnt (abL 236) [vr (some 567), vi l, vi f]) [] (0, 0) (A0 L) M (qI (A0 L) (fun x N => sm p58 M N ∧ x = if (0 ≤ l ∧ l < gI M 568 1) ∧ (0 ≤ f ∧ f < gI M 568 0) then cN (fun k => decide ((pcI M 0 f k).2 = l)) 96 else -1)) := by
  have b1 := hB.fr
  have b2 := hB.la
  have L29 : ∀ (kf : Nat) (N : abMem) (c k : Int), (sm p58 M N) → (cmpd M N 0 f) → (c = cN (fun k => decide ((pcI M 0 f k).2 = l)) k.toNat) → (0 ≤ k ∧ k ≤ 96) → ((0 ≤ l ∧ l < gI M 568 1) ∧ (0 ≤ f ∧ f < gI M 568 0)) → ((96 - k).toNat) < kf → abW d (0, 0) 236 29 [some (vr (some 567)), some (vi l), some (vi f), some (vi c), some (vi k)] [] (0, 0) (A0 L) (N) (qI (A0 L) (fun x N => sm p58 M N ∧ x = if (0 ≤ l ∧ l < gI M 568 1) ∧ (0 ≤ f ∧ f < gI M 568 0) then cN (fun k => decide ((pcI M 0 f k).2 = l)) 96 else -1)) := by
    intro kf
    induction kf with
    | zero => intro N  c k  g1 g2 g3 g4 g5 hm9; exact absurd hm9 (Nat.not_lt_zero _)
    | succ kf ih29 =>
      intro N  c k  g1 g2 g3 g4 g5 hm29
      have ih := ih29
      have hR := g1.RF hR
      have b9 := cN_in (fun k => decide ((pcI M 0 f k).2 = l)) k.toNat
      have q9 : k < 96 → gI N 581 (96 * f + k) = (pcI M 0 f k).2 := fun h => (g2.1 k (by omega) h).2
      have e568 := g1.at 568 (p58_no (by decide) (by decide))
      refine bw_iload rfl rfl ?_
      refine bw_push rfl ?_
      refine bw_icge rfl (fun c33 => ?_) (fun c33 => ?_)
      · skip
        refine bw_iload rfl rfl ?_
        refine bw_ret rfl rfl ?_
        obtain rfl : k = 96 := by omega
        exact ⟨rfl, _, rfl, g1, by rw [if_pos g5, g3]; rfl⟩
      · skip
        refine bw_iload rfl rfl ?_
        refine bw_aload rfl rfl ?_
        refine bw_getr rfl rfl (hR _ _) ?_
        refine bw_push rfl ?_
        refine bw_iload rfl rfl ?_
        refine bw_imul rfl ⟨by omega, by omega⟩ ?_
        refine bw_iload rfl rfl ?_
        refine bw_iadd rfl ⟨by omega, by omega⟩ ?_
        refine bw_aldi rfl (by first | rfl | assumption) (by omega) (by omega) ?_
        try simp only [e568, e569, eR]
        refine bw_iload rfl rfl ?_
        refine bw_icne rfl (fun c50 => ?_) (fun c50 => ?_)
        · skip
          refine bw_push rfl ?_
          refine bw_iadd rfl ⟨by omega, by omega⟩ ?_
          refine bw_istore (ls2 := [_, _, _, _, _]) rfl rfl (Nat.le_of_ble_eq_true rfl) rfl ?_
          refine bw_iinc (ls2 := [_, _, _, _, _]) rfl rfl rfl ⟨by omega, by omega⟩ rfl ?_
          refine bw_goto rfl ?_
          have q8 := q9 (by omega)
          first
          | exact ih _ _ _ g1 g2 (cN_t (by omega) g3 (decide_eq_true (by omega))) (by omega) g5 (by omega)
          | (rw [Int.add_zero]; exact ih _ _ _ g1 g2 (cN_f (by omega) g3 (decide_eq_false (by omega))) (by omega) g5 (by omega))
        · skip
          refine bw_push rfl ?_
          refine bw_goto rfl ?_
          refine bw_iadd rfl ⟨by omega, by omega⟩ ?_
          refine bw_istore (ls2 := [_, _, _, _, _]) rfl rfl (Nat.le_of_ble_eq_true rfl) rfl ?_
          refine bw_iinc (ls2 := [_, _, _, _, _]) rfl rfl rfl ⟨by omega, by omega⟩ rfl ?_
          refine bw_goto rfl ?_
          have q8 := q9 (by omega)
          first
          | exact ih _ _ _ g1 g2 (cN_t (by omega) g3 (decide_eq_true (by omega))) (by omega) g5 (by omega)
          | (rw [Int.add_zero]; exact ih _ _ _ g1 g2 (cN_f (by omega) g3 (decide_eq_false (by omega))) (by omega) g5 (by omega))
  show abW d (0, 0) 236 0 [some (vr (some 567)), some (vi l), some (vi f), none, none] [] (0, 0) (A0 L) M (qI (A0 L) (fun x N => sm p58 M N ∧ x = if (0 ≤ l ∧ l < gI M 568 1) ∧ (0 ≤ f ∧ f < gI M 568 0) then cN (fun k => decide ((pcI M 0 f k).2 = l)) 96 else -1))
  refine bw_aload rfl rfl ?_
  refine bw_iload rfl rfl ?_
  refine bw_callVj (e := d - 1) (as := [_]) rfl (by omega) rfl rfl (Nat.le_of_ble_eq_true rfl) (Nat.le_of_ble_eq_true rfl) rfl (m_isLayer hR hB (by omega)) (fun r2 hr2 => ?_)
  try simp only [e568, e569, eR]
  refine bw_ifeq rfl (fun c5 => ?_) (fun c5 => ?_)
  · skip
    refine bw_push rfl ?_
    refine bw_ret rfl rfl ?_
    exact ⟨rfl, _, rfl, sm_refl _ _, by rw [if_neg (by omega)]⟩
  · skip
    refine bw_aload rfl rfl ?_
    refine bw_iload rfl rfl ?_
    refine bw_callVj (e := d - 1) (as := [_]) rfl (by omega) rfl rfl (Nat.le_of_ble_eq_true rfl) (Nat.le_of_ble_eq_true rfl) rfl (m_isFrame hR hB (by omega)) (fun r10 hr10 => ?_)
    try simp only [e568, e569, eR]
    refine bw_ifne rfl (fun c13 => ?_) (fun c13 => ?_)
    · skip
      refine bw_aload rfl rfl ?_
      refine bw_push rfl ?_
      refine bw_iload rfl rfl ?_
      refine bw_callVv (e := d - 1) (as := [_, _]) rfl (by omega) rfl rfl (Nat.le_of_ble_eq_true rfl) (Nat.le_of_ble_eq_true rfl) rfl (m_composes hR hB (by omega) hS (by omega) (by omega)) (fun M21 hM21 => ?_)
      obtain ⟨u21, v21⟩ := hM21
      have hRo := hR
      have hBo := hB
      have hR := u21.RF hR
      have hB := u21.RB (p58_no (by decide) (by decide)) (p58_no (by decide) (by decide)) hB
      have e568 := u21.at 568 (p58_no (by decide) (by decide))
      have e569 := u21.at 569 (p58_no (by decide) (by decide))
      have eR : ∀ i l : Int, mR M21 i l = mR M i l := u21.mR (p58_no (by decide) (by decide))
      have hz : (0 ≤ l ∧ l < gI M 568 1) ∧ (0 ≤ f ∧ f < gI M 568 0) := by omega
      refine bw_push rfl ?_
      refine bw_istore (ls2 := [_, _, _, _, _]) rfl rfl (Nat.le_of_ble_eq_true rfl) rfl ?_
      refine bw_push rfl ?_
      refine bw_istore (ls2 := [_, _, _, _, _]) rfl rfl (Nat.le_of_ble_eq_true rfl) rfl ?_
      exact L29 97 _ 0 0 u21 v21 rfl (by omega) hz (by omega)
    · skip
      refine bw_push rfl ?_
      refine bw_ret rfl rfl ?_
      exact ⟨rfl, _, rfl, sm_refl _ _, by rw [if_neg (by omega)]⟩
set_option maxRecDepth 20000 in
set_option maxHeartbeats 4000000 in
theorem m_areAlike {d L : Nat} {M : abMem} {r : abRf} (hR : RF r M) {f e : Int} (hf : 0 ≤ f ∧ f ≤ 95) (he : 0 ≤ e ∧ e ≤ 95) : abW d (0, 0) 237 0 (abEnt (abL 237) [vr (some 567), vi f, vi e]) [] (0, 0) (A0 L) M (qJ (A0 L) M (fun x => alN M f e ∧ x = 1 ∨ ¬ alN M f e ∧ x = 0)) := by
  have L2 : ∀ (kf : Nat) (k : Int), (0 ≤ k ∧ k ≤ 96) → (∀ j : Int, 0 ≤ j → j < k → gI M 580 (96 * f + j) = gI M 580 (96 * e + j)) → ((96 - k).toNat) < kf → abW d (0, 0) 237 2 [some (vr (some 567)), some (vi f), some (vi e), some (vi k)] [] (0, 0) (A0 L) (M) (qJ (A0 L) M (fun x => alN M f e ∧ x = 1 ∨ ¬ alN M f e ∧ x = 0)) := by
    intro kf
    induction kf with
    | zero => intro k  g1 g2 hm9; exact absurd hm9 (Nat.not_lt_zero _)
    | succ kf ih2 =>
      intro k  g1 g2 hm2
      have ih := ih2
      refine bw_iload rfl rfl ?_
      refine bw_push rfl ?_
      refine bw_icge rfl (fun c5 => ?_) (fun c5 => ?_)
      · skip
        refine bw_push rfl ?_
        refine bw_retz rfl rfl (by omega) ?_
        exact ⟨rfl, rfl, _, rfl, Or.inl ⟨fun j h1 h2 => g2 j h1 (by omega), rfl⟩⟩
      · skip
        refine bw_aload rfl rfl ?_
        refine bw_getr rfl rfl (hR _ _) ?_
        refine bw_push rfl ?_
        refine bw_iload rfl rfl ?_
        refine bw_imul rfl ⟨by omega, by omega⟩ ?_
        refine bw_iload rfl rfl ?_
        refine bw_iadd rfl ⟨by omega, by omega⟩ ?_
        refine bw_aldi rfl (by first | rfl | assumption) (by omega) (by omega) ?_
        refine bw_aload rfl rfl ?_
        refine bw_getr rfl rfl (hR _ _) ?_
        refine bw_push rfl ?_
        refine bw_iload rfl rfl ?_
        refine bw_imul rfl ⟨by omega, by omega⟩ ?_
        refine bw_iload rfl rfl ?_
        refine bw_iadd rfl ⟨by omega, by omega⟩ ?_
        refine bw_aldi rfl (by first | rfl | assumption) (by omega) (by omega) ?_
        refine bw_iceq rfl (fun c30 => ?_) (fun c30 => ?_)
        · skip
          refine bw_iinc (ls2 := [_, _, _, _]) rfl rfl rfl ⟨by omega, by omega⟩ rfl ?_
          refine bw_goto rfl ?_
          refine ih _ (by omega) (fun j h1 h2 => ?_) (by omega)
          by_cases q : j = k
          · rw [q]; omega
          · exact g2 j h1 (by omega)
        · skip
          refine bw_push rfl ?_
          refine bw_retz rfl rfl (by omega) ?_
          exact ⟨rfl, rfl, _, rfl, Or.inr ⟨fun h => absurd (h k (by omega) (by omega)) (by omega), rfl⟩⟩
  show abW d (0, 0) 237 0 [some (vr (some 567)), some (vi f), some (vi e), none] [] (0, 0) (A0 L) M (qJ (A0 L) M (fun x => alN M f e ∧ x = 1 ∨ ¬ alN M f e ∧ x = 0))
  refine bw_push rfl ?_
  refine bw_istore (ls2 := [_, _, _, _]) rfl rfl (Nat.le_of_ble_eq_true rfl) rfl ?_
  exact L2 97 0 (by omega) (fun j h1 h2 => by omega) (by omega)
set_option maxRecDepth 20000 in
set_option maxHeartbeats 4000000 in
theorem m_firstLike {d L : Nat} {M : abMem} {r : abRf} (hR : RF r M) {f : Int} (hf : 0 ≤ f ∧ f ≤ 95) (hd : 1 ≤ d) : abW d (0, 0) 239 0 (abEnt (abL 239) [vr (some 567), vi f]) [] (0, 0) (A0 L) M (qJ (A0 L) M (fun x => isFL (alN M) f x)) := by
  have L2 : ∀ (kf : Nat) (e : Int), (0 ≤ e ∧ e ≤ f) → (∀ j : Int, 0 ≤ j → j < e → ¬ alN M j f) → ((f - e).toNat) < kf → abW d (0, 0) 239 2 [some (vr (some 567)), some (vi f), some (vi e)] [] (0, 0) (A0 L) (M) (qJ (A0 L) M (fun x => isFL (alN M) f x)) := by
    intro kf
    induction kf with
    | zero => intro e  g1 g2 hm9; exact absurd hm9 (Nat.not_lt_zero _)
    | succ kf ih2 =>
      intro e  g1 g2 hm2
      have ih := ih2
      refine bw_aload rfl rfl ?_
      refine bw_iload rfl rfl ?_
      refine bw_iload rfl rfl ?_
      refine bw_callVj (e := d - 1) (as := [_, _]) rfl (by omega) rfl rfl (Nat.le_of_ble_eq_true rfl) (Nat.le_of_ble_eq_true rfl) rfl (m_areAlike hR (by omega) (by omega)) (fun r5 hr5 => ?_)
      refine bw_ifne rfl (fun c8 => ?_) (fun c8 => ?_)
      · skip
        refine bw_iload rfl rfl ?_
        refine bw_ret rfl rfl ?_
        exact ⟨rfl, rfl, _, rfl, g1.1, g1.2, hr5.elim (fun q => q.1) (fun q => absurd q.2 (by omega)), g2⟩
      · skip
        refine bw_iinc (ls2 := [_, _, _]) rfl rfl rfl ⟨by omega, by omega⟩ rfl ?_
        refine bw_goto rfl ?_
        have hn : ¬ alN M e f := hr5.elim (fun q => absurd q.2 (by omega)) (fun q => q.1)
        have hne : e ≠ f := fun q => hn (by rw [q]; exact fun _ _ _ => rfl)
        refine ih _ (by omega) (fun j h1 h2 => ?_) (by omega)
        by_cases q : j = e
        · rw [q]; exact hn
        · exact g2 j h1 (by omega)
  show abW d (0, 0) 239 0 [some (vr (some 567)), some (vi f), none] [] (0, 0) (A0 L) M (qJ (A0 L) M (fun x => isFL (alN M) f x))
  refine bw_push rfl ?_
  refine bw_istore (ls2 := [_, _, _]) rfl rfl (Nat.le_of_ble_eq_true rfl) rfl ?_
  exact L2 (f.toNat + 1) 0 (by omega) (fun j h1 h2 => by omega) (by omega)
