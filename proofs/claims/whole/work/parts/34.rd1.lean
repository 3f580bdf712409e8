/-- the text that the reference reads -/
abbrev PS (M : abMem) (a : Int → Int) (n : Int) : Prop := (okA a n) ∧ (gI M 567 8 = n) ∧ (∀ k : Int, 0 ≤ k → k < n → gI M 571 k = a k) ∧ (∀ j : Int, 0 ≤ j → j < 94 → gI M 572 j = ownT j) ∧ (0 ≤ gI M 567 9 ∧ gI M 567 9 ≤ n)
theorem PS.ok {M : abMem} {a : Int → Int} {n : Int} (h : PS M a n) : okA a n := h.1
theorem PS.sz {M : abMem} {a : Int → Int} {n : Int} (h : PS M a n) : gI M 567 8 = n := h.2.1
theorem PS.by {M : abMem} {a : Int → Int} {n : Int} (h : PS M a n) : ∀ k : Int, 0 ≤ k → k < n → gI M 571 k = a k := h.2.2.1
theorem PS.ow {M : abMem} {a : Int → Int} {n : Int} (h : PS M a n) : ∀ j : Int, 0 ≤ j → j < 94 → gI M 572 j = ownT j := h.2.2.2.1
theorem PS.he {M : abMem} {a : Int → Int} {n : Int} (h : PS M a n) : 0 ≤ gI M 567 9 ∧ gI M 567 9 ≤ n := h.2.2.2.2
abbrev q9 (j : Int) : Prop := j = 9
abbrev qP (j : Int) : Prop := j = 9 ∨ j = 10 ∨ j = 11 ∨ j = 12
theorem qP_no {j : Int} (h : j ≠ 9 ∧ j ≠ 10 ∧ j ≠ 11 ∧ j ≠ 12) : ¬ qP j := fun k => by rcases k with k | k | k | k <;> omega
theorem PS.fr5 {p : Nat → Prop} {q : Int → Prop} {M N : abMem} {a : Int → Int} {n : Int} (h : PS M a n) (g : s5 p q M N) (h1 : ¬ p 571) (h2 : ¬ p 572) (h3 : ¬ q 8) (hh : 0 ≤ gI N 567 9 ∧ gI N 567 9 ≤ n) : PS N a n := ⟨h.ok, by rw [g.sl 8 h3]; exact h.sz, by rw [g.at 571 h1 (by decide)]; exact h.by, by rw [g.at 572 h2 (by decide)]; exact h.ow, hh⟩
theorem PS.to9 {M N : abMem} {a : Int → Int} {n : Int} (h : PS M a n) (g : s5 pNo q9 M N) (hh : 0 ≤ gI N 567 9 ∧ gI N 567 9 ≤ n) : PS N a n := h.fr5 g (fun k => k) (fun k => k) (fun k => by have : (8 : Int) = 9 := k; omega) hh
theorem PS.toP {M N : abMem} {a : Int → Int} {n : Int} (h : PS M a n) (g : s5 pNo qP M N) (hh : 0 ≤ gI N 567 9 ∧ gI N 567 9 ≤ n) : PS N a n := h.fr5 g (fun k => k) (fun k => k) (qP_no (by omega)) hh
theorem s5.toP {M N : abMem} (g : s5 pNo q9 M N) : s5 pNo qP M N := g.mono (fun _ k => k) (fun _ k => Or.inl k)
/-- how far the reading stands -/
def rs (M : abMem) (a : Int → Int) (n : Int) : Rp → Prop
  | .inl e => gI M 567 11 = e.1 ∧ gI M 567 12 = e.2 ∧ e.1 ≠ 0
  | .inr p => gI M 567 11 = 0 ∧ sk a n (gI M 567 9) = p
theorem rs_fault {M N : abMem} {a : Int → Int} {n : Int} {e : Int × Int} (h : rs M a n (.inl e)) (g : s5 pNo q9 M N) : rs N a n (.inl e) := ⟨by rw [g.sl 11 (fun k => by have : (11 : Int) = 9 := k; omega)]; exact h.1, by rw [g.sl 12 (fun k => by have : (12 : Int) = 9 := k; omega)]; exact h.2.1, h.2.2⟩
theorem rs_ok {M N : abMem} {a : Int → Int} {n p q : Int} (h : rs M a n (.inr p)) (g : s5 pNo q9 M N) (e : sk a n (gI N 567 9) = q) : rs N a n (.inr q) := ⟨by rw [g.sl 11 (fun k => by have : (11 : Int) = 9 := k; omega)]; exact h.1, e⟩
/-- behind faults(kind, place) -/
def fal (M : abMem) (k p : Int) (N : abMem) : Prop := (gI M 567 11 ≠ 0 ∧ N = M) ∨ (gI M 567 11 = 0 ∧ N = sI (sI M 567 11 k) 567 12 p)
theorem fal.f5 {M N : abMem} {k p : Int} (h : fal M k p N) (hk : k ≠ 0 := by decide) : s5 pNo qP M N := by
  rcases h with ⟨_, e⟩ | ⟨_, e⟩
  · rw [e]; exact s5_refl _ _ _
  · rw [e]; exact (s5_refl _ _ _).fl k p hk (Or.inr (Or.inr (Or.inl rfl))) (Or.inr (Or.inr (Or.inr rfl)))
theorem fal.he {M N : abMem} {k p : Int} (h : fal M k p N) : gI N 567 9 = gI M 567 9 ∧ gI N 567 10 = gI M 567 10 := by
  rcases h with ⟨_, e⟩ | ⟨_, e⟩
  · rw [e]; exact ⟨rfl, rfl⟩
  · rw [e]; exact ⟨by rw [gI_sI_nj (by decide), gI_sI_nj (by decide)], by rw [gI_sI_nj (by decide), gI_sI_nj (by decide)]⟩
theorem fal.ps {M N : abMem} {k p : Int} {a : Int → Int} {n : Int} (h : fal M k p N) (hP : PS M a n) (hk : k ≠ 0 := by decide) : PS N a n := hP.toP (h.f5 hk) (by rw [h.he.1]; exact hP.he)
theorem fal.new {M N : abMem} {k p : Int} {a : Int → Int} {n : Int} (h : fal M k p N) (h0 : gI M 567 11 = 0) (hk : k ≠ 0) : rs N a n (.inl (k, p)) := by
  rcases h with ⟨e, _⟩ | ⟨_, e⟩
  · exact absurd h0 e
  · rw [e]; exact ⟨by rw [gI_sI_nj (by decide), gI_sI_eq], by rw [gI_sI_eq], hk⟩
theorem fal.old {M N : abMem} {k p : Int} {a : Int → Int} {n : Int} {e : Int × Int} (h : fal M k p N) (h0 : rs M a n (.inl e)) : rs N a n (.inl e) := by
  rcases h with ⟨_, q⟩ | ⟨q, _⟩
  · rw [q]; exact h0
  · exact absurd (h0.1.symm.trans q) h0.2.2
set_option maxRecDepth 20000 in
set_option maxHeartbeats 4000000 in
theorem m_byteAt {d L : Nat} {M : abMem} {r : abRf} (hR : RF r M) {a : Int → Int} {n : Int} (hP : PS M a n) {k : Int} (hk : 0 ≤ k) : abW d (0, 0) 145 0 (abEnt (abL 145) [vr (some 567), vi k]) [] (0, 0) (A0 L) M (qE (some (vi (a k))) (A0 L) M) := by
  have p1 := hP.sz
  have p2 := hP.ok.1
  show abW d (0, 0) 145 0 [some (vr (some 567)), some (vi k)] [] (0, 0) (A0 L) M (qE (some (vi (a k))) (A0 L) M)
  refine bw_iload rfl rfl ?_
  refine bw_aload rfl rfl ?_
  refine bw_getI rfl rfl ?_
  refine bw_icge rfl (fun c5 => ?_) (fun c5 => ?_)
  · skip
    refine bw_push rfl ?_
    refine bw_ret rfl rfl ?_
    first
    | exact ⟨rfl, rfl, rfl⟩
    | exact ⟨by rw [hP.ok.2.1 k (by omega)], rfl, rfl⟩
  · skip
    refine bw_aload rfl rfl ?_
    refine bw_getr rfl rfl (hR _ _) ?_
    refine bw_iload rfl rfl ?_
    refine bw_aldi rfl (by first | rfl | assumption) (by omega) (by omega) ?_
    rw [hP.by k hk (by omega)]
    refine bw_goto rfl ?_
    refine bw_ret rfl rfl ?_
    first
    | exact ⟨rfl, rfl, rfl⟩
    | exact ⟨by rw [hP.ok.2.1 k (by omega)], rfl, rfl⟩
set_option maxRecDepth 20000 in
set_option maxHeartbeats 4000000 in
theorem m_isSmall {d L : Nat} {M : abMem} {r : abRf} (hR : RF r M) {a : Int → Int} {n : Int} (hP : PS M a n) {k : Int} (hk : 0 ≤ k) (hd : 1 ≤ d) : abW d (0, 0) 146 0 (abEnt (abL 146) [vr (some 567), vi k]) [] (0, 0) (A0 L) M (qJ (A0 L) M (fun x => (97 ≤ a k ∧ a k ≤ 122) ∧ x = 1 ∨ ¬ (97 ≤ a k ∧ a k ≤ 122) ∧ x = 0)) := by
  show abW d (0, 0) 146 0 [some (vr (some 567)), some (vi k)] [] (0, 0) (A0 L) M (qJ (A0 L) M (fun x => (97 ≤ a k ∧ a k ≤ 122) ∧ x = 1 ∨ ¬ (97 ≤ a k ∧ a k ≤ 122) ∧ x = 0))
  refine bw_aload rfl rfl ?_
  refine bw_iload rfl rfl ?_
  refine bw_callVe (e := d - 1) (as := [_]) rfl (by omega) rfl rfl (Nat.le_of_ble_eq_true rfl) (Nat.le_of_ble_eq_true rfl) rfl (m_byteAt hR hP (by omega)) ?_
  refine bw_push rfl ?_
  refine bw_iclt rfl (fun c7 => ?_) (fun c7 => ?_)
  · skip
    refine bw_push rfl ?_
    refine bw_retz rfl rfl (by omega) ?_
    exact ⟨rfl, rfl, _, rfl, by omega⟩
  · skip
    refine bw_aload rfl rfl ?_
    refine bw_iload rfl rfl ?_
    refine bw_callVe (e := d - 1) (as := [_]) rfl (by omega) rfl rfl (Nat.le_of_ble_eq_true rfl) (Nat.le_of_ble_eq_true rfl) rfl (m_byteAt hR hP (by omega)) ?_
    refine bw_push rfl ?_
    refine bw_icgt rfl (fun c17 => ?_) (fun c17 => ?_)
    · skip
      refine bw_push rfl ?_
      refine bw_retz rfl rfl (by omega) ?_
      exact ⟨rfl, rfl, _, rfl, by omega⟩
    · skip
      refine bw_push rfl ?_
      refine bw_goto rfl ?_
      refine bw_retz rfl rfl (by omega) ?_
      exact ⟨rfl, rfl, _, rfl, by omega⟩
set_option maxRecDepth 20000 in
set_option maxHeartbeats 4000000 in
theorem m_isDigit {d L : Nat} {M : abMem} {r : abRf} (hR : RF r M) {a : Int → Int} {n : Int} (hP : PS M a n) {k : Int} (hk : 0 ≤ k) (hd : 1 ≤ d) : abW d (0, 0) 147 0 (abEnt (abL 147) [vr (some 567), vi k]) [] (0, 0) (A0 L) M (qJ (A0 L) M (fun x => (48 ≤ a k ∧ a k ≤ 57) ∧ x = 1 ∨ ¬ (48 ≤ a k ∧ a k ≤ 57) ∧ x = 0)) := by
  show abW d (0, 0) 147 0 [some (vr (some 567)), some (vi k)] [] (0, 0) (A0 L) M (qJ (A0 L) M (fun x => (48 ≤ a k ∧ a k ≤ 57) ∧ x = 1 ∨ ¬ (48 ≤ a k ∧ a k ≤ 57) ∧ x = 0))
  refine bw_aload rfl rfl ?_
  refine bw_iload rfl rfl ?_
  refine bw_callVe (e := d - 1) (as := [_]) rfl (by omega) rfl rfl (Nat.le_of_ble_eq_true rfl) (Nat.le_of_ble_eq_true rfl) rfl (m_byteAt hR hP (by omega)) ?_
  refine bw_push rfl ?_
  refine bw_iclt rfl (fun c7 => ?_) (fun c7 => ?_)
  · skip
    refine bw_push rfl ?_
    refine bw_retz rfl rfl (by omega) ?_
    exact ⟨rfl, rfl, _, rfl, by omega⟩
  · skip
    refine bw_aload rfl rfl ?_
    refine bw_iload rfl rfl ?_
    refine bw_callVe (e := d - 1) (as := [_]) rfl (by omega) rfl rfl (Nat.le_of_ble_eq_true rfl) (Nat.le_of_ble_eq_true rfl) rfl (m_byteAt hR hP (by omega)) ?_
    refine bw_push rfl ?_
    refine bw_icgt rfl (fun c17 => ?_) (fun c17 => ?_)
    · skip
      refine bw_push rfl ?_
      refine bw_retz rfl rfl (by omega) ?_
      exact ⟨rfl, rfl, _, rfl, by omega⟩
    · skip
      refine bw_push rfl ?_
      refine bw_goto rfl ?_
      refine bw_retz rfl rfl (by omega) ?_
      exact ⟨rfl, rfl, _, rfl, by omega⟩
set_option maxRecDepth 20000 in
set_option maxHeartbeats 4000000 in
theorem m_sees {d L : Nat} {M : abMem} {r : abRf} (hR : RF r M) {a : Int → Int} {n : Int} (hP : PS M a n) (hd : 1 ≤ d) : abW d (0, 0) 148 0 (abEnt (abL 148) [vr (some 567)]) [] (0, 0) (A0 L) M (qI (A0 L) (fun x N => s5 pNo q9 M N ∧ gI N 567 9 = sk a n (gI M 567 9) ∧ x = a (sk a n (gI M 567 9)))) := by
  have p1 := hP.sz
  have p2 := hP.ok.1
  have L0 : ∀ (kf : Nat) (N : abMem), (s5 pNo q9 M N) → (sk a n (gI N 567 9) = sk a n (gI M 567 9)) → (0 ≤ gI N 567 9 ∧ gI N 567 9 ≤ n) → ((n - gI N 567 9).toNat) < kf → abW d (0, 0) 148 0 [some (vr (some 567))] [] (0, 0) (A0 L) (N) (qI (A0 L) (fun x N => s5 pNo q9 M N ∧ gI N 567 9 = sk a n (gI M 567 9) ∧ x = a (sk a n (gI M 567 9)))) := by
    intro kf
    induction kf with
    | zero => intro N  g1 g2 g3 hm9; exact absurd hm9 (Nat.not_lt_zero _)
    | succ kf ih0 =>
      intro N  g1 g2 g3 hm0
      have ih := ih0
      have hRo := hR
      have hPo := hP
      have hR := g1.RF hR
      have hP := hP.to9 g1 g3
      have p3 := hP.he
      refine bw_aload rfl rfl ?_
      refine bw_aload rfl rfl ?_
      refine bw_getI rfl rfl ?_
      refine bw_callVe (e := d - 1) (as := [_]) rfl (by omega) rfl rfl (Nat.le_of_ble_eq_true rfl) (Nat.le_of_ble_eq_true rfl) rfl (m_byteAt hR hP (by omega)) ?_
      refine bw_push rfl ?_
      refine bw_iceq rfl (fun c10 => ?_) (fun c10 => ?_)
      · skip
        refine bw_aload rfl rfl ?_
        first | refine bw_dup rfl ?_ | refine bw_dupi rfl ?_
        refine bw_getI rfl rfl ?_
        refine bw_push rfl ?_
        refine bw_iadd rfl ⟨by omega, by omega⟩ ?_
        refine bw_putI rfl rfl ?_
        refine bw_goto rfl ?_
        have hb : pBl (a (gI N 567 9)) = true := pBl_t.mpr (by omega)
        have hk := in_of hP.ok (k := gI N 567 9) (by omega)
        exact ih (sI N 567 9 (gI N 567 9 + 1)) (g1.sI7 9 _ rfl) (by rw [gI_sI_eq, ← g2]; exact (rn_t hP.ok (by decide) hb).symm) (by rw [gI_sI_eq]; omega) (by rw [gI_sI_eq]; omega)
      · skip
        refine bw_aload rfl rfl ?_
        refine bw_aload rfl rfl ?_
        refine bw_getI rfl rfl ?_
        refine bw_callVe (e := d - 1) (as := [_]) rfl (by omega) rfl rfl (Nat.le_of_ble_eq_true rfl) (Nat.le_of_ble_eq_true rfl) rfl (m_byteAt hR hP (by omega)) ?_
        refine bw_push rfl ?_
        refine bw_icne rfl (fun c23 => ?_) (fun c23 => ?_)
        · skip
          refine bw_aload rfl rfl ?_
          refine bw_aload rfl rfl ?_
          refine bw_getI rfl rfl ?_
          refine bw_callVe (e := d - 1) (as := [_]) rfl (by omega) rfl rfl (Nat.le_of_ble_eq_true rfl) (Nat.le_of_ble_eq_true rfl) rfl (m_byteAt hR hP (by omega)) ?_
          refine bw_ret rfl rfl ?_
          have e : sk a n (gI N 567 9) = gI N 567 9 := rn_f (pBl_f.mpr (by omega))
          exact ⟨rfl, _, rfl, g1, by rw [← g2, e], by rw [← g2, e]⟩
        · skip
          refine bw_aload rfl rfl ?_
          first | refine bw_dup rfl ?_ | refine bw_dupi rfl ?_
          refine bw_getI rfl rfl ?_
          refine bw_push rfl ?_
          refine bw_iadd rfl ⟨by omega, by omega⟩ ?_
          refine bw_putI rfl rfl ?_
          refine bw_goto rfl ?_
          have hb : pBl (a (gI N 567 9)) = true := pBl_t.mpr (by omega)
          have hk := in_of hP.ok (k := gI N 567 9) (by omega)
          exact ih (sI N 567 9 (gI N 567 9 + 1)) (g1.sI7 9 _ rfl) (by rw [gI_sI_eq, ← g2]; exact (rn_t hP.ok (by decide) hb).symm) (by rw [gI_sI_eq]; omega) (by rw [gI_sI_eq]; omega)
  show abW d (0, 0) 148 0 [some (vr (some 567))] [] (0, 0) (A0 L) M (qI (A0 L) (fun x N => s5 pNo q9 M N ∧ gI N 567 9 = sk a n (gI M 567 9) ∧ x = a (sk a n (gI M 567 9))))
  exact L0 ((n - gI M 567 9).toNat + 1) M (s5_refl _ _ _) rfl hP.he (by omega)
set_option maxRecDepth 20000 in
set_option maxHeartbeats 4000000 in
theorem m_goesWell {d L : Nat} {M : abMem} {r : abRf} (hR : RF r M) : abW d (0, 0) 150 0 (abEnt (abL 150) [vr (some 567)]) [] (0, 0) (A0 L) M (qJ (A0 L) M (fun x => (gI M 567 11 = 0) ∧ x = 1 ∨ ¬ (gI M 567 11 = 0) ∧ x = 0)) := by
  show abW d (0, 0) 150 0 [some (vr (some 567))] [] (0, 0) (A0 L) M (qJ (A0 L) M (fun x => (gI M 567 11 = 0) ∧ x = 1 ∨ ¬ (gI M 567 11 = 0) ∧ x = 0))
  refine bw_aload rfl rfl ?_
  refine bw_getI rfl rfl ?_
  refine bw_ifne rfl (fun c4 => ?_) (fun c4 => ?_)
  · skip
    refine bw_push rfl ?_
    refine bw_retz rfl rfl (by omega) ?_
    exact ⟨rfl, rfl, _, rfl, by omega⟩
  · skip
    refine bw_push rfl ?_
    refine bw_goto rfl ?_
    refine bw_retz rfl rfl (by omega) ?_
    exact ⟨rfl, rfl, _, rfl, by omega⟩
set_option maxRecDepth 20000 in
set_option maxHeartbeats 4000000 in
theorem m_faults {d L : Nat} {M : abMem} {r : abRf} (hR : RF r M) {k p : Int} : abW d (0, 0) 151 0 (abEnt (abL 151) [vr (some 567), vi k, vi p]) [] (0, 0) (A0 L) M (qV (A0 L) (fun N => fal M k p N)) := by
  show abW d (0, 0) 151 0 [some (vr (some 567)), some (vi k), some (vi p)] [] (0, 0) (A0 L) M (qV (A0 L) (fun N => fal M k p N))
  refine bw_aload rfl rfl ?_
  refine bw_getI rfl rfl ?_
  refine bw_ifeq rfl (fun c4 => ?_) (fun c4 => ?_)
  · skip
    refine bw_aload rfl rfl ?_
    refine bw_iload rfl rfl ?_
    refine bw_putI rfl rfl ?_
    refine bw_aload rfl rfl ?_
    refine bw_iload rfl rfl ?_
    refine bw_putI rfl rfl ?_
    refine bw_retv rfl rfl ?_
    first
    | exact ⟨rfl, rfl, Or.inl ⟨by omega, rfl⟩⟩
    | exact ⟨rfl, rfl, Or.inr ⟨by omega, rfl⟩⟩
  · skip
    refine bw_retv rfl rfl ?_
    first
    | exact ⟨rfl, rfl, Or.inl ⟨by omega, rfl⟩⟩
    | exact ⟨rfl, rfl, Or.inr ⟨by omega, rfl⟩⟩
abbrev skM (M : abMem) (a : Int → Int) (n : Int) : Int := sk a n (gI M 567 9)
theorem skM_in {M : abMem} {a : Int → Int} {n : Int} (hP : PS M a n) : 0 ≤ skM M a n ∧ skM M a n ≤ n ∧ gI M 567 9 ≤ skM M a n ∧ ¬ (a (skM M a n) = 10 ∨ a (skM M a n) = 32) := by
  have s := sk_in hP.ok hP.he
  have := hP.he
  exact ⟨by show 0 ≤ sk a n (gI M 567 9); omega, s.2.1, s.1, s.2.2⟩
set_option maxRecDepth 20000 in
set_option maxHeartbeats 4000000 in
theorem m_wordEnd {d L : Nat} {M : abMem} {r : abRf} (hR : RF r M) {a : Int → Int} {n : Int} (hP : PS M a n) (hd : 2 ≤ d) : abW d (0, 0) 152 0 (abEnt (abL 152) [vr (some 567)]) [] (0, 0) (A0 L) M (qI (A0 L) (fun x N => s5 pNo q9 M N ∧ gI N 567 9 = skM M a n ∧ x = we a n (skM M a n))) := by
  have p1 := hP.sz
  have p2 := hP.ok.1
  have L10 : ∀ (kf : Nat) (N : abMem) (k : Int), (s5 pNo q9 M N ∧ gI N 567 9 = skM M a n) → (we a n k = we a n (skM M a n)) → (0 ≤ k ∧ k ≤ n) → ((n - k).toNat) < kf → abW d (0, 0) 152 10 [some (vr (some 567)), some (vi k)] [] (0, 0) (A0 L) (N) (qI (A0 L) (fun x N => s5 pNo q9 M N ∧ gI N 567 9 = skM M a n ∧ x = we a n (skM M a n))) := by
    intro kf
    induction kf with
    | zero => intro N  k  g1 g2 g3 hm9; exact absurd hm9 (Nat.not_lt_zero _)
    | succ kf ih10 =>
      intro N  k  g1 g2 g3 hm10
      have ih := ih10
      have hR := g1.1.RF hR
      have s1 := skM_in hP
      have hP := hP.to9 g1.1 (by rw [g1.2]; exact ⟨by omega, by omega⟩)
      refine bw_aload rfl rfl ?_
      refine bw_iload rfl rfl ?_
      refine bw_callVj (e := d - 1) (as := [_]) rfl (by omega) rfl rfl (Nat.le_of_ble_eq_true rfl) (Nat.le_of_ble_eq_true rfl) rfl (m_isSmall hR hP (by omega) (by omega)) (fun r12 hr12 => ?_)
      refine bw_ifeq rfl (fun c15 => ?_) (fun c15 => ?_)
      · skip
        refine bw_iload rfl rfl ?_
        refine bw_ret rfl rfl ?_
        have e : we a n k = k := rn_f (pSm_f.mpr (by omega))
        exact ⟨rfl, _, rfl, g1.1, g1.2, by rw [← g2, e]⟩
      · skip
        refine bw_iinc (ls2 := [_, _]) rfl rfl rfl ⟨by omega, by omega⟩ rfl ?_
        refine bw_goto rfl ?_
        have hb : pSm (a k) = true := pSm_t.mpr (by omega)
        have hk := in_of hP.ok (k := k) (by omega)
        exact ih N _ g1 (by rw [← g2]; exact (rn_t hP.ok (by decide) hb).symm) (by omega) (by omega)
  show abW d (0, 0) 152 0 [some (vr (some 567)), none] [] (0, 0) (A0 L) M (qI (A0 L) (fun x N => s5 pNo q9 M N ∧ gI N 567 9 = skM M a n ∧ x = we a n (skM M a n)))
  refine bw_aload rfl rfl ?_
  refine bw_callVi (e := d - 1) (as := []) rfl (by omega) rfl rfl (Nat.le_of_ble_eq_true rfl) (Nat.le_of_ble_eq_true rfl) rfl (m_sees hR hP (by omega)) (fun r1 M1 hM1 => ?_)
  obtain ⟨u1, v1, w1⟩ := hM1
  have hR := u1.RF hR
  have s1 := skM_in hP
  have hP := hP.to9 u1 (by rw [v1]; exact ⟨s1.1, s1.2.1⟩)
  have p3 := hP.he
  refine bw_pop rfl ?_
  refine bw_aload rfl rfl ?_
  refine bw_getI rfl rfl ?_
  refine bw_istore (ls2 := [_, _]) rfl rfl (Nat.le_of_ble_eq_true rfl) rfl ?_
  exact L10 ((n - gI M1 567 9).toNat + 1) M1 _ ⟨u1, v1⟩ (by rw [v1]) (by omega) (by omega)
set_option maxRecDepth 20000 in
set_option maxHeartbeats 4000000 in
theorem m_ownTo {d L : Nat} {M : abMem} {r : abRf} (hR : RF r M) {a : Int → Int} {n : Int} (hP : PS M a n) {t : Int} (ht : gI M 567 9 ≤ t ∧ t ≤ n) : abW d (0, 0) 153 0 (abEnt (abL 153) [vr (some 567), vi t]) [] (0, 0) (A0 L) M (qE (some (vi (ow a (gI M 567 9) (t - gI M 567 9)))) (A0 L) M) := by
  have p1 := hP.sz
  have p2 := hP.ok.1
  have p3 := hP.he
  have L4 : ∀ (kf : Nat) (w : Int), (0 ≤ w ∧ w ≤ 20) → (∀ v : Int, 0 ≤ v → v < w → ¬ isW a (gI M 567 9) (t - gI M 567 9) v) → ((20 - w).toNat) < kf → abW d (0, 0) 153 4 [some (vr (some 567)), some (vi t), some (vi (osT w)), some (vi w), none] [] (0, 0) (A0 L) (M) (qE (some (vi (ow a (gI M 567 9) (t - gI M 567 9)))) (A0 L) M) := by
    intro kf
    induction kf with
    | zero => intro w  g1 g2 hm9; exact absurd hm9 (Nat.not_lt_zero _)
    | succ kf ih4 =>
      intro w  g1 g2 hm4
      have ih := ih4
      have L94 : ∀ (kf : Nat) (k : Int), (osT w ≤ k ∧ k ≤ osT w + olT w) → (¬ isW a (gI M 567 9) (t - gI M 567 9) w) → (w < 20) → ((95 - k).toNat) < kf → abW d (0, 0) 153 94 [some (vr (some 567)), some (vi t), some (vi k), some (vi w), none] [] (0, 0) (A0 L) (M) (qE (some (vi (ow a (gI M 567 9) (t - gI M 567 9)))) (A0 L) M) := by
        intro kf
        induction kf with
        | zero => intro k  e1 e2 e3 hm9; exact absurd hm9 (Nat.not_lt_zero _)
        | succ kf ih94 =>
          intro k  e1 e2 e3 hm94
          have ih := ih94
          have t0 := own_lenI (w := w) (by omega)
          have t1 : k < osT w + olT w → 1 ≤ ownT k ∧ ownT k ≤ 26 := fun z => by have h := own_posI (w := w) (j := k - osT w) (by omega) (by omega); rw [show osT w + (k - osT w) = k by omega] at h; exact h
          refine bw_aload rfl rfl ?_
          refine bw_getr rfl rfl (hR _ _) ?_
          refine bw_iload rfl rfl ?_
          refine bw_aldi rfl (by first | rfl | assumption) (by omega) (by omega) ?_
          rw [hP.ow _ (by omega) (by omega)]
          refine bw_ifeq rfl (fun c100 => ?_) (fun c100 => ?_)
          · skip
            refine bw_iinc (ls2 := [_, _, _, _, _]) rfl rfl rfl ⟨by omega, by omega⟩ rfl ?_
            refine bw_iinc (ls2 := [_, _, _, _, _]) rfl rfl rfl ⟨by omega, by omega⟩ rfl ?_
            refine bw_goto rfl ?_
            have e : k + 1 = osT (w + 1) := by
              have : ¬ k < osT w + olT w := fun z => by have := t1 z; omega
              omega
            rw [e]
            exact ih4 (w + 1) (by omega) (fun v h1 h2 => by
              by_cases q : v = w
              · rw [q]; exact e2
              · exact g2 v h1 (by omega)) (by omega)
          · skip
            refine bw_iinc (ls2 := [_, _, _, _, _]) rfl rfl rfl ⟨by omega, by omega⟩ rfl ?_
            refine bw_goto rfl ?_
            have z : k < osT w + olT w := by
              by_cases z : k = osT w + olT w
              · have := t0.2.2.2.2.1; rw [← z] at this; omega
              · omega
            exact ih _ (by omega) e2 e3 (by omega)
      have L13 : ∀ (kf : Nat) (i : Int), (0 ≤ i ∧ i ≤ olT w) → (gI M 567 9 + i ≤ t) → (∀ j : Int, 0 ≤ j → j < i → a (gI M 567 9 + j) - 96 = ownT (osT w + j)) → (w < 20) → ((7 - i).toNat) < kf → abW d (0, 0) 153 13 [some (vr (some 567)), some (vi t), some (vi (osT w)), some (vi w), some (vi i)] [] (0, 0) (A0 L) (M) (qE (some (vi (ow a (gI M 567 9) (t - gI M 567 9)))) (A0 L) M) := by
        intro kf
        induction kf with
        | zero => intro i  k1 k2 k3 k4 hm9; exact absurd hm9 (Nat.not_lt_zero _)
        | succ kf ih13 =>
          intro i  k1 k2 k3 k4 hm13
          have ih := ih13
          have t0 := own_lenI (w := w) (by omega)
          have t1 : i < olT w → 1 ≤ ownT (osT w + i) ∧ ownT (osT w + i) ≤ 26 := fun z => own_posI (by omega) (by omega)
          have t2 : i = olT w → ownT (osT w + i) = 0 := fun z => by rw [z]; exact t0.2.2.2.2.1
          refine bw_aload rfl rfl ?_
          refine bw_getr rfl rfl (hR _ _) ?_
          refine bw_iload rfl rfl ?_
          refine bw_iload rfl rfl ?_
          refine bw_iadd rfl ⟨by omega, by omega⟩ ?_
          refine bw_aldi rfl (by first | rfl | assumption) (by omega) (by omega) ?_
          rw [hP.ow _ (by omega) (by omega)]
          refine bw_ifeq rfl (fun c22 => ?_) (fun c22 => ?_)
          · skip
            refine bw_aload rfl rfl ?_
            refine bw_getr rfl rfl (hR _ _) ?_
            refine bw_iload rfl rfl ?_
            refine bw_iload rfl rfl ?_
            refine bw_iadd rfl ⟨by omega, by omega⟩ ?_
            refine bw_aldi rfl (by first | rfl | assumption) (by omega) (by omega) ?_
            rw [hP.ow _ (by omega) (by omega)]
            refine bw_ifne rfl (fun c78 => ?_) (fun c78 => ?_)
            · skip
              refine bw_forget (ls2 := [some (vr (some 567)), some (vi t), some (vi _), some (vi _), none]) ⟨rfl, rfl, rfl, rfl, trivial⟩ ?_
              refine L94 96 _ (by omega) (fun hw => ?_) (by omega) (by omega)
              have h1 := hw.1
              by_cases z : i < olT w
              · have h2 := hw.2 i (by omega) z
                have h3 := t1 z
                omega
              · have h3 := t2 (by omega)
                omega
            · skip
              refine bw_aload rfl rfl ?_
              refine bw_getI rfl rfl ?_
              refine bw_iload rfl rfl ?_
              refine bw_iadd rfl ⟨by omega, by omega⟩ ?_
              refine bw_iload rfl rfl ?_
              refine bw_icne rfl (fun c89 => ?_) (fun c89 => ?_)
              · skip
                refine bw_forget (ls2 := [some (vr (some 567)), some (vi t), some (vi _), some (vi _), none]) ⟨rfl, rfl, rfl, rfl, trivial⟩ ?_
                refine L94 96 _ (by omega) (fun hw => ?_) (by omega) (by omega)
                have h1 := hw.1
                by_cases z : i < olT w
                · have h2 := hw.2 i (by omega) z
                  have h3 := t1 z
                  omega
                · have h3 := t2 (by omega)
                  omega
              · skip
                refine bw_iload rfl rfl ?_
                refine bw_ret rfl rfl ?_
                have z : i = olT w := by
                  by_cases z : i < olT w
                  · have := t1 z; omega
                  · omega
                exact ⟨by rw [ow_eq (x := w) (Or.inl ⟨by omega, by omega, fun j h1 h2 => k3 j h1 (by omega)⟩)], rfl, rfl⟩
          · skip
            refine bw_aload rfl rfl ?_
            refine bw_getI rfl rfl ?_
            refine bw_iload rfl rfl ?_
            refine bw_iadd rfl ⟨by omega, by omega⟩ ?_
            refine bw_iload rfl rfl ?_
            refine bw_icge rfl (fun c33 => ?_) (fun c33 => ?_)
            · skip
              refine bw_aload rfl rfl ?_
              refine bw_getr rfl rfl (hR _ _) ?_
              refine bw_iload rfl rfl ?_
              refine bw_iload rfl rfl ?_
              refine bw_iadd rfl ⟨by omega, by omega⟩ ?_
              refine bw_aldi rfl (by first | rfl | assumption) (by omega) (by omega) ?_
              rw [hP.ow _ (by omega) (by omega)]
              refine bw_ifne rfl (fun c78 => ?_) (fun c78 => ?_)
              · skip
                refine bw_forget (ls2 := [some (vr (some 567)), some (vi t), some (vi _), some (vi _), none]) ⟨rfl, rfl, rfl, rfl, trivial⟩ ?_
                refine L94 96 _ (by omega) (fun hw => ?_) (by omega) (by omega)
                have h1 := hw.1
                by_cases z : i < olT w
                · have h2 := hw.2 i (by omega) z
                  have h3 := t1 z
                  omega
                · have h3 := t2 (by omega)
                  omega
              · skip
                refine bw_aload rfl rfl ?_
                refine bw_getI rfl rfl ?_
                refine bw_iload rfl rfl ?_
                refine bw_iadd rfl ⟨by omega, by omega⟩ ?_
                refine bw_iload rfl rfl ?_
                refine bw_icne rfl (fun c89 => ?_) (fun c89 => ?_)
                · skip
                  refine bw_forget (ls2 := [some (vr (some 567)), some (vi t), some (vi _), some (vi _), none]) ⟨rfl, rfl, rfl, rfl, trivial⟩ ?_
                  refine L94 96 _ (by omega) (fun hw => ?_) (by omega) (by omega)
                  have h1 := hw.1
                  by_cases z : i < olT w
                  · have h2 := hw.2 i (by omega) z
                    have h3 := t1 z
                    omega
                  · have h3 := t2 (by omega)
                    omega
                · skip
                  refine bw_iload rfl rfl ?_
                  refine bw_ret rfl rfl ?_
                  have z : i = olT w := by
                    by_cases z : i < olT w
                    · have := t1 z; omega
                    · omega
                  exact ⟨by rw [ow_eq (x := w) (Or.inl ⟨by omega, by omega, fun j h1 h2 => k3 j h1 (by omega)⟩)], rfl, rfl⟩
            · skip
              refine bw_aload rfl rfl ?_
              refine bw_getr rfl rfl (hR _ _) ?_
              refine bw_aload rfl rfl ?_
              refine bw_getI rfl rfl ?_
              refine bw_iload rfl rfl ?_
              refine bw_iadd rfl ⟨by omega, by omega⟩ ?_
              refine bw_aldi rfl (by first | rfl | assumption) (by omega) (by omega) ?_
              rw [hP.by _ (by omega) (by omega)]
              have ba := hP.ok.2.2 (gI M 567 9 + i) (by omega) (by omega)
              refine bw_push rfl ?_
              refine bw_isub rfl ⟨by omega, by omega⟩ ?_
              refine bw_aload rfl rfl ?_
              refine bw_getr rfl rfl (hR _ _) ?_
              refine bw_iload rfl rfl ?_
              refine bw_iload rfl rfl ?_
              refine bw_iadd rfl ⟨by omega, by omega⟩ ?_
              refine bw_aldi rfl (by first | rfl | assumption) (by omega) (by omega) ?_
              rw [hP.ow _ (by omega) (by omega)]
              refine bw_icne rfl (fun c60 => ?_) (fun c60 => ?_)
              · skip
                refine bw_aload rfl rfl ?_
                refine bw_getr rfl rfl (hR _ _) ?_
                refine bw_iload rfl rfl ?_
                refine bw_iload rfl rfl ?_
                refine bw_iadd rfl ⟨by omega, by omega⟩ ?_
                refine bw_aldi rfl (by first | rfl | assumption) (by omega) (by omega) ?_
                rw [hP.ow _ (by omega) (by omega)]
                refine bw_ifne rfl (fun c78 => ?_) (fun c78 => ?_)
                · skip
                  refine bw_forget (ls2 := [some (vr (some 567)), some (vi t), some (vi _), some (vi _), none]) ⟨rfl, rfl, rfl, rfl, trivial⟩ ?_
                  refine L94 96 _ (by omega) (fun hw => ?_) (by omega) (by omega)
                  have h1 := hw.1
                  by_cases z : i < olT w
                  · have h2 := hw.2 i (by omega) z
                    have h3 := t1 z
                    omega
                  · have h3 := t2 (by omega)
                    omega
                · skip
                  refine bw_aload rfl rfl ?_
                  refine bw_getI rfl rfl ?_
                  refine bw_iload rfl rfl ?_
                  refine bw_iadd rfl ⟨by omega, by omega⟩ ?_
                  refine bw_iload rfl rfl ?_
                  refine bw_icne rfl (fun c89 => ?_) (fun c89 => ?_)
                  · skip
                    refine bw_forget (ls2 := [some (vr (some 567)), some (vi t), some (vi _), some (vi _), none]) ⟨rfl, rfl, rfl, rfl, trivial⟩ ?_
                    refine L94 96 _ (by omega) (fun hw => ?_) (by omega) (by omega)
                    have h1 := hw.1
                    by_cases z : i < olT w
                    · have h2 := hw.2 i (by omega) z
                      have h3 := t1 z
                      omega
                    · have h3 := t2 (by omega)
                      omega
                  · skip
                    refine bw_iload rfl rfl ?_
                    refine bw_ret rfl rfl ?_
                    have z : i = olT w := by
                      by_cases z : i < olT w
                      · have := t1 z; omega
                      · omega
                    exact ⟨by rw [ow_eq (x := w) (Or.inl ⟨by omega, by omega, fun j h1 h2 => k3 j h1 (by omega)⟩)], rfl, rfl⟩
              · skip
                refine bw_iinc (ls2 := [_, _, _, _, _]) rfl rfl rfl ⟨by omega, by omega⟩ rfl ?_
                refine bw_goto rfl ?_
                have z : i < olT w := by
                  by_cases z : i = olT w
                  · have := t2 z; omega
                  · omega
                refine ih _ (by omega) (by omega) (fun j h1 h2 => ?_) k4 (by omega)
                by_cases q : j = i
                · rw [q]; omega
                · exact k3 j h1 (by omega)
      refine bw_iload rfl rfl ?_
      refine bw_push rfl ?_
      refine bw_icgt rfl (fun c7 => ?_) (fun c7 => ?_)
      · skip
        refine bw_push rfl ?_
        refine bw_ret rfl rfl ?_
        exact ⟨by rw [ow_eq (x := -1) (Or.inr ⟨rfl, fun v h1 h2 => g2 v h1 (by omega)⟩)], rfl, rfl⟩
      · skip
        refine bw_push rfl ?_
        refine bw_istore (ls2 := [_, _, _, _, _]) rfl rfl (Nat.le_of_ble_eq_true rfl) rfl ?_
        have t0 := own_lenI (w := w) (by omega)
        exact L13 8 0 (by omega) (by omega) (fun j h1 h2 => by omega) (by omega) (by omega)
  show abW d (0, 0) 153 0 [some (vr (some 567)), some (vi t), none, none, none] [] (0, 0) (A0 L) M (qE (some (vi (ow a (gI M 567 9) (t - gI M 567 9)))) (A0 L) M)
  refine bw_push rfl ?_
  refine bw_istore (ls2 := [_, _, _, _, _]) rfl rfl (Nat.le_of_ble_eq_true rfl) rfl ?_
  refine bw_push rfl ?_
  refine bw_istore (ls2 := [_, _, _, _, _]) rfl rfl (Nat.le_of_ble_eq_true rfl) rfl ?_
  exact L4 21 0 (by omega) (fun v h1 h2 => by omega) (by omega)
set_option maxRecDepth 20000 in
set_option maxHeartbeats 4000000 in
theorem m_comes {d L : Nat} {M : abMem} {r : abRf} (hR : RF r M) {a : Int → Int} {n : Int} (hP : PS M a n) (hd : 3 ≤ d) : abW d (0, 0) 154 0 (abEnt (abL 154) [vr (some 567)]) [] (0, 0) (A0 L) M (qI (A0 L) (fun x N => s5 pNo q9 M N ∧ gI N 567 9 = skM M a n ∧ x = wo a n (skM M a n))) := by
  have p1 := hP.sz
  have p2 := hP.ok.1
  show abW d (0, 0) 154 0 [some (vr (some 567)), none] [] (0, 0) (A0 L) M (qI (A0 L) (fun x N => s5 pNo q9 M N ∧ gI N 567 9 = skM M a n ∧ x = wo a n (skM M a n)))
  refine bw_aload rfl rfl ?_
  refine bw_callVi (e := d - 1) (as := []) rfl (by omega) rfl rfl (Nat.le_of_ble_eq_true rfl) (Nat.le_of_ble_eq_true rfl) rfl (m_wordEnd hR hP (by omega)) (fun r1 M1 hM1 => ?_)
  obtain ⟨u1, v1, w1⟩ := hM1
  have hR := u1.RF hR
  have s1 := skM_in hP
  have s2 := we_in hP.ok (k := skM M a n) ⟨by omega, by omega⟩
  have hP := hP.to9 u1 (by rw [v1]; omega)
  have p3 := hP.he
  refine bw_istore (ls2 := [_, _]) rfl rfl (Nat.le_of_ble_eq_true rfl) rfl ?_
  refine bw_iload rfl rfl ?_
  refine bw_aload rfl rfl ?_
  refine bw_getI rfl rfl ?_
  refine bw_icne rfl (fun c10 => ?_) (fun c10 => ?_)
  · skip
    refine bw_aload rfl rfl ?_
    refine bw_iload rfl rfl ?_
    refine bw_callVe (e := d - 1) (as := [_]) rfl (by omega) rfl rfl (Nat.le_of_ble_eq_true rfl) (Nat.le_of_ble_eq_true rfl) rfl (m_ownTo hR hP (by omega)) ?_
    refine bw_ret rfl rfl ?_
    first
    | exact ⟨rfl, _, rfl, u1, v1, by rw [w1, v1]; rfl⟩
    | exact ⟨rfl, _, rfl, u1, v1, (ow_none (by omega)).symm⟩
  · skip
    refine bw_push rfl ?_
    refine bw_goto rfl ?_
    refine bw_ret rfl rfl ?_
    first
    | exact ⟨rfl, _, rfl, u1, v1, by rw [w1, v1]; rfl⟩
    | exact ⟨rfl, _, rfl, u1, v1, (ow_none (by omega)).symm⟩
abbrev q910 (j : Int) : Prop := j = 9 ∨ j = 10
theorem s5.to910 {M N : abMem} (g : s5 pNo q9 M N) : s5 pNo q910 M N := g.mono (fun _ k => k) (fun _ k => Or.inl k)
theorem s5.P10 {M N : abMem} (g : s5 pNo q910 M N) : s5 pNo qP M N := g.mono (fun _ k => k) (fun _ k => k.elim Or.inl (fun k => Or.inr (Or.inl k)))
set_option maxRecDepth 20000 in
set_option maxHeartbeats 4000000 in
theorem m_passes {d L : Nat} {M : abMem} {r : abRf} (hR : RF r M) {a : Int → Int} {n : Int} (hP : PS M a n) (hd : 3 ≤ d) : abW d (0, 0) 155 0 (abEnt (abL 155) [vr (some 567)]) [] (0, 0) (A0 L) M (qV (A0 L) (fun N => s5 pNo q910 M N ∧ gI N 567 10 = skM M a n ∧ gI N 567 9 = we a n (skM M a n))) := by
  have p1 := hP.sz
  have p2 := hP.ok.1
  show abW d (0, 0) 155 0 [some (vr (some 567)), none] [] (0, 0) (A0 L) M (qV (A0 L) (fun N => s5 pNo q910 M N ∧ gI N 567 10 = skM M a n ∧ gI N 567 9 = we a n (skM M a n)))
  refine bw_aload rfl rfl ?_
  refine bw_callVi (e := d - 1) (as := []) rfl (by omega) rfl rfl (Nat.le_of_ble_eq_true rfl) (Nat.le_of_ble_eq_true rfl) rfl (m_wordEnd hR hP (by omega)) (fun r1 M1 hM1 => ?_)
  obtain ⟨u1, v1, w1⟩ := hM1
  have hR := u1.RF hR
  refine bw_istore (ls2 := [_, _]) rfl rfl (Nat.le_of_ble_eq_true rfl) rfl ?_
  refine bw_aload rfl rfl ?_
  refine bw_aload rfl rfl ?_
  refine bw_getI rfl rfl ?_
  refine bw_putI rfl rfl ?_
  refine bw_aload rfl rfl ?_
  refine bw_iload rfl rfl ?_
  refine bw_putI rfl rfl ?_
  refine bw_retv rfl rfl ?_
  exact ⟨rfl, rfl, (u1.to910.sI7 10 _ (Or.inr rfl)).sI7 9 _ (Or.inl rfl), by rw [gI_sI_nj (by decide), gI_sI_eq, v1], by rw [gI_sI_eq, w1]⟩
