/-- a place that is not blank, behind p -/
def okQ (a : Int → Int) (n p q : Int) : Prop := p ≤ q ∧ q ≤ n ∧ sk a n q = q
theorem okQ_sk {a : Int → Int} {n p k : Int} (hA : okA a n) (h : 0 ≤ p ∧ p ≤ k ∧ k ≤ n) : okQ a n p (sk a n k) := by
  have s := sk_in hA (k := k) (by omega)
  exact ⟨by omega, s.2.1, sk_sk hA (by omega)⟩
theorem nuS_q {a : Int → Int} {n lo hi p q : Int} (hA : okA a n) (hp : 0 ≤ p ∧ p ≤ n) (h : (nuS a n lo hi (.inr p)).1 = .inr q) : okQ a n (p + 1) q := by
  have d := de_in hA hp
  by_cases c : de a n p = p ∨ 3 < de a n p - p
  · rw [nu_a c] at h; cases h
  · by_cases c2 : lo ≤ nv a n p ∧ nv a n p ≤ hi
    · rw [nu_d c c2] at h
      have h : Sum.inr (sk a n (de a n p)) = (Sum.inr q : Rp) := h
      cases h
      exact okQ_sk hA (by omega)
    · rw [nu_c c c2] at h; cases h
theorem we_pos {a : Int → Int} {n p : Int} (hA : okA a n) (hp : 0 ≤ p ∧ p ≤ n) (h : wo a n p ≠ -1) : p + 1 ≤ we a n p ∧ we a n p ≤ n := by
  have w := we_in hA hp
  by_cases c : we a n p = p
  · exact absurd (ow_none (by omega)) h
  · omega
theorem tak_q {a : Int → Int} {n w p q : Int} (hA : okA a n) (hp : 0 ≤ p ∧ p ≤ n ∧ sk a n p = p) (hw : w ≠ -1) (h : (takS a n w (.inr p)).1 = .inr q) : okQ a n p q ∧ ((takS a n w (.inr p)).2 = 1 → p < q) := by
  by_cases c : wo a n p = w
  · have x := we_pos hA ⟨hp.1, hp.2.1⟩ (by omega)
    rw [tak_y c] at h ⊢
    have h : Sum.inr (sk a n (we a n p)) = (Sum.inr q : Rp) := h
    cases h
    have o := okQ_sk hA (p := p) (k := we a n p) (by omega)
    have s := sk_in hA (k := we a n p) (by omega)
    exact ⟨o, fun _ => by omega⟩
  · rw [tak_n c] at h ⊢
    have h : Sum.inr p = (Sum.inr q : Rp) := h
    cases h
    exact ⟨⟨Int.le_refl _, hp.2.1, hp.2.2⟩, fun k => by have : (0 : Int) = 1 := k; omega⟩
theorem tm_q {a : Int → Int} {n u p q : Int} (hA : okA a n) (hp : 0 ≤ p ∧ p ≤ n ∧ sk a n p = p) (h : (tmS a n u (.inr p)).1 = .inr q) : okQ a n p q := by
  unfold tmS at h
  by_cases c : (takS a n 19 (.inr p)).2 = 1
  · rw [if_pos c] at h
    rcases e : (takS a n 19 (.inr p)).1 with x | k
    · rw [e] at h; cases h
    · rw [e] at h
      have t := (tak_q hA hp (by decide) e)
      have o := nuS_q hA (p := k) (by have := t.1; unfold okQ at this; omega) h
      have := t.1
      unfold okQ at o this ⊢
      exact ⟨by omega, o.2.1, o.2.2⟩
  · rw [if_neg c] at h
    exact (tak_q hA hp (by decide) h).1
theorem dr1_q {a : Int → Int} {n q : Int} {s : LnS} (hA : okA a n) (hp : 0 ≤ lsP s ∧ lsP s ≤ n) (h : (dr1 a n s).1 = .inr q) : okQ a n (lsP s + 1) q := nuS_q hA hp h
theorem dr2_q {a : Int → Int} {n q : Int} {s : LnS} (hA : okA a n) (hp : 0 ≤ lsP s ∧ lsP s ≤ n) (h : (dr2 a n s).1 = .inr q) : okQ a n (lsP s + 1) q := by
  unfold dr2 at h
  rcases e : (dr1 a n s).1 with x | k
  · rw [e] at h; cases h
  · rw [e] at h
    have o := dr1_q hA hp e
    unfold okQ at o
    by_cases c : a k = 45
    · rw [dsS_y c] at h
      have i := in_of hA (k := k) (by omega)
      have s2 := sk_in hA (k := k + 1) (by omega)
      have o2 := nuS_q hA (by omega) h
      unfold okQ at o2 ⊢
      exact ⟨by omega, o2.2.1, o2.2.2⟩
    · rw [dsS_n c] at h
      have h : Sum.inr k = (Sum.inr q : Rp) := h
      cases h
      exact o
theorem dr3_q {a : Int → Int} {n on q : Int} {s : LnS} (hA : okA a n) (hp : 0 ≤ lsP s ∧ lsP s ≤ n) (h : (dr3 a n on s).1 = .inr q) : okQ a n (lsP s + 1) q := by
  unfold dr3 at h
  rcases e : (dr2 a n s).1 with x | k
  · rw [e] at h
    have : (tmS a n on (.inl x)).1 = .inl x := by
      unfold tmS
      rw [if_neg (show ¬ (takS a n 19 (.inl x)).2 = 1 from fun k => by have : (0 : Int) = 1 := k; omega)]
      rfl
    rw [this] at h; cases h
  · rw [e] at h
    have o := dr2_q hA hp e
    unfold okQ at o
    have o2 := tm_q hA (p := k) ⟨by omega, o.2.1, o.2.2⟩ h
    unfold okQ at o2 ⊢
    exact ⟨by omega, o2.2.1, o2.2.2⟩
/-- a line that has a part has holds -/
def lsO (s : LnS) : Prop := lsB s = 1 → 1 ≤ (lsH s).1
theorem hRunTo_le (h : HH) (v w m : Int) : hLe h (hRunTo h v w m) ∧ h.1 + 1 ≤ (hRunTo h v w m).1 := by
  unfold hRunTo
  have l := hLe_run h v (if w < v then -1 else 1) m (ab1 (w - v) + 1).toNat
  have x := ab1_c (w - v)
  exact ⟨l.1, by rw [l.2]; omega⟩
theorem LV_h {a : Int → Int} {n q b c : Int} {s : LnS} {h : HH} (H : LV a n s) (hq : 0 ≤ q ∧ q ≤ n ∧ sk a n q = q) (hh : HV h) (hl : hLe (lsH s) h) (hb : b = 0 ∨ b = 1) (hc : 0 ≤ c ∧ c ≤ 40) {k : Int} (hk : 0 ≤ k ∧ k ≤ lsK s) : LV a n (lsM q h k (lsF s) (lsW s) c b) := by
  obtain ⟨h1, h2, h3, h4, h5, h6⟩ := H
  refine ⟨hq, hh, ⟨hk.1, by show k ≤ 5; omega⟩, fun j j1 j2 => ?_, hc, hb⟩
  have j2 : j < k := j2
  have x := h4 j j1 (by omega)
  have y := hl.1
  exact ⟨⟨x.1.1, by show lsF s j ≤ h.1; omega⟩, x.2⟩
theorem pt_step {a : Int → Int} {n on w : Int} {s t : LnS} (hA : okA a n) (ho : 1 ≤ on ∧ on ≤ 96) (H : LV a n s) (h : ptS a n on s = .inr (t, w)) : LV a n t ∧ lsP s < lsP t ∧ w = lsB t ∧ lsO t := by
  have hp := H.1
  have hN := H.2.2.2.2.1
  have h0 := H.2.1.1
  by_cases c : prP a n (lsP s)
  · by_cases g : 48 ≤ a (lsP s) ∧ a (lsP s) ≤ 57
    · rcases e : (dr1 a n s).1 with x | q
      · rw [pt_d c g e] at h; cases h
      · by_cases c4 : lsN s = 40
        · rw [pt_d4 c g e c4] at h; cases h
        · rw [pt_dr c g e c4] at h
          rcases e3 : (dr3 a n on s).1 with x | q3
          · rw [dr_f e3] at h; cases h
          · rw [dr_g e3] at h
            cases h
            have o := dr3_q hA ⟨hp.1, hp.2.1⟩ e3
            unfold okQ at o
            have d := dr2_in (a := a) (n := n) (s := s)
            have m : 1 ≤ (dr3 a n on s).2 ∧ (dr3 a n on s).2 ≤ 96 := tmS_in ho
            have l := hRunTo_le (lsH s) (dr1 a n s).2 (dr2 a n s).2 (dr3 a n on s).2
            exact ⟨LV_h H ⟨by omega, o.2.1, o.2.2⟩ (HV_to H.2.1 (by omega) (by omega) m) l.1 (Or.inr rfl) (by omega) ⟨H.2.2.1.1, Int.le_refl _⟩, by show lsP s < q3; omega, rfl, fun _ => by show 1 ≤ (hRunTo _ _ _ _).1; omega⟩
    · by_cases c4 : lsN s = 40
      · rw [pt_4 c g c4] at h; cases h
      · by_cases c17 : wo a n (lsP s) = 17
        · rw [pt_b c g c4 c17] at h
          have x := we_pos hA (p := lsP s) ⟨hp.1, hp.2.1⟩ (by omega)
          have s2 := sk_in hA (k := we a n (lsP s)) (by omega)
          rcases e3 : (tmS a n on (.inr (sk a n (we a n (lsP s))))).1 with y | q3
          · rw [bk_f e3] at h; cases h
          · rw [bk_g e3] at h
            cases h
            have o := tm_q hA (p := sk a n (we a n (lsP s))) ⟨by omega, by omega, sk_sk hA (by omega)⟩ e3
            unfold okQ at o
            have m : 1 ≤ (tmS a n on (.inr (sk a n (we a n (lsP s))))).2 ∧ (tmS a n on (.inr (sk a n (we a n (lsP s))))).2 ≤ 96 := tmS_in ho
            have l := hRunTo_le (lsH s) 0 0 (tmS a n on (.inr (sk a n (we a n (lsP s))))).2
            exact ⟨LV_h H ⟨by omega, o.2.1, o.2.2⟩ (HV_to H.2.1 (by omega) (by omega) m) l.1 (Or.inr rfl) (by omega) ⟨H.2.2.1.1, Int.le_refl _⟩, by show lsP s < q3; omega, rfl, fun _ => by show 1 ≤ (hRunTo _ _ _ _).1; omega⟩
        · rw [pt_o c g c4 c17] at h
          by_cases c40 : a (opQ a n s) ≠ 40
          · rw [op_1 c40] at h; cases h
          · by_cases c5 : lsK s = 5
            · rw [op_4 (by omega) c5] at h; cases h
            · rw [op_g (by omega) c5] at h
              cases h
              have oq : lsP s ≤ opQ a n s ∧ opQ a n s ≤ n := by
                unfold opQ
                by_cases c18 : wo a n (lsP s) = 18
                · rw [if_pos c18]
                  have x := we_pos hA (p := lsP s) ⟨hp.1, hp.2.1⟩ (by omega)
                  have s2 := sk_in hA (k := we a n (lsP s)) (by omega)
                  omega
                · rw [if_neg c18]; omega
              have i := in_of hA (k := opQ a n s) (by omega)
              have s3 := sk_in hA (k := opQ a n s + 1) (by omega)
              refine ⟨⟨⟨by show 0 ≤ sk a n _; omega, s3.2.1, sk_sk hA (by omega)⟩, H.2.1, ⟨by show 0 ≤ lsK s + 1; have := H.2.2.1; omega, by show lsK s + 1 ≤ 5; have := H.2.2.1; omega⟩, fun j j1 j2 => ?_, ⟨by show 0 ≤ lsN s + 1; omega, by show lsN s + 1 ≤ 40; omega⟩, Or.inl rfl⟩, by show lsP s < sk a n _; omega, rfl, fun k => by have : (0 : Int) = 1 := k; omega⟩
              have j2 : j < lsK s + 1 := j2
              show (0 ≤ up (lsF s) (lsK s) (lsH s).1 j ∧ up (lsF s) (lsK s) (lsH s).1 j ≤ (lsH s).1) ∧ (up (lsW s) (lsK s) _ j = 0 ∨ up (lsW s) (lsK s) _ j = 1)
              by_cases q : j = lsK s
              · rw [up_eq q, up_eq q]
                refine ⟨⟨h0, Int.le_refl _⟩, ?_⟩
                split
                · exact Or.inr rfl
                · exact Or.inl rfl
              · rw [up_ne q, up_ne q]
                exact H.2.2.2.1 j j1 (by omega)
  · rw [pt_n c] at h; cases h
theorem cs_f {a : Int → Int} {n : Int} {s : LnS} {e : Int × Int} (h : (tmS a n 1 (.inr (sk a n (lsP s + 1)))).1 = .inl e) : csS a n s = .inl e := by
  unfold csS; rw [h]
theorem cs_g {a : Int → Int} {n q : Int} {s : LnS} (h : (tmS a n 1 (.inr (sk a n (lsP s + 1)))).1 = .inr q) : csS a n s = .inr (lsM q (hClose (lsH s) (lsF s (lsK s - 1)) (lsW s (lsK s - 1)) (tmS a n 1 (.inr (sk a n (lsP s + 1)))).2) (lsK s - 1) (lsF s) (lsW s) (lsN s) 1, 0) := by
  unfold csS; rw [h]
theorem cs_step {a : Int → Int} {n q : Int} {s : LnS} (hA : okA a n) (H : LV a n s) (h41 : a (lsP s) = 41) (hK : 0 < lsK s) (h : (tmS a n 1 (.inr (sk a n (lsP s + 1)))).1 = .inr q) : LV a n (lsM q (hClose (lsH s) (lsF s (lsK s - 1)) (lsW s (lsK s - 1)) (tmS a n 1 (.inr (sk a n (lsP s + 1)))).2) (lsK s - 1) (lsF s) (lsW s) (lsN s) 1) ∧ lsP s < q ∧ (lsH s).1 ≤ (hClose (lsH s) (lsF s (lsK s - 1)) (lsW s (lsK s - 1)) (tmS a n 1 (.inr (sk a n (lsP s + 1)))).2).1 := by
  have hp := H.1
  have i := in_of hA (k := lsP s) (by omega)
  have s3 := sk_in hA (k := lsP s + 1) (by omega)
  have o := tm_q hA (p := sk a n (lsP s + 1)) ⟨by omega, s3.2.1, sk_sk hA (by omega)⟩ h
  unfold okQ at o
  have f := (H.2.2.2.1 (lsK s - 1) (by omega) (by omega)).1
  exact ⟨LV_h H ⟨by omega, o.2.1, o.2.2⟩ (HV_close H.2.1 f.1) (hLe_close _ _ _ _) (Or.inr rfl) H.2.2.2.2.1 (by omega), by omega, (hLe_close _ _ _ _).1⟩
/-- the reading goes on with a part -/
def goP (a : Int → Int) (n : Int) (s : LnS) : Prop := prP a n (lsP s) ∨ (¬ (a (lsP s) = 41 ∧ 0 < lsK s ∧ lsB s = 1) ∧ ¬ (lsK s = 0 ∧ lsB s = 1))
theorem ln_pt {a : Int → Int} {n on : Int} {s : LnS} (h : goP a n s) : lnS a n on s = ptS a n on s := by
  unfold lnS
  by_cases c : prP a n (lsP s)
  · rw [if_pos c]
  · rw [if_neg c]
    rcases h with h | h
    · exact absurd h c
    · rw [if_neg h.1, if_neg h.2, pt_n c]
theorem no_pr {a : Int → Int} {n p : Int} (h : a p = 41) : ¬ prP a n p := fun k => by
  have e : we a n p = p := rn_f (pSm_f.mpr (by omega))
  have w0 : wo a n p = -1 := ow_none (by rw [e]; omega)
  unfold prP at k
  omega
theorem ln_cs {a : Int → Int} {n on : Int} {s : LnS} (h41 : a (lsP s) = 41) (hK : 0 < lsK s) (hB : lsB s = 1) : lnS a n on s = csS a n s := by
  unfold lnS
  rw [if_neg (no_pr h41), if_pos ⟨h41, hK, hB⟩]
theorem ln_d {a : Int → Int} {n on : Int} {s : LnS} (h : ¬ prP a n (lsP s)) (hK : lsK s = 0) (hB : lsB s = 1) : lnS a n on s = .inr (s, 2) := by
  unfold lnS
  rw [if_neg h, if_neg (by omega), if_pos ⟨hK, hB⟩]
