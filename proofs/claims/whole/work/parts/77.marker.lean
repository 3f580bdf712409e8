/-- how long a run with step s from a on is -/
def isRl (D T : Int → Int) (c a s x : Int) : Prop := (1 ≤ x ∧ a + x ≤ c) ∧ (∀ k : Int, 1 ≤ k → k < x → D a ≠ 0 ∧ D (a + k) ≠ 0 ∧ T (a + k) = T a ∧ D (a + k) = D (a + k - 1) + s) ∧ (a + x = c ∨ D a = 0 ∨ ¬ (D (a + x) ≠ 0 ∧ T (a + x) = T a ∧ D (a + x) = D (a + x - 1) + s))
theorem rl_run {D T : Int → Int} {c a m x y : Int} (hm : 2 ≤ m) (hc : a + m ≤ c) (hD : ∀ e : Int, a ≤ e → e < c → 0 ≤ D e) (h : isRl D T c a 1 x) (k : isRl D T c a (-1) y) : rnP D T a m ↔ m ≤ max x y := by
  constructor
  · rintro ⟨h0, s, hs, hk⟩
    have one : ∀ z : Int, isRl D T c a s z → m ≤ z := fun z hz => by
      by_cases q : m ≤ z
      · exact q
      · obtain ⟨z1, z2, z3⟩ := hz
        have w := hk z z1.1 (by omega)
        rcases z3 with z3 | z3 | z3
        · omega
        · omega
        · exact absurd ⟨by omega, w.2.2, by omega⟩ z3
    rcases hs with rfl | rfl
    · have := one x h; omega
    · have := one y k; omega
  · intro hx
    have one : ∀ s z : Int, (s = 1 ∨ s = -1) → isRl D T c a s z → m ≤ z → rnP D T a m := fun s z hs hz q => by
      obtain ⟨z1, z2, z3⟩ := hz
      have w := z2 1 (by omega) (by omega)
      have d0 := hD a (by omega) (by omega)
      refine ⟨by omega, s, hs, fun j j1 j2 => ?_⟩
      have v := z2 j j1 (by omega)
      have d1 := hD (a + j) (by omega) (by omega)
      exact ⟨by omega, by omega, v.2.2.1⟩
    by_cases q : m ≤ x
    · exact one 1 x (Or.inl rfl) h q
    · exact one (-1) y (Or.inr rfl) k (by omega)
/-- how far it is alike on both sides of b -/
def isMr (D T : Int → Int) (c b x : Int) : Prop := (0 ≤ x ∧ x ≤ b ∧ b + x < c) ∧ (∀ j : Int, 1 ≤ j → j ≤ x → lkP D T (b - j) (b + j)) ∧ (b = x ∨ b + x + 1 = c ∨ ¬ lkP D T (b - x - 1) (b + x + 1))
theorem lkP_s {D T : Int → Int} {i j : Int} (h : lkP D T i j) : lkP D T j i := ⟨h.1.symm, h.2.symm⟩
theorem mr_sw {D T : Int → Int} {c a m x : Int} (ha : 0 ≤ a) (hm : 4 ≤ m) (h2 : m % 2 = 0) (hc : a + m ≤ c) (h : isMr D T c (a + m / 2) x) : sgP D T a m (m / 2 + 1) ↔ m / 2 - 1 ≤ x := by
  obtain ⟨h1, h3, h4⟩ := h
  constructor
  · intro hs
    by_cases q : m / 2 - 1 ≤ x
    · exact q
    · have w := hs (m / 2 + x + 1) (by omega) (by omega)
      rw [show a + (m / 2 + x + 1) = a + m / 2 + x + 1 by omega, show a + 2 * (m / 2 + 1) - 2 - (m / 2 + x + 1) = a + m / 2 - x - 1 by omega] at w
      rcases h4 with h4 | h4 | h4
      · omega
      · omega
      · exact absurd (lkP_s w) h4
  · intro hx j j1 j2
    have w := h3 (j - m / 2) (by omega) (by omega)
    rw [show a + m / 2 - (j - m / 2) = a + 2 * (m / 2 + 1) - 2 - j by omega, show a + m / 2 + (j - m / 2) = a + j by omega] at w
    exact lkP_s w
/-- how many from a on are as those k further on -/
def isEc (D T : Int → Int) (c k a x : Int) : Prop := (0 ≤ x ∧ a + k + x ≤ c) ∧ (∀ j : Int, a ≤ j → j < a + x → lkP D T j (j + k)) ∧ (a + k + x = c ∨ ¬ lkP D T (a + x) (a + x + k))
theorem ec_rd {D T : Int → Int} {c a m k x : Int} (hk : 1 ≤ k) (hc : a + m ≤ c) (h : isEc D T c k a x) : rdP D T a m k ↔ m - k ≤ x := by
  obtain ⟨h1, h3, h4⟩ := h
  constructor
  · intro hs
    by_cases q : m - k ≤ x
    · exact q
    · have w := hs (k + x) (by omega) (by omega)
      rw [show a + (k + x) - k = a + x by omega, show a + (k + x) = a + x + k by omega] at w
      rcases h4 with h4 | h4
      · omega
      · exact absurd (lkP_s w) h4
  · intro hx j j1 j2
    have w := h3 (a + j - k) (by omega) (by omega)
    rw [show a + j - k + k = a + j by omega] at w
    exact lkP_s w
/-- the class's exposures -/
abbrev MkP (M : abMem) (D T : Int → Int) (c : Int) : Prop := (0 ≤ c ∧ c ≤ 96) ∧ gI M 219 2 = c ∧ gI M 220 = D ∧ gI M 221 = T ∧ (∀ e : Int, 0 ≤ e → e < c → (0 ≤ D e ∧ D e ≤ 99) ∧ (1 ≤ T e ∧ T e ≤ 96))
theorem MkP_sm {p : Nat → Prop} {M N : abMem} {D T : Int → Int} {c : Int} (h : MkP M D T c) (g : sm p M N) (h1 : ¬ p 219) (h2 : ¬ p 220) (h3 : ¬ p 221) : MkP N D T c := ⟨h.1, by rw [g.at 219 h1]; exact h.2.1, by rw [g.at 220 h2]; exact h.2.2.1, by rw [g.at 221 h3]; exact h.2.2.2.1, h.2.2.2.2⟩
abbrev pMk (a : Nat) : Prop := 219 ≤ a ∧ a < 372
def aSq (N : abMem) (s : Int × ((Int → Int) × (Int → Int))) : Prop := gI N 219 2 = s.1 ∧ ∀ e : Int, 0 ≤ e → e < s.1 → gI N 220 e = s.2.1 e ∧ gI N 221 e = s.2.2 e
theorem aSq_t {N : abMem} {f : Int → Int} {i : Int} (h : aSq N (sp f i.toNat)) (h0 : 0 < i) (e : f i = f (i - 1)) : aSq (sI N 221 (gI N 219 2 - 1) (gI N 221 (gI N 219 2 - 1) + 1)) (sp f (i + 1).toNat) := by
  rw [sp_t h0 e]
  have q := (sp_in f i.toNat).1
  have q1 := q.2.2 (by omega)
  refine ⟨by rw [gI_sI_ne (by decide)]; exact h.1, fun j h1 h2 => ?_⟩
  have h3 : j < (sp f i.toNat).1 := h2
  refine ⟨by rw [gI_sI_ne (by decide)]; exact (h.2 j h1 h3).1, ?_⟩
  show _ = up _ _ _ j
  rw [h.1]
  by_cases z : j = (sp f i.toNat).1 - 1
  · rw [up_eq z, z, gI_sI_eq, (h.2 _ (by omega) (by omega)).2]
  · rw [up_ne z, gI_sI_nj z, (h.2 j h1 h3).2]
theorem aSq_f {N : abMem} {f : Int → Int} {i : Int} (h : aSq N (sp f i.toNat)) (h0 : 0 ≤ i) (e : ¬ (0 < i ∧ f i = f (i - 1))) : aSq (sI (sI (sI N 220 (gI N 219 2) (f i)) 221 (gI N 219 2) 1) 219 2 (gI N 219 2 + 1)) (sp f (i + 1).toNat) := by
  rw [sp_f h0 e]
  refine ⟨by rw [gI_sI_eq, h.1], fun j h1 h2 => ?_⟩
  have h3 : j < (sp f i.toNat).1 + 1 := h2
  refine ⟨?_, ?_⟩
  · rw [gI_sI_ne (by decide), gI_sI_ne (by decide), h.1]
    show _ = up _ _ _ j
    by_cases z : j = (sp f i.toNat).1
    · rw [up_eq z, z, gI_sI_eq]
    · rw [up_ne z, gI_sI_nj z]
      exact (h.2 j h1 (by omega)).1
  · rw [gI_sI_ne (by decide), h.1]
    show _ = up _ _ _ j
    by_cases z : j = (sp f i.toNat).1
    · rw [up_eq z, z, gI_sI_eq]
    · rw [up_ne z, gI_sI_nj z, gI_sI_ne (by decide)]
      exact (h.2 j h1 (by omega)).2
set_option maxRecDepth 20000 in
set_option maxHeartbeats 4000000 in
theorem c_split {d L : Nat} {M : abMem} {r : abRf} (hR : RF r M) {o : Nat} (hk : (A0 L).2 o = (20, 96)) (ho : ¬ pMk o) {n : Int} (hn : 0 ≤ n ∧ n ≤ 96) : abW d (0, 0) 27 0 (abEnt (abL 27) [vr (some 219), vr (some o), vi n]) [] (0, 0) (A0 L) M (qV (A0 L) (fun N => sm pMk M N ∧ aSq N (sp (gI M o) n.toNat))) := by
  have L7 : ∀ (kf : Nat) (N : abMem) (f : Int), (sm pMk M N) → (aSq N (sp (gI M o) f.toNat)) → (0 ≤ f ∧ f ≤ n) → ((n - f).toNat) < kf → abW d (0, 0) 27 7 [some (vr (some 219)), some (vr (some o)), some (vi n), some (vi f)] [] (0, 0) (A0 L) (N) (qV (A0 L) (fun N => sm pMk M N ∧ aSq N (sp (gI M o) n.toNat))) := by
    intro kf
    induction kf with
    | zero => intro N  f  g1 g2 g3 hm9; exact absurd hm9 (Nat.not_lt_zero _)
    | succ kf ih7 =>
      intro N  f  g1 g2 g3 hm7
      have ih := ih7
      have hR := g1.RF hR
      have eo : gI N o = gI M o := g1.at o ho
      have q := sp_in (gI M o) f.toNat
      have q0 := g2.1
      refine bw_iload rfl rfl ?_
      refine bw_iload rfl rfl ?_
      refine bw_icge rfl (fun c9 => ?_) (fun c9 => ?_)
      · skip
        refine bw_retv rfl rfl ?_
        first
        | (exfalso; omega)
        | (obtain rfl : f = n := by omega
           exact ⟨rfl, rfl, g1, g2⟩)
      · skip
        refine bw_iload rfl rfl ?_
        refine bw_push rfl ?_
        refine bw_icge rfl (fun c15 => ?_) (fun c15 => ?_)
        · first
          | (exfalso; omega)
          | (refine bw_retv rfl rfl ?_
             first
             | (exfalso; omega)
             | (obtain rfl : f = n := by omega
                exact ⟨rfl, rfl, g1, g2⟩))
        · first
          | (exfalso; omega)
          | (refine bw_aload rfl rfl ?_
             refine bw_getI rfl rfl ?_
             try simp only [gI_sI, gI_wI, and_true, true_and, and_false, false_and, and_self, reduceIte]
             refine bw_ifle rfl (fun c22 => ?_) (fun c22 => ?_)
             · skip
               refine bw_aload rfl rfl ?_
               refine bw_getr rfl rfl (hR _ _) ?_
               refine bw_aload rfl rfl ?_
               refine bw_getI rfl rfl ?_
               try simp only [gI_sI, gI_wI, and_true, true_and, and_false, false_and, and_self, reduceIte]
               refine bw_aload rfl rfl ?_
               refine bw_iload rfl rfl ?_
               refine bw_aldi rfl hk (by omega) (by omega) ?_
               rw [eo]
               refine bw_asti rfl (by first | rfl | assumption) (by omega) (by omega) ?_
               refine bw_aload rfl rfl ?_
               refine bw_getr rfl rfl (hR _ _) ?_
               refine bw_aload rfl rfl ?_
               refine bw_getI rfl rfl ?_
               try simp only [gI_sI, gI_wI, and_true, true_and, and_false, false_and, and_self, reduceIte]
               refine bw_push rfl ?_
               refine bw_asti rfl (by first | rfl | assumption) (by omega) (by omega) ?_
               refine bw_aload rfl rfl ?_
               first | refine bw_dup rfl ?_ | refine bw_dupi rfl ?_
               refine bw_getI rfl rfl ?_
               try simp only [gI_sI, gI_wI, and_true, true_and, and_false, false_and, and_self, reduceIte]
               refine bw_push rfl ?_
               refine bw_iadd rfl ⟨by omega, by omega⟩ ?_
               refine bw_putI rfl rfl ?_
               refine bw_iinc (ls2 := [_, _, _, _]) rfl rfl rfl ⟨by omega, by omega⟩ rfl ?_
               refine bw_goto rfl ?_
               first
               | exact ih _ _ (g1.sI (a := 221) _ _ ⟨by decide, by decide⟩) (aSq_t g2 (by omega) (by rw [← q5, ← q0, ← q4.1]; omega)) (by omega) (by omega)
               | exact ih _ _ (((g1.sI (a := 220) _ _ ⟨by decide, by decide⟩).sI (a := 221) _ _ ⟨by decide, by decide⟩).sI (a := 219) _ _ ⟨by decide, by decide⟩) (aSq_f g2 (by omega) (fun z => by first | omega | (rw [← q5, ← q0, ← q4.1] at z; exact absurd z.2 (by omega)))) (by omega) (by omega)
             · skip
               refine bw_aload rfl rfl ?_
               refine bw_iload rfl rfl ?_
               refine bw_aldi rfl hk (by omega) (by omega) ?_
               rw [eo]
               refine bw_aload rfl rfl ?_
               refine bw_getr rfl rfl (hR _ _) ?_
               refine bw_aload rfl rfl ?_
               refine bw_getI rfl rfl ?_
               try simp only [gI_sI, gI_wI, and_true, true_and, and_false, false_and, and_self, reduceIte]
               refine bw_push rfl ?_
               refine bw_isub rfl ⟨by omega, by omega⟩ ?_
               have q1 := q.1.2.2 (by omega)
               have q5 := q.2.2.1 (by omega)
               have q4 := g2.2 (gI N 219 2 - 1) (by omega) (by omega)
               rw [show ((f.toNat : Nat) : Int) = f from Int.toNat_of_nonneg (by omega)] at q5
               refine bw_aldi rfl (by first | rfl | assumption) (by omega) (by omega) ?_
               refine bw_icne rfl (fun c39 => ?_) (fun c39 => ?_)
               · skip
                 refine bw_aload rfl rfl ?_
                 refine bw_getr rfl rfl (hR _ _) ?_
                 refine bw_aload rfl rfl ?_
                 refine bw_getI rfl rfl ?_
                 try simp only [gI_sI, gI_wI, and_true, true_and, and_false, false_and, and_self, reduceIte]
                 refine bw_aload rfl rfl ?_
                 refine bw_iload rfl rfl ?_
                 refine bw_aldi rfl hk (by omega) (by omega) ?_
                 rw [eo]
                 refine bw_asti rfl (by first | rfl | assumption) (by omega) (by omega) ?_
                 refine bw_aload rfl rfl ?_
                 refine bw_getr rfl rfl (hR _ _) ?_
                 refine bw_aload rfl rfl ?_
                 refine bw_getI rfl rfl ?_
                 try simp only [gI_sI, gI_wI, and_true, true_and, and_false, false_and, and_self, reduceIte]
                 refine bw_push rfl ?_
                 refine bw_asti rfl (by first | rfl | assumption) (by omega) (by omega) ?_
                 refine bw_aload rfl rfl ?_
                 first | refine bw_dup rfl ?_ | refine bw_dupi rfl ?_
                 refine bw_getI rfl rfl ?_
                 try simp only [gI_sI, gI_wI, and_true, true_and, and_false, false_and, and_self, reduceIte]
                 refine bw_push rfl ?_
                 refine bw_iadd rfl ⟨by omega, by omega⟩ ?_
                 refine bw_putI rfl rfl ?_
                 refine bw_iinc (ls2 := [_, _, _, _]) rfl rfl rfl ⟨by omega, by omega⟩ rfl ?_
                 refine bw_goto rfl ?_
                 first
                 | exact ih _ _ (g1.sI (a := 221) _ _ ⟨by decide, by decide⟩) (aSq_t g2 (by omega) (by rw [← q5, ← q0, ← q4.1]; omega)) (by omega) (by omega)
                 | exact ih _ _ (((g1.sI (a := 220) _ _ ⟨by decide, by decide⟩).sI (a := 221) _ _ ⟨by decide, by decide⟩).sI (a := 219) _ _ ⟨by decide, by decide⟩) (aSq_f g2 (by omega) (fun z => by first | omega | (rw [← q5, ← q0, ← q4.1] at z; exact absurd z.2 (by omega)))) (by omega) (by omega)
               · skip
                 refine bw_aload rfl rfl ?_
                 refine bw_getr rfl rfl (hR _ _) ?_
                 refine bw_aload rfl rfl ?_
                 refine bw_getI rfl rfl ?_
                 try simp only [gI_sI, gI_wI, and_true, true_and, and_false, false_and, and_self, reduceIte]
                 refine bw_push rfl ?_
                 refine bw_isub rfl ⟨by omega, by omega⟩ ?_
                 refine bw_dup2 rfl ?_
                 have q2 := q.2.1 (gI N 219 2 - 1) (by omega) (by omega)
                 refine bw_aldi rfl (by first | rfl | assumption) (by omega) (by omega) ?_
                 refine bw_push rfl ?_
                 refine bw_iadd rfl ⟨by omega, by omega⟩ ?_
                 refine bw_asti rfl (by first | rfl | assumption) (by omega) (by omega) ?_
                 refine bw_goto rfl ?_
                 refine bw_iinc (ls2 := [_, _, _, _]) rfl rfl rfl ⟨by omega, by omega⟩ rfl ?_
                 refine bw_goto rfl ?_
                 first
                 | exact ih _ _ (g1.sI (a := 221) _ _ ⟨by decide, by decide⟩) (aSq_t g2 (by omega) (by rw [← q5, ← q0, ← q4.1]; omega)) (by omega) (by omega)
                 | exact ih _ _ (((g1.sI (a := 220) _ _ ⟨by decide, by decide⟩).sI (a := 221) _ _ ⟨by decide, by decide⟩).sI (a := 219) _ _ ⟨by decide, by decide⟩) (aSq_f g2 (by omega) (fun z => by first | omega | (rw [← q5, ← q0, ← q4.1] at z; exact absurd z.2 (by omega)))) (by omega) (by omega))
  show abW d (0, 0) 27 0 [some (vr (some 219)), some (vr (some o)), some (vi n), none] [] (0, 0) (A0 L) M (qV (A0 L) (fun N => sm pMk M N ∧ aSq N (sp (gI M o) n.toNat)))
  refine bw_aload rfl rfl ?_
  refine bw_push rfl ?_
  refine bw_putI rfl rfl ?_
  refine bw_push rfl ?_
  refine bw_istore (ls2 := [_, _, _, _]) rfl rfl (Nat.le_of_ble_eq_true rfl) rfl ?_
  exact L7 (n.toNat + 1) (sI M 219 2 0) 0 ((sm_refl _ _).sI _ _ ⟨by decide, by decide⟩) ⟨by rw [gI_sI_eq]; rfl, fun e h1 h2 => by have : e < 0 := h2; omega⟩ (by omega) (by omega)
set_option maxRecDepth 20000 in
set_option maxHeartbeats 4000000 in
theorem c_areAlike {d L : Nat} {M : abMem} {r : abRf} (hR : RF r M) {D T : Int → Int} {c : Int} (hM : MkP M D T c) {i j : Int} (hi : 0 ≤ i ∧ i < c) (hj : 0 ≤ j ∧ j < c) : abW d (0, 0) 29 0 (abEnt (abL 29) [vr (some 219), vi i, vi j]) [] (0, 0) (A0 L) M (qJ (A0 L) M (fun x => lkP D T i j ∧ x = 1 ∨ ¬ lkP D T i j ∧ x = 0)) := by
  have c0 := hM.1
  have c1 := hM.2.1
  have cD := hM.2.2.1
  have cT := hM.2.2.2.1
  have cb := hM.2.2.2.2
  show abW d (0, 0) 29 0 [some (vr (some 219)), some (vi i), some (vi j)] [] (0, 0) (A0 L) M (qJ (A0 L) M (fun x => lkP D T i j ∧ x = 1 ∨ ¬ lkP D T i j ∧ x = 0))
  refine bw_aload rfl rfl ?_
  refine bw_getr rfl rfl (hR _ _) ?_
  refine bw_iload rfl rfl ?_
  refine bw_aldi rfl (by first | rfl | assumption) (by omega) (by omega) ?_
  try simp only [cD, cT]
  refine bw_aload rfl rfl ?_
  refine bw_getr rfl rfl (hR _ _) ?_
  refine bw_iload rfl rfl ?_
  refine bw_aldi rfl (by first | rfl | assumption) (by omega) (by omega) ?_
  try simp only [cD, cT]
  refine bw_icne rfl (fun c12 => ?_) (fun c12 => ?_)
  · skip
    refine bw_push rfl ?_
    refine bw_retz rfl rfl (by omega) ?_
    first
    | exact ⟨rfl, rfl, _, rfl, Or.inl ⟨⟨by omega, by omega⟩, rfl⟩⟩
    | exact ⟨rfl, rfl, _, rfl, Or.inr ⟨fun h => by have := h.1; have := h.2; omega, rfl⟩⟩
  · skip
    refine bw_aload rfl rfl ?_
    refine bw_getr rfl rfl (hR _ _) ?_
    refine bw_iload rfl rfl ?_
    refine bw_aldi rfl (by first | rfl | assumption) (by omega) (by omega) ?_
    try simp only [cD, cT]
    refine bw_aload rfl rfl ?_
    refine bw_getr rfl rfl (hR _ _) ?_
    refine bw_iload rfl rfl ?_
    refine bw_aldi rfl (by first | rfl | assumption) (by omega) (by omega) ?_
    try simp only [cD, cT]
    refine bw_icne rfl (fun c27 => ?_) (fun c27 => ?_)
    · skip
      refine bw_push rfl ?_
      refine bw_retz rfl rfl (by omega) ?_
      first
      | exact ⟨rfl, rfl, _, rfl, Or.inl ⟨⟨by omega, by omega⟩, rfl⟩⟩
      | exact ⟨rfl, rfl, _, rfl, Or.inr ⟨fun h => by have := h.1; have := h.2; omega, rfl⟩⟩
    · skip
      refine bw_push rfl ?_
      refine bw_goto rfl ?_
      refine bw_retz rfl rfl (by omega) ?_
      first
      | exact ⟨rfl, rfl, _, rfl, Or.inl ⟨⟨by omega, by omega⟩, rfl⟩⟩
      | exact ⟨rfl, rfl, _, rfl, Or.inr ⟨fun h => by have := h.1; have := h.2; omega, rfl⟩⟩
set_option maxRecDepth 20000 in
set_option maxHeartbeats 4000000 in
theorem c_runLength {d L : Nat} {M : abMem} {r : abRf} (hR : RF r M) {D T : Int → Int} {c : Int} (hM : MkP M D T c) {a s : Int} (ha : 0 ≤ a ∧ a < c) (hs : s = 1 ∨ s = -1) : abW d (0, 0) 31 0 (abEnt (abL 31) [vr (some 219), vi a, vi s]) [] (0, 0) (A0 L) M (qJ (A0 L) M (fun x => isRl D T c a s x)) := by
  have c0 := hM.1
  have c1 := hM.2.1
  have cD := hM.2.2.1
  have cT := hM.2.2.2.1
  have cb := hM.2.2.2.2
  have L15 : ∀ (kf : Nat) (i : Int), (a + 1 ≤ i ∧ i ≤ c) → (∀ k : Int, 1 ≤ k → k < i - a → D a ≠ 0 ∧ D (a + k) ≠ 0 ∧ T (a + k) = T a ∧ D (a + k) = D (a + k - 1) + s) → (D a ≠ 0) → ((c - i).toNat) < kf → abW d (0, 0) 31 15 [some (vr (some 219)), some (vi a), some (vi s), some (vi i)] [] (0, 0) (A0 L) (M) (qJ (A0 L) M (fun x => isRl D T c a s x)) := by
    intro kf
    induction kf with
    | zero => intro i  g1 g2 g3 hm9; exact absurd hm9 (Nat.not_lt_zero _)
    | succ kf ih15 =>
      intro i  g1 g2 g3 hm15
      have ih := ih15
      refine bw_iload rfl rfl ?_
      refine bw_aload rfl rfl ?_
      refine bw_getI rfl rfl ?_
      try simp only [cD, cT]
      refine bw_icge rfl (fun c20 => ?_) (fun c20 => ?_)
      · skip
        refine bw_iload rfl rfl ?_
        refine bw_iload rfl rfl ?_
        refine bw_isub rfl ⟨by omega, by omega⟩ ?_
        refine bw_ret rfl rfl ?_
        refine ⟨rfl, rfl, _, rfl, ⟨by omega, by omega⟩, fun k h1 h2 => g2 k h1 h2, ?_⟩
        first
        | exact Or.inl (by omega)
        | exact Or.inr (Or.inr (fun h => by rw [show a + (i - a) = i by omega] at h; have := h.1; have := h.2.1; have := h.2.2; omega))
      · skip
        refine bw_aload rfl rfl ?_
        refine bw_getr rfl rfl (hR _ _) ?_
        refine bw_iload rfl rfl ?_
        refine bw_aldi rfl (by first | rfl | assumption) (by omega) (by omega) ?_
        try simp only [cD, cT]
        refine bw_ifeq rfl (fun c29 => ?_) (fun c29 => ?_)
        · skip
          refine bw_iload rfl rfl ?_
          refine bw_iload rfl rfl ?_
          refine bw_isub rfl ⟨by omega, by omega⟩ ?_
          refine bw_ret rfl rfl ?_
          refine ⟨rfl, rfl, _, rfl, ⟨by omega, by omega⟩, fun k h1 h2 => g2 k h1 h2, ?_⟩
          first
          | exact Or.inl (by omega)
          | exact Or.inr (Or.inr (fun h => by rw [show a + (i - a) = i by omega] at h; have := h.1; have := h.2.1; have := h.2.2; omega))
        · skip
          refine bw_aload rfl rfl ?_
          refine bw_getr rfl rfl (hR _ _) ?_
          refine bw_iload rfl rfl ?_
          refine bw_aldi rfl (by first | rfl | assumption) (by omega) (by omega) ?_
          try simp only [cD, cT]
          refine bw_aload rfl rfl ?_
          refine bw_getr rfl rfl (hR _ _) ?_
          refine bw_iload rfl rfl ?_
          refine bw_aldi rfl (by first | rfl | assumption) (by omega) (by omega) ?_
          try simp only [cD, cT]
          refine bw_icne rfl (fun c44 => ?_) (fun c44 => ?_)
          · skip
            refine bw_iload rfl rfl ?_
            refine bw_iload rfl rfl ?_
            refine bw_isub rfl ⟨by omega, by omega⟩ ?_
            refine bw_ret rfl rfl ?_
            refine ⟨rfl, rfl, _, rfl, ⟨by omega, by omega⟩, fun k h1 h2 => g2 k h1 h2, ?_⟩
            first
            | exact Or.inl (by omega)
            | exact Or.inr (Or.inr (fun h => by rw [show a + (i - a) = i by omega] at h; have := h.1; have := h.2.1; have := h.2.2; omega))
          · skip
            refine bw_aload rfl rfl ?_
            refine bw_getr rfl rfl (hR _ _) ?_
            refine bw_iload rfl rfl ?_
            refine bw_aldi rfl (by first | rfl | assumption) (by omega) (by omega) ?_
            try simp only [cD, cT]
            refine bw_aload rfl rfl ?_
            refine bw_getr rfl rfl (hR _ _) ?_
            refine bw_iload rfl rfl ?_
            refine bw_push rfl ?_
            refine bw_isub rfl ⟨by omega, by omega⟩ ?_
            have d9 := cb (i - 1) (by omega) (by omega)
            refine bw_aldi rfl (by first | rfl | assumption) (by omega) (by omega) ?_
            simp only [cD, cT]
            refine bw_iload rfl rfl ?_
            refine bw_iadd rfl ⟨by omega, by omega⟩ ?_
            refine bw_icne rfl (fun c63 => ?_) (fun c63 => ?_)
            · skip
              refine bw_iload rfl rfl ?_
              refine bw_iload rfl rfl ?_
              refine bw_isub rfl ⟨by omega, by omega⟩ ?_
              refine bw_ret rfl rfl ?_
              refine ⟨rfl, rfl, _, rfl, ⟨by omega, by omega⟩, fun k h1 h2 => g2 k h1 h2, ?_⟩
              first
              | exact Or.inl (by omega)
              | exact Or.inr (Or.inr (fun h => by rw [show a + (i - a) = i by omega] at h; have := h.1; have := h.2.1; have := h.2.2; omega))
            · skip
              refine bw_iinc (ls2 := [_, _, _, _]) rfl rfl rfl ⟨by omega, by omega⟩ rfl ?_
              refine bw_goto rfl ?_
              refine ih _ (by omega) (fun k h1 h2 => ?_) g3 (by omega)
              by_cases q : k = i - a
              · rw [q, show a + (i - a) = i by omega]; exact ⟨g3, by assumption, by omega, by omega⟩
              · exact g2 k h1 (by omega)
  show abW d (0, 0) 31 0 [some (vr (some 219)), some (vi a), some (vi s), none] [] (0, 0) (A0 L) M (qJ (A0 L) M (fun x => isRl D T c a s x))
  refine bw_aload rfl rfl ?_
  refine bw_getr rfl rfl (hR _ _) ?_
  refine bw_iload rfl rfl ?_
  refine bw_aldi rfl (by first | rfl | assumption) (by omega) (by omega) ?_
  try simp only [cD, cT]
  refine bw_ifne rfl (fun c6 => ?_) (fun c6 => ?_)
  · skip
    refine bw_iload rfl rfl ?_
    refine bw_push rfl ?_
    refine bw_iadd rfl ⟨by omega, by omega⟩ ?_
    refine bw_istore (ls2 := [_, _, _, _]) rfl rfl (Nat.le_of_ble_eq_true rfl) rfl ?_
    exact L15 (c.toNat + 1) (a + 1) (by omega) (fun k h1 h2 => by omega) (by assumption) (by omega)
  · skip
    refine bw_push rfl ?_
    refine bw_ret rfl rfl ?_
    exact ⟨rfl, rfl, _, rfl, ⟨by omega, by omega⟩, fun k h1 h2 => by omega, Or.inr (Or.inl (by omega))⟩
def rnT (N : abMem) (D T : Int → Int) (c k : Int) : Prop := (∀ i : Int, 0 ≤ i → i < k → ∀ m : Int, 2 ≤ m → i + m ≤ c → (rnP D T i m ↔ m ≤ gI N 222 i))
set_option maxRecDepth 20000 in
set_option maxHeartbeats 4000000 in
theorem c_measureRuns {d L : Nat} {M : abMem} {r : abRf} (hR : RF r M) {D T : Int → Int} {c : Int} (hM : MkP M D T c) (hd : 2 ≤ d) : abW d (0, 0) 30 0 (abEnt (abL 30) [vr (some 219)]) [] (0, 0) (A0 L) M (qV (A0 L) (fun N => sm (fun a => a = 222) M N ∧ rnT N D T c c)) := by
  have c0 := hM.1
  have L2 : ∀ (kf : Nat) (N : abMem) (i : Int), (sm (fun a => a = 222) M N) → (rnT N D T c i) → (0 ≤ i ∧ i ≤ c) → ((c - i).toNat) < kf → abW d (0, 0) 30 2 [some (vr (some 219)), some (vi i)] [] (0, 0) (A0 L) (N) (qV (A0 L) (fun N => sm (fun a => a = 222) M N ∧ rnT N D T c c)) := by
    intro kf
    induction kf with
    | zero => intro N  i  g1 g2 g3 hm9; exact absurd hm9 (Nat.not_lt_zero _)
    | succ kf ih2 =>
      intro N  i  g1 g2 g3 hm2
      have ih := ih2
      have hR := g1.RF hR
      have hM := MkP_sm hM g1 (by decide) (by decide) (by decide)
      have c1 := hM.2.1
      have cb := hM.2.2.2.2
      refine bw_iload rfl rfl ?_
      refine bw_aload rfl rfl ?_
      refine bw_getI rfl rfl ?_
      refine bw_icge rfl (fun c7 => ?_) (fun c7 => ?_)
      · skip
        refine bw_retv rfl rfl ?_
        obtain rfl : i = c := by omega
        exact ⟨rfl, rfl, g1, g2⟩
      · skip
        refine bw_aload rfl rfl ?_
        refine bw_getr rfl rfl (hR _ _) ?_
        refine bw_iload rfl rfl ?_
        refine bw_aload rfl rfl ?_
        refine bw_iload rfl rfl ?_
        refine bw_push rfl ?_
        refine bw_callVj (e := d - 1) (as := [_, _]) rfl (by omega) rfl rfl (Nat.le_of_ble_eq_true rfl) (Nat.le_of_ble_eq_true rfl) rfl (c_runLength hR hM (by omega) (Or.inl rfl)) (fun r18 hr18 => ?_)
        have r1 := hr18.1
        refine bw_aload rfl rfl ?_
        refine bw_iload rfl rfl ?_
        refine bw_push rfl ?_
        refine bw_callVj (e := d - 1) (as := [_, _]) rfl (by omega) rfl rfl (Nat.le_of_ble_eq_true rfl) (Nat.le_of_ble_eq_true rfl) rfl (c_runLength hR hM (by omega) (Or.inr rfl)) (fun r24 hr24 => ?_)
        have r2 := hr24.1
        refine bw_max rfl (by omega) (Nat.le_of_ble_eq_true rfl) (by decide) (by decide) ?_
        refine bw_asti rfl (by first | rfl | assumption) (by omega) (by omega) ?_
        refine bw_iinc (ls2 := [_, _]) rfl rfl rfl ⟨by omega, by omega⟩ rfl ?_
        refine bw_goto rfl ?_
        refine ih _ _ (g1.sI _ _ rfl) (fun j j0 j1 m m2 mc => ?_) (by omega) (by omega)
        by_cases q : j = i
        · rw [q, gI_sI_eq]
          exact rl_run m2 (by omega) (fun e e0 e1 => (cb e (by omega) e1).1.1) hr18 hr24
        · rw [gI_sI_nj q]; exact g2 j j0 (by omega) m m2 mc
  show abW d (0, 0) 30 0 [some (vr (some 219)), none] [] (0, 0) (A0 L) M (qV (A0 L) (fun N => sm (fun a => a = 222) M N ∧ rnT N D T c c))
  refine bw_push rfl ?_
  refine bw_istore (ls2 := [_, _]) rfl rfl (Nat.le_of_ble_eq_true rfl) rfl ?_
  exact L2 (c.toNat + 1) M 0 (sm_refl _ _) (fun i h1 h2 => by omega) (by omega) (by omega)
def mrT (N : abMem) (D T : Int → Int) (c k : Int) : Prop := ∀ i : Int, 0 ≤ i → i < k → isMr D T c i (gI N 223 i)
set_option maxRecDepth 20000 in
set_option maxHeartbeats 4000000 in
theorem c_measureMirrors {d L : Nat} {M : abMem} {r : abRf} (hR : RF r M) {D T : Int → Int} {c : Int} (hM : MkP M D T c) (hd : 1 ≤ d) : abW d (0, 0) 32 0 (abEnt (abL 32) [vr (some 219)]) [] (0, 0) (A0 L) M (qV (A0 L) (fun N => sm (fun a => a = 223) M N ∧ mrT N D T c c)) := by
  have c0 := hM.1
  have L2 : ∀ (kf : Nat) (N : abMem) (i : Int), (sm (fun a => a = 223) M N) → (mrT N D T c i) → (0 ≤ i ∧ i ≤ c) → ((c - i).toNat) < kf → abW d (0, 0) 32 2 [some (vr (some 219)), some (vi i), none] [] (0, 0) (A0 L) (N) (qV (A0 L) (fun N => sm (fun a => a = 223) M N ∧ mrT N D T c c)) := by
    intro kf
    induction kf with
    | zero => intro N  i  g1 g2 g3 hm9; exact absurd hm9 (Nat.not_lt_zero _)
    | succ kf ih2 =>
      intro N  i  g1 g2 g3 hm2
      have ih := ih2
      have hR := g1.RF hR
      have hM := MkP_sm hM g1 (by decide) (by decide) (by decide)
      have c1 := hM.2.1
      have L12 : ∀ (kf : Nat) (x : Int), ((0 ≤ x ∧ x ≤ i ∧ i + x < c)) → (∀ j : Int, 1 ≤ j → j ≤ x → lkP D T (i - j) (i + j)) → ((c - x).toNat) < kf → abW d (0, 0) 32 12 [some (vr (some 219)), some (vi i), some (vi x)] [] (0, 0) (A0 L) (N) (qV (A0 L) (fun N => sm (fun a => a = 223) M N ∧ mrT N D T c c)) := by
        intro kf
        induction kf with
        | zero => intro x  k1 k2 hm9; exact absurd hm9 (Nat.not_lt_zero _)
        | succ kf ih12 =>
          intro x  k1 k2 hm12
          have ih := ih12
          refine bw_iload rfl rfl ?_
          refine bw_iload rfl rfl ?_
          refine bw_isub rfl ⟨by omega, by omega⟩ ?_
          refine bw_ifle rfl (fun c15 => ?_) (fun c15 => ?_)
          · skip
            refine bw_aload rfl rfl ?_
            refine bw_getr rfl rfl (hR _ _) ?_
            refine bw_iload rfl rfl ?_
            refine bw_iload rfl rfl ?_
            refine bw_asti rfl (by first | rfl | assumption) (by omega) (by omega) ?_
            refine bw_iinc (ls2 := [_, _, _]) rfl rfl rfl ⟨by omega, by omega⟩ rfl ?_
            refine bw_goto rfl ?_
            refine bw_forget (ls2 := [some (vr (some 219)), some (vi _), none]) ⟨rfl, rfl, trivial⟩ ?_
            refine ih2 _ _ (g1.sI _ _ rfl) (fun j j0 j1 => ?_) (by omega) (by omega)
            by_cases q : j = i
            · rw [q, gI_sI_eq]
              refine ⟨k1, k2, ?_⟩
              first
              | exact Or.inl (by omega)
              | exact Or.inr (Or.inl (by omega))
              | exact Or.inr (Or.inr (hr41.elim (fun h => absurd h.2 (by omega)) (fun h => h.1)))
            · rw [gI_sI_nj q]; exact g2 j j0 (by omega)
          · skip
            refine bw_iload rfl rfl ?_
            refine bw_iload rfl rfl ?_
            refine bw_iadd rfl ⟨by omega, by omega⟩ ?_
            refine bw_push rfl ?_
            refine bw_iadd rfl ⟨by omega, by omega⟩ ?_
            refine bw_aload rfl rfl ?_
            refine bw_getI rfl rfl ?_
            refine bw_icge rfl (fun c27 => ?_) (fun c27 => ?_)
            · skip
              refine bw_aload rfl rfl ?_
              refine bw_getr rfl rfl (hR _ _) ?_
              refine bw_iload rfl rfl ?_
              refine bw_iload rfl rfl ?_
              refine bw_asti rfl (by first | rfl | assumption) (by omega) (by omega) ?_
              refine bw_iinc (ls2 := [_, _, _]) rfl rfl rfl ⟨by omega, by omega⟩ rfl ?_
              refine bw_goto rfl ?_
              refine bw_forget (ls2 := [some (vr (some 219)), some (vi _), none]) ⟨rfl, rfl, trivial⟩ ?_
              refine ih2 _ _ (g1.sI _ _ rfl) (fun j j0 j1 => ?_) (by omega) (by omega)
              by_cases q : j = i
              · rw [q, gI_sI_eq]
                refine ⟨k1, k2, ?_⟩
                first
                | exact Or.inl (by omega)
                | exact Or.inr (Or.inl (by omega))
                | exact Or.inr (Or.inr (hr41.elim (fun h => absurd h.2 (by omega)) (fun h => h.1)))
              · rw [gI_sI_nj q]; exact g2 j j0 (by omega)
            · skip
              refine bw_aload rfl rfl ?_
              refine bw_iload rfl rfl ?_
              refine bw_iload rfl rfl ?_
              refine bw_isub rfl ⟨by omega, by omega⟩ ?_
              refine bw_push rfl ?_
              refine bw_isub rfl ⟨by omega, by omega⟩ ?_
              refine bw_iload rfl rfl ?_
              refine bw_iload rfl rfl ?_
              refine bw_iadd rfl ⟨by omega, by omega⟩ ?_
              refine bw_push rfl ?_
              refine bw_iadd rfl ⟨by omega, by omega⟩ ?_
              refine bw_callVj (e := d - 1) (as := [_, _]) rfl (by omega) rfl rfl (Nat.le_of_ble_eq_true rfl) (Nat.le_of_ble_eq_true rfl) rfl (c_areAlike hR hM (by omega) (by omega)) (fun r41 hr41 => ?_)
              refine bw_ifeq rfl (fun c44 => ?_) (fun c44 => ?_)
              · skip
                refine bw_aload rfl rfl ?_
                refine bw_getr rfl rfl (hR _ _) ?_
                refine bw_iload rfl rfl ?_
                refine bw_iload rfl rfl ?_
                refine bw_asti rfl (by first | rfl | assumption) (by omega) (by omega) ?_
                refine bw_iinc (ls2 := [_, _, _]) rfl rfl rfl ⟨by omega, by omega⟩ rfl ?_
                refine bw_goto rfl ?_
                refine bw_forget (ls2 := [some (vr (some 219)), some (vi _), none]) ⟨rfl, rfl, trivial⟩ ?_
                refine ih2 _ _ (g1.sI _ _ rfl) (fun j j0 j1 => ?_) (by omega) (by omega)
                by_cases q : j = i
                · rw [q, gI_sI_eq]
                  refine ⟨k1, k2, ?_⟩
                  first
                  | exact Or.inl (by omega)
                  | exact Or.inr (Or.inl (by omega))
                  | exact Or.inr (Or.inr (hr41.elim (fun h => absurd h.2 (by omega)) (fun h => h.1)))
                · rw [gI_sI_nj q]; exact g2 j j0 (by omega)
              · skip
                refine bw_iinc (ls2 := [_, _, _]) rfl rfl rfl ⟨by omega, by omega⟩ rfl ?_
                refine bw_goto rfl ?_
                refine ih _ (by omega) (fun j j1 j2 => ?_) (by omega)
                by_cases q : j = x + 1
                · rw [q]
                  have w : lkP D T (i - x - 1) (i + x + 1) := hr41.elim (fun h => h.1) (fun h => absurd h.2 (by omega))
                  rw [show i - (x + 1) = i - x - 1 by omega, show i + (x + 1) = i + x + 1 by omega]
                  exact w
                · exact k2 j j1 (by omega)
      refine bw_iload rfl rfl ?_
      refine bw_aload rfl rfl ?_
      refine bw_getI rfl rfl ?_
      refine bw_icge rfl (fun c7 => ?_) (fun c7 => ?_)
      · skip
        refine bw_retv rfl rfl ?_
        obtain rfl : i = c := by omega
        exact ⟨rfl, rfl, g1, g2⟩
      · skip
        refine bw_push rfl ?_
        refine bw_istore (ls2 := [_, _, _]) rfl rfl (Nat.le_of_ble_eq_true rfl) rfl ?_
        exact L12 (c.toNat + 1) 0 (by omega) (fun j h1 h2 => by omega) (by omega)
  show abW d (0, 0) 32 0 [some (vr (some 219)), none, none] [] (0, 0) (A0 L) M (qV (A0 L) (fun N => sm (fun a => a = 223) M N ∧ mrT N D T c c))
  refine bw_push rfl ?_
  refine bw_istore (ls2 := [_, _, _]) rfl rfl (Nat.le_of_ble_eq_true rfl) rfl ?_
  exact L2 (c.toNat + 1) M 0 (sm_refl _ _) (fun i h1 h2 => by omega) (by omega) (by omega)
def ecT (N : abMem) (D T : Int → Int) (c z : Int) : Prop := ∀ k : Int, 1 ≤ k → k < z → 2 * k ≤ c → ∀ i : Int, 0 ≤ i → i < c - k → isEc D T c k i (gI N (225 + k.toNat) i)
abbrev pEc (a : Nat) : Prop := 225 ≤ a ∧ a < 274
set_option maxRecDepth 20000 in
set_option maxHeartbeats 4000000 in
theorem c_measureEchoes {d L : Nat} {M : abMem} {r : abRf} (hR : RF r M) {D T : Int → Int} {c : Int} (hM : MkP M D T c) (hd : 1 ≤ d) : abW d (0, 0) 33 0 (abEnt (abL 33) [vr (some 219)]) [] (0, 0) (A0 L) M (qV (A0 L) (fun N => sm pEc M N ∧ ecT N D T c 97)) := by
  have c0 := hM.1
  have hRM := hR
  have hMM := hM
  have L2 : ∀ (kf : Nat) (N : abMem) (z : Int), (sm pEc M N) → (ecT N D T c z) → (1 ≤ z ∧ 2 * z ≤ c + 2) → ((97 - z).toNat) < kf → abW d (0, 0) 33 2 [some (vr (some 219)), some (vi z), none, none, none] [] (0, 0) (A0 L) (N) (qV (A0 L) (fun N => sm pEc M N ∧ ecT N D T c 97)) := by
    intro kf
    induction kf with
    | zero => intro N  z  g1 g2 g3 hm9; exact absurd hm9 (Nat.not_lt_zero _)
    | succ kf ih2 =>
      intro N  z  g1 g2 g3 hm2
      have ih := ih2
      have hR := g1.RF hR
      have hM := MkP_sm hM g1 (by decide) (by decide) (by decide)
      have c1 := hM.2.1
      have L31 : ∀ (kf : Nat) (K : abMem) (w i : Int), (sm pEc M K) → (ecT K D T c z) → (-1 ≤ i ∧ i < c - z ∧ 2 * z ≤ c) → (∀ j : Int, i < j → j < c - z → isEc D T c z j (gI K (225 + z.toNat) j)) → ((i = c - z - 1 ∧ w = 0) ∨ (i < c - z - 1 ∧ isEc D T c z (i + 1) w)) → ((i + 1).toNat) < kf → abW d (0, 0) 33 31 [some (vr (some 219)), some (vi z), some (vr (some (225 + z.toNat))), some (vi w), some (vi i)] [] (0, 0) (A0 L) (K) (qV (A0 L) (fun N => sm pEc M N ∧ ecT N D T c 97)) := by
        intro kf
        induction kf with
        | zero => intro K  w i  k1 k2 k3 k4 k5 hm9; exact absurd hm9 (Nat.not_lt_zero _)
        | succ kf ih31 =>
          intro K  w i  k1 k2 k3 k4 k5 hm31
          have ih := ih31
          have hR := k1.RF hRM
          have hM := MkP_sm hMM k1 (by decide) (by decide) (by decide)
          have kw : 0 ≤ w ∧ w ≤ 96 := by
            rcases k5 with h | h
            · omega
            · have := h.2.1; omega
          refine bw_iload rfl rfl ?_
          refine bw_iflt rfl (fun c33 => ?_) (fun c33 => ?_)
          · skip
            refine bw_iinc (ls2 := [_, _, _, _, _]) rfl rfl rfl ⟨by omega, by omega⟩ rfl ?_
            refine bw_goto rfl ?_
            refine bw_forget (ls2 := [some (vr (some 219)), some (vi _), none, none, none]) ⟨rfl, rfl, trivial⟩ ?_
            refine ih2 _ _ k1 (fun k h1 h2 h3 j j0 j1 => ?_) (by omega) (by omega)
            by_cases q : k = z
            · rw [q] at j1 ⊢; exact k4 j (by omega) j1
            · exact k2 k h1 (by omega) h3 j j0 j1
          · skip
            refine bw_aload rfl rfl ?_
            refine bw_iload rfl rfl ?_
            refine bw_iload rfl rfl ?_
            refine bw_iload rfl rfl ?_
            refine bw_iadd rfl ⟨by omega, by omega⟩ ?_
            refine bw_callVj (e := d - 1) (as := [_, _]) rfl (by omega) rfl rfl (Nat.le_of_ble_eq_true rfl) (Nat.le_of_ble_eq_true rfl) rfl (c_areAlike hR hM (by omega) (by omega)) (fun r43 hr43 => ?_)
            refine bw_ifeq rfl (fun c46 => ?_) (fun c46 => ?_)
            · skip
              refine bw_push rfl ?_
              refine bw_istore (ls2 := [_, _, _, _, _]) rfl rfl (Nat.le_of_ble_eq_true rfl) rfl ?_
              refine bw_aload rfl rfl ?_
              refine bw_iload rfl rfl ?_
              refine bw_iload rfl rfl ?_
              refine bw_asti rfl (kfa (b := 225) (n := 49) (v := (20, 96)) (by decide) (by decide) ⟨by omega, by omega⟩) (by omega) (by omega) ?_
              refine bw_iinc (ls2 := [_, _, _, _, _]) rfl rfl rfl ⟨by omega, by omega⟩ rfl ?_
              refine bw_goto rfl ?_
              have key : ∀ v : Int, isEc D T c z i v → abW d (0, 0) 33 31 [some (vr (some 219)), some (vi z), some (vr (some (225 + z.toNat))), some (vi v), some (vi (i + -1))] [] (0, 0) (A0 L) (sI K (225 + z.toNat) i v) (qV (A0 L) (fun N => sm pEc M N ∧ ecT N D T c 97)) := fun v hv => by
                refine ih _ _ _ (k1.sI _ _ ⟨by omega, by omega⟩) (fun k h1 h2 h3 j j0 j1 => ?_) (by omega) (fun j j0 j1 => ?_) (Or.inr ⟨by omega, by rw [show i + -1 + 1 = i by omega]; exact hv⟩) (by omega)
                · rw [gI_sI_ne (by omega)]; exact k2 k h1 h2 h3 j j0 j1
                · by_cases q : j = i
                  · rw [q, gI_sI_eq]; exact hv
                  · rw [gI_sI_nj q]; exact k4 j (by omega) j1
              refine key _ ?_
              first
              | (have w1 : lkP D T i (i + z) := hr43.elim (fun h => h.1) (fun h => absurd h.2 (by omega))
                 rcases k5 with h | ⟨h, h5⟩
                 · rw [h.2]
                   exact ⟨⟨by omega, by omega⟩, fun j j0 j1 => by rw [show j = i by omega]; exact w1, Or.inl (by omega)⟩
                 · obtain ⟨e1, e2, e3⟩ := h5
                   refine ⟨⟨by omega, by omega⟩, fun j j0 j1 => ?_, ?_⟩
                   · by_cases q : j = i
                     · rw [q]; exact w1
                     · exact e2 j (by omega) (by omega)
                   · rw [show i + (w + 1) = i + 1 + w by omega]
                     rcases e3 with e3 | e3
                     · exact Or.inl (by omega)
                     · exact Or.inr e3)
              | (have w1 : ¬ lkP D T i (i + z) := hr43.elim (fun h => absurd h.2 (by omega)) (fun h => h.1)
                 exact ⟨⟨by omega, by omega⟩, fun j j0 j1 => by omega, Or.inr (by rw [Int.add_zero]; exact w1)⟩)
            · skip
              refine bw_iload rfl rfl ?_
              refine bw_push rfl ?_
              refine bw_iadd rfl ⟨by omega, by omega⟩ ?_
              refine bw_goto rfl ?_
              refine bw_istore (ls2 := [_, _, _, _, _]) rfl rfl (Nat.le_of_ble_eq_true rfl) rfl ?_
              refine bw_aload rfl rfl ?_
              refine bw_iload rfl rfl ?_
              refine bw_iload rfl rfl ?_
              refine bw_asti rfl (kfa (b := 225) (n := 49) (v := (20, 96)) (by decide) (by decide) ⟨by omega, by omega⟩) (by omega) (by omega) ?_
              refine bw_iinc (ls2 := [_, _, _, _, _]) rfl rfl rfl ⟨by omega, by omega⟩ rfl ?_
              refine bw_goto rfl ?_
              have key : ∀ v : Int, isEc D T c z i v → abW d (0, 0) 33 31 [some (vr (some 219)), some (vi z), some (vr (some (225 + z.toNat))), some (vi v), some (vi (i + -1))] [] (0, 0) (A0 L) (sI K (225 + z.toNat) i v) (qV (A0 L) (fun N => sm pEc M N ∧ ecT N D T c 97)) := fun v hv => by
                refine ih _ _ _ (k1.sI _ _ ⟨by omega, by omega⟩) (fun k h1 h2 h3 j j0 j1 => ?_) (by omega) (fun j j0 j1 => ?_) (Or.inr ⟨by omega, by rw [show i + -1 + 1 = i by omega]; exact hv⟩) (by omega)
                · rw [gI_sI_ne (by omega)]; exact k2 k h1 h2 h3 j j0 j1
                · by_cases q : j = i
                  · rw [q, gI_sI_eq]; exact hv
                  · rw [gI_sI_nj q]; exact k4 j (by omega) j1
              refine key _ ?_
              first
              | (have w1 : lkP D T i (i + z) := hr43.elim (fun h => h.1) (fun h => absurd h.2 (by omega))
                 rcases k5 with h | ⟨h, h5⟩
                 · rw [h.2]
                   exact ⟨⟨by omega, by omega⟩, fun j j0 j1 => by rw [show j = i by omega]; exact w1, Or.inl (by omega)⟩
                 · obtain ⟨e1, e2, e3⟩ := h5
                   refine ⟨⟨by omega, by omega⟩, fun j j0 j1 => ?_, ?_⟩
                   · by_cases q : j = i
                     · rw [q]; exact w1
                     · exact e2 j (by omega) (by omega)
                   · rw [show i + (w + 1) = i + 1 + w by omega]
                     rcases e3 with e3 | e3
                     · exact Or.inl (by omega)
                     · exact Or.inr e3)
              | (have w1 : ¬ lkP D T i (i + z) := hr43.elim (fun h => absurd h.2 (by omega)) (fun h => h.1)
                 exact ⟨⟨by omega, by omega⟩, fun j j0 j1 => by omega, Or.inr (by rw [Int.add_zero]; exact w1)⟩)
      refine bw_push rfl ?_
      refine bw_iload rfl rfl ?_
      refine bw_imul rfl ⟨by omega, by omega⟩ ?_
      refine bw_aload rfl rfl ?_
      refine bw_getI rfl rfl ?_
      refine bw_icgt rfl (fun c9 => ?_) (fun c9 => ?_)
      · skip
        refine bw_retv rfl rfl ?_
        exact ⟨rfl, rfl, g1, fun k h1 h2 h3 => g2 k h1 (by omega) h3⟩
      · skip
        refine bw_aload rfl rfl ?_
        refine bw_getr rfl rfl (hR _ _) ?_
        refine bw_iload rfl rfl ?_
        refine bw_aldr rfl (by first | rfl | assumption) (by decide) (by omega) (by omega) ((hR _ _).trans (rr_row (fun _ => rfl) (by omega) (by omega) (by omega))) ?_
        refine bw_astore (ls2 := [_, _, _, _, _]) rfl rfl (Nat.le_of_ble_eq_true rfl) rfl ?_
        refine bw_push rfl ?_
        refine bw_istore (ls2 := [_, _, _, _, _]) rfl rfl (Nat.le_of_ble_eq_true rfl) rfl ?_
        refine bw_aload rfl rfl ?_
        refine bw_getI rfl rfl ?_
        refine bw_iload rfl rfl ?_
        refine bw_isub rfl ⟨by omega, by omega⟩ ?_
        refine bw_push rfl ?_
        refine bw_isub rfl ⟨by omega, by omega⟩ ?_
        refine bw_istore (ls2 := [_, _, _, _, _]) rfl rfl (Nat.le_of_ble_eq_true rfl) rfl ?_
        rw [c1]
        exact L31 98 N 0 (c - z - 1) g1 g2 (by omega) (fun j h1 h2 => by omega) (Or.inl ⟨rfl, rfl⟩) (by omega)
  show abW d (0, 0) 33 0 [some (vr (some 219)), none, none, none, none] [] (0, 0) (A0 L) M (qV (A0 L) (fun N => sm pEc M N ∧ ecT N D T c 97))
  refine bw_push rfl ?_
  refine bw_istore (ls2 := [_, _, _, _, _]) rfl rfl (Nat.le_of_ble_eq_true rfl) rfl ?_
  exact L2 98 M 1 (sm_refl _ _) (fun k h1 h2 => by omega) (by omega) (by omega)
