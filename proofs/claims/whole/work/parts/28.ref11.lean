/-- the arrays have the exposures of the row -/
def aSp (N : abMem) (s : Int × ((Int → Int) × (Int → Int))) : Prop := gI N 567 25 = s.1 ∧ ∀ e : Int, 0 ≤ e → e < s.1 → gI N 577 e = s.2.1 e ∧ gI N 578 e = s.2.2 e
theorem aSp_t {N : abMem} {f : Int → Int} {i : Int} (h : aSp N (sp f i.toNat)) (h0 : 0 < i) (e : f i = f (i - 1)) : aSp (sI N 578 (gI N 567 25 - 1) (gI N 578 (gI N 567 25 - 1) + 1)) (sp f (i + 1).toNat) := by
  rw [sp_t h0 e]
  have q := (sp_in f i.toNat).1
  have q1 := q.2.2 (by omega)
  refine ⟨by rw [gI_sI_ne (by decide)]; exact h.1, fun j h1 h2 => ?_⟩
  have h3 : j < (sp f i.toNat).1 := h2
  refine ⟨by rw [gI_sI_ne (by decide)]; exact (h.2 j h1 h3).1, ?_⟩
  show _ = up _ _ _ j
  rw [h.1]
  by_cases z : j = (sp f i.toNat).1 - 1
  · rw [up_eq z, z, gI_sI_eq, (h.2 _ (by omega) (by omega)).2]
  · rw [up_ne z, gI_sI_nj z, (h.2 j h1 h3).2]
theorem aSp_f {N : abMem} {f : Int → Int} {i : Int} (h : aSp N (sp f i.toNat)) (h0 : 0 ≤ i) (e : ¬ (0 < i ∧ f i = f (i - 1))) : aSp (sI (sI (sI N 577 (gI N 567 25) (f i)) 578 (gI N 567 25) 1) 567 25 (gI N 567 25 + 1)) (sp f (i + 1).toNat) := by
  rw [sp_f h0 e]
  refine ⟨by rw [gI_sI_eq, h.1], fun j h1 h2 => ?_⟩
  have h3 : j < (sp f i.toNat).1 + 1 := h2
  refine ⟨?_, ?_⟩
  · rw [gI_sI_ne (by decide), gI_sI_ne (by decide), h.1]
    show _ = up _ _ _ j
    by_cases z : j = (sp f i.toNat).1
    · rw [up_eq z, z, gI_sI_eq]
    · rw [up_ne z, gI_sI_nj z]
      exact (h.2 j h1 (by omega)).1
  · rw [gI_sI_ne (by decide), h.1]
    show _ = up _ _ _ j
    by_cases z : j = (sp f i.toNat).1
    · rw [up_eq z, z, gI_sI_eq]
    · rw [up_ne z, gI_sI_nj z, gI_sI_ne (by decide)]
      exact (h.2 j h1 (by omega)).2
set_option maxRecDepth 20000 in
set_option maxHeartbeats 4000000 in
theorem m_laysRow {d L : Nat} {M : abMem} {r : abRf} (hR : RF r M) {l : Int} (hB : RB M) (h2 : 0 ≤ l ∧ l ≤ 5) (hd : 1 ≤ d) : abW d (0, 0) 216 0 (abEnt (abL 216) [vr (some 567), vi l]) [] (0, 0) (A0 L) M (qV (A0 L) (fun N => s5 p57 q25 M N ∧ aSp N (sp (mR M 0 l) (gI M 568 0).toNat))) := by
  have b1 := hB.fr
  have b2 := hB.la
  have L7 : ∀ (kf : Nat) (N : abMem) (f : Int), (s5 p57 q25 M N) → (aSp N (sp (mR M 0 l) f.toNat)) → (0 ≤ f ∧ f ≤ gI M 568 0) → ((gI M 568 0 - f).toNat) < kf → abW d (0, 0) 216 7 [some (vr (some 567)), some (vi l), some (vi f)] [] (0, 0) (A0 L) (N) (qV (A0 L) (fun N => s5 p57 q25 M N ∧ aSp N (sp (mR M 0 l) (gI M 568 0).toNat))) := by
    intro kf
    induction kf with
    | zero => intro N  f  g1 g2 g3 hm9; exact absurd hm9 (Nat.not_lt_zero _)
    | succ kf ih7 =>
      intro N  f  g1 g2 g3 hm7
      have ih := ih7
      have hR := g1.RF hR
      have hB0 := hB
      have hB := g1.RB (p57_no (by decide)) (p57_no (by decide)) hB
      have e568 := g1.at 568 (p57_no (by decide)) (by decide)
      have e569 := g1.at 569 (p57_no (by decide)) (by decide)
      have eR : ∀ i l : Int, mR N i l = mR M i l := g1.mR (p57_no (by decide))
      have q := sp_in (mR M 0 l) f.toNat
      have q0 := g2.1
      refine bw_iload rfl rfl ?_
      refine bw_aload rfl rfl ?_
      refine bw_callVe (e := d - 1) (as := []) rfl (by omega) rfl rfl (Nat.le_of_ble_eq_true rfl) (Nat.le_of_ble_eq_true rfl) rfl (m_frames hR) ?_
      try simp only [e568, e569, eR]
      refine bw_icge rfl (fun c12 => ?_) (fun c12 => ?_)
      · skip
        refine bw_retv rfl rfl ?_
        obtain rfl : f = gI M 568 0 := by omega
        exact ⟨rfl, rfl, g1, g2⟩
      · skip
        refine bw_iload rfl rfl ?_
        refine bw_ifle rfl (fun c16 => ?_) (fun c16 => ?_)
        · skip
          refine bw_aload rfl rfl ?_
          refine bw_getr rfl rfl (hR _ _) ?_
          refine bw_aload rfl rfl ?_
          refine bw_getI rfl rfl ?_
          try simp only [gI_sI, gI_wI, and_true, true_and, and_false, false_and, and_self, reduceIte]
          try simp only [e568, e569, eR]
          refine bw_aload rfl rfl ?_
          refine bw_push rfl ?_
          refine bw_iload rfl rfl ?_
          refine bw_iload rfl rfl ?_
          refine bw_callVe (e := d - 1) (as := [_, _, _]) rfl (by omega) rfl rfl (Nat.le_of_ble_eq_true rfl) (Nat.le_of_ble_eq_true rfl) rfl (m_has hR (by omega) (by omega) (by omega)) ?_
          try simp only [e568, e569, eR]
          refine bw_asti rfl (by first | rfl | assumption) (by omega) (by omega) ?_
          refine bw_aload rfl rfl ?_
          refine bw_getr rfl rfl (hR _ _) ?_
          refine bw_aload rfl rfl ?_
          refine bw_getI rfl rfl ?_
          try simp only [gI_sI, gI_wI, and_true, true_and, and_false, false_and, and_self, reduceIte]
          try simp only [e568, e569, eR]
          refine bw_push rfl ?_
          refine bw_asti rfl (by first | rfl | assumption) (by omega) (by omega) ?_
          refine bw_aload rfl rfl ?_
          first | refine bw_dup rfl ?_ | refine bw_dupi rfl ?_
          refine bw_getI rfl rfl ?_
          try simp only [gI_sI, gI_wI, and_true, true_and, and_false, false_and, and_self, reduceIte]
          try simp only [e568, e569, eR]
          refine bw_push rfl ?_
          refine bw_iadd rfl ⟨by omega, by omega⟩ ?_
          refine bw_putI rfl rfl ?_
          refine bw_iinc (ls2 := [_, _, _]) rfl rfl rfl ⟨by omega, by omega⟩ rfl ?_
          refine bw_goto rfl ?_
          first
          | exact ih _ _ (g1.wr _ _ (Or.inr (Or.inl rfl)) (by decide)) (aSp_t g2 (by omega) (by omega)) (by omega) (by omega)
          | exact ih _ _ (((g1.wr _ _ (Or.inl rfl) (by decide)).wr _ _ (Or.inr (Or.inl rfl)) (by decide)).sI7 25 _ rfl) (aSp_f g2 (by omega) (fun z => by omega)) (by omega) (by omega)
        · skip
          refine bw_aload rfl rfl ?_
          refine bw_push rfl ?_
          refine bw_iload rfl rfl ?_
          refine bw_iload rfl rfl ?_
          refine bw_callVe (e := d - 1) (as := [_, _, _]) rfl (by omega) rfl rfl (Nat.le_of_ble_eq_true rfl) (Nat.le_of_ble_eq_true rfl) rfl (m_has hR (by omega) (by omega) (by omega)) ?_
          try simp only [e568, e569, eR]
          refine bw_aload rfl rfl ?_
          refine bw_push rfl ?_
          refine bw_iload rfl rfl ?_
          refine bw_iload rfl rfl ?_
          refine bw_push rfl ?_
          refine bw_isub rfl ⟨by omega, by omega⟩ ?_
          refine bw_callVe (e := d - 1) (as := [_, _, _]) rfl (by omega) rfl rfl (Nat.le_of_ble_eq_true rfl) (Nat.le_of_ble_eq_true rfl) rfl (m_has hR (by omega) (by omega) (by omega)) ?_
          try simp only [e568, e569, eR]
          refine bw_icne rfl (fun c35 => ?_) (fun c35 => ?_)
          · skip
            refine bw_aload rfl rfl ?_
            refine bw_getr rfl rfl (hR _ _) ?_
            refine bw_aload rfl rfl ?_
            refine bw_getI rfl rfl ?_
            try simp only [gI_sI, gI_wI, and_true, true_and, and_false, false_and, and_self, reduceIte]
            try simp only [e568, e569, eR]
            refine bw_aload rfl rfl ?_
            refine bw_push rfl ?_
            refine bw_iload rfl rfl ?_
            refine bw_iload rfl rfl ?_
            refine bw_callVe (e := d - 1) (as := [_, _, _]) rfl (by omega) rfl rfl (Nat.le_of_ble_eq_true rfl) (Nat.le_of_ble_eq_true rfl) rfl (m_has hR (by omega) (by omega) (by omega)) ?_
            try simp only [e568, e569, eR]
            refine bw_asti rfl (by first | rfl | assumption) (by omega) (by omega) ?_
            refine bw_aload rfl rfl ?_
            refine bw_getr rfl rfl (hR _ _) ?_
            refine bw_aload rfl rfl ?_
            refine bw_getI rfl rfl ?_
            try simp only [gI_sI, gI_wI, and_true, true_and, and_false, false_and, and_self, reduceIte]
            try simp only [e568, e569, eR]
            refine bw_push rfl ?_
            refine bw_asti rfl (by first | rfl | assumption) (by omega) (by omega) ?_
            refine bw_aload rfl rfl ?_
            first | refine bw_dup rfl ?_ | refine bw_dupi rfl ?_
            refine bw_getI rfl rfl ?_
            try simp only [gI_sI, gI_wI, and_true, true_and, and_false, false_and, and_self, reduceIte]
            try simp only [e568, e569, eR]
            refine bw_push rfl ?_
            refine bw_iadd rfl ⟨by omega, by omega⟩ ?_
            refine bw_putI rfl rfl ?_
            refine bw_iinc (ls2 := [_, _, _]) rfl rfl rfl ⟨by omega, by omega⟩ rfl ?_
            refine bw_goto rfl ?_
            first
            | exact ih _ _ (g1.wr _ _ (Or.inr (Or.inl rfl)) (by decide)) (aSp_t g2 (by omega) (by omega)) (by omega) (by omega)
            | exact ih _ _ (((g1.wr _ _ (Or.inl rfl) (by decide)).wr _ _ (Or.inr (Or.inl rfl)) (by decide)).sI7 25 _ rfl) (aSp_f g2 (by omega) (fun z => by omega)) (by omega) (by omega)
          · skip
            refine bw_aload rfl rfl ?_
            refine bw_getr rfl rfl (hR _ _) ?_
            refine bw_aload rfl rfl ?_
            refine bw_getI rfl rfl ?_
            try simp only [gI_sI, gI_wI, and_true, true_and, and_false, false_and, and_self, reduceIte]
            try simp only [e568, e569, eR]
            refine bw_push rfl ?_
            refine bw_isub rfl ⟨by omega, by omega⟩ ?_
            refine bw_dup2 rfl ?_
            have q1 := q.1.2.2 (by omega)
            have q2 := q.2.1 (gI N 567 25 - 1) (by omega) (by omega)
            have q3 := g2.2 (gI N 567 25 - 1) (by omega) (by omega)
            refine bw_aldi rfl (by first | rfl | assumption) (by omega) (by omega) ?_
            refine bw_push rfl ?_
            refine bw_iadd rfl ⟨by omega, by omega⟩ ?_
            refine bw_asti rfl (by first | rfl | assumption) (by omega) (by omega) ?_
            refine bw_goto rfl ?_
            refine bw_iinc (ls2 := [_, _, _]) rfl rfl rfl ⟨by omega, by omega⟩ rfl ?_
            refine bw_goto rfl ?_
            first
            | exact ih _ _ (g1.wr _ _ (Or.inr (Or.inl rfl)) (by decide)) (aSp_t g2 (by omega) (by omega)) (by omega) (by omega)
            | exact ih _ _ (((g1.wr _ _ (Or.inl rfl) (by decide)).wr _ _ (Or.inr (Or.inl rfl)) (by decide)).sI7 25 _ rfl) (aSp_f g2 (by omega) (fun z => by omega)) (by omega) (by omega)
  show abW d (0, 0) 216 0 [some (vr (some 567)), some (vi l), none] [] (0, 0) (A0 L) M (qV (A0 L) (fun N => s5 p57 q25 M N ∧ aSp N (sp (mR M 0 l) (gI M 568 0).toNat)))
  refine bw_aload rfl rfl ?_
  refine bw_push rfl ?_
  refine bw_putI rfl rfl ?_
  refine bw_push rfl ?_
  refine bw_istore (ls2 := [_, _, _]) rfl rfl (Nat.le_of_ble_eq_true rfl) rfl ?_
  exact L7 ((gI M 568 0).toNat + 1) (sI M 567 25 0) 0 ((s5_refl _ _ _).sI7 25 _ rfl) ⟨by rw [gI_sI_eq]; rfl, fun e h1 h2 => by have : e < 0 := h2; omega⟩ (by omega) (by omega)
theorem gd_wr {D T : Int → Int} {N : abMem} {a m x b k n : Int} (hb : 0 ≤ b ∧ 1 ≤ k ∧ b + k ≤ n ∧ n ≤ 96) (ha : 0 ≤ a ∧ 1 ≤ m ∧ a + m ≤ n) (hlt : k < m ∨ (k = m ∧ b < a)) (h : gdF D T (fun b k : Int => gI N 579 (97 * b + k)) b k) : gdF D T (fun b k : Int => gI (sI N 579 (97 * a + m) x) 579 (97 * b + k)) b k := by
  refine gdF_congr (fun _ _ _ => ⟨rfl, rfl⟩) (fun c j c1 c2 c3 c4 => ?_) h
  show gI N 579 (97 * c + j) = gI (sI N 579 (97 * a + m) x) 579 (97 * c + j)
  rw [gI_sI_nj (by omega)]
theorem gd_new {D T : Int → Int} {N : abMem} {a m x n : Int} (ha : 0 ≤ a ∧ 1 ≤ m ∧ a + m ≤ n ∧ n ≤ 96) (h : (m = 1 ∧ x = 1) ∨ (2 ≤ m ∧ isMn (cdP D T (fun b k : Int => gI N 579 (97 * b + k)) a m) x)) : gdF D T (fun b k : Int => gI (sI N 579 (97 * a + m) x) 579 (97 * b + k)) a m := by
  have e0 : gI (sI N 579 (97 * a + m) x) 579 (97 * a + m) = x := gI_sI_eq
  rcases h with ⟨h1, h2⟩ | ⟨h1, h2⟩
  · exact Or.inl ⟨h1, by show gI (sI N 579 (97 * a + m) x) 579 (97 * a + m) = 1; rw [e0]; exact h2⟩
  · have e : ∀ b k : Int, a ≤ b → 1 ≤ k → k < m → b + k ≤ a + m → gI N 579 (97 * b + k) = gI (sI N 579 (97 * a + m) x) 579 (97 * b + k) := fun b k b1 b2 b3 b4 => by rw [gI_sI_nj (by omega)]
    refine Or.inr ⟨h1, ?_, fun y hy => ?_⟩
    · show cdP D T _ a m (gI (sI N 579 (97 * a + m) x) 579 (97 * a + m))
      rw [e0]
      exact cdP_congr h1 (fun _ _ _ => ⟨rfl, rfl⟩) e h2.1
    · show gI (sI N 579 (97 * a + m) x) 579 (97 * a + m) ≤ y
      rw [e0]
      exact h2.2 y (cdP_congr h1 (fun _ _ _ => ⟨rfl, rfl⟩) (fun b k b1 b2 b3 b4 => (e b k b1 b2 b3 b4).symm) hy)
theorem okF_of {D T E U : Int → Int} {F : Int → Int → Int} {n : Int} (hD : ∀ j : Int, 0 ≤ j → j < n → D j = E j ∧ T j = U j) (h : okF D T F n) : okF E U F n := fun a m h1 h2 h3 => gdF_congr (fun j j1 j2 => hD j (by omega) (by omega)) (fun _ _ _ _ _ _ => rfl) (h a m h1 h2 h3)
set_option maxRecDepth 20000 in
set_option maxHeartbeats 4000000 in
theorem m_marksIn {d L : Nat} {M : abMem} {r : abRf} (hR : RF r M) {l : Int} (hB : RB M) (h2 : 0 ≤ l ∧ l ≤ 5) (hd : 3 ≤ d) : abW d (0, 0) 223 0 (abEnt (abL 223) [vr (some 567), vi l]) [] (0, 0) (A0 L) M (qI (A0 L) (fun x N => s5 p57 q25 M N ∧ isMk (mR M 0 l) (gI M 568 0) x)) := by
  have b1 := hB.fr
  have b2 := hB.la
  have L7 : ∀ (kf : Nat) (N : abMem) (m : Int), (s5 p57 q25 M N) → (aSp N (sp (mR M 0 l) (gI M 568 0).toNat)) → (∀ b k : Int, 0 ≤ b → 1 ≤ k → b + k ≤ gI N 567 25 → (k < m) → gdF (gI N 577) (gI N 578) (fun b k : Int => gI N 579 (97 * b + k)) b k) → (1 ≤ m ∧ m ≤ 97) → ((97 - m).toNat) < kf → abW d (0, 0) 223 7 [some (vr (some 567)), some (vi l), some (vi m), none] [] (0, 0) (A0 L) (N) (qI (A0 L) (fun x N => s5 p57 q25 M N ∧ isMk (mR M 0 l) (gI M 568 0) x)) := by
    intro kf
    induction kf with
    | zero => intro N  m  g1 g2 g3 g4 hm9; exact absurd hm9 (Nat.not_lt_zero _)
    | succ kf ih7 =>
      intro N  m  g1 g2 g3 g4 hm7
      have ih := ih7
      have hRo := hR
      have hBo := hB
      have hR := g1.RF hR
      have hB0 := hB
      have hB := g1.RB (p57_no (by decide)) (p57_no (by decide)) hB
      have e568 := g1.at 568 (p57_no (by decide)) (by decide)
      have e569 := g1.at 569 (p57_no (by decide)) (by decide)
      have eR : ∀ i l : Int, mR N i l = mR M i l := g1.mR (p57_no (by decide))
      have hD : ∀ j : Int, 0 ≤ j → j < gI N 567 25 → 0 ≤ gI N 577 j ∧ gI N 577 j ≤ 99 := fun j j1 j2 => by
        rw [(g2.2 j j1 (by have := g2.1; omega)).1]
        obtain ⟨i, i1, i2, i3⟩ := (sp_in (mR M 0 l) (gI M 568 0).toNat).2.2.2 j j1 (by have := g2.1; omega)
        rw [i3]
        exact hB0.mR (by omega) (by omega)
      have q := (sp_in (mR M 0 l) (gI M 568 0).toNat).1
      have q0 := g2.1
      have L17 : ∀ (kf : Nat) (K : abMem) (a : Int), (s5 p57 q25 M K) → (aSp K (sp (mR M 0 l) (gI M 568 0).toNat)) → (∀ b k : Int, 0 ≤ b → 1 ≤ k → b + k ≤ gI K 567 25 → (k < m ∨ k = m ∧ b < a) → gdF (gI K 577) (gI K 578) (fun b k : Int => gI K 579 (97 * b + k)) b k) → (0 ≤ a ∧ a ≤ 96) → (1 ≤ m ∧ m ≤ gI K 567 25) → ((97 - a).toNat) < kf → abW d (0, 0) 223 17 [some (vr (some 567)), some (vi l), some (vi m), some (vi a)] [] (0, 0) (A0 L) (K) (qI (A0 L) (fun x N => s5 p57 q25 M N ∧ isMk (mR M 0 l) (gI M 568 0) x)) := by
        intro kf
        induction kf with
        | zero => intro K  a  k1 k2 k3 k4 k5 hm9; exact absurd hm9 (Nat.not_lt_zero _)
        | succ kf ih17 =>
          intro K  a  k1 k2 k3 k4 k5 hm17
          have ih := ih17
          have hR := k1.RF hRo
          have hB := k1.RB (p57_no (by decide)) (p57_no (by decide)) hBo
          have e568 := k1.at 568 (p57_no (by decide)) (by decide)
          have e569 := k1.at 569 (p57_no (by decide)) (by decide)
          have eR : ∀ i l : Int, mR K i l = mR M i l := k1.mR (p57_no (by decide))
          have hDk : ∀ j : Int, 0 ≤ j → j < gI K 567 25 → 0 ≤ gI K 577 j ∧ gI K 577 j ≤ 99 := fun j j1 j2 => by
            rw [(k2.2 j j1 (by have := k2.1; omega)).1]
            obtain ⟨i, i1, i2, i3⟩ := (sp_in (mR M 0 l) (gI M 568 0).toNat).2.2.2 j j1 (by have := k2.1; omega)
            rw [i3]
            exact hBo.mR (by omega) (by omega)
          have qk := (sp_in (mR M 0 l) (gI M 568 0).toNat).1
          have qk0 := k2.1
          refine bw_iload rfl rfl ?_
          refine bw_iload rfl rfl ?_
          refine bw_iadd rfl ⟨by omega, by omega⟩ ?_
          refine bw_aload rfl rfl ?_
          refine bw_getI rfl rfl ?_
          try simp only [gI_sI, gI_wI, and_true, true_and, and_false, false_and, and_self, reduceIte]
          try simp only [e568, e569, eR]
          refine bw_icgt rfl (fun c24 => ?_) (fun c24 => ?_)
          · skip
            refine bw_iinc (ls2 := [_, _, _, _]) rfl rfl rfl ⟨by omega, by omega⟩ rfl ?_
            refine bw_goto rfl ?_
            refine bw_forget (ls2 := [some (vr (some 567)), some (vi l), some (vi _), none]) ⟨rfl, rfl, rfl, trivial⟩ ?_
            exact ih7 _ _ k1 k2 (fun b k b1 b2 b3 b4 => k3 b k b1 b2 b3 (by omega)) (by omega) (by omega)
          · skip
            refine bw_aload rfl rfl ?_
            refine bw_getr rfl rfl (hR _ _) ?_
            refine bw_push rfl ?_
            refine bw_iload rfl rfl ?_
            refine bw_imul rfl ⟨by omega, by omega⟩ ?_
            refine bw_iload rfl rfl ?_
            refine bw_iadd rfl ⟨by omega, by omega⟩ ?_
            refine bw_aload rfl rfl ?_
            refine bw_iload rfl rfl ?_
            refine bw_iload rfl rfl ?_
            refine bw_callVj (e := d - 1) (as := [_, _]) rfl (by omega) rfl rfl (Nat.le_of_ble_eq_true rfl) (Nat.le_of_ble_eq_true rfl) rfl (m_marksOf (n := gI K 567 25) hR (by omega) (by omega) hDk (by omega) (fun b k b1 b2 b3 b4 => gdF_in (D := gI K 577) (T := gI K 578) (F := fun b k : Int => gI K 579 (97 * b + k)) k.toNat b k (by omega) b2 (fun c j c1 c2 c3 => k3 c j (by omega) c2 (by omega) (by omega))) (by omega)) (fun r40 hr40 => ?_)
            refine bw_asti rfl (by first | rfl | assumption) (by omega) (by omega) ?_
            refine bw_iinc (ls2 := [_, _, _, _]) rfl rfl rfl ⟨by omega, by omega⟩ rfl ?_
            refine bw_goto rfl ?_
            refine ih _ _ (k1.wr _ _ (Or.inr (Or.inr rfl)) (by decide)) ⟨by rw [gI_sI_ne (by decide)]; exact k2.1, fun e h1 h2 => by rw [gI_sI_ne (by decide), gI_sI_ne (by decide)]; exact k2.2 e h1 h2⟩ (fun b k b1 b2 b3 b4 => ?_) (by omega) (by rw [gI_sI_ne (by decide)]; exact k5) (by omega)
            rw [gI_sI_ne (by decide)] at b3
            rw [gI_sI_ne (by decide), gI_sI_ne (by decide)]
            by_cases z : k = m ∧ b = a
            · obtain ⟨rfl, rfl⟩ := z
              exact gd_new (n := gI K 567 25) (by omega) hr40
            · exact gd_wr (n := gI K 567 25) (by omega) (by omega) (by omega) (k3 b k b1 b2 b3 (by omega))
      refine bw_iload rfl rfl ?_
      refine bw_aload rfl rfl ?_
      refine bw_getI rfl rfl ?_
      try simp only [gI_sI, gI_wI, and_true, true_and, and_false, false_and, and_self, reduceIte]
      try simp only [e568, e569, eR]
      refine bw_icgt rfl (fun c12 => ?_) (fun c12 => ?_)
      · skip
        refine bw_aload rfl rfl ?_
        refine bw_push rfl ?_
        refine bw_aload rfl rfl ?_
        refine bw_getI rfl rfl ?_
        try simp only [gI_sI, gI_wI, and_true, true_and, and_false, false_and, and_self, reduceIte]
        try simp only [e568, e569, eR]
        refine bw_callVe (e := d - 1) (as := [_, _]) rfl (by omega) rfl rfl (Nat.le_of_ble_eq_true rfl) (Nat.le_of_ble_eq_true rfl) rfl (m_fewestOf hR (by omega) (by omega)) ?_
        refine bw_ret rfl rfl ?_
        refine ⟨rfl, _, rfl, g1, ?_⟩
        by_cases z : gI N 567 25 = 0
        · rw [if_pos z]; exact Or.inl ⟨by omega, rfl⟩
        · rw [if_neg z]
          refine Or.inr ⟨by omega, fun b k : Int => gI N 579 (97 * b + k), ?_, by rw [q0]⟩
          exact okF_of (fun j j1 j2 => g2.2 j j1 j2) (fun a m h1 h2 h3 => g3 a m h1 h2 (by omega) (by omega))
      · skip
        refine bw_push rfl ?_
        refine bw_istore (ls2 := [_, _, _, _]) rfl rfl (Nat.le_of_ble_eq_true rfl) rfl ?_
        exact L17 98 N 0 g1 g2 (fun b k b1 b2 b3 b4 => g3 b k b1 b2 b3 (by omega)) (by omega) (by omega) (by omega)
  show abW d (0, 0) 223 0 [some (vr (some 567)), some (vi l), none, none] [] (0, 0) (A0 L) M (qI (A0 L) (fun x N => s5 p57 q25 M N ∧ isMk (mR M 0 l) (gI M 568 0) x))
  refine bw_aload rfl rfl ?_
  refine bw_iload rfl rfl ?_
  refine bw_callVv (e := d - 1) (as := [_]) rfl (by omega) rfl rfl (Nat.le_of_ble_eq_true rfl) (Nat.le_of_ble_eq_true rfl) rfl (m_laysRow hR hB (by omega) (by omega)) (fun M2 hM2 => ?_)
  obtain ⟨u2, v2⟩ := hM2
  refine bw_push rfl ?_
  refine bw_istore (ls2 := [_, _, _, _]) rfl rfl (Nat.le_of_ble_eq_true rfl) rfl ?_
  exact L7 97 M2 1 u2 v2 (fun b k b1 b2 b3 b4 => by omega) (by omega) (by omega)
set_option maxRecDepth 20000 in
set_option maxHeartbeats 4000000 in
theorem m_marks {d L : Nat} {M : abMem} {r : abRf} (hR : RF r M) {l : Int} (hB : RB M) (hd : 4 ≤ d) : abW d (0, 0) 224 0 (abEnt (abL 224) [vr (some 567), vi l]) [] (0, 0) (A0 L) M (qI (A0 L) (fun x N => s5 p57 q25 M N ∧ ((0 ≤ l ∧ l < gI M 568 1) ∧ isMk (mR M 0 l) (gI M 568 0) x ∨ ¬ (0 ≤ l ∧ l < gI M 568 1) ∧ x = -1))) := by
  have b1 := hB.fr
  have b2 := hB.la
  show abW d (0, 0) 224 0 [some (vr (some 567)), some (vi l)] [] (0, 0) (A0 L) M (qI (A0 L) (fun x N => s5 p57 q25 M N ∧ ((0 ≤ l ∧ l < gI M 568 1) ∧ isMk (mR M 0 l) (gI M 568 0) x ∨ ¬ (0 ≤ l ∧ l < gI M 568 1) ∧ x = -1)))
  refine bw_aload rfl rfl ?_
  refine bw_iload rfl rfl ?_
  refine bw_callVj (e := d - 1) (as := [_]) rfl (by omega) rfl rfl (Nat.le_of_ble_eq_true rfl) (Nat.le_of_ble_eq_true rfl) rfl (m_isLayer hR hB (by omega)) (fun r2 hr2 => ?_)
  refine bw_ifeq rfl (fun c5 => ?_) (fun c5 => ?_)
  · skip
    refine bw_push rfl ?_
    refine bw_ret rfl rfl ?_
    first
    | exact ⟨rfl, _, rfl, s5_refl _ _ _, Or.inr ⟨by omega, rfl⟩⟩
    | exact ⟨rfl, _, rfl, hM10.1, Or.inl ⟨by omega, hM10.2⟩⟩
  · skip
    refine bw_aload rfl rfl ?_
    refine bw_iload rfl rfl ?_
    refine bw_callVi (e := d - 1) (as := [_]) rfl (by omega) rfl rfl (Nat.le_of_ble_eq_true rfl) (Nat.le_of_ble_eq_true rfl) rfl (m_marksIn hR hB (by omega) (by omega)) (fun r10 M10 hM10 => ?_)
    refine bw_goto rfl ?_
    refine bw_ret rfl rfl ?_
    first
    | exact ⟨rfl, _, rfl, s5_refl _ _ _, Or.inr ⟨by omega, rfl⟩⟩
    | exact ⟨rfl, _, rfl, hM10.1, Or.inl ⟨by omega, hM10.2⟩⟩
set_option maxRecDepth 20000 in
set_option maxHeartbeats 4000000 in
theorem m_savedByMarks {d L : Nat} {M : abMem} {r : abRf} (hR : RF r M) (hB : RB M) (hd : 4 ≤ d) : abW d (0, 0) 248 0 (abEnt (abL 248) [vr (some 567)]) [] (0, 0) (A0 L) M (qI (A0 L) (fun x N => s5 p57 q25 M N ∧ x = sN (fun l => cN (pXE 1 (mR M 0 l)) (gI M 568 0).toNat - mkV (mR M 0 l) (gI M 568 0)) (gI M 568 1).toNat)) := by
  have b1 := hB.fr
  have b2 := hB.la
  have L4 : ∀ (kf : Nat) (N : abMem) (c l : Int), (s5 p57 q25 M N) → (c = sN (fun l => cN (pXE 1 (mR M 0 l)) (gI M 568 0).toNat - mkV (mR M 0 l) (gI M 568 0)) l.toNat) → (0 ≤ l ∧ l ≤ gI M 568 1) → (-(200 * l) ≤ c ∧ c ≤ 200 * l) → ((gI M 568 1 - l).toNat) < kf → abW d (0, 0) 248 4 [some (vr (some 567)), some (vi c), some (vi l)] [] (0, 0) (A0 L) (N) (qI (A0 L) (fun x N => s5 p57 q25 M N ∧ x = sN (fun l => cN (pXE 1 (mR M 0 l)) (gI M 568 0).toNat - mkV (mR M 0 l) (gI M 568 0)) (gI M 568 1).toNat)) := by
    intro kf
    induction kf with
    | zero => intro N  c l  g1 g2 g3 g4 hm9; exact absurd hm9 (Nat.not_lt_zero _)
    | succ kf ih4 =>
      intro N  c l  g1 g2 g3 g4 hm4
      have ih := ih4
      have hR := g1.RF hR
      have hB0 := hB
      have hB := g1.RB (p57_no (by decide)) (p57_no (by decide)) hB
      have e568 := g1.at 568 (p57_no (by decide)) (by decide)
      have e569 := g1.at 569 (p57_no (by decide)) (by decide)
      have eR : ∀ i l : Int, mR N i l = mR M i l := g1.mR (p57_no (by decide))
      have := cN_in (pXE 1 (mR M 0 l)) (gI M 568 0).toNat
      refine bw_iload rfl rfl ?_
      refine bw_aload rfl rfl ?_
      refine bw_callVe (e := d - 1) (as := []) rfl (by omega) rfl rfl (Nat.le_of_ble_eq_true rfl) (Nat.le_of_ble_eq_true rfl) rfl (m_layers hR) ?_
      try simp only [e568, e569, eR]
      refine bw_icge rfl (fun c9 => ?_) (fun c9 => ?_)
      · skip
        refine bw_iload rfl rfl ?_
        refine bw_ret rfl rfl ?_
        obtain rfl : l = gI M 568 1 := by omega
        exact ⟨rfl, _, rfl, g1, g2⟩
      · skip
        refine bw_iload rfl rfl ?_
        refine bw_aload rfl rfl ?_
        refine bw_push rfl ?_
        refine bw_iload rfl rfl ?_
        refine bw_push rfl ?_
        refine bw_callVe (e := d - 1) (as := [_, _, _]) rfl (by omega) rfl rfl (Nat.le_of_ble_eq_true rfl) (Nat.le_of_ble_eq_true rfl) rfl (m_exposures hR hB (by omega) (by omega) (by omega)) ?_
        try simp only [e568, e569, eR]
        refine bw_iadd rfl ⟨by omega, by omega⟩ ?_
        refine bw_istore (ls2 := [_, _, _]) rfl rfl (Nat.le_of_ble_eq_true rfl) rfl ?_
        refine bw_iload rfl rfl ?_
        refine bw_aload rfl rfl ?_
        refine bw_iload rfl rfl ?_
        refine bw_callVi (e := d - 1) (as := [_]) rfl (by omega) rfl rfl (Nat.le_of_ble_eq_true rfl) (Nat.le_of_ble_eq_true rfl) rfl (m_marksIn hR hB (by omega) (by omega)) (fun r25 M25 hM25 => ?_)
        obtain ⟨u25, v25⟩ := hM25
        rw [e568, eR] at v25
        have e9 := mkV_eq v25
        have e8 := isMk_in v25 (by omega)
        refine bw_isub rfl ⟨by omega, by omega⟩ ?_
        refine bw_istore (ls2 := [_, _, _]) rfl rfl (Nat.le_of_ble_eq_true rfl) rfl ?_
        refine bw_iinc (ls2 := [_, _, _]) rfl rfl rfl ⟨by omega, by omega⟩ rfl ?_
        refine bw_goto rfl ?_
        exact ih _ _ _ (g1.trans u25) (by rw [sN_s _ (by omega), ← g2, e9, Int.add_sub_assoc]) (by omega) (by omega) (by omega)
  show abW d (0, 0) 248 0 [some (vr (some 567)), none, none] [] (0, 0) (A0 L) M (qI (A0 L) (fun x N => s5 p57 q25 M N ∧ x = sN (fun l => cN (pXE 1 (mR M 0 l)) (gI M 568 0).toNat - mkV (mR M 0 l) (gI M 568 0)) (gI M 568 1).toNat))
  refine bw_push rfl ?_
  refine bw_istore (ls2 := [_, _, _]) rfl rfl (Nat.le_of_ble_eq_true rfl) rfl ?_
  refine bw_push rfl ?_
  refine bw_istore (ls2 := [_, _, _]) rfl rfl (Nat.le_of_ble_eq_true rfl) rfl ?_
  exact L4 ((gI M 568 1).toNat + 1) M 0 0 (s5_refl _ _ _) rfl (by omega) (by omega) (by omega)
abbrev p5x (a : Nat) : Prop := p57 a ∨ p58 a
set_option maxRecDepth 20000 in
set_option maxHeartbeats 4000000 in
theorem m_saved {d L : Nat} {M : abMem} {r : abRf} (hR : RF r M) (hB : RB M) (hS : ∀ p : Int, 0 ≤ p → p < gI M 568 1 → 0 ≤ gI M 569 (0 + 576 + p) ∧ gI M 569 (0 + 576 + p) ≤ 5) {w : Int} (hd : 5 ≤ d) : abW d (0, 0) 249 0 (abEnt (abL 249) [vr (some 567), vi w]) [] (0, 0) (A0 L) M (qI (A0 L) (fun x N => s5 p5x q25 M N ∧ ((gI M 568 0 ≠ 0 ∧ 0 ≤ w ∧ w ≤ 3) ∧ (w = 0 ∧ x = gI M 568 0 - tk M 0 ∨ w = 1 ∧ x = sN (fun l => cN (pF (mR M 0 l)) (gI M 568 0).toNat - cN (pXE 0 (mR M 0 l)) (gI M 568 0).toNat) (gI M 568 1).toNat ∨ w = 2 ∧ x = sN (fun l => cN (pXE 0 (mR M 0 l)) (gI M 568 0).toNat - cN (pU (mR M 0 l)) (gI M 568 0).toNat) (gI M 568 1).toNat ∨ w = 3 ∧ x = sN (fun l => cN (pXE 1 (mR M 0 l)) (gI M 568 0).toNat - mkV (mR M 0 l) (gI M 568 0)) (gI M 568 1).toNat) ∨ ¬ (gI M 568 0 ≠ 0 ∧ 0 ≤ w ∧ w ≤ 3) ∧ x = -1))) := by
  have b1 := hB.fr
  have b2 := hB.la
  show abW d (0, 0) 249 0 [some (vr (some 567)), some (vi w)] [] (0, 0) (A0 L) M (qI (A0 L) (fun x N => s5 p5x q25 M N ∧ ((gI M 568 0 ≠ 0 ∧ 0 ≤ w ∧ w ≤ 3) ∧ (w = 0 ∧ x = gI M 568 0 - tk M 0 ∨ w = 1 ∧ x = sN (fun l => cN (pF (mR M 0 l)) (gI M 568 0).toNat - cN (pXE 0 (mR M 0 l)) (gI M 568 0).toNat) (gI M 568 1).toNat ∨ w = 2 ∧ x = sN (fun l => cN (pXE 0 (mR M 0 l)) (gI M 568 0).toNat - cN (pU (mR M 0 l)) (gI M 568 0).toNat) (gI M 568 1).toNat ∨ w = 3 ∧ x = sN (fun l => cN (pXE 1 (mR M 0 l)) (gI M 568 0).toNat - mkV (mR M 0 l) (gI M 568 0)) (gI M 568 1).toNat) ∨ ¬ (gI M 568 0 ≠ 0 ∧ 0 ≤ w ∧ w ≤ 3) ∧ x = -1)))
  refine bw_aload rfl rfl ?_
  refine bw_callVe (e := d - 1) (as := []) rfl (by omega) rfl rfl (Nat.le_of_ble_eq_true rfl) (Nat.le_of_ble_eq_true rfl) rfl (m_frames hR) ?_
  refine bw_ifeq rfl (fun c4 => ?_) (fun c4 => ?_)
  · skip
    refine bw_push rfl ?_
    refine bw_ret rfl rfl ?_
    exact ⟨rfl, _, rfl, s5_refl _ _ _, Or.inr ⟨by omega, rfl⟩⟩
  · skip
    refine bw_iload rfl rfl ?_
    refine bw_push rfl ?_
    refine bw_push rfl ?_
    refine bw_callSj (e := d - 1) (as := [_, _, _]) rfl (by omega) rfl rfl (Nat.le_of_ble_eq_true rfl) (Nat.le_of_ble_eq_true rfl) (m_isIn hR) (fun r10 hr10 => ?_)
    refine bw_ifne rfl (fun c13 => ?_) (fun c13 => ?_)
    · skip
      refine bw_iload rfl rfl ?_
      by_cases s19_0 : w = 0
      · refine bw_switch (t := 44) rfl (by rw [s19_0]; rfl) ?_
        refine bw_aload rfl rfl ?_
        refine bw_callVe (e := d - 1) (as := []) rfl (by omega) rfl rfl (Nat.le_of_ble_eq_true rfl) (Nat.le_of_ble_eq_true rfl) rfl (m_frames hR) ?_
        refine bw_aload rfl rfl ?_
        refine bw_push rfl ?_
        refine bw_callVi (e := d - 1) (as := [_]) rfl (by omega) rfl rfl (Nat.le_of_ble_eq_true rfl) (Nat.le_of_ble_eq_true rfl) rfl (m_takesIn hR hB (by omega) hS (by omega)) (fun r50 M50 hM50 => ?_)
        obtain ⟨u50, v50⟩ := hM50
        have t9 : 0 ≤ tk M 0 ∧ tk M 0 ≤ (gI M 568 0).toNat := cN_in _ _
        refine bw_isub rfl ⟨by omega, by omega⟩ ?_
        refine bw_ret rfl rfl ?_
        exact ⟨rfl, _, rfl, (u50.s5 (p58_no (by decide) (by decide)) q25).mono (fun a h => Or.inr h) (fun j h => h), Or.inl ⟨by omega, Or.inl ⟨by omega, by rw [v50]⟩⟩⟩
      · skip
        by_cases s19_1 : w = 1
        · refine bw_switch (t := 55) rfl (by rw [s19_1]; rfl) ?_
          refine bw_aload rfl rfl ?_
          refine bw_callVe (e := d - 1) (as := []) rfl (by omega) rfl rfl (Nat.le_of_ble_eq_true rfl) (Nat.le_of_ble_eq_true rfl) rfl (m_savedByHolds hR hB (by omega)) ?_
          refine bw_ret rfl rfl ?_
          exact ⟨rfl, _, rfl, s5_refl _ _ _, Or.inl ⟨by omega, Or.inr (Or.inl ⟨by omega, rfl⟩)⟩⟩
        · skip
          by_cases s19_2 : w = 2
          · refine bw_switch (t := 60) rfl (by rw [s19_2]; rfl) ?_
            refine bw_aload rfl rfl ?_
            refine bw_callVe (e := d - 1) (as := []) rfl (by omega) rfl rfl (Nat.le_of_ble_eq_true rfl) (Nat.le_of_ble_eq_true rfl) rfl (m_savedAgain hR hB (by omega)) ?_
            refine bw_ret rfl rfl ?_
            exact ⟨rfl, _, rfl, s5_refl _ _ _, Or.inl ⟨by omega, Or.inr (Or.inr (Or.inl ⟨by omega, rfl⟩))⟩⟩
          · skip
            refine bw_switch (t := 65) rfl (by show (if (w) < (0 : Int) ∨ (2 : Int) < (w) then _ else _) = _; rw [if_pos (by omega)]; rfl) ?_
            refine bw_aload rfl rfl ?_
            refine bw_callVi (e := d - 1) (as := []) rfl (by omega) rfl rfl (Nat.le_of_ble_eq_true rfl) (Nat.le_of_ble_eq_true rfl) rfl (m_savedByMarks hR hB (by omega)) (fun r66 M66 hM66 => ?_)
            refine bw_ret rfl rfl ?_
            exact ⟨rfl, _, rfl, hM66.1.mono (fun a h => Or.inl h) (fun j h => h), Or.inl ⟨by omega, Or.inr (Or.inr (Or.inr ⟨by omega, hM66.2⟩))⟩⟩
    · skip
      refine bw_push rfl ?_
      refine bw_ret rfl rfl ?_
      exact ⟨rfl, _, rfl, s5_refl _ _ _, Or.inr ⟨by omega, rfl⟩⟩
