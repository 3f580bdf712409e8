/-- the first cycle: the least begin, then the least period -/
def isC1 (f : Int → Int) (n b p : Int) : Prop := (1 ≤ p ∧ isCy f n b p) ∧ ∀ c q : Int, 1 ≤ q → isCy f n c q → b < c ∨ (b = c ∧ p ≤ q)
theorem isC1_eq {f : Int → Int} {n b p c q : Int} (h : isC1 f n b p) (k : isC1 f n c q) : b = c ∧ p = q := by
  have h1 := h.2 c q k.1.1 k.1.2
  have k1 := k.2 b p h.1.1 h.1.2
  omega
/-- there is no cycle -/
def noC (f : Int → Int) (n : Int) : Prop := ∀ c q : Int, 1 ≤ q → ¬ isCy f n c q
theorem isCy_congr {f g : Int → Int} {n b p : Int} (h : isCy f n b p) (hp : 1 ≤ p) (e : ∀ j : Int, 0 ≤ j → j < n → f j = g j) : isCy g n b p := by
  obtain ⟨h1, h2, ⟨j, j1, j2, j3⟩, h4⟩ := h
  refine ⟨h1, h2, ⟨j, j1, j2, ?_⟩, fun i i1 i2 => ?_⟩
  · rw [← e j (by omega) (by omega), ← e b (by omega) (by omega)]; exact j3
  · rw [← e i (by omega) (by omega), ← e (i + p) (by omega) (by omega)]; exact h4 i i1 i2
/-- what the search has found -/
def cyS (f : Int → Int) (n x y b p : Int) : Prop := (x = -1 ∧ (∀ c q : Int, 1 ≤ q → isCy f n c q → b < c ∨ (b = c ∧ p ≤ q))) ∨ (x ≠ -1 ∧ isC1 f n x y)
abbrev q21 (j : Int) : Prop := j = 21 ∨ j = 22
abbrev pNo (a : Nat) : Prop := False
set_option maxRecDepth 20000 in
set_option maxHeartbeats 4000000 in
theorem m_isCycle {d L : Nat} {M : abMem} {r : abRf} (hR : RF r M) {l : Int} (hB : RB M) (h2 : 0 ≤ l ∧ l ≤ 5) {b p : Int} (hb : 0 ≤ b ∧ 1 ≤ p ∧ b + 2 * p ≤ gI M 568 0) (hd : 1 ≤ d) : abW d (0, 0) 212 0 (abEnt (abL 212) [vr (some 567), vi l, vi b, vi p]) [] (0, 0) (A0 L) M (qJ (A0 L) M (fun x => isCy (mR M 0 l) (gI M 568 0) b p ∧ x = 1 ∨ ¬ isCy (mR M 0 l) (gI M 568 0) b p ∧ x = 0)) := by
  have b1 := hB.fr
  have b2 := hB.la
  have L55 : ∀ (kf : Nat) (w f : Int), (w = 1 ∧ (∃ j : Int, b ≤ j ∧ j < b + p ∧ mR M 0 l j ≠ mR M 0 l b) ∨ w = 0 ∧ ∀ j : Int, b ≤ j → j < b + p → mR M 0 l j = mR M 0 l b) → (b + p ≤ f ∧ f ≤ gI M 568 0) → (∀ j : Int, b ≤ j → j + p < f → mR M 0 l j = mR M 0 l (j + p)) → ((gI M 568 0 - f).toNat) < kf → abW d (0, 0) 212 55 [some (vr (some 567)), some (vi l), some (vi b), some (vi p), some (vi w), some (vi f)] [] (0, 0) (A0 L) (M) (qJ (A0 L) M (fun x => isCy (mR M 0 l) (gI M 568 0) b p ∧ x = 1 ∨ ¬ isCy (mR M 0 l) (gI M 568 0) b p ∧ x = 0)) := by
    intro kf
    induction kf with
    | zero => intro w f  g1 g2 g3 hm9; exact absurd hm9 (Nat.not_lt_zero _)
    | succ kf ih55 =>
      intro w f  g1 g2 g3 hm55
      have ih := ih55
      refine bw_iload rfl rfl ?_
      refine bw_aload rfl rfl ?_
      refine bw_callVe (e := d - 1) (as := []) rfl (by omega) rfl rfl (Nat.le_of_ble_eq_true rfl) (Nat.le_of_ble_eq_true rfl) rfl (m_frames hR) ?_
      refine bw_icge rfl (fun c61 => ?_) (fun c61 => ?_)
      · skip
        refine bw_iload rfl rfl ?_
        refine bw_retz rfl rfl (by omega) ?_
        rcases g1 with ⟨q1, q2⟩ | ⟨q1, q2⟩
        · exact ⟨rfl, rfl, _, rfl, Or.inl ⟨⟨hb.1, hb.2.2, q2, fun j h1 h2 => g3 j h1 (by omega)⟩, q1⟩⟩
        · exact ⟨rfl, rfl, _, rfl, Or.inr ⟨fun h => by obtain ⟨_, _, ⟨j, j1, j2, j3⟩, _⟩ := h; exact j3 (q2 j j1 j2), q1⟩⟩
      · skip
        refine bw_iload rfl rfl ?_
        refine bw_ifeq rfl (fun c66 => ?_) (fun c66 => ?_)
        · skip
          refine bw_iload rfl rfl ?_
          refine bw_retz rfl rfl (by omega) ?_
          rcases g1 with ⟨q1, q2⟩ | ⟨q1, q2⟩
          · exact ⟨rfl, rfl, _, rfl, Or.inl ⟨⟨hb.1, hb.2.2, q2, fun j h1 h2 => g3 j h1 (by omega)⟩, q1⟩⟩
          · exact ⟨rfl, rfl, _, rfl, Or.inr ⟨fun h => by obtain ⟨_, _, ⟨j, j1, j2, j3⟩, _⟩ := h; exact j3 (q2 j j1 j2), q1⟩⟩
        · skip
          refine bw_aload rfl rfl ?_
          refine bw_push rfl ?_
          refine bw_iload rfl rfl ?_
          refine bw_iload rfl rfl ?_
          refine bw_callVe (e := d - 1) (as := [_, _, _]) rfl (by omega) rfl rfl (Nat.le_of_ble_eq_true rfl) (Nat.le_of_ble_eq_true rfl) rfl (m_has hR (by omega) (by omega) (by omega)) ?_
          refine bw_aload rfl rfl ?_
          refine bw_push rfl ?_
          refine bw_iload rfl rfl ?_
          refine bw_iload rfl rfl ?_
          refine bw_iload rfl rfl ?_
          refine bw_isub rfl ⟨by omega, by omega⟩ ?_
          refine bw_callVe (e := d - 1) (as := [_, _, _]) rfl (by omega) rfl rfl (Nat.le_of_ble_eq_true rfl) (Nat.le_of_ble_eq_true rfl) rfl (m_has hR (by omega) (by omega) (by omega)) ?_
          refine bw_iceq rfl (fun c87 => ?_) (fun c87 => ?_)
          · skip
            refine bw_iinc (ls2 := [_, _, _, _, _, _]) rfl rfl rfl ⟨by omega, by omega⟩ rfl ?_
            refine bw_goto rfl ?_
            refine ih _ _ g1 (by omega) (fun j h1 h2 => ?_) (by omega)
            by_cases q : j + p = f
            · rw [q, show j = f - p by omega]; omega
            · exact g3 j h1 (by omega)
          · skip
            refine bw_push rfl ?_
            refine bw_retz rfl rfl (by omega) ?_
            exact ⟨rfl, rfl, _, rfl, Or.inr ⟨fun h => absurd (h.2.2.2 (f - p) (by omega) (by omega)) (by rw [show f - p + p = f by omega]; omega), rfl⟩⟩
  have L6 : ∀ (kf : Nat) (w f : Int), (w = 1 ∧ (∃ j : Int, b ≤ j ∧ j < f ∧ mR M 0 l j ≠ mR M 0 l b) ∨ w = 0 ∧ ∀ j : Int, b ≤ j → j < f → mR M 0 l j = mR M 0 l b) → (b ≤ f ∧ f ≤ b + p) → ((b + p - f).toNat) < kf → abW d (0, 0) 212 6 [some (vr (some 567)), some (vi l), some (vi b), some (vi p), some (vi w), some (vi f)] [] (0, 0) (A0 L) (M) (qJ (A0 L) M (fun x => isCy (mR M 0 l) (gI M 568 0) b p ∧ x = 1 ∨ ¬ isCy (mR M 0 l) (gI M 568 0) b p ∧ x = 0)) := by
    intro kf
    induction kf with
    | zero => intro w f  g1 g2 hm9; exact absurd hm9 (Nat.not_lt_zero _)
    | succ kf ih6 =>
      intro w f  g1 g2 hm6
      have ih := ih6
      refine bw_iload rfl rfl ?_
      refine bw_iload rfl rfl ?_
      refine bw_iload rfl rfl ?_
      refine bw_iadd rfl ⟨by omega, by omega⟩ ?_
      refine bw_icge rfl (fun c11 => ?_) (fun c11 => ?_)
      · skip
        refine bw_iload rfl rfl ?_
        refine bw_iload rfl rfl ?_
        refine bw_iadd rfl ⟨by omega, by omega⟩ ?_
        refine bw_istore (ls2 := [_, _, _, _, _, _]) rfl rfl (Nat.le_of_ble_eq_true rfl) rfl ?_
        obtain rfl : f = b + p := by omega
        exact L55 ((gI M 568 0 - (b + p)).toNat + 1) w _ g1 (by omega) (fun j h1 h2 => by omega) (by omega)
      · skip
        refine bw_iload rfl rfl ?_
        refine bw_ifne rfl (fun c16 => ?_) (fun c16 => ?_)
        · skip
          refine bw_push rfl ?_
          refine bw_goto rfl ?_
          refine bw_istore (ls2 := [_, _, _, _, _, _]) rfl rfl (Nat.le_of_ble_eq_true rfl) rfl ?_
          refine bw_iinc (ls2 := [_, _, _, _, _, _]) rfl rfl rfl ⟨by omega, by omega⟩ rfl ?_
          refine bw_goto rfl ?_
          first
          | exact ih _ _ (Or.inl ⟨rfl, f, by omega, by omega, by omega⟩) (by omega) (by omega)
          | (refine ih _ _ (Or.inr ⟨rfl, fun j h1 h2 => ?_⟩) (by omega) (by omega)
             by_cases q : j = f
             · rw [q]; omega
             · rcases g1 with q2 | q2
               · exact absurd q2.1 (by omega)
               · exact q2.2 j h1 (by omega))
          | (rcases g1 with ⟨q1, j, q2, q3, q4⟩ | q2
             · exact ih _ _ (Or.inl ⟨rfl, j, q2, by omega, q4⟩) (by omega) (by omega)
             · exact absurd q2.1 (by omega))
        · skip
          refine bw_aload rfl rfl ?_
          refine bw_push rfl ?_
          refine bw_iload rfl rfl ?_
          refine bw_iload rfl rfl ?_
          refine bw_callVe (e := d - 1) (as := [_, _, _]) rfl (by omega) rfl rfl (Nat.le_of_ble_eq_true rfl) (Nat.le_of_ble_eq_true rfl) rfl (m_has hR (by omega) (by omega) (by omega)) ?_
          refine bw_aload rfl rfl ?_
          refine bw_push rfl ?_
          refine bw_iload rfl rfl ?_
          refine bw_iload rfl rfl ?_
          refine bw_callVe (e := d - 1) (as := [_, _, _]) rfl (by omega) rfl rfl (Nat.le_of_ble_eq_true rfl) (Nat.le_of_ble_eq_true rfl) rfl (m_has hR (by omega) (by omega) (by omega)) ?_
          refine bw_iceq rfl (fun c34 => ?_) (fun c34 => ?_)
          · skip
            refine bw_push rfl ?_
            refine bw_istore (ls2 := [_, _, _, _, _, _]) rfl rfl (Nat.le_of_ble_eq_true rfl) rfl ?_
            refine bw_iinc (ls2 := [_, _, _, _, _, _]) rfl rfl rfl ⟨by omega, by omega⟩ rfl ?_
            refine bw_goto rfl ?_
            first
            | exact ih _ _ (Or.inl ⟨rfl, f, by omega, by omega, by omega⟩) (by omega) (by omega)
            | (refine ih _ _ (Or.inr ⟨rfl, fun j h1 h2 => ?_⟩) (by omega) (by omega)
               by_cases q : j = f
               · rw [q]; omega
               · rcases g1 with q2 | q2
                 · exact absurd q2.1 (by omega)
                 · exact q2.2 j h1 (by omega))
            | (rcases g1 with ⟨q1, j, q2, q3, q4⟩ | q2
               · exact ih _ _ (Or.inl ⟨rfl, j, q2, by omega, q4⟩) (by omega) (by omega)
               · exact absurd q2.1 (by omega))
          · skip
            refine bw_push rfl ?_
            refine bw_goto rfl ?_
            refine bw_istore (ls2 := [_, _, _, _, _, _]) rfl rfl (Nat.le_of_ble_eq_true rfl) rfl ?_
            refine bw_iinc (ls2 := [_, _, _, _, _, _]) rfl rfl rfl ⟨by omega, by omega⟩ rfl ?_
            refine bw_goto rfl ?_
            first
            | exact ih _ _ (Or.inl ⟨rfl, f, by omega, by omega, by omega⟩) (by omega) (by omega)
            | (refine ih _ _ (Or.inr ⟨rfl, fun j h1 h2 => ?_⟩) (by omega) (by omega)
               by_cases q : j = f
               · rw [q]; omega
               · rcases g1 with q2 | q2
                 · exact absurd q2.1 (by omega)
                 · exact q2.2 j h1 (by omega))
            | (rcases g1 with ⟨q1, j, q2, q3, q4⟩ | q2
               · exact ih _ _ (Or.inl ⟨rfl, j, q2, by omega, q4⟩) (by omega) (by omega)
               · exact absurd q2.1 (by omega))
  show abW d (0, 0) 212 0 [some (vr (some 567)), some (vi l), some (vi b), some (vi p), none, none] [] (0, 0) (A0 L) M (qJ (A0 L) M (fun x => isCy (mR M 0 l) (gI M 568 0) b p ∧ x = 1 ∨ ¬ isCy (mR M 0 l) (gI M 568 0) b p ∧ x = 0))
  refine bw_push rfl ?_
  refine bw_istore (ls2 := [_, _, _, _, _, _]) rfl rfl (Nat.le_of_ble_eq_true rfl) rfl ?_
  refine bw_iload rfl rfl ?_
  refine bw_istore (ls2 := [_, _, _, _, _, _]) rfl rfl (Nat.le_of_ble_eq_true rfl) rfl ?_
  exact L6 (p.toNat + 1) 0 b (Or.inr ⟨rfl, fun j h1 h2 => by omega⟩) (by omega) (by omega)
set_option maxRecDepth 20000 in
set_option maxHeartbeats 4000000 in
theorem m_findsCycle {d L : Nat} {M : abMem} {r : abRf} (hR : RF r M) {l : Int} (hB : RB M) (h2 : 0 ≤ l ∧ l ≤ 5) (hd : 2 ≤ d) : abW d (0, 0) 213 0 (abEnt (abL 213) [vr (some 567), vi l]) [] (0, 0) (A0 L) M (qV (A0 L) (fun N => s5 pNo q21 M N ∧ (gI N 567 21 = -1 ∧ noC (mR M 0 l) (gI M 568 0) ∨ gI N 567 21 ≠ -1 ∧ isC1 (mR M 0 l) (gI M 568 0) (gI N 567 21) (gI N 567 22)))) := by
  have b1 := hB.fr
  have b2 := hB.la
  have L7 : ∀ (kf : Nat) (N : abMem) (b : Int), (s5 pNo q21 M N) → (cyS (mR M 0 l) (gI M 568 0) (gI N 567 21) (gI N 567 22) b 1) → (0 ≤ b ∧ b ≤ gI M 568 0) → ((gI M 568 0 - b).toNat) < kf → abW d (0, 0) 213 7 [some (vr (some 567)), some (vi l), some (vi b), none] [] (0, 0) (A0 L) (N) (qV (A0 L) (fun N => s5 pNo q21 M N ∧ (gI N 567 21 = -1 ∧ noC (mR M 0 l) (gI M 568 0) ∨ gI N 567 21 ≠ -1 ∧ isC1 (mR M 0 l) (gI M 568 0) (gI N 567 21) (gI N 567 22)))) := by
    intro kf
    induction kf with
    | zero => intro N  b  g1 g2 g3 hm9; exact absurd hm9 (Nat.not_lt_zero _)
    | succ kf ih7 =>
      intro N  b  g1 g2 g3 hm7
      have ih := ih7
      have hRo := hR
      have hBo := hB
      have hR := g1.RF hR
      have hB0 := hB
      have hB := g1.RB id id hB
      have e568 := g1.at 568 id (by decide)
      have e569 := g1.at 569 id (by decide)
      have eR : ∀ i l : Int, mR N i l = mR M i l := g1.mR id
      have L25 : ∀ (kf : Nat) (K : abMem) (p : Int), (s5 pNo q21 M K) → (cyS (mR M 0 l) (gI M 568 0) (gI K 567 21) (gI K 567 22) b p) → (0 ≤ b ∧ b < gI M 568 0) → (1 ≤ p ∧ p ≤ gI M 568 0 + 1) → ((gI M 568 0 + 1 - p).toNat) < kf → abW d (0, 0) 213 25 [some (vr (some 567)), some (vi l), some (vi b), some (vi p)] [] (0, 0) (A0 L) (K) (qV (A0 L) (fun N => s5 pNo q21 M N ∧ (gI N 567 21 = -1 ∧ noC (mR M 0 l) (gI M 568 0) ∨ gI N 567 21 ≠ -1 ∧ isC1 (mR M 0 l) (gI M 568 0) (gI N 567 21) (gI N 567 22)))) := by
        intro kf
        induction kf with
        | zero => intro K  p  k1 k2 k3 k4 hm9; exact absurd hm9 (Nat.not_lt_zero _)
        | succ kf ih25 =>
          intro K  p  k1 k2 k3 k4 hm25
          have ih := ih25
          have hR := k1.RF hRo
          have hB := k1.RB id id hBo
          have e568 := k1.at 568 id (by decide)
          have e569 := k1.at 569 id (by decide)
          have eR : ∀ i l : Int, mR K i l = mR M i l := k1.mR id
          refine bw_iload rfl rfl ?_
          refine bw_push rfl ?_
          refine bw_iload rfl rfl ?_
          refine bw_imul rfl ⟨by omega, by omega⟩ ?_
          refine bw_iadd rfl ⟨by omega, by omega⟩ ?_
          refine bw_aload rfl rfl ?_
          refine bw_callVe (e := d - 1) (as := []) rfl (by omega) rfl rfl (Nat.le_of_ble_eq_true rfl) (Nat.le_of_ble_eq_true rfl) rfl (m_frames hR) ?_
          try simp only [e568, e569, eR]
          refine bw_icgt rfl (fun c34 => ?_) (fun c34 => ?_)
          · skip
            refine bw_iinc (ls2 := [_, _, _, _]) rfl rfl rfl ⟨by omega, by omega⟩ rfl ?_
            refine bw_goto rfl ?_
            refine bw_forget (ls2 := [some (vr (some 567)), some (vi l), some (vi _), none]) ⟨rfl, rfl, rfl, trivial⟩ ?_
            refine ih7 _ _ k1 ?_ (by omega) (by omega)
            rcases k2 with q | q
            · exact Or.inl ⟨q.1, fun c q2 h1 h2 => by have := q.2 c q2 h1 h2; have := h2.2.1; omega⟩
            · exact Or.inr q
          · skip
            refine bw_aload rfl rfl ?_
            refine bw_getI rfl rfl ?_
            try simp only [e568, e569, eR]
            refine bw_push rfl ?_
            refine bw_icne rfl (fun c42 => ?_) (fun c42 => ?_)
            · skip
              refine bw_iinc (ls2 := [_, _, _, _]) rfl rfl rfl ⟨by omega, by omega⟩ rfl ?_
              refine bw_goto rfl ?_
              refine bw_forget (ls2 := [some (vr (some 567)), some (vi l), some (vi _), none]) ⟨rfl, rfl, rfl, trivial⟩ ?_
              refine ih7 _ _ k1 ?_ (by omega) (by omega)
              rcases k2 with q | q
              · exact Or.inl ⟨q.1, fun c q2 h1 h2 => by have := q.2 c q2 h1 h2; have := h2.2.1; omega⟩
              · exact Or.inr q
            · skip
              refine bw_aload rfl rfl ?_
              refine bw_iload rfl rfl ?_
              refine bw_iload rfl rfl ?_
              refine bw_iload rfl rfl ?_
              refine bw_callVj (e := d - 1) (as := [_, _, _]) rfl (by omega) rfl rfl (Nat.le_of_ble_eq_true rfl) (Nat.le_of_ble_eq_true rfl) rfl (m_isCycle hR hB (by omega) (by rw [e568]; omega) (by omega)) (fun r49 hr49 => ?_)
              rw [e568, eR] at hr49
              refine bw_ifne rfl (fun c52 => ?_) (fun c52 => ?_)
              · skip
                refine bw_aload rfl rfl ?_
                refine bw_iload rfl rfl ?_
                refine bw_putI rfl rfl ?_
                refine bw_aload rfl rfl ?_
                refine bw_iload rfl rfl ?_
                refine bw_putI rfl rfl ?_
                refine bw_iinc (ls2 := [_, _, _, _]) rfl rfl rfl ⟨by omega, by omega⟩ rfl ?_
                refine bw_goto rfl ?_
                first
                | (refine ih _ _ k1 ?_ k3 (by omega) (by omega)
                   rcases k2 with q | q
                   · exact Or.inl ⟨q.1, fun c q2 h1 h2 => by
                       have := q.2 c q2 h1 h2
                       by_cases e : b = c ∧ p = q2
                       · exact absurd h2 (by rw [← e.1, ← e.2]; exact hr49.elim (fun z => absurd z.2 (by omega)) (fun z => z.1))
                       · omega⟩
                   · exact Or.inr q)
                | (refine ih _ _ ((k1.sI7 21 _ (Or.inl rfl)).sI7 22 _ (Or.inr rfl)) (Or.inr ?_) k3 (by omega) (by omega)
                   rw [gI_sI_eq, gI_sI_nj (by decide), gI_sI_eq]
                   rcases k2 with q | q
                   · exact ⟨by omega, ⟨by omega, hr49.elim (fun z => z.1) (fun z => absurd z.2 (by omega))⟩, q.2⟩
                   · exact absurd q.1 (by omega))
              · skip
                refine bw_goto rfl ?_
                refine bw_iinc (ls2 := [_, _, _, _]) rfl rfl rfl ⟨by omega, by omega⟩ rfl ?_
                refine bw_goto rfl ?_
                first
                | (refine ih _ _ k1 ?_ k3 (by omega) (by omega)
                   rcases k2 with q | q
                   · exact Or.inl ⟨q.1, fun c q2 h1 h2 => by
                       have := q.2 c q2 h1 h2
                       by_cases e : b = c ∧ p = q2
                       · exact absurd h2 (by rw [← e.1, ← e.2]; exact hr49.elim (fun z => absurd z.2 (by omega)) (fun z => z.1))
                       · omega⟩
                   · exact Or.inr q)
                | (refine ih _ _ ((k1.sI7 21 _ (Or.inl rfl)).sI7 22 _ (Or.inr rfl)) (Or.inr ?_) k3 (by omega) (by omega)
                   rw [gI_sI_eq, gI_sI_nj (by decide), gI_sI_eq]
                   rcases k2 with q | q
                   · exact ⟨by omega, ⟨by omega, hr49.elim (fun z => z.1) (fun z => absurd z.2 (by omega))⟩, q.2⟩
                   · exact absurd q.1 (by omega))
      refine bw_iload rfl rfl ?_
      refine bw_aload rfl rfl ?_
      refine bw_callVe (e := d - 1) (as := []) rfl (by omega) rfl rfl (Nat.le_of_ble_eq_true rfl) (Nat.le_of_ble_eq_true rfl) rfl (m_frames hR) ?_
      try simp only [e568, e569, eR]
      refine bw_icge rfl (fun c12 => ?_) (fun c12 => ?_)
      · skip
        refine bw_retv rfl rfl ?_
        refine ⟨rfl, rfl, g1, ?_⟩
        rcases g2 with q | q
        · exact Or.inl ⟨q.1, fun c q2 h1 h2 => by have := q.2 c q2 h1 h2; have := h2.2.1; omega⟩
        · exact Or.inr q
      · skip
        refine bw_aload rfl rfl ?_
        refine bw_getI rfl rfl ?_
        try simp only [e568, e569, eR]
        refine bw_push rfl ?_
        refine bw_icne rfl (fun c20 => ?_) (fun c20 => ?_)
        · skip
          refine bw_retv rfl rfl ?_
          refine ⟨rfl, rfl, g1, ?_⟩
          rcases g2 with q | q
          · exact Or.inl ⟨q.1, fun c q2 h1 h2 => by have := q.2 c q2 h1 h2; have := h2.2.1; omega⟩
          · exact Or.inr q
        · skip
          refine bw_push rfl ?_
          refine bw_istore (ls2 := [_, _, _, _]) rfl rfl (Nat.le_of_ble_eq_true rfl) rfl ?_
          exact L25 ((gI M 568 0 + 1).toNat + 1) N 1 g1 g2 (by omega) (by omega) (by omega)
  show abW d (0, 0) 213 0 [some (vr (some 567)), some (vi l), none, none] [] (0, 0) (A0 L) M (qV (A0 L) (fun N => s5 pNo q21 M N ∧ (gI N 567 21 = -1 ∧ noC (mR M 0 l) (gI M 568 0) ∨ gI N 567 21 ≠ -1 ∧ isC1 (mR M 0 l) (gI M 568 0) (gI N 567 21) (gI N 567 22))))
  refine bw_aload rfl rfl ?_
  refine bw_push rfl ?_
  refine bw_putI rfl rfl ?_
  refine bw_push rfl ?_
  refine bw_istore (ls2 := [_, _, _, _]) rfl rfl (Nat.le_of_ble_eq_true rfl) rfl ?_
  exact L7 ((gI M 568 0).toNat + 1) (sI M 567 21 (-1)) 0 ((s5_refl _ _ _).sI7 21 _ (Or.inl rfl)) (Or.inl ⟨by rw [gI_sI_eq], fun c q h1 h2 => by have := h2.1; omega⟩) (by omega) (by omega)
set_option maxRecDepth 20000 in
set_option maxHeartbeats 4000000 in
theorem m_closesCycle {d L : Nat} {M : abMem} {r : abRf} (hR : RF r M) {l : Int} (hB : RB M) (h2 : 0 ≤ l ∧ l ≤ 5) (hb : 0 ≤ gI M 567 21 ∧ 1 ≤ gI M 567 22 ∧ gI M 567 21 + gI M 567 22 ≤ 96) (hd : 1 ≤ d) : abW d (0, 0) 215 0 (abEnt (abL 215) [vr (some 567), vi l]) [] (0, 0) (A0 L) M (qE (some (vi (clo (mR M 0 l) (gI M 567 21) (gI M 567 22)))) (A0 L) M) := by
  show abW d (0, 0) 215 0 [some (vr (some 567)), some (vi l), none, none] [] (0, 0) (A0 L) M (qE (some (vi (clo (mR M 0 l) (gI M 567 21) (gI M 567 22)))) (A0 L) M)
  have v8 := hB.mR (i := 0) (l := l) (f := gI M 567 21) (by omega) (by omega)
  have v9 := hB.mR (i := 0) (l := l) (f := gI M 567 21 + gI M 567 22 - 1) (by omega) (by omega)
  refine bw_aload rfl rfl ?_
  refine bw_push rfl ?_
  refine bw_iload rfl rfl ?_
  refine bw_aload rfl rfl ?_
  refine bw_getI rfl rfl ?_
  refine bw_callVe (e := d - 1) (as := [_, _, _]) rfl (by omega) rfl rfl (Nat.le_of_ble_eq_true rfl) (Nat.le_of_ble_eq_true rfl) rfl (m_has hR (by omega) (by omega) (by omega)) ?_
  refine bw_istore (ls2 := [_, _, _, _]) rfl rfl (Nat.le_of_ble_eq_true rfl) rfl ?_
  refine bw_aload rfl rfl ?_
  refine bw_push rfl ?_
  refine bw_iload rfl rfl ?_
  refine bw_aload rfl rfl ?_
  refine bw_getI rfl rfl ?_
  refine bw_aload rfl rfl ?_
  refine bw_getI rfl rfl ?_
  refine bw_iadd rfl ⟨by omega, by omega⟩ ?_
  refine bw_push rfl ?_
  refine bw_isub rfl ⟨by omega, by omega⟩ ?_
  refine bw_callVe (e := d - 1) (as := [_, _, _]) rfl (by omega) rfl rfl (Nat.le_of_ble_eq_true rfl) (Nat.le_of_ble_eq_true rfl) rfl (m_has hR (by omega) (by omega) (by omega)) ?_
  refine bw_istore (ls2 := [_, _, _, _]) rfl rfl (Nat.le_of_ble_eq_true rfl) rfl ?_
  refine bw_iload rfl rfl ?_
  refine bw_ifeq rfl (fun c30 => ?_) (fun c30 => ?_)
  · skip
    refine bw_push rfl ?_
    refine bw_retz rfl rfl (by omega) ?_
    have a1 := ab1_c (mR M 0 l (gI M 567 21) - mR M 0 l (gI M 567 21 + gI M 567 22 - 1))
    refine ⟨?_, rfl, rfl⟩
    unfold clo
    first
    | rw [if_pos ⟨by omega, by omega, by omega⟩]
    | rw [if_neg (fun hh => by omega)]
  · skip
    refine bw_iload rfl rfl ?_
    refine bw_ifne rfl (fun c34 => ?_) (fun c34 => ?_)
    · skip
      refine bw_iload rfl rfl ?_
      refine bw_iload rfl rfl ?_
      refine bw_isub rfl ⟨by omega, by omega⟩ ?_
      refine bw_callSe (e := d - 1) (as := [_]) rfl (by omega) rfl rfl (Nat.le_of_ble_eq_true rfl) (Nat.le_of_ble_eq_true rfl) (m_bare hR (by omega)) ?_
      refine bw_push rfl ?_
      refine bw_icgt rfl (fun c46 => ?_) (fun c46 => ?_)
      · skip
        refine bw_push rfl ?_
        refine bw_retz rfl rfl (by omega) ?_
        have a1 := ab1_c (mR M 0 l (gI M 567 21) - mR M 0 l (gI M 567 21 + gI M 567 22 - 1))
        refine ⟨?_, rfl, rfl⟩
        unfold clo
        first
        | rw [if_pos ⟨by omega, by omega, by omega⟩]
        | rw [if_neg (fun hh => by omega)]
      · skip
        refine bw_push rfl ?_
        refine bw_goto rfl ?_
        refine bw_retz rfl rfl (by omega) ?_
        have a1 := ab1_c (mR M 0 l (gI M 567 21) - mR M 0 l (gI M 567 21 + gI M 567 22 - 1))
        refine ⟨?_, rfl, rfl⟩
        unfold clo
        first
        | rw [if_pos ⟨by omega, by omega, by omega⟩]
        | rw [if_neg (fun hh => by omega)]
    · skip
      refine bw_push rfl ?_
      refine bw_retz rfl rfl (by omega) ?_
      have a1 := ab1_c (mR M 0 l (gI M 567 21) - mR M 0 l (gI M 567 21 + gI M 567 22 - 1))
      refine ⟨?_, rfl, rfl⟩
      unfold clo
      first
      | rw [if_pos ⟨by omega, by omega, by omega⟩]
      | rw [if_neg (fun hh => by omega)]
/-- what cycle answers -/
def cyV (f : Int → Int) (n w x : Int) : Prop := (noC f n ∧ x = -1) ∨ ∃ b p : Int, isC1 f n b p ∧ (w = 0 ∧ x = b ∨ w = 1 ∧ x = p ∨ w = 2 ∧ x = (n - b) / p ∨ w = 3 ∧ x = clo f b p)
theorem cyV_eq {f : Int → Int} {n w x y : Int} (h : cyV f n w x) (k : cyV f n w y) : x = y := by
  rcases h with ⟨h1, h2⟩ | ⟨b, p, h1, h2⟩ <;> rcases k with ⟨k1, k2⟩ | ⟨c, q, k1, k2⟩
  · omega
  · exact absurd k1.1.2 (h1 _ _ k1.1.1)
  · exact absurd h1.1.2 (k1 _ _ h1.1.1)
  · obtain ⟨rfl, rfl⟩ := isC1_eq h1 k1
    omega
set_option maxRecDepth 20000 in
set_option maxHeartbeats 4000000 in
theorem m_cycle {d L : Nat} {M : abMem} {r : abRf} (hR : RF r M) {l w : Int} (hB : RB M) (hd : 3 ≤ d) : abW d (0, 0) 214 0 (abEnt (abL 214) [vr (some 567), vi l, vi w]) [] (0, 0) (A0 L) M (qI (A0 L) (fun x N => s5 pNo q21 M N ∧ (((0 ≤ l ∧ l < gI M 568 1) ∧ 0 ≤ w ∧ w ≤ 3) ∧ cyV (mR M 0 l) (gI M 568 0) w x ∨ ¬ ((0 ≤ l ∧ l < gI M 568 1) ∧ 0 ≤ w ∧ w ≤ 3) ∧ x = -1))) := by
  have b1 := hB.fr
  have b2 := hB.la
  show abW d (0, 0) 214 0 [some (vr (some 567)), some (vi l), some (vi w)] [] (0, 0) (A0 L) M (qI (A0 L) (fun x N => s5 pNo q21 M N ∧ (((0 ≤ l ∧ l < gI M 568 1) ∧ 0 ≤ w ∧ w ≤ 3) ∧ cyV (mR M 0 l) (gI M 568 0) w x ∨ ¬ ((0 ≤ l ∧ l < gI M 568 1) ∧ 0 ≤ w ∧ w ≤ 3) ∧ x = -1)))
  refine bw_aload rfl rfl ?_
  refine bw_iload rfl rfl ?_
  refine bw_callVj (e := d - 1) (as := [_]) rfl (by omega) rfl rfl (Nat.le_of_ble_eq_true rfl) (Nat.le_of_ble_eq_true rfl) rfl (m_isLayer hR hB (by omega)) (fun r2 hr2 => ?_)
  try simp only [e568, e569, eR]
  refine bw_ifeq rfl (fun c5 => ?_) (fun c5 => ?_)
  · skip
    refine bw_push rfl ?_
    refine bw_ret rfl rfl ?_
    exact ⟨rfl, _, rfl, s5_refl _ _ _, Or.inr ⟨by omega, rfl⟩⟩
  · skip
    refine bw_iload rfl rfl ?_
    refine bw_push rfl ?_
    refine bw_push rfl ?_
    refine bw_callSj (e := d - 1) (as := [_, _, _]) rfl (by omega) rfl rfl (Nat.le_of_ble_eq_true rfl) (Nat.le_of_ble_eq_true rfl) (m_isIn hR) (fun r11 hr11 => ?_)
    try simp only [e568, e569, eR]
    refine bw_ifne rfl (fun c14 => ?_) (fun c14 => ?_)
    · skip
      refine bw_aload rfl rfl ?_
      refine bw_iload rfl rfl ?_
      refine bw_callVv (e := d - 1) (as := [_]) rfl (by omega) rfl rfl (Nat.le_of_ble_eq_true rfl) (Nat.le_of_ble_eq_true rfl) rfl (m_findsCycle hR hB (by omega) (by omega)) (fun M21 hM21 => ?_)
      obtain ⟨u21, v21⟩ := hM21
      have hR := u21.RF hR
      have hB0 := hB
      have hB := u21.RB id id hB
      have e568 := u21.at 568 id (by decide)
      have e569 := u21.at 569 id (by decide)
      have eR : ∀ i l : Int, mR M21 i l = mR M i l := u21.mR id
      refine bw_aload rfl rfl ?_
      refine bw_getI rfl rfl ?_
      try simp only [e568, e569, eR]
      refine bw_push rfl ?_
      refine bw_icne rfl (fun c29 => ?_) (fun c29 => ?_)
      · skip
        have hc := v21.resolve_left (fun q => absurd q.1 (by omega))
        have hz := hc.2.1.2.1
        have hy := hc.2.1.2.2.1
        have hx := hc.2.1.1
        refine bw_iload rfl rfl ?_
        by_cases s35_0 : w = 0
        · refine bw_switch (t := 60) rfl (by rw [s35_0]; rfl) ?_
          refine bw_aload rfl rfl ?_
          refine bw_getI rfl rfl ?_
          try simp only [e568, e569, eR]
          refine bw_ret rfl rfl ?_
          exact ⟨rfl, _, rfl, u21, Or.inl ⟨by omega, Or.inr ⟨_, _, hc.2, Or.inl ⟨by omega, rfl⟩⟩⟩⟩
        · skip
          by_cases s35_1 : w = 1
          · refine bw_switch (t := 65) rfl (by rw [s35_1]; rfl) ?_
            refine bw_aload rfl rfl ?_
            refine bw_getI rfl rfl ?_
            try simp only [e568, e569, eR]
            refine bw_ret rfl rfl ?_
            exact ⟨rfl, _, rfl, u21, Or.inl ⟨by omega, Or.inr ⟨_, _, hc.2, Or.inr (Or.inl ⟨by omega, rfl⟩)⟩⟩⟩
          · skip
            by_cases s35_2 : w = 2
            · refine bw_switch (t := 70) rfl (by rw [s35_2]; rfl) ?_
              refine bw_aload rfl rfl ?_
              refine bw_callVe (e := d - 1) (as := []) rfl (by omega) rfl rfl (Nat.le_of_ble_eq_true rfl) (Nat.le_of_ble_eq_true rfl) rfl (m_frames hR) ?_
              try simp only [e568, e569, eR]
              refine bw_aload rfl rfl ?_
              refine bw_getI rfl rfl ?_
              try simp only [e568, e569, eR]
              refine bw_isub rfl ⟨by omega, by omega⟩ ?_
              refine bw_aload rfl rfl ?_
              refine bw_getI rfl rfl ?_
              try simp only [e568, e569, eR]
              refine bw_idiv rfl (by omega) (by omega) ?_
              refine bw_ret rfl rfl ?_
              exact ⟨rfl, _, rfl, u21, Or.inl ⟨by omega, Or.inr ⟨_, _, hc.2, Or.inr (Or.inr (Or.inl ⟨by omega, rfl⟩))⟩⟩⟩
            · skip
              refine bw_switch (t := 85) rfl (by show (if (w) < (0 : Int) ∨ (2 : Int) < (w) then _ else _) = _; rw [if_pos (by omega)]; rfl) ?_
              refine bw_aload rfl rfl ?_
              refine bw_iload rfl rfl ?_
              refine bw_callVe (e := d - 1) (as := [_]) rfl (by omega) rfl rfl (Nat.le_of_ble_eq_true rfl) (Nat.le_of_ble_eq_true rfl) rfl (m_closesCycle hR hB (by omega) (by omega) (by omega)) ?_
              rw [eR]
              refine bw_ifeq rfl (fun c90 => ?_) (fun c90 => ?_)
              · skip
                refine bw_push rfl ?_
                refine bw_ret rfl rfl ?_
                refine ⟨rfl, _, rfl, u21, Or.inl ⟨by omega, Or.inr ⟨_, _, hc.2, Or.inr (Or.inr (Or.inr ⟨by omega, ?_⟩))⟩⟩⟩
                unfold clo at c90 ⊢
                split at c90
                · first
                  | rfl
                  | omega
                · first
                  | rfl
                  | omega
              · skip
                refine bw_push rfl ?_
                refine bw_goto rfl ?_
                refine bw_ret rfl rfl ?_
                refine ⟨rfl, _, rfl, u21, Or.inl ⟨by omega, Or.inr ⟨_, _, hc.2, Or.inr (Or.inr (Or.inr ⟨by omega, ?_⟩))⟩⟩⟩
                unfold clo at c90 ⊢
                split at c90
                · first
                  | rfl
                  | omega
                · first
                  | rfl
                  | omega
      · skip
        refine bw_push rfl ?_
        refine bw_ret rfl rfl ?_
        exact ⟨rfl, _, rfl, u21, Or.inl ⟨by omega, Or.inl (v21.elim (fun q => ⟨q.2, rfl⟩) (fun q => absurd q.1 (by omega)))⟩⟩
    · skip
      refine bw_push rfl ?_
      refine bw_ret rfl rfl ?_
      exact ⟨rfl, _, rfl, s5_refl _ _ _, Or.inr ⟨by omega, rfl⟩⟩
