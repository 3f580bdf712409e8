theorem isFst_eq {f : Int → Int} {e a b : Int} (h : isFst f e a) (k : isFst f e b) : a = b := by
  obtain ⟨h1, h2, h3, h4⟩ := h
  obtain ⟨k1, k2, k3, k4⟩ := k
  by_cases q : a < b
  · have := h3 (b - 1) (by omega) (by omega)
    rcases k4 with k | k
    · omega
    · exact absurd this k
  · by_cases q2 : b < a
    · have := k3 (a - 1) (by omega) (by omega)
      rcases h4 with k | k
      · omega
      · exact absurd this k
    · omega
theorem isStp_eq {f : Int → Int} {e n a b : Int} (h : isStp f e n a) (k : isStp f e n b) : a = b := by
  obtain ⟨h1, h2, h3, h4⟩ := h
  obtain ⟨k1, k2, k3, k4⟩ := k
  by_cases q : a < b
  · have := k3 a (by omega) (by omega)
    rcases h4 with k | k
    · omega
    · exact absurd this k
  · by_cases q2 : b < a
    · have := h3 b (by omega) (by omega)
      rcases k4 with k | k
      · omega
      · exact absurd this k
    · omega
/-- where l stands first among six -/
def plc (g : Int → Int) (l : Int) : Int := if g 0 = l then 0 else if g 1 = l then 1 else if g 2 = l then 2 else if g 3 = l then 3 else if g 4 = l then 4 else if g 5 = l then 5 else -1
theorem plc_of {g : Int → Int} {l p : Int} (h1 : 0 ≤ p ∧ p ≤ 5) (h2 : g p = l) (h3 : ∀ j : Int, 0 ≤ j → j < p → g j ≠ l) : plc g l = p := by
  unfold plc
  have hp : p = 0 ∨ p = 1 ∨ p = 2 ∨ p = 3 ∨ p = 4 ∨ p = 5 := by omega
  rcases hp with rfl | rfl | rfl | rfl | rfl | rfl
  · rw [if_pos h2]
  · rw [if_neg (h3 0 (by omega) (by omega)), if_pos h2]
  · rw [if_neg (h3 0 (by omega) (by omega)), if_neg (h3 1 (by omega) (by omega)), if_pos h2]
  · rw [if_neg (h3 0 (by omega) (by omega)), if_neg (h3 1 (by omega) (by omega)), if_neg (h3 2 (by omega) (by omega)), if_pos h2]
  · rw [if_neg (h3 0 (by omega) (by omega)), if_neg (h3 1 (by omega) (by omega)), if_neg (h3 2 (by omega) (by omega)), if_neg (h3 3 (by omega) (by omega)), if_pos h2]
  · rw [if_neg (h3 0 (by omega) (by omega)), if_neg (h3 1 (by omega) (by omega)), if_neg (h3 2 (by omega) (by omega)), if_neg (h3 3 (by omega) (by omega)), if_neg (h3 4 (by omega) (by omega)), if_pos h2]
theorem plc_no {g : Int → Int} {l : Int} (h3 : ∀ j : Int, 0 ≤ j → j < 6 → g j ≠ l) : plc g l = -1 := by
  unfold plc
  rw [if_neg (h3 0 (by omega) (by omega)), if_neg (h3 1 (by omega) (by omega)), if_neg (h3 2 (by omega) (by omega)), if_neg (h3 3 (by omega) (by omega)), if_neg (h3 4 (by omega) (by omega)), if_neg (h3 5 (by omega) (by omega))]
set_option maxRecDepth 20000 in
set_option maxHeartbeats 4000000 in
theorem m_placeOf {d L : Nat} {M : abMem} {r : abRf} (hR : RF r M) {l : Int} (hp : ∃ p : Int, 0 ≤ p ∧ p ≤ 5 ∧ gI M 569 (576 + p) = l) : abW d (0, 0) 196 0 (abEnt (abL 196) [vr (some 567), vi l]) [] (0, 0) (A0 L) M (qE (some (vi (plc (fun p => gI M 569 (576 + p)) l))) (A0 L) M) := by
  obtain ⟨q, hq1, hq2, hq3⟩ := hp
  have L2 : ∀ (kf : Nat) (p : Int), (0 ≤ p ∧ p ≤ q) → (∀ j : Int, 0 ≤ j → j < p → gI M 569 (576 + j) ≠ l) → ((q - p).toNat) < kf → abW d (0, 0) 196 2 [some (vr (some 567)), some (vi l), some (vi p)] [] (0, 0) (A0 L) (M) (qE (some (vi (plc (fun p => gI M 569 (576 + p)) l))) (A0 L) M) := by
    intro kf
    induction kf with
    | zero => intro p  g1 g2 hm9; exact absurd hm9 (Nat.not_lt_zero _)
    | succ kf ih2 =>
      intro p  g1 g2 hm2
      have ih := ih2
      refine bw_aload rfl rfl ?_
      refine bw_getr rfl rfl (hR _ _) ?_
      refine bw_push rfl ?_
      refine bw_iload rfl rfl ?_
      refine bw_iadd rfl ⟨by omega, by omega⟩ ?_
      refine bw_aldi rfl (by first | rfl | assumption) (by omega) (by omega) ?_
      refine bw_iload rfl rfl ?_
      refine bw_iceq rfl (fun c13 => ?_) (fun c13 => ?_)
      · skip
        refine bw_iload rfl rfl ?_
        refine bw_ret rfl rfl ?_
        exact ⟨congrArg (fun x => some (vi x)) (plc_of (g := fun p => gI M 569 (576 + p)) (by omega) (by assumption) g2).symm, rfl, rfl⟩
      · skip
        refine bw_iinc (ls2 := [_, _, _]) rfl rfl rfl ⟨by omega, by omega⟩ rfl ?_
        refine bw_goto rfl ?_
        have hq4 : p ≠ q := fun h => by rw [h] at c13; exact c13 hq3
        refine ih _ (by omega) (fun j h1 h2 => ?_) (by omega)
        by_cases q : j = p
        · rw [q]; assumption
        · exact g2 j h1 (by omega)
  show abW d (0, 0) 196 0 [some (vr (some 567)), some (vi l), none] [] (0, 0) (A0 L) M (qE (some (vi (plc (fun p => gI M 569 (576 + p)) l))) (A0 L) M)
  refine bw_push rfl ?_
  refine bw_istore (ls2 := [_, _, _]) rfl rfl (Nat.le_of_ble_eq_true rfl) rfl ?_
  exact L2 (q.toNat + 1) 0 (by omega) (fun j h1 h2 => by omega) (by omega)
set_option maxRecDepth 20000 in
set_option maxHeartbeats 4000000 in
theorem m_at {d L : Nat} {M : abMem} {r : abRf} (hR : RF r M) (hB : RB M) {l f : Int} (hd : 2 ≤ d) : abW d (0, 0) 207 0 (abEnt (abL 207) [vr (some 567), vi l, vi f]) [] (0, 0) (A0 L) M (qE (some (vi (if 0 ≤ l ∧ l < gI M 568 1 ∧ 0 ≤ f ∧ f < gI M 568 0 then mR M 0 l f else -1))) (A0 L) M) := by
  have b1 := hB.fr
  have b2 := hB.la
  show abW d (0, 0) 207 0 [some (vr (some 567)), some (vi l), some (vi f)] [] (0, 0) (A0 L) M (qE (some (vi (if 0 ≤ l ∧ l < gI M 568 1 ∧ 0 ≤ f ∧ f < gI M 568 0 then mR M 0 l f else -1))) (A0 L) M)
  refine bw_aload rfl rfl ?_
  refine bw_iload rfl rfl ?_
  refine bw_callVj (e := d - 1) (as := [_]) rfl (by omega) rfl rfl (Nat.le_of_ble_eq_true rfl) (Nat.le_of_ble_eq_true rfl) rfl (m_isLayer hR hB (by omega)) (fun r2 hr2 => ?_)
  refine bw_ifeq rfl (fun c5 => ?_) (fun c5 => ?_)
  · skip
    refine bw_push rfl ?_
    refine bw_ret rfl rfl ?_
    exact ⟨congrArg (fun x => some (vi x)) (by first | rfl | ((repeat (first | rw [if_pos (by omega)] | rw [if_neg (by omega)])) <;> first | rfl | omega)), rfl, rfl⟩
  · skip
    refine bw_aload rfl rfl ?_
    refine bw_iload rfl rfl ?_
    refine bw_callVj (e := d - 1) (as := [_]) rfl (by omega) rfl rfl (Nat.le_of_ble_eq_true rfl) (Nat.le_of_ble_eq_true rfl) rfl (m_isFrame hR hB (by omega)) (fun r10 hr10 => ?_)
    refine bw_ifeq rfl (fun c13 => ?_) (fun c13 => ?_)
    · skip
      refine bw_push rfl ?_
      refine bw_ret rfl rfl ?_
      exact ⟨congrArg (fun x => some (vi x)) (by first | rfl | ((repeat (first | rw [if_pos (by omega)] | rw [if_neg (by omega)])) <;> first | rfl | omega)), rfl, rfl⟩
    · skip
      refine bw_aload rfl rfl ?_
      refine bw_push rfl ?_
      refine bw_iload rfl rfl ?_
      refine bw_iload rfl rfl ?_
      refine bw_callVe (e := d - 1) (as := [_, _, _]) rfl (by omega) rfl rfl (Nat.le_of_ble_eq_true rfl) (Nat.le_of_ble_eq_true rfl) rfl (m_has hR (by omega) (by omega) (by omega)) ?_
      refine bw_goto rfl ?_
      refine bw_ret rfl rfl ?_
      exact ⟨congrArg (fun x => some (vi x)) (by first | rfl | ((repeat (first | rw [if_pos (by omega)] | rw [if_neg (by omega)])) <;> first | rfl | omega)), rfl, rfl⟩
set_option maxRecDepth 20000 in
set_option maxHeartbeats 4000000 in
theorem m_told {d L : Nat} {M : abMem} {r : abRf} (hR : RF r M) (hB : RB M) {l f : Int} (hd : 2 ≤ d) : abW d (0, 0) 208 0 (abEnt (abL 208) [vr (some 567), vi l, vi f]) [] (0, 0) (A0 L) M (qE (some (vi (if 0 ≤ l ∧ l < gI M 568 1 ∧ 0 ≤ f ∧ f < gI M 568 0 then gI M 568 (430 + 96 * l + f) else -1))) (A0 L) M) := by
  have b1 := hB.fr
  have b2 := hB.la
  show abW d (0, 0) 208 0 [some (vr (some 567)), some (vi l), some (vi f)] [] (0, 0) (A0 L) M (qE (some (vi (if 0 ≤ l ∧ l < gI M 568 1 ∧ 0 ≤ f ∧ f < gI M 568 0 then gI M 568 (430 + 96 * l + f) else -1))) (A0 L) M)
  refine bw_aload rfl rfl ?_
  refine bw_iload rfl rfl ?_
  refine bw_callVj (e := d - 1) (as := [_]) rfl (by omega) rfl rfl (Nat.le_of_ble_eq_true rfl) (Nat.le_of_ble_eq_true rfl) rfl (m_isLayer hR hB (by omega)) (fun r2 hr2 => ?_)
  refine bw_ifeq rfl (fun c5 => ?_) (fun c5 => ?_)
  · skip
    refine bw_push rfl ?_
    refine bw_ret rfl rfl ?_
    exact ⟨congrArg (fun x => some (vi x)) (by first | rfl | ((repeat (first | rw [if_pos (by omega)] | rw [if_neg (by omega)])) <;> first | rfl | omega)), rfl, rfl⟩
  · skip
    refine bw_aload rfl rfl ?_
    refine bw_iload rfl rfl ?_
    refine bw_callVj (e := d - 1) (as := [_]) rfl (by omega) rfl rfl (Nat.le_of_ble_eq_true rfl) (Nat.le_of_ble_eq_true rfl) rfl (m_isFrame hR hB (by omega)) (fun r10 hr10 => ?_)
    refine bw_ifeq rfl (fun c13 => ?_) (fun c13 => ?_)
    · skip
      refine bw_push rfl ?_
      refine bw_ret rfl rfl ?_
      exact ⟨congrArg (fun x => some (vi x)) (by first | rfl | ((repeat (first | rw [if_pos (by omega)] | rw [if_neg (by omega)])) <;> first | rfl | omega)), rfl, rfl⟩
    · skip
      refine bw_aload rfl rfl ?_
      refine bw_getr rfl rfl (hR _ _) ?_
      refine bw_push rfl ?_
      refine bw_push rfl ?_
      refine bw_iload rfl rfl ?_
      refine bw_imul rfl ⟨by omega, by omega⟩ ?_
      refine bw_iadd rfl ⟨by omega, by omega⟩ ?_
      refine bw_iload rfl rfl ?_
      refine bw_iadd rfl ⟨by omega, by omega⟩ ?_
      refine bw_aldi rfl (by first | rfl | assumption) (by omega) (by omega) ?_
      refine bw_goto rfl ?_
      refine bw_ret rfl rfl ?_
      exact ⟨congrArg (fun x => some (vi x)) (by first | rfl | ((repeat (first | rw [if_pos (by omega)] | rw [if_neg (by omega)])) <;> first | rfl | omega)), rfl, rfl⟩
set_option maxRecDepth 20000 in
set_option maxHeartbeats 4000000 in
theorem m_look {d L : Nat} {M : abMem} {r : abRf} (hR : RF r M) {w : Int} (hd : 1 ≤ d) : abW d (0, 0) 195 0 (abEnt (abL 195) [vr (some 567), vi w]) [] (0, 0) (A0 L) M (qE (some (vi (if w = 0 then gI M 568 0 else if w = 1 then gI M 568 1 else if w = 2 then gI M 568 2 else if w = 3 then gI M 568 3 else if w = 4 then gI M 568 4 else if w = 5 then gI M 567 3 else if w = 6 then gI M 567 5 else -1))) (A0 L) M) := by
  show abW d (0, 0) 195 0 [some (vr (some 567)), some (vi w)] [] (0, 0) (A0 L) M (qE (some (vi (if w = 0 then gI M 568 0 else if w = 1 then gI M 568 1 else if w = 2 then gI M 568 2 else if w = 3 then gI M 568 3 else if w = 4 then gI M 568 4 else if w = 5 then gI M 567 3 else if w = 6 then gI M 567 5 else -1))) (A0 L) M)
  refine bw_iload rfl rfl ?_
  by_cases s1_0 : w = 0
  · refine bw_switch (t := 44) rfl (by rw [s1_0]; rfl) ?_
    refine bw_aload rfl rfl ?_
    refine bw_callVe (e := d - 1) (as := []) rfl (by omega) rfl rfl (Nat.le_of_ble_eq_true rfl) (Nat.le_of_ble_eq_true rfl) rfl (m_frames hR) ?_
    refine bw_ret rfl rfl ?_
    exact ⟨congrArg (fun x => some (vi x)) (by first | rfl | ((repeat (first | rw [if_pos (by omega)] | rw [if_neg (by omega)])) <;> first | rfl | omega)), rfl, rfl⟩
  · skip
    by_cases s1_1 : w = 1
    · refine bw_switch (t := 49) rfl (by rw [s1_1]; rfl) ?_
      refine bw_aload rfl rfl ?_
      refine bw_callVe (e := d - 1) (as := []) rfl (by omega) rfl rfl (Nat.le_of_ble_eq_true rfl) (Nat.le_of_ble_eq_true rfl) rfl (m_layers hR) ?_
      refine bw_ret rfl rfl ?_
      exact ⟨congrArg (fun x => some (vi x)) (by first | rfl | ((repeat (first | rw [if_pos (by omega)] | rw [if_neg (by omega)])) <;> first | rfl | omega)), rfl, rfl⟩
    · skip
      by_cases s1_2 : w = 2
      · refine bw_switch (t := 54) rfl (by rw [s1_2]; rfl) ?_
        refine bw_aload rfl rfl ?_
        refine bw_getr rfl rfl (hR _ _) ?_
        refine bw_push rfl ?_
        refine bw_aldi rfl (by first | rfl | assumption) (by omega) (by omega) ?_
        refine bw_ret rfl rfl ?_
        exact ⟨congrArg (fun x => some (vi x)) (by first | rfl | ((repeat (first | rw [if_pos (by omega)] | rw [if_neg (by omega)])) <;> first | rfl | omega)), rfl, rfl⟩
      · skip
        by_cases s1_3 : w = 3
        · refine bw_switch (t := 61) rfl (by rw [s1_3]; rfl) ?_
          refine bw_aload rfl rfl ?_
          refine bw_getr rfl rfl (hR _ _) ?_
          refine bw_push rfl ?_
          refine bw_aldi rfl (by first | rfl | assumption) (by omega) (by omega) ?_
          refine bw_ret rfl rfl ?_
          exact ⟨congrArg (fun x => some (vi x)) (by first | rfl | ((repeat (first | rw [if_pos (by omega)] | rw [if_neg (by omega)])) <;> first | rfl | omega)), rfl, rfl⟩
        · skip
          by_cases s1_4 : w = 4
          · refine bw_switch (t := 68) rfl (by rw [s1_4]; rfl) ?_
            refine bw_aload rfl rfl ?_
            refine bw_getr rfl rfl (hR _ _) ?_
            refine bw_push rfl ?_
            refine bw_aldi rfl (by first | rfl | assumption) (by omega) (by omega) ?_
            refine bw_ret rfl rfl ?_
            exact ⟨congrArg (fun x => some (vi x)) (by first | rfl | ((repeat (first | rw [if_pos (by omega)] | rw [if_neg (by omega)])) <;> first | rfl | omega)), rfl, rfl⟩
          · skip
            by_cases s1_5 : w = 5
            · refine bw_switch (t := 75) rfl (by rw [s1_5]; rfl) ?_
              refine bw_aload rfl rfl ?_
              refine bw_getI rfl rfl ?_
              refine bw_ret rfl rfl ?_
              exact ⟨congrArg (fun x => some (vi x)) (by first | rfl | ((repeat (first | rw [if_pos (by omega)] | rw [if_neg (by omega)])) <;> first | rfl | omega)), rfl, rfl⟩
            · skip
              by_cases s1_6 : w = 6
              · refine bw_switch (t := 80) rfl (by rw [s1_6]; rfl) ?_
                refine bw_aload rfl rfl ?_
                refine bw_getI rfl rfl ?_
                refine bw_ret rfl rfl ?_
                exact ⟨congrArg (fun x => some (vi x)) (by first | rfl | ((repeat (first | rw [if_pos (by omega)] | rw [if_neg (by omega)])) <;> first | rfl | omega)), rfl, rfl⟩
              · skip
                refine bw_switch (t := 85) rfl (by show (if (w) < (0 : Int) ∨ (6 : Int) < (w) then _ else _) = _; rw [if_pos (by omega)]; rfl) ?_
                refine bw_push rfl ?_
                refine bw_ret rfl rfl ?_
                exact ⟨congrArg (fun x => some (vi x)) (by first | rfl | ((repeat (first | rw [if_pos (by omega)] | rw [if_neg (by omega)])) <;> first | rfl | omega)), rfl, rfl⟩
set_option maxRecDepth 20000 in
set_option maxHeartbeats 4000000 in
theorem m_layer {d L : Nat} {M : abMem} {r : abRf} (hR : RF r M) (hB : RB M) {l w : Int} (hp : 0 ≤ l → l < gI M 568 1 → ∃ p : Int, 0 ≤ p ∧ p ≤ 5 ∧ gI M 569 (576 + p) = l) (hd : 3 ≤ d) : abW d (0, 0) 204 0 (abEnt (abL 204) [vr (some 567), vi l, vi w]) [] (0, 0) (A0 L) M (qE (some (vi (if 0 ≤ l ∧ l < gI M 568 1 then (if w = 0 then gI M 568 (6 + l) else if w = 1 then plc (fun p => gI M 569 (576 + p)) l else if w = 2 then cN (pE (mR M 0 l)) (gI M 568 0).toNat else if w = 3 then cN (pU (mR M 0 l)) (gI M 568 0).toNat else if w = 4 then cN (pF (mR M 0 l)) (gI M 568 0).toNat else if w = 5 then cN (pJ (mR M 0 l)) (gI M 568 0).toNat else if w = 6 then mX (mR M 0 l) (gI M 568 0).toNat else -1) else -1))) (A0 L) M) := by
  have b1 := hB.fr
  have b2 := hB.la
  show abW d (0, 0) 204 0 [some (vr (some 567)), some (vi l), some (vi w)] [] (0, 0) (A0 L) M (qE (some (vi (if 0 ≤ l ∧ l < gI M 568 1 then (if w = 0 then gI M 568 (6 + l) else if w = 1 then plc (fun p => gI M 569 (576 + p)) l else if w = 2 then cN (pE (mR M 0 l)) (gI M 568 0).toNat else if w = 3 then cN (pU (mR M 0 l)) (gI M 568 0).toNat else if w = 4 then cN (pF (mR M 0 l)) (gI M 568 0).toNat else if w = 5 then cN (pJ (mR M 0 l)) (gI M 568 0).toNat else if w = 6 then mX (mR M 0 l) (gI M 568 0).toNat else -1) else -1))) (A0 L) M)
  refine bw_aload rfl rfl ?_
  refine bw_iload rfl rfl ?_
  refine bw_callVj (e := d - 1) (as := [_]) rfl (by omega) rfl rfl (Nat.le_of_ble_eq_true rfl) (Nat.le_of_ble_eq_true rfl) rfl (m_isLayer hR hB (by omega)) (fun r2 hr2 => ?_)
  refine bw_ifne rfl (fun c5 => ?_) (fun c5 => ?_)
  · skip
    refine bw_iload rfl rfl ?_
    by_cases s11_0 : w = 0
    · refine bw_switch (t := 52) rfl (by rw [s11_0]; rfl) ?_
      refine bw_aload rfl rfl ?_
      refine bw_getr rfl rfl (hR _ _) ?_
      refine bw_push rfl ?_
      refine bw_iload rfl rfl ?_
      refine bw_iadd rfl ⟨by omega, by omega⟩ ?_
      refine bw_aldi rfl (by first | rfl | assumption) (by omega) (by omega) ?_
      refine bw_ret rfl rfl ?_
      exact ⟨congrArg (fun x => some (vi x)) (by first | first | rfl | ((repeat (first | rw [if_pos (by omega)] | rw [if_neg (by omega)])) <;> first | rfl | omega) | (rw [pXE_1 (by decide)]; first | rfl | ((repeat (first | rw [if_pos (by omega)] | rw [if_neg (by omega)])) <;> first | rfl | omega))), rfl, rfl⟩
    · skip
      by_cases s11_1 : w = 1
      · refine bw_switch (t := 62) rfl (by rw [s11_1]; rfl) ?_
        refine bw_aload rfl rfl ?_
        refine bw_iload rfl rfl ?_
        refine bw_callVe (e := d - 1) (as := [_]) rfl (by omega) rfl rfl (Nat.le_of_ble_eq_true rfl) (Nat.le_of_ble_eq_true rfl) rfl (m_placeOf hR (by first | assumption | exact hp (by omega) (by omega))) ?_
        refine bw_ret rfl rfl ?_
        exact ⟨congrArg (fun x => some (vi x)) (by first | first | rfl | ((repeat (first | rw [if_pos (by omega)] | rw [if_neg (by omega)])) <;> first | rfl | omega) | (rw [pXE_1 (by decide)]; first | rfl | ((repeat (first | rw [if_pos (by omega)] | rw [if_neg (by omega)])) <;> first | rfl | omega))), rfl, rfl⟩
      · skip
        by_cases s11_2 : w = 2
        · refine bw_switch (t := 68) rfl (by rw [s11_2]; rfl) ?_
          refine bw_aload rfl rfl ?_
          refine bw_push rfl ?_
          refine bw_iload rfl rfl ?_
          refine bw_push rfl ?_
          refine bw_callVe (e := d - 1) (as := [_, _, _]) rfl (by omega) rfl rfl (Nat.le_of_ble_eq_true rfl) (Nat.le_of_ble_eq_true rfl) rfl (m_exposures hR hB (by omega) (by omega) (by omega)) ?_
          refine bw_ret rfl rfl ?_
          exact ⟨congrArg (fun x => some (vi x)) (by first | first | rfl | ((repeat (first | rw [if_pos (by omega)] | rw [if_neg (by omega)])) <;> first | rfl | omega) | (rw [pXE_1 (by decide)]; first | rfl | ((repeat (first | rw [if_pos (by omega)] | rw [if_neg (by omega)])) <;> first | rfl | omega))), rfl, rfl⟩
        · skip
          by_cases s11_3 : w = 3
          · refine bw_switch (t := 76) rfl (by rw [s11_3]; rfl) ?_
            refine bw_aload rfl rfl ?_
            refine bw_iload rfl rfl ?_
            refine bw_callVe (e := d - 1) (as := [_]) rfl (by omega) rfl rfl (Nat.le_of_ble_eq_true rfl) (Nat.le_of_ble_eq_true rfl) rfl (m_unlike hR hB (by omega) (by omega)) ?_
            refine bw_ret rfl rfl ?_
            exact ⟨congrArg (fun x => some (vi x)) (by first | first | rfl | ((repeat (first | rw [if_pos (by omega)] | rw [if_neg (by omega)])) <;> first | rfl | omega) | (rw [pXE_1 (by decide)]; first | rfl | ((repeat (first | rw [if_pos (by omega)] | rw [if_neg (by omega)])) <;> first | rfl | omega))), rfl, rfl⟩
          · skip
            by_cases s11_4 : w = 4
            · refine bw_switch (t := 82) rfl (by rw [s11_4]; rfl) ?_
              refine bw_aload rfl rfl ?_
              refine bw_iload rfl rfl ?_
              refine bw_callVe (e := d - 1) (as := [_]) rfl (by omega) rfl rfl (Nat.le_of_ble_eq_true rfl) (Nat.le_of_ble_eq_true rfl) rfl (m_filled hR hB (by omega) (by omega)) ?_
              refine bw_ret rfl rfl ?_
              exact ⟨congrArg (fun x => some (vi x)) (by first | first | rfl | ((repeat (first | rw [if_pos (by omega)] | rw [if_neg (by omega)])) <;> first | rfl | omega) | (rw [pXE_1 (by decide)]; first | rfl | ((repeat (first | rw [if_pos (by omega)] | rw [if_neg (by omega)])) <;> first | rfl | omega))), rfl, rfl⟩
            · skip
              by_cases s11_5 : w = 5
              · refine bw_switch (t := 88) rfl (by rw [s11_5]; rfl) ?_
                refine bw_aload rfl rfl ?_
                refine bw_iload rfl rfl ?_
                refine bw_callVe (e := d - 1) (as := [_]) rfl (by omega) rfl rfl (Nat.le_of_ble_eq_true rfl) (Nat.le_of_ble_eq_true rfl) rfl (m_jumps hR hB (by omega) (by omega)) ?_
                refine bw_ret rfl rfl ?_
                exact ⟨congrArg (fun x => some (vi x)) (by first | first | rfl | ((repeat (first | rw [if_pos (by omega)] | rw [if_neg (by omega)])) <;> first | rfl | omega) | (rw [pXE_1 (by decide)]; first | rfl | ((repeat (first | rw [if_pos (by omega)] | rw [if_neg (by omega)])) <;> first | rfl | omega))), rfl, rfl⟩
              · skip
                by_cases s11_6 : w = 6
                · refine bw_switch (t := 94) rfl (by rw [s11_6]; rfl) ?_
                  refine bw_aload rfl rfl ?_
                  refine bw_iload rfl rfl ?_
                  refine bw_callVe (e := d - 1) (as := [_]) rfl (by omega) rfl rfl (Nat.le_of_ble_eq_true rfl) (Nat.le_of_ble_eq_true rfl) rfl (m_greatest hR hB (by omega) (by omega)) ?_
                  refine bw_ret rfl rfl ?_
                  exact ⟨congrArg (fun x => some (vi x)) (by first | first | rfl | ((repeat (first | rw [if_pos (by omega)] | rw [if_neg (by omega)])) <;> first | rfl | omega) | (rw [pXE_1 (by decide)]; first | rfl | ((repeat (first | rw [if_pos (by omega)] | rw [if_neg (by omega)])) <;> first | rfl | omega))), rfl, rfl⟩
                · skip
                  refine bw_switch (t := 100) rfl (by show (if (w) < (0 : Int) ∨ (6 : Int) < (w) then _ else _) = _; rw [if_pos (by omega)]; rfl) ?_
                  refine bw_push rfl ?_
                  refine bw_ret rfl rfl ?_
                  exact ⟨congrArg (fun x => some (vi x)) (by first | first | rfl | ((repeat (first | rw [if_pos (by omega)] | rw [if_neg (by omega)])) <;> first | rfl | omega) | (rw [pXE_1 (by decide)]; first | rfl | ((repeat (first | rw [if_pos (by omega)] | rw [if_neg (by omega)])) <;> first | rfl | omega))), rfl, rfl⟩
  · skip
    refine bw_push rfl ?_
    refine bw_ret rfl rfl ?_
    exact ⟨congrArg (fun x => some (vi x)) (by first | first | rfl | ((repeat (first | rw [if_pos (by omega)] | rw [if_neg (by omega)])) <;> first | rfl | omega) | (rw [pXE_1 (by decide)]; first | rfl | ((repeat (first | rw [if_pos (by omega)] | rw [if_neg (by omega)])) <;> first | rfl | omega))), rfl, rfl⟩
set_option maxRecDepth 20000 in
set_option maxHeartbeats 4000000 in
theorem m_spelt {d L : Nat} {M : abMem} {r : abRf} (hR : RF r M) (hB : RB M) {l w : Int} (hw : In32 w) (hd : 2 ≤ d) : abW d (0, 0) 205 0 (abEnt (abL 205) [vr (some 567), vi l, vi w]) [] (0, 0) (A0 L) M (qE (some (vi (if 0 ≤ l ∧ l < gI M 568 1 then (if w = -1 then gI M 568 (12 + 7 * l) else if 0 ≤ w ∧ w < gI M 568 (12 + 7 * l) then gI M 568 (12 + 7 * l + 1 + w) else -1) else -1))) (A0 L) M) := by
  have b1 := hB.fr
  have b2 := hB.la
  show abW d (0, 0) 205 0 [some (vr (some 567)), some (vi l), some (vi w), none] [] (0, 0) (A0 L) M (qE (some (vi (if 0 ≤ l ∧ l < gI M 568 1 then (if w = -1 then gI M 568 (12 + 7 * l) else if 0 ≤ w ∧ w < gI M 568 (12 + 7 * l) then gI M 568 (12 + 7 * l + 1 + w) else -1) else -1))) (A0 L) M)
  refine bw_aload rfl rfl ?_
  refine bw_iload rfl rfl ?_
  refine bw_callVj (e := d - 1) (as := [_]) rfl (by omega) rfl rfl (Nat.le_of_ble_eq_true rfl) (Nat.le_of_ble_eq_true rfl) rfl (m_isLayer hR hB (by omega)) (fun r2 hr2 => ?_)
  refine bw_ifne rfl (fun c5 => ?_) (fun c5 => ?_)
  · skip
    have v9 := hB.sw.nm l (by omega) (by omega)
    refine bw_push rfl ?_
    refine bw_push rfl ?_
    refine bw_iload rfl rfl ?_
    refine bw_imul rfl ⟨by omega, by omega⟩ ?_
    refine bw_iadd rfl ⟨by omega, by omega⟩ ?_
    refine bw_istore (ls2 := [_, _, _, _]) rfl rfl (Nat.le_of_ble_eq_true rfl) rfl ?_
    refine bw_iload rfl rfl ?_
    refine bw_push rfl ?_
    refine bw_icne rfl (fun c20 => ?_) (fun c20 => ?_)
    · skip
      refine bw_iload rfl rfl ?_
      refine bw_push rfl ?_
      refine bw_aload rfl rfl ?_
      refine bw_getr rfl rfl (hR _ _) ?_
      refine bw_iload rfl rfl ?_
      refine bw_aldi rfl (by first | rfl | assumption) (by omega) (by omega) ?_
      refine bw_push rfl ?_
      refine bw_isub rfl ⟨by omega, by omega⟩ ?_
      refine bw_callSj (e := d - 1) (as := [_, _, _]) rfl (by omega) rfl rfl (Nat.le_of_ble_eq_true rfl) (Nat.le_of_ble_eq_true rfl) (m_isIn hR) (fun r42 hr42 => ?_)
      refine bw_ifeq rfl (fun c45 => ?_) (fun c45 => ?_)
      · skip
        refine bw_push rfl ?_
        refine bw_ret rfl rfl ?_
        exact ⟨congrArg (fun x => some (vi x)) (by first | rfl | ((repeat (first | rw [if_pos (by omega)] | rw [if_neg (by omega)])) <;> first | rfl | omega)), rfl, rfl⟩
      · skip
        refine bw_aload rfl rfl ?_
        refine bw_getr rfl rfl (hR _ _) ?_
        refine bw_iload rfl rfl ?_
        refine bw_push rfl ?_
        refine bw_iadd rfl ⟨by omega, by omega⟩ ?_
        refine bw_iload rfl rfl ?_
        refine bw_iadd rfl ⟨by omega, by omega⟩ ?_
        refine bw_aldi rfl (by first | rfl | assumption) (by omega) (by omega) ?_
        refine bw_goto rfl ?_
        refine bw_ret rfl rfl ?_
        exact ⟨congrArg (fun x => some (vi x)) (by first | rfl | ((repeat (first | rw [if_pos (by omega)] | rw [if_neg (by omega)])) <;> first | rfl | omega)), rfl, rfl⟩
    · skip
      refine bw_aload rfl rfl ?_
      refine bw_getr rfl rfl (hR _ _) ?_
      refine bw_iload rfl rfl ?_
      refine bw_aldi rfl (by first | rfl | assumption) (by omega) (by omega) ?_
      refine bw_goto rfl ?_
      refine bw_ret rfl rfl ?_
      exact ⟨congrArg (fun x => some (vi x)) (by first | rfl | ((repeat (first | rw [if_pos (by omega)] | rw [if_neg (by omega)])) <;> first | rfl | omega)), rfl, rfl⟩
  · skip
    refine bw_push rfl ?_
    refine bw_ret rfl rfl ?_
    exact ⟨congrArg (fun x => some (vi x)) (by first | rfl | ((repeat (first | rw [if_pos (by omega)] | rw [if_neg (by omega)])) <;> first | rfl | omega)), rfl, rfl⟩
set_option maxRecDepth 20000 in
set_option maxHeartbeats 4000000 in
theorem m_box {d L : Nat} {M : abMem} {r : abRf} (hR : RF r M) (hB : RB M) {k w : Int} (hd : 2 ≤ d) : abW d (0, 0) 206 0 (abEnt (abL 206) [vr (some 567), vi k, vi w]) [] (0, 0) (A0 L) M (qE (some (vi (if 0 ≤ k ∧ k < gI M 568 2 ∧ 0 ≤ w ∧ w < 7 then gI M 568 (54 + 7 * k + w) else -1))) (A0 L) M) := by
  have b1 := hB.fr
  have b2 := hB.la
  have b3 := hB.sw.bo
  show abW d (0, 0) 206 0 [some (vr (some 567)), some (vi k), some (vi w)] [] (0, 0) (A0 L) M (qE (some (vi (if 0 ≤ k ∧ k < gI M 568 2 ∧ 0 ≤ w ∧ w < 7 then gI M 568 (54 + 7 * k + w) else -1))) (A0 L) M)
  refine bw_iload rfl rfl ?_
  refine bw_push rfl ?_
  refine bw_aload rfl rfl ?_
  refine bw_getr rfl rfl (hR _ _) ?_
  refine bw_push rfl ?_
  refine bw_aldi rfl (by first | rfl | assumption) (by omega) (by omega) ?_
  refine bw_push rfl ?_
  refine bw_isub rfl ⟨by omega, by omega⟩ ?_
  refine bw_callSj (e := d - 1) (as := [_, _, _]) rfl (by omega) rfl rfl (Nat.le_of_ble_eq_true rfl) (Nat.le_of_ble_eq_true rfl) (m_isIn hR) (fun r10 hr10 => ?_)
  refine bw_ifeq rfl (fun c13 => ?_) (fun c13 => ?_)
  · skip
    refine bw_push rfl ?_
    refine bw_ret rfl rfl ?_
    exact ⟨congrArg (fun x => some (vi x)) (by first | rfl | ((repeat (first | rw [if_pos (by omega)] | rw [if_neg (by omega)])) <;> first | rfl | omega)), rfl, rfl⟩
  · skip
    refine bw_iload rfl rfl ?_
    refine bw_push rfl ?_
    refine bw_push rfl ?_
    refine bw_callSj (e := d - 1) (as := [_, _, _]) rfl (by omega) rfl rfl (Nat.le_of_ble_eq_true rfl) (Nat.le_of_ble_eq_true rfl) (m_isIn hR) (fun r20 hr20 => ?_)
    refine bw_ifeq rfl (fun c23 => ?_) (fun c23 => ?_)
    · skip
      refine bw_push rfl ?_
      refine bw_ret rfl rfl ?_
      exact ⟨congrArg (fun x => some (vi x)) (by first | rfl | ((repeat (first | rw [if_pos (by omega)] | rw [if_neg (by omega)])) <;> first | rfl | omega)), rfl, rfl⟩
    · skip
      refine bw_aload rfl rfl ?_
      refine bw_getr rfl rfl (hR _ _) ?_
      refine bw_push rfl ?_
      refine bw_push rfl ?_
      refine bw_iload rfl rfl ?_
      refine bw_imul rfl ⟨by omega, by omega⟩ ?_
      refine bw_iadd rfl ⟨by omega, by omega⟩ ?_
      refine bw_iload rfl rfl ?_
      refine bw_iadd rfl ⟨by omega, by omega⟩ ?_
      refine bw_aldi rfl (by first | rfl | assumption) (by omega) (by omega) ?_
      refine bw_goto rfl ?_
      refine bw_ret rfl rfl ?_
      exact ⟨congrArg (fun x => some (vi x)) (by first | rfl | ((repeat (first | rw [if_pos (by omega)] | rw [if_neg (by omega)])) <;> first | rfl | omega)), rfl, rfl⟩
/-- the frame of the k-th that has it, or none -/
def isFnd (f : Int → Int) (dr n k r : Int) : Prop := (r = -1 ∧ cN (fun j => decide (f j = dr)) n.toNat ≤ k) ∨ (0 ≤ r ∧ r < n ∧ f r = dr ∧ cN (fun j => decide (f j = dr)) r.toNat = k)
set_option maxRecDepth 20000 in
set_option maxHeartbeats 4000000 in
theorem m_find {d L : Nat} {M : abMem} {r : abRf} (hR : RF r M) (hB : RB M) {l dr k : Int} (hk : In32 k) (hd : 2 ≤ d) : abW d (0, 0) 211 0 (abEnt (abL 211) [vr (some 567), vi l, vi dr, vi k]) [] (0, 0) (A0 L) M (qJ (A0 L) M (fun x => (0 ≤ l ∧ l < gI M 568 1 ∧ 0 ≤ dr ∧ dr ≤ 99 ∧ 0 ≤ k) ∧ isFnd (mR M 0 l) dr (gI M 568 0) k x ∨ ¬ (0 ≤ l ∧ l < gI M 568 1 ∧ 0 ≤ dr ∧ dr ≤ 99 ∧ 0 ≤ k) ∧ x = -1)) := by
  have b1 := hB.fr
  have b2 := hB.la
  have L30 : ∀ (kf : Nat) (c f : Int), (k - c = cN (fun j => decide (mR M 0 l j = dr)) f.toNat) → (0 ≤ f ∧ f ≤ gI M 568 0) → (0 ≤ c ∧ c ≤ k) → (0 ≤ l ∧ l < gI M 568 1 ∧ 0 ≤ dr ∧ dr ≤ 99 ∧ 0 ≤ k) → ((gI M 568 0 - f).toNat) < kf → abW d (0, 0) 211 30 [some (vr (some 567)), some (vi l), some (vi dr), some (vi k), some (vi c), some (vi f)] [] (0, 0) (A0 L) (M) (qJ (A0 L) M (fun x => (0 ≤ l ∧ l < gI M 568 1 ∧ 0 ≤ dr ∧ dr ≤ 99 ∧ 0 ≤ k) ∧ isFnd (mR M 0 l) dr (gI M 568 0) k x ∨ ¬ (0 ≤ l ∧ l < gI M 568 1 ∧ 0 ≤ dr ∧ dr ≤ 99 ∧ 0 ≤ k) ∧ x = -1)) := by
    intro kf
    induction kf with
    | zero => intro c f  g1 g2 g3 g4 hm9; exact absurd hm9 (Nat.not_lt_zero _)
    | succ kf ih30 =>
      intro c f  g1 g2 g3 g4 hm30
      have ih := ih30
      have b9 := cN_in (fun j => decide (mR M 0 l j = dr)) f.toNat
      refine bw_iload rfl rfl ?_
      refine bw_aload rfl rfl ?_
      refine bw_callVe (e := d - 1) (as := []) rfl (by omega) rfl rfl (Nat.le_of_ble_eq_true rfl) (Nat.le_of_ble_eq_true rfl) rfl (m_frames hR) ?_
      refine bw_icge rfl (fun c36 => ?_) (fun c36 => ?_)
      · skip
        refine bw_push rfl ?_
        refine bw_ret rfl rfl ?_
        first
        | exact ⟨rfl, rfl, _, rfl, Or.inr ⟨by omega, rfl⟩⟩
        | exact ⟨rfl, rfl, _, rfl, Or.inl ⟨g4, Or.inr ⟨by omega, by omega, by assumption, by omega⟩⟩⟩
        | (obtain rfl : f = gI M 568 0 := by omega
           exact ⟨rfl, rfl, _, rfl, Or.inl ⟨g4, Or.inl ⟨rfl, by omega⟩⟩⟩)
      · skip
        refine bw_aload rfl rfl ?_
        refine bw_push rfl ?_
        refine bw_iload rfl rfl ?_
        refine bw_iload rfl rfl ?_
        refine bw_callVe (e := d - 1) (as := [_, _, _]) rfl (by omega) rfl rfl (Nat.le_of_ble_eq_true rfl) (Nat.le_of_ble_eq_true rfl) rfl (m_has hR (by omega) (by omega) (by omega)) ?_
        refine bw_iload rfl rfl ?_
        refine bw_iceq rfl (fun c48 => ?_) (fun c48 => ?_)
        · skip
          refine bw_iload rfl rfl ?_
          refine bw_ifne rfl (fun c56 => ?_) (fun c56 => ?_)
          · skip
            refine bw_iinc (ls2 := [_, _, _, _, _, _]) rfl rfl rfl ⟨by omega, by omega⟩ rfl ?_
            refine bw_iinc (ls2 := [_, _, _, _, _, _]) rfl rfl rfl ⟨by omega, by omega⟩ rfl ?_
            refine bw_goto rfl ?_
            first
            | exact ih _ _ (cN_f (by omega) g1 (decide_eq_false (by assumption))) (by omega) (by omega) g4 (by omega)
            | exact ih _ _ (by rw [cN_s _ (by omega), ← g1]; simp [*]; omega) (by omega) (by omega) g4 (by omega)
          · skip
            refine bw_iload rfl rfl ?_
            refine bw_ret rfl rfl ?_
            first
            | exact ⟨rfl, rfl, _, rfl, Or.inr ⟨by omega, rfl⟩⟩
            | exact ⟨rfl, rfl, _, rfl, Or.inl ⟨g4, Or.inr ⟨by omega, by omega, by assumption, by omega⟩⟩⟩
            | (obtain rfl : f = gI M 568 0 := by omega
               exact ⟨rfl, rfl, _, rfl, Or.inl ⟨g4, Or.inl ⟨rfl, by omega⟩⟩⟩)
        · skip
          refine bw_goto rfl ?_
          refine bw_iinc (ls2 := [_, _, _, _, _, _]) rfl rfl rfl ⟨by omega, by omega⟩ rfl ?_
          refine bw_goto rfl ?_
          first
          | exact ih _ _ (cN_f (by omega) g1 (decide_eq_false (by assumption))) (by omega) (by omega) g4 (by omega)
          | exact ih _ _ (by rw [cN_s _ (by omega), ← g1]; simp [*]; omega) (by omega) (by omega) g4 (by omega)
  show abW d (0, 0) 211 0 [some (vr (some 567)), some (vi l), some (vi dr), some (vi k), none, none] [] (0, 0) (A0 L) M (qJ (A0 L) M (fun x => (0 ≤ l ∧ l < gI M 568 1 ∧ 0 ≤ dr ∧ dr ≤ 99 ∧ 0 ≤ k) ∧ isFnd (mR M 0 l) dr (gI M 568 0) k x ∨ ¬ (0 ≤ l ∧ l < gI M 568 1 ∧ 0 ≤ dr ∧ dr ≤ 99 ∧ 0 ≤ k) ∧ x = -1))
  refine bw_aload rfl rfl ?_
  refine bw_iload rfl rfl ?_
  refine bw_callVj (e := d - 1) (as := [_]) rfl (by omega) rfl rfl (Nat.le_of_ble_eq_true rfl) (Nat.le_of_ble_eq_true rfl) rfl (m_isLayer hR hB (by omega)) (fun r2 hr2 => ?_)
  refine bw_ifeq rfl (fun c5 => ?_) (fun c5 => ?_)
  · skip
    refine bw_push rfl ?_
    refine bw_ret rfl rfl ?_
    first
    | exact ⟨rfl, rfl, _, rfl, Or.inr ⟨by omega, rfl⟩⟩
    | exact ⟨rfl, rfl, _, rfl, Or.inl ⟨g4, Or.inr ⟨by omega, by omega, by assumption, by omega⟩⟩⟩
    | (obtain rfl : f = gI M 568 0 := by omega
       exact ⟨rfl, rfl, _, rfl, Or.inl ⟨g4, Or.inl ⟨rfl, by omega⟩⟩⟩)
  · skip
    refine bw_iload rfl rfl ?_
    refine bw_push rfl ?_
    refine bw_push rfl ?_
    refine bw_callSj (e := d - 1) (as := [_, _, _]) rfl (by omega) rfl rfl (Nat.le_of_ble_eq_true rfl) (Nat.le_of_ble_eq_true rfl) (m_isIn hR) (fun r12 hr12 => ?_)
    refine bw_ifeq rfl (fun c15 => ?_) (fun c15 => ?_)
    · skip
      refine bw_push rfl ?_
      refine bw_ret rfl rfl ?_
      first
      | exact ⟨rfl, rfl, _, rfl, Or.inr ⟨by omega, rfl⟩⟩
      | exact ⟨rfl, rfl, _, rfl, Or.inl ⟨g4, Or.inr ⟨by omega, by omega, by assumption, by omega⟩⟩⟩
      | (obtain rfl : f = gI M 568 0 := by omega
         exact ⟨rfl, rfl, _, rfl, Or.inl ⟨g4, Or.inl ⟨rfl, by omega⟩⟩⟩)
    · skip
      refine bw_iload rfl rfl ?_
      refine bw_ifge rfl (fun c19 => ?_) (fun c19 => ?_)
      · skip
        refine bw_iload rfl rfl ?_
        refine bw_istore (ls2 := [_, _, _, _, _, _]) rfl rfl (Nat.le_of_ble_eq_true rfl) rfl ?_
        refine bw_push rfl ?_
        refine bw_istore (ls2 := [_, _, _, _, _, _]) rfl rfl (Nat.le_of_ble_eq_true rfl) rfl ?_
        exact L30 ((gI M 568 0).toNat + 1) k 0 (by simp [cN]) (by omega) (by omega) (by omega) (by omega)
      · skip
        refine bw_push rfl ?_
        refine bw_ret rfl rfl ?_
        first
        | exact ⟨rfl, rfl, _, rfl, Or.inr ⟨by omega, rfl⟩⟩
        | exact ⟨rfl, rfl, _, rfl, Or.inl ⟨g4, Or.inr ⟨by omega, by omega, by assumption, by omega⟩⟩⟩
        | (obtain rfl : f = gI M 568 0 := by omega
           exact ⟨rfl, rfl, _, rfl, Or.inl ⟨g4, Or.inl ⟨rfl, by omega⟩⟩⟩)
