theorem plc_spec {g : Int → Int} {l n : Int} (hn : n ≤ 6) (h : ∃ p : Int, 0 ≤ p ∧ p < n ∧ g p = l) : 0 ≤ plc g l ∧ plc g l < n ∧ g (plc g l) = l := by
  obtain ⟨p, p0, p1, p2⟩ := h
  unfold plc
  by_cases h0 : g 0 = l
  · rw [if_pos h0]; exact ⟨by omega, by omega, h0⟩
  rw [if_neg h0]
  have q0 : p ≠ 0 := fun e => h0 (by rw [← e]; exact p2)
  by_cases h1 : g 1 = l
  · rw [if_pos h1]; exact ⟨by omega, by omega, h1⟩
  rw [if_neg h1]
  have q1 : p ≠ 1 := fun e => h1 (by rw [← e]; exact p2)
  by_cases h2 : g 2 = l
  · rw [if_pos h2]; exact ⟨by omega, by omega, h2⟩
  rw [if_neg h2]
  have q2 : p ≠ 2 := fun e => h2 (by rw [← e]; exact p2)
  by_cases h3 : g 3 = l
  · rw [if_pos h3]; exact ⟨by omega, by omega, h3⟩
  rw [if_neg h3]
  have q3 : p ≠ 3 := fun e => h3 (by rw [← e]; exact p2)
  by_cases h4 : g 4 = l
  · rw [if_pos h4]; exact ⟨by omega, by omega, h4⟩
  rw [if_neg h4]
  have q4 : p ≠ 4 := fun e => h4 (by rw [← e]; exact p2)
  have q5 : p = 5 := by omega
  have h5 : g 5 = l := by rw [← q5]; exact p2
  rw [if_pos h5]; exact ⟨by omega, by omega, h5⟩
/-- the paper, with the layer at p one higher -/
def rsP (S : Int → Int) (p l : Int) : Int → Int := up (up (cpF S 0 582 582) (1158 + p) (S (576 + p + 1))) (1158 + p + 1) l
theorem rs_np {S : Int → Int} {p l : Int} (hp : 0 ≤ p ∧ p < 5) : npS S (rsP S p l) := fun j hj => by
  unfold rsP
  rw [up_ne (by omega), up_ne (by omega)]
  unfold cpF
  rw [if_neg (by omega)]
theorem rs_bd {S : Int → Int} {p l : Int} (hp : 0 ≤ p ∧ p < 5) (hl : 0 ≤ l ∧ l ≤ 99) (hS : bdS S) : bdS (rsP S p l) := fun j h1 h2 => by
  unfold rsP up cpF
  split
  · exact hl
  · split
    · exact hS _ (by omega) (by omega)
    · split
      · exact hS _ (by omega) (by omega)
      · exact hS _ h1 h2
set_option maxRecDepth 20000 in
set_option maxHeartbeats 4000000 in
theorem m_raise {d L : Nat} {M : abMem} {r : abRf} (hR : RF r M) (hB : RB M) {l : Int} (ha : 0 ≤ gI M 567 3 ∧ gI M 567 3 ≤ 20) (hp : 0 ≤ l → l < gI M 568 1 → ∃ p : Int, 0 ≤ p ∧ p < gI M 568 1 ∧ gI M 569 (576 + p) = l) (hd : 3 ≤ d) : abW d (0, 0) 265 0 (abEnt (abL 265) [vr (some 567), vi l]) [] (0, 0) (A0 L) M (qI (A0 L) (fun x N => (0 ≤ l ∧ l < gI M 568 1) ∧ (plc (fun p => gI M 569 (576 + p)) l = gI M 568 1 - 1 ∧ x = -3 ∧ N = M ∨ plc (fun p => gI M 569 (576 + p)) l < gI M 568 1 - 1 ∧ x = plc (fun p => gI M 569 (576 + p)) l + 1 ∧ acd M (fun j => rsP (gI M 569) (plc (fun p => gI M 569 (576 + p)) l) l (582 + j)) N) ∨ ¬ (0 ≤ l ∧ l < gI M 568 1) ∧ x = -2 ∧ N = M)) := by
  have b1 := hB.fr
  have b2 := hB.la
  show abW d (0, 0) 265 0 [some (vr (some 567)), some (vi l), none] [] (0, 0) (A0 L) M (qI (A0 L) (fun x N => (0 ≤ l ∧ l < gI M 568 1) ∧ (plc (fun p => gI M 569 (576 + p)) l = gI M 568 1 - 1 ∧ x = -3 ∧ N = M ∨ plc (fun p => gI M 569 (576 + p)) l < gI M 568 1 - 1 ∧ x = plc (fun p => gI M 569 (576 + p)) l + 1 ∧ acd M (fun j => rsP (gI M 569) (plc (fun p => gI M 569 (576 + p)) l) l (582 + j)) N) ∨ ¬ (0 ≤ l ∧ l < gI M 568 1) ∧ x = -2 ∧ N = M))
  refine bw_aload rfl rfl ?_
  refine bw_iload rfl rfl ?_
  refine bw_callVj (e := d - 1) (as := [_]) rfl (by omega) rfl rfl (Nat.le_of_ble_eq_true rfl) (Nat.le_of_ble_eq_true rfl) rfl (m_isLayer hR hB (by omega)) (fun r2 hr2 => ?_)
  refine bw_ifne rfl (fun c5 => ?_) (fun c5 => ?_)
  · skip
    refine bw_aload rfl rfl ?_
    refine bw_iload rfl rfl ?_
    refine bw_callVe (e := d - 1) (as := [_]) rfl (by omega) rfl rfl (Nat.le_of_ble_eq_true rfl) (Nat.le_of_ble_eq_true rfl) rfl (m_placeOf hR (by obtain ⟨p, p0, p1, p2⟩ := hp (by omega) (by omega); exact ⟨p, p0, by omega, p2⟩)) ?_
    have pf := plc_spec (g := fun p => gI M 569 (576 + p)) (l := l) (n := gI M 568 1) (by omega) (hp (by omega) (by omega))
    generalize plc (fun p => gI M 569 (576 + p)) l = p at pf ⊢
    refine bw_istore (ls2 := [_, _, _]) rfl rfl (Nat.le_of_ble_eq_true rfl) rfl ?_
    refine bw_iload rfl rfl ?_
    refine bw_aload rfl rfl ?_
    refine bw_callVe (e := d - 1) (as := []) rfl (by omega) rfl rfl (Nat.le_of_ble_eq_true rfl) (Nat.le_of_ble_eq_true rfl) rfl (m_layers hR) ?_
    refine bw_push rfl ?_
    refine bw_isub rfl ⟨by omega, by omega⟩ ?_
    refine bw_icne rfl (fun c24 => ?_) (fun c24 => ?_)
    · skip
      refine bw_aload rfl rfl ?_
      refine bw_push rfl ?_
      refine bw_push rfl ?_
      refine bw_callVn (e := d - 1) (as := [_, _]) rfl (by omega) rfl rfl (Nat.le_of_ble_eq_true rfl) (Nat.le_of_ble_eq_true rfl) rfl (m_copies hR (by omega) (by omega) (by omega)) ?_
      refine bw_aload rfl rfl ?_
      refine bw_getr rfl rfl (hR _ _) ?_
      refine bw_push rfl ?_
      refine bw_iload rfl rfl ?_
      refine bw_iadd rfl ⟨by omega, by omega⟩ ?_
      refine bw_aload rfl rfl ?_
      refine bw_getr rfl rfl (hR _ _) ?_
      refine bw_push rfl ?_
      refine bw_iload rfl rfl ?_
      refine bw_iadd rfl ⟨by omega, by omega⟩ ?_
      refine bw_push rfl ?_
      refine bw_iadd rfl ⟨by omega, by omega⟩ ?_
      refine bw_aldi rfl (by first | rfl | assumption) (by omega) (by omega) ?_
      rw [show gI (wI M 569 (cpF (gI M 569) 0 582 582)) 569 (576 + p + 1) = gI M 569 (576 + p + 1) by rw [gI_wI_eq]; unfold cpF; rw [if_neg (by omega)]]
      refine bw_asti rfl (by first | rfl | assumption) (by omega) (by omega) ?_
      refine bw_aload rfl rfl ?_
      refine bw_getr rfl rfl (hR _ _) ?_
      refine bw_push rfl ?_
      refine bw_iload rfl rfl ?_
      refine bw_iadd rfl ⟨by omega, by omega⟩ ?_
      refine bw_push rfl ?_
      refine bw_iadd rfl ⟨by omega, by omega⟩ ?_
      refine bw_iload rfl rfl ?_
      refine bw_asti rfl (by first | rfl | assumption) (by omega) (by omega) ?_
      refine bw_cast (M2 := wI M 569 (rsP (gI M 569) p l)) ?_ rfl rfl (by rw [sI_wI, sI_wI]; rfl)
      refine bw_aload rfl rfl ?_
      refine bw_callVv (e := d - 1) (as := []) rfl (by omega) rfl rfl (Nat.le_of_ble_eq_true rfl) (Nat.le_of_ble_eq_true rfl) rfl (m_becomes (M := wI M 569 (rsP (gI M 569) p l)) hR (by rw [gI_wI_ne (show 567 ≠ 569 by decide)]; omega) (by omega)) (fun M74 hM74 => ?_)
      refine bw_iload rfl rfl ?_
      refine bw_push rfl ?_
      refine bw_iadd rfl ⟨by omega, by omega⟩ ?_
      refine bw_ret rfl rfl ?_
      exact ⟨rfl, _, rfl, Or.inl ⟨by omega, Or.inr ⟨by omega, rfl, act_w hM74 (rs_np (by omega)) (rs_bd (by omega) (by omega) hB.sh) ha⟩⟩⟩
    · skip
      refine bw_push rfl ?_
      refine bw_ret rfl rfl ?_
      exact ⟨rfl, _, rfl, Or.inl ⟨by omega, Or.inl ⟨by omega, rfl, rfl⟩⟩⟩
  · skip
    refine bw_push rfl ?_
    refine bw_ret rfl rfl ?_
    exact ⟨rfl, _, rfl, Or.inr ⟨by omega, rfl, rfl⟩⟩
set_option maxRecDepth 20000 in
set_option maxHeartbeats 4000000 in
theorem m_undo {d L : Nat} {M : abMem} {r : abRf} (hR : RF r M) (ha : 0 ≤ gI M 567 3 ∧ gI M 567 3 ≤ 20) (hd : 1 ≤ d) : abW d (0, 0) 267 0 (abEnt (abL 267) [vr (some 567)]) [] (0, 0) (A0 L) M (qI (A0 L) (fun x N => gI M 567 3 = 0 ∧ x = -3 ∧ N = M ∨ gI M 567 3 ≠ 0 ∧ x = gI M 567 3 - 1 ∧ N = wI (sI M 567 3 (gI M 567 3 - 1)) 569 (cpF (gI M 569) (2328 + 582 * (gI M 567 3 - 1)) 0 582))) := by
  show abW d (0, 0) 267 0 [some (vr (some 567))] [] (0, 0) (A0 L) M (qI (A0 L) (fun x N => gI M 567 3 = 0 ∧ x = -3 ∧ N = M ∨ gI M 567 3 ≠ 0 ∧ x = gI M 567 3 - 1 ∧ N = wI (sI M 567 3 (gI M 567 3 - 1)) 569 (cpF (gI M 569) (2328 + 582 * (gI M 567 3 - 1)) 0 582)))
  refine bw_aload rfl rfl ?_
  refine bw_getI rfl rfl ?_
  try simp only [gI_sI, gI_wI, and_true, true_and, and_false, false_and, and_self, reduceIte]
  refine bw_ifne rfl (fun c4 => ?_) (fun c4 => ?_)
  · skip
    refine bw_aload rfl rfl ?_
    first | refine bw_dup rfl ?_ | refine bw_dupi rfl ?_
    refine bw_getI rfl rfl ?_
    try simp only [gI_sI, gI_wI, and_true, true_and, and_false, false_and, and_self, reduceIte]
    refine bw_push rfl ?_
    refine bw_isub rfl ⟨by omega, by omega⟩ ?_
    refine bw_putI rfl rfl ?_
    refine bw_aload rfl rfl ?_
    refine bw_push rfl ?_
    refine bw_push rfl ?_
    refine bw_aload rfl rfl ?_
    refine bw_getI rfl rfl ?_
    try simp only [gI_sI, gI_wI, and_true, true_and, and_false, false_and, and_self, reduceIte]
    refine bw_imul rfl ⟨by omega, by omega⟩ ?_
    refine bw_iadd rfl ⟨by omega, by omega⟩ ?_
    refine bw_push rfl ?_
    refine bw_callVn (e := d - 1) (as := [_, _]) rfl (by omega) rfl rfl (Nat.le_of_ble_eq_true rfl) (Nat.le_of_ble_eq_true rfl) rfl (m_copies (M := _) (by exact hR) (by omega) (by omega) (by omega)) ?_
    refine bw_aload rfl rfl ?_
    refine bw_getI rfl rfl ?_
    try simp only [gI_sI, gI_wI, and_true, true_and, and_false, false_and, and_self, reduceIte]
    refine bw_ret rfl rfl ?_
    exact ⟨rfl, _, rfl, Or.inr ⟨by omega, rfl, by rw [gI_sI_ne (show 569 ≠ 567 by decide)]⟩⟩
  · skip
    refine bw_push rfl ?_
    refine bw_ret rfl rfl ?_
    exact ⟨rfl, _, rfl, Or.inl ⟨by omega, rfl, rfl⟩⟩
set_option maxRecDepth 20000 in
set_option maxHeartbeats 4000000 in
theorem m_keep {d L : Nat} {M : abMem} {r : abRf} (hR : RF r M) (hB : RB M) {k : Int} (hd : 1 ≤ d) : abW d (0, 0) 268 0 (abEnt (abL 268) [vr (some 567), vi k]) [] (0, 0) (A0 L) M (qI (A0 L) (fun x N => ¬ (0 ≤ k ∧ k ≤ 1) ∧ x = -2 ∧ N = M ∨ (0 ≤ k ∧ k ≤ 1) ∧ gI M 568 0 = 0 ∧ x = -3 ∧ N = M ∨ (0 ≤ k ∧ k ≤ 1) ∧ gI M 568 0 ≠ 0 ∧ x = gI M 568 0 ∧ N = sI (wI M 569 (cpF (gI M 569) 0 (1164 + 582 * k) 582)) 570 k 1)) := by
  have b1 := hB.fr
  have b2 := hB.la
  show abW d (0, 0) 268 0 [some (vr (some 567)), some (vi k)] [] (0, 0) (A0 L) M (qI (A0 L) (fun x N => ¬ (0 ≤ k ∧ k ≤ 1) ∧ x = -2 ∧ N = M ∨ (0 ≤ k ∧ k ≤ 1) ∧ gI M 568 0 = 0 ∧ x = -3 ∧ N = M ∨ (0 ≤ k ∧ k ≤ 1) ∧ gI M 568 0 ≠ 0 ∧ x = gI M 568 0 ∧ N = sI (wI M 569 (cpF (gI M 569) 0 (1164 + 582 * k) 582)) 570 k 1))
  refine bw_iload rfl rfl ?_
  refine bw_push rfl ?_
  refine bw_push rfl ?_
  refine bw_callSj (e := d - 1) (as := [_, _, _]) rfl (by omega) rfl rfl (Nat.le_of_ble_eq_true rfl) (Nat.le_of_ble_eq_true rfl) (m_isIn hR) (fun r3 hr3 => ?_)
  refine bw_ifne rfl (fun c6 => ?_) (fun c6 => ?_)
  · skip
    refine bw_aload rfl rfl ?_
    refine bw_callVe (e := d - 1) (as := []) rfl (by omega) rfl rfl (Nat.le_of_ble_eq_true rfl) (Nat.le_of_ble_eq_true rfl) rfl (m_frames hR) ?_
    refine bw_ifne rfl (fun c16 => ?_) (fun c16 => ?_)
    · skip
      refine bw_aload rfl rfl ?_
      refine bw_push rfl ?_
      refine bw_push rfl ?_
      refine bw_push rfl ?_
      refine bw_iload rfl rfl ?_
      refine bw_imul rfl ⟨by omega, by omega⟩ ?_
      refine bw_iadd rfl ⟨by omega, by omega⟩ ?_
      refine bw_callVn (e := d - 1) (as := [_, _]) rfl (by omega) rfl rfl (Nat.le_of_ble_eq_true rfl) (Nat.le_of_ble_eq_true rfl) rfl (m_copies hR (by omega) (by omega) (by omega)) ?_
      refine bw_aload rfl rfl ?_
      refine bw_getr rfl rfl (hR _ _) ?_
      refine bw_iload rfl rfl ?_
      refine bw_push rfl ?_
      refine bw_astz rfl (by first | rfl | assumption) (by omega) (by omega) (Or.inr rfl) ?_
      refine bw_aload rfl rfl ?_
      refine bw_callVe (e := d - 1) (as := []) rfl (by omega) rfl rfl (Nat.le_of_ble_eq_true rfl) (Nat.le_of_ble_eq_true rfl) rfl (m_frames (M := _) (by exact hR)) ?_
      rw [gI_sI_ne (show 568 ≠ 570 by decide), gI_wI_ne (show 568 ≠ 569 by decide)]
      refine bw_ret rfl rfl ?_
      exact ⟨rfl, _, rfl, Or.inr (Or.inr ⟨by omega, by omega, rfl, rfl⟩)⟩
    · skip
      refine bw_push rfl ?_
      refine bw_ret rfl rfl ?_
      exact ⟨rfl, _, rfl, Or.inr (Or.inl ⟨by omega, by omega, rfl, rfl⟩)⟩
  · skip
    refine bw_push rfl ?_
    refine bw_ret rfl rfl ?_
    exact ⟨rfl, _, rfl, Or.inl ⟨by omega, rfl, rfl⟩⟩
set_option maxRecDepth 20000 in
set_option maxHeartbeats 4000000 in
theorem m_back {d L : Nat} {M : abMem} {r : abRf} (hR : RF r M) (hB : RB M) {k : Int} (hd : 1 ≤ d) : abW d (0, 0) 269 0 (abEnt (abL 269) [vr (some 567), vi k]) [] (0, 0) (A0 L) M (qI (A0 L) (fun x N => ¬ (0 ≤ k ∧ k ≤ 1) ∧ x = -2 ∧ N = M ∨ (0 ≤ k ∧ k ≤ 1) ∧ gI M 570 k = 0 ∧ x = -3 ∧ N = M ∨ (0 ≤ k ∧ k ≤ 1) ∧ gI M 570 k ≠ 0 ∧ x = gI M 568 0 ∧ N = sI (wI M 569 (cpF (gI M 569) (1164 + 582 * k) 0 582)) 567 3 0)) := by
  have b1 := hB.fr
  have b2 := hB.la
  show abW d (0, 0) 269 0 [some (vr (some 567)), some (vi k)] [] (0, 0) (A0 L) M (qI (A0 L) (fun x N => ¬ (0 ≤ k ∧ k ≤ 1) ∧ x = -2 ∧ N = M ∨ (0 ≤ k ∧ k ≤ 1) ∧ gI M 570 k = 0 ∧ x = -3 ∧ N = M ∨ (0 ≤ k ∧ k ≤ 1) ∧ gI M 570 k ≠ 0 ∧ x = gI M 568 0 ∧ N = sI (wI M 569 (cpF (gI M 569) (1164 + 582 * k) 0 582)) 567 3 0))
  refine bw_iload rfl rfl ?_
  refine bw_push rfl ?_
  refine bw_push rfl ?_
  refine bw_callSj (e := d - 1) (as := [_, _, _]) rfl (by omega) rfl rfl (Nat.le_of_ble_eq_true rfl) (Nat.le_of_ble_eq_true rfl) (m_isIn hR) (fun r3 hr3 => ?_)
  refine bw_ifne rfl (fun c6 => ?_) (fun c6 => ?_)
  · skip
    refine bw_aload rfl rfl ?_
    refine bw_getr rfl rfl (hR _ _) ?_
    refine bw_iload rfl rfl ?_
    refine bw_aldb rfl (by first | rfl | assumption) (by decide) (by omega) (by omega) ?_
    refine bw_ifne rfl (fun c18 => ?_) (fun c18 => ?_)
    · skip
      refine bw_aload rfl rfl ?_
      refine bw_push rfl ?_
      refine bw_push rfl ?_
      refine bw_iload rfl rfl ?_
      refine bw_imul rfl ⟨by omega, by omega⟩ ?_
      refine bw_iadd rfl ⟨by omega, by omega⟩ ?_
      refine bw_push rfl ?_
      refine bw_callVn (e := d - 1) (as := [_, _]) rfl (by omega) rfl rfl (Nat.le_of_ble_eq_true rfl) (Nat.le_of_ble_eq_true rfl) rfl (m_copies hR (by omega) (by omega) (by omega)) ?_
      refine bw_aload rfl rfl ?_
      refine bw_push rfl ?_
      refine bw_putI rfl rfl ?_
      refine bw_aload rfl rfl ?_
      refine bw_callVe (e := d - 1) (as := []) rfl (by omega) rfl rfl (Nat.le_of_ble_eq_true rfl) (Nat.le_of_ble_eq_true rfl) rfl (m_frames (M := _) (by exact hR)) ?_
      rw [gI_sI_ne (show 568 ≠ 567 by decide), gI_wI_ne (show 568 ≠ 569 by decide)]
      refine bw_ret rfl rfl ?_
      exact ⟨rfl, _, rfl, Or.inr (Or.inr ⟨by omega, by omega, rfl, rfl⟩)⟩
    · skip
      refine bw_push rfl ?_
      refine bw_ret rfl rfl ?_
      exact ⟨rfl, _, rfl, Or.inr (Or.inl ⟨by omega, by omega, rfl, rfl⟩)⟩
  · skip
    refine bw_push rfl ?_
    refine bw_ret rfl rfl ?_
    exact ⟨rfl, _, rfl, Or.inl ⟨by omega, rfl, rfl⟩⟩
set_option maxRecDepth 20000 in
set_option maxHeartbeats 4000000 in
theorem m_apart {d L : Nat} {M : abMem} {r : abRf} (hR : RF r M) (hB : RB M) {k : Int} (hd : 1 ≤ d) : abW d (0, 0) 270 0 (abEnt (abL 270) [vr (some 567), vi k]) [] (0, 0) (A0 L) M (qJ (A0 L) M (fun x => ¬ (0 ≤ k ∧ k ≤ 1) ∧ x = -2 ∨ (0 ≤ k ∧ k ≤ 1) ∧ gI M 570 k = 0 ∧ x = -3 ∨ (0 ≤ k ∧ k ≤ 1) ∧ gI M 570 k ≠ 0 ∧ x = sN (fun l => cN (pD (mR M (1164 + 582 * k) l) (mR M 0 l)) (gI M 568 0).toNat) (gI M 568 1).toNat)) := by
  have b1 := hB.fr
  have b2 := hB.la
  have L28 : ∀ (kf : Nat) (c l : Int), (c = sN (fun l => cN (pD (mR M (1164 + 582 * k) l) (mR M 0 l)) (gI M 568 0).toNat) l.toNat) → (0 ≤ l ∧ l ≤ gI M 568 1) → ((0 ≤ k ∧ k ≤ 1) ∧ gI M 570 k ≠ 0) → (0 ≤ c ∧ c ≤ 96 * l) → ((gI M 568 1 - l).toNat) < kf → abW d (0, 0) 270 28 [some (vr (some 567)), some (vi k), some (vi c), some (vi l), none] [] (0, 0) (A0 L) (M) (qJ (A0 L) M (fun x => ¬ (0 ≤ k ∧ k ≤ 1) ∧ x = -2 ∨ (0 ≤ k ∧ k ≤ 1) ∧ gI M 570 k = 0 ∧ x = -3 ∨ (0 ≤ k ∧ k ≤ 1) ∧ gI M 570 k ≠ 0 ∧ x = sN (fun l => cN (pD (mR M (1164 + 582 * k) l) (mR M 0 l)) (gI M 568 0).toNat) (gI M 568 1).toNat)) := by
    intro kf
    induction kf with
    | zero => intro c l  g1 g2 g3 g4 hm9; exact absurd hm9 (Nat.not_lt_zero _)
    | succ kf ih28 =>
      intro c l  g1 g2 g3 g4 hm28
      have ih := ih28
      have L39 : ∀ (kf : Nat) (e f : Int), (e = c + cN (pD (mR M (1164 + 582 * k) l) (mR M 0 l)) f.toNat) → (0 ≤ f ∧ f ≤ gI M 568 0) → (0 ≤ l ∧ l < gI M 568 1) → ((gI M 568 0 - f).toNat) < kf → abW d (0, 0) 270 39 [some (vr (some 567)), some (vi k), some (vi e), some (vi l), some (vi f)] [] (0, 0) (A0 L) (M) (qJ (A0 L) M (fun x => ¬ (0 ≤ k ∧ k ≤ 1) ∧ x = -2 ∨ (0 ≤ k ∧ k ≤ 1) ∧ gI M 570 k = 0 ∧ x = -3 ∨ (0 ≤ k ∧ k ≤ 1) ∧ gI M 570 k ≠ 0 ∧ x = sN (fun l => cN (pD (mR M (1164 + 582 * k) l) (mR M 0 l)) (gI M 568 0).toNat) (gI M 568 1).toNat)) := by
        intro kf
        induction kf with
        | zero => intro e f  k1 k2 k3 hm9; exact absurd hm9 (Nat.not_lt_zero _)
        | succ kf ih39 =>
          intro e f  k1 k2 k3 hm39
          have ih := ih39
          have b9 := cN_in (pD (mR M (1164 + 582 * k) l) (mR M 0 l)) f.toNat
          refine bw_iload rfl rfl ?_
          refine bw_aload rfl rfl ?_
          refine bw_callVe (e := d - 1) (as := []) rfl (by omega) rfl rfl (Nat.le_of_ble_eq_true rfl) (Nat.le_of_ble_eq_true rfl) rfl (m_frames hR) ?_
          refine bw_icge rfl (fun c45 => ?_) (fun c45 => ?_)
          · skip
            refine bw_iinc (ls2 := [_, _, _, _, _]) rfl rfl rfl ⟨by omega, by omega⟩ rfl ?_
            refine bw_goto rfl ?_
            obtain rfl : f = gI M 568 0 := by omega
            refine bw_forget (ls2 := [some (vr (some 567)), some (vi k), some (vi _), some (vi _), none]) ⟨rfl, rfl, rfl, rfl, trivial⟩ ?_
            exact ih28 _ _ (by rw [sN_s _ (by omega), ← g1]; exact k1) (by omega) (by omega) (by omega) (by omega)
          · skip
            refine bw_iload rfl rfl ?_
            refine bw_aload rfl rfl ?_
            refine bw_push rfl ?_
            refine bw_push rfl ?_
            refine bw_iload rfl rfl ?_
            refine bw_imul rfl ⟨by omega, by omega⟩ ?_
            refine bw_iadd rfl ⟨by omega, by omega⟩ ?_
            refine bw_iload rfl rfl ?_
            refine bw_iload rfl rfl ?_
            refine bw_callVe (e := d - 1) (as := [_, _, _]) rfl (by omega) rfl rfl (Nat.le_of_ble_eq_true rfl) (Nat.le_of_ble_eq_true rfl) rfl (m_has hR (by omega) (by omega) (by omega)) ?_
            refine bw_aload rfl rfl ?_
            refine bw_push rfl ?_
            refine bw_iload rfl rfl ?_
            refine bw_iload rfl rfl ?_
            refine bw_callVe (e := d - 1) (as := [_, _, _]) rfl (by omega) rfl rfl (Nat.le_of_ble_eq_true rfl) (Nat.le_of_ble_eq_true rfl) rfl (m_has hR (by omega) (by omega) (by omega)) ?_
            refine bw_iceq rfl (fun c73 => ?_) (fun c73 => ?_)
            · skip
              refine bw_push rfl ?_
              refine bw_iadd rfl ⟨by omega, by omega⟩ ?_
              refine bw_istore (ls2 := [_, _, _, _, _]) rfl rfl (Nat.le_of_ble_eq_true rfl) rfl ?_
              refine bw_iinc (ls2 := [_, _, _, _, _]) rfl rfl rfl ⟨by omega, by omega⟩ rfl ?_
              refine bw_goto rfl ?_
              first
              | exact ih _ _ (by rw [k1, Int.add_assoc]; congr 1; exact cN_t (by omega) rfl (decide_eq_true (by omega))) (by omega) (by omega) (by omega)
              | (rw [Int.add_zero]; exact ih _ _ (by rw [k1]; congr 1; exact cN_f (by omega) rfl (decide_eq_false (by omega))) (by omega) (by omega) (by omega))
            · skip
              refine bw_push rfl ?_
              refine bw_goto rfl ?_
              refine bw_iadd rfl ⟨by omega, by omega⟩ ?_
              refine bw_istore (ls2 := [_, _, _, _, _]) rfl rfl (Nat.le_of_ble_eq_true rfl) rfl ?_
              refine bw_iinc (ls2 := [_, _, _, _, _]) rfl rfl rfl ⟨by omega, by omega⟩ rfl ?_
              refine bw_goto rfl ?_
              first
              | exact ih _ _ (by rw [k1, Int.add_assoc]; congr 1; exact cN_t (by omega) rfl (decide_eq_true (by omega))) (by omega) (by omega) (by omega)
              | (rw [Int.add_zero]; exact ih _ _ (by rw [k1]; congr 1; exact cN_f (by omega) rfl (decide_eq_false (by omega))) (by omega) (by omega) (by omega))
      refine bw_iload rfl rfl ?_
      refine bw_aload rfl rfl ?_
      refine bw_callVe (e := d - 1) (as := []) rfl (by omega) rfl rfl (Nat.le_of_ble_eq_true rfl) (Nat.le_of_ble_eq_true rfl) rfl (m_layers hR) ?_
      refine bw_icge rfl (fun c33 => ?_) (fun c33 => ?_)
      · skip
        refine bw_iload rfl rfl ?_
        refine bw_ret rfl rfl ?_
        obtain rfl : l = gI M 568 1 := by omega
        exact ⟨rfl, rfl, _, rfl, Or.inr (Or.inr ⟨by omega, by omega, g1⟩)⟩
      · skip
        refine bw_push rfl ?_
        refine bw_istore (ls2 := [_, _, _, _, _]) rfl rfl (Nat.le_of_ble_eq_true rfl) rfl ?_
        exact L39 97 c 0 (by rw [cN_0]; omega) (by omega) (by omega) (by omega)
  show abW d (0, 0) 270 0 [some (vr (some 567)), some (vi k), none, none, none] [] (0, 0) (A0 L) M (qJ (A0 L) M (fun x => ¬ (0 ≤ k ∧ k ≤ 1) ∧ x = -2 ∨ (0 ≤ k ∧ k ≤ 1) ∧ gI M 570 k = 0 ∧ x = -3 ∨ (0 ≤ k ∧ k ≤ 1) ∧ gI M 570 k ≠ 0 ∧ x = sN (fun l => cN (pD (mR M (1164 + 582 * k) l) (mR M 0 l)) (gI M 568 0).toNat) (gI M 568 1).toNat))
  refine bw_iload rfl rfl ?_
  refine bw_push rfl ?_
  refine bw_push rfl ?_
  refine bw_callSj (e := d - 1) (as := [_, _, _]) rfl (by omega) rfl rfl (Nat.le_of_ble_eq_true rfl) (Nat.le_of_ble_eq_true rfl) (m_isIn hR) (fun r3 hr3 => ?_)
  refine bw_ifne rfl (fun c6 => ?_) (fun c6 => ?_)
  · skip
    refine bw_aload rfl rfl ?_
    refine bw_getr rfl rfl (hR _ _) ?_
    refine bw_iload rfl rfl ?_
    refine bw_aldb rfl (by first | rfl | assumption) (by decide) (by omega) (by omega) ?_
    refine bw_ifne rfl (fun c18 => ?_) (fun c18 => ?_)
    · skip
      refine bw_push rfl ?_
      refine bw_istore (ls2 := [_, _, _, _, _]) rfl rfl (Nat.le_of_ble_eq_true rfl) rfl ?_
      refine bw_push rfl ?_
      refine bw_istore (ls2 := [_, _, _, _, _]) rfl rfl (Nat.le_of_ble_eq_true rfl) rfl ?_
      exact L28 7 0 0 rfl (by omega) (by omega) (by omega) (by omega)
    · skip
      refine bw_push rfl ?_
      refine bw_ret rfl rfl ?_
      exact ⟨rfl, rfl, _, rfl, Or.inr (Or.inl ⟨by omega, by omega, rfl⟩)⟩
  · skip
    refine bw_push rfl ?_
    refine bw_ret rfl rfl ?_
    exact ⟨rfl, rfl, _, rfl, Or.inl ⟨by omega, rfl⟩⟩
set_option maxRecDepth 20000 in
set_option maxHeartbeats 4000000 in
theorem m_hold {d L : Nat} {M : abMem} {r : abRf} (hR : RF r M) (hB : RB M) {l f w : Int} (hd : 3 ≤ d) : abW d (0, 0) 209 0 (abEnt (abL 209) [vr (some 567), vi l, vi f, vi w]) [] (0, 0) (A0 L) M (qJ (A0 L) M (fun x => (0 ≤ l ∧ l < gI M 568 1 ∧ 0 ≤ f ∧ f < gI M 568 0 ∧ 0 ≤ w ∧ w ≤ 2) ∧ (∃ a : Int, isFst (mR M 0 l) f a ∧ (w = 0 ∧ x = a ∨ w = 1 ∧ (∃ s : Int, isStp (mR M 0 l) f (gI M 568 0) s ∧ x = s - a) ∨ w = 2 ∧ x = cN (pE (mR M 0 l)) a.toNat)) ∨ ¬ (0 ≤ l ∧ l < gI M 568 1 ∧ 0 ≤ f ∧ f < gI M 568 0 ∧ 0 ≤ w ∧ w ≤ 2) ∧ x = -1)) := by
  have b1 := hB.fr
  have b2 := hB.la
  have L66 : ∀ (kf : Nat) (a s : Int), (isFst (mR M 0 l) f a) → (0 ≤ l ∧ l < gI M 568 1 ∧ 0 ≤ f ∧ f < gI M 568 0 ∧ 0 ≤ w ∧ w ≤ 2) → (f < s ∧ s ≤ gI M 568 0) → (∀ j : Int, f ≤ j → j < s → mR M 0 l j = mR M 0 l f) → ((97 - s).toNat) < kf → abW d (0, 0) 209 66 [some (vr (some 567)), some (vi l), some (vi f), some (vi w), some (vi a), some (vi s)] [] (0, 0) (A0 L) (M) (qJ (A0 L) M (fun x => (0 ≤ l ∧ l < gI M 568 1 ∧ 0 ≤ f ∧ f < gI M 568 0 ∧ 0 ≤ w ∧ w ≤ 2) ∧ (∃ a : Int, isFst (mR M 0 l) f a ∧ (w = 0 ∧ x = a ∨ w = 1 ∧ (∃ s : Int, isStp (mR M 0 l) f (gI M 568 0) s ∧ x = s - a) ∨ w = 2 ∧ x = cN (pE (mR M 0 l)) a.toNat)) ∨ ¬ (0 ≤ l ∧ l < gI M 568 1 ∧ 0 ≤ f ∧ f < gI M 568 0 ∧ 0 ≤ w ∧ w ≤ 2) ∧ x = -1)) := by
    intro kf
    induction kf with
    | zero => intro a s  g1 g2 g3 g4 hm9; exact absurd hm9 (Nat.not_lt_zero _)
    | succ kf ih66 =>
      intro a s  g1 g2 g3 g4 hm66
      have ih := ih66
      have fa := g1.2.1
      have fb := g1.1
      refine bw_iload rfl rfl ?_
      refine bw_aload rfl rfl ?_
      refine bw_callVe (e := d - 1) (as := []) rfl (by omega) rfl rfl (Nat.le_of_ble_eq_true rfl) (Nat.le_of_ble_eq_true rfl) rfl (m_frames hR) ?_
      refine bw_icge rfl (fun c72 => ?_) (fun c72 => ?_)
      · skip
        refine bw_iload rfl rfl ?_
        by_cases s100_0 : w = 0
        · refine bw_switch (t := 128) rfl (by rw [s100_0]; rfl) ?_
          refine bw_iload rfl rfl ?_
          refine bw_ret rfl rfl ?_
          exact ⟨rfl, rfl, _, rfl, Or.inl ⟨by omega, _, g1, Or.inl ⟨by omega, rfl⟩⟩⟩
        · skip
          by_cases s100_1 : w = 1
          · refine bw_switch (t := 131) rfl (by rw [s100_1]; rfl) ?_
            refine bw_iload rfl rfl ?_
            refine bw_iload rfl rfl ?_
            refine bw_isub rfl ⟨by omega, by omega⟩ ?_
            refine bw_ret rfl rfl ?_
            exact ⟨rfl, rfl, _, rfl, Or.inl ⟨by omega, _, g1, Or.inr (Or.inl ⟨by omega, _, ⟨by omega, by omega, g4, by omega⟩, rfl⟩)⟩⟩
          · skip
            refine bw_switch (t := 137) rfl (by simp [abSwT, abSw, Op.lookupswitch.offset, s100_0, show ¬ ((0 : Int) = w) from fun h => s100_0 h.symm, s100_1, show ¬ ((1 : Int) = w) from fun h => s100_1 h.symm]) ?_
            refine bw_aload rfl rfl ?_
            refine bw_iload rfl rfl ?_
            refine bw_iload rfl rfl ?_
            refine bw_callVe (e := d - 1) (as := [_, _]) rfl (by omega) rfl rfl (Nat.le_of_ble_eq_true rfl) (Nat.le_of_ble_eq_true rfl) rfl (m_ahead hR hB (by omega) (by omega) (by omega)) ?_
            refine bw_ret rfl rfl ?_
            exact ⟨rfl, rfl, _, rfl, Or.inl ⟨by omega, _, g1, Or.inr (Or.inr ⟨by omega, rfl⟩)⟩⟩
      · skip
        refine bw_aload rfl rfl ?_
        refine bw_push rfl ?_
        refine bw_iload rfl rfl ?_
        refine bw_iload rfl rfl ?_
        refine bw_callVe (e := d - 1) (as := [_, _, _]) rfl (by omega) rfl rfl (Nat.le_of_ble_eq_true rfl) (Nat.le_of_ble_eq_true rfl) rfl (m_has hR (by omega) (by omega) (by omega)) ?_
        refine bw_aload rfl rfl ?_
        refine bw_push rfl ?_
        refine bw_iload rfl rfl ?_
        refine bw_iload rfl rfl ?_
        refine bw_callVe (e := d - 1) (as := [_, _, _]) rfl (by omega) rfl rfl (Nat.le_of_ble_eq_true rfl) (Nat.le_of_ble_eq_true rfl) rfl (m_has hR (by omega) (by omega) (by omega)) ?_
        refine bw_icne rfl (fun c90 => ?_) (fun c90 => ?_)
        · skip
          refine bw_iload rfl rfl ?_
          by_cases s100_0 : w = 0
          · refine bw_switch (t := 128) rfl (by rw [s100_0]; rfl) ?_
            refine bw_iload rfl rfl ?_
            refine bw_ret rfl rfl ?_
            exact ⟨rfl, rfl, _, rfl, Or.inl ⟨by omega, _, g1, Or.inl ⟨by omega, rfl⟩⟩⟩
          · skip
            by_cases s100_1 : w = 1
            · refine bw_switch (t := 131) rfl (by rw [s100_1]; rfl) ?_
              refine bw_iload rfl rfl ?_
              refine bw_iload rfl rfl ?_
              refine bw_isub rfl ⟨by omega, by omega⟩ ?_
              refine bw_ret rfl rfl ?_
              exact ⟨rfl, rfl, _, rfl, Or.inl ⟨by omega, _, g1, Or.inr (Or.inl ⟨by omega, _, ⟨by omega, by omega, g4, by omega⟩, rfl⟩)⟩⟩
            · skip
              refine bw_switch (t := 137) rfl (by simp [abSwT, abSw, Op.lookupswitch.offset, s100_0, show ¬ ((0 : Int) = w) from fun h => s100_0 h.symm, s100_1, show ¬ ((1 : Int) = w) from fun h => s100_1 h.symm]) ?_
              refine bw_aload rfl rfl ?_
              refine bw_iload rfl rfl ?_
              refine bw_iload rfl rfl ?_
              refine bw_callVe (e := d - 1) (as := [_, _]) rfl (by omega) rfl rfl (Nat.le_of_ble_eq_true rfl) (Nat.le_of_ble_eq_true rfl) rfl (m_ahead hR hB (by omega) (by omega) (by omega)) ?_
              refine bw_ret rfl rfl ?_
              exact ⟨rfl, rfl, _, rfl, Or.inl ⟨by omega, _, g1, Or.inr (Or.inr ⟨by omega, rfl⟩)⟩⟩
        · skip
          refine bw_iinc (ls2 := [_, _, _, _, _, _]) rfl rfl rfl ⟨by omega, by omega⟩ rfl ?_
          refine bw_goto rfl ?_
          refine ih _ _ g1 (by omega) (by omega) (fun j h1 h2 => ?_) (by omega)
          by_cases q : j = s
          · rw [q]; omega
          · exact g4 j h1 (by omega)
  have L30 : ∀ (kf : Nat) (a : Int), (0 ≤ a ∧ a ≤ f) → (0 ≤ l ∧ l < gI M 568 1 ∧ 0 ≤ f ∧ f < gI M 568 0 ∧ 0 ≤ w ∧ w ≤ 2) → (∀ j : Int, a ≤ j → j ≤ f → mR M 0 l j = mR M 0 l f) → (a.toNat) < kf → abW d (0, 0) 209 30 [some (vr (some 567)), some (vi l), some (vi f), some (vi w), some (vi a), none] [] (0, 0) (A0 L) (M) (qJ (A0 L) M (fun x => (0 ≤ l ∧ l < gI M 568 1 ∧ 0 ≤ f ∧ f < gI M 568 0 ∧ 0 ≤ w ∧ w ≤ 2) ∧ (∃ a : Int, isFst (mR M 0 l) f a ∧ (w = 0 ∧ x = a ∨ w = 1 ∧ (∃ s : Int, isStp (mR M 0 l) f (gI M 568 0) s ∧ x = s - a) ∨ w = 2 ∧ x = cN (pE (mR M 0 l)) a.toNat)) ∨ ¬ (0 ≤ l ∧ l < gI M 568 1 ∧ 0 ≤ f ∧ f < gI M 568 0 ∧ 0 ≤ w ∧ w ≤ 2) ∧ x = -1)) := by
    intro kf
    induction kf with
    | zero => intro a  g1 g2 g3 hm9; exact absurd hm9 (Nat.not_lt_zero _)
    | succ kf ih30 =>
      intro a  g1 g2 g3 hm30
      have ih := ih30
      refine bw_iload rfl rfl ?_
      refine bw_ifle rfl (fun c32 => ?_) (fun c32 => ?_)
      · skip
        refine bw_iload rfl rfl ?_
        refine bw_push rfl ?_
        refine bw_iadd rfl ⟨by omega, by omega⟩ ?_
        refine bw_istore (ls2 := [_, _, _, _, _, _]) rfl rfl (Nat.le_of_ble_eq_true rfl) rfl ?_
        exact L66 98 a (f + 1) ⟨by omega, by omega, g3, by omega⟩ (by omega) (by omega) (fun j h1 h2 => by rw [show j = f by omega]) (by omega)
      · skip
        refine bw_aload rfl rfl ?_
        refine bw_push rfl ?_
        refine bw_iload rfl rfl ?_
        refine bw_iload rfl rfl ?_
        refine bw_push rfl ?_
        refine bw_isub rfl ⟨by omega, by omega⟩ ?_
        refine bw_callVe (e := d - 1) (as := [_, _, _]) rfl (by omega) rfl rfl (Nat.le_of_ble_eq_true rfl) (Nat.le_of_ble_eq_true rfl) rfl (m_has hR (by omega) (by omega) (by omega)) ?_
        refine bw_aload rfl rfl ?_
        refine bw_push rfl ?_
        refine bw_iload rfl rfl ?_
        refine bw_iload rfl rfl ?_
        refine bw_callVe (e := d - 1) (as := [_, _, _]) rfl (by omega) rfl rfl (Nat.le_of_ble_eq_true rfl) (Nat.le_of_ble_eq_true rfl) rfl (m_has hR (by omega) (by omega) (by omega)) ?_
        refine bw_icne rfl (fun c52 => ?_) (fun c52 => ?_)
        · skip
          refine bw_iload rfl rfl ?_
          refine bw_push rfl ?_
          refine bw_iadd rfl ⟨by omega, by omega⟩ ?_
          refine bw_istore (ls2 := [_, _, _, _, _, _]) rfl rfl (Nat.le_of_ble_eq_true rfl) rfl ?_
          exact L66 98 a (f + 1) ⟨by omega, by omega, g3, by omega⟩ (by omega) (by omega) (fun j h1 h2 => by rw [show j = f by omega]) (by omega)
        · skip
          refine bw_iinc (ls2 := [_, _, _, _, _, _]) rfl rfl rfl ⟨by omega, by omega⟩ rfl ?_
          refine bw_goto rfl ?_
          refine ih _ (by omega) (by omega) (fun j h1 h2 => ?_) (by omega)
          by_cases q : j = a - 1
          · rw [q]; omega
          · exact g3 j (by omega) h2
  show abW d (0, 0) 209 0 [some (vr (some 567)), some (vi l), some (vi f), some (vi w), none, none] [] (0, 0) (A0 L) M (qJ (A0 L) M (fun x => (0 ≤ l ∧ l < gI M 568 1 ∧ 0 ≤ f ∧ f < gI M 568 0 ∧ 0 ≤ w ∧ w ≤ 2) ∧ (∃ a : Int, isFst (mR M 0 l) f a ∧ (w = 0 ∧ x = a ∨ w = 1 ∧ (∃ s : Int, isStp (mR M 0 l) f (gI M 568 0) s ∧ x = s - a) ∨ w = 2 ∧ x = cN (pE (mR M 0 l)) a.toNat)) ∨ ¬ (0 ≤ l ∧ l < gI M 568 1 ∧ 0 ≤ f ∧ f < gI M 568 0 ∧ 0 ≤ w ∧ w ≤ 2) ∧ x = -1))
  refine bw_aload rfl rfl ?_
  refine bw_iload rfl rfl ?_
  refine bw_callVj (e := d - 1) (as := [_]) rfl (by omega) rfl rfl (Nat.le_of_ble_eq_true rfl) (Nat.le_of_ble_eq_true rfl) rfl (m_isLayer hR hB (by omega)) (fun r2 hr2 => ?_)
  refine bw_ifeq rfl (fun c5 => ?_) (fun c5 => ?_)
  · skip
    refine bw_push rfl ?_
    refine bw_ret rfl rfl ?_
    exact ⟨rfl, rfl, _, rfl, Or.inr ⟨by omega, rfl⟩⟩
  · skip
    refine bw_aload rfl rfl ?_
    refine bw_iload rfl rfl ?_
    refine bw_callVj (e := d - 1) (as := [_]) rfl (by omega) rfl rfl (Nat.le_of_ble_eq_true rfl) (Nat.le_of_ble_eq_true rfl) rfl (m_isFrame hR hB (by omega)) (fun r10 hr10 => ?_)
    refine bw_ifeq rfl (fun c13 => ?_) (fun c13 => ?_)
    · skip
      refine bw_push rfl ?_
      refine bw_ret rfl rfl ?_
      exact ⟨rfl, rfl, _, rfl, Or.inr ⟨by omega, rfl⟩⟩
    · skip
      refine bw_iload rfl rfl ?_
      refine bw_push rfl ?_
      refine bw_push rfl ?_
      refine bw_callSj (e := d - 1) (as := [_, _, _]) rfl (by omega) rfl rfl (Nat.le_of_ble_eq_true rfl) (Nat.le_of_ble_eq_true rfl) (m_isIn hR) (fun r19 hr19 => ?_)
      refine bw_ifne rfl (fun c22 => ?_) (fun c22 => ?_)
      · skip
        refine bw_iload rfl rfl ?_
        refine bw_istore (ls2 := [_, _, _, _, _, _]) rfl rfl (Nat.le_of_ble_eq_true rfl) rfl ?_
        exact L30 97 f (by omega) (by omega) (fun j h1 h2 => by rw [show j = f by omega]) (by omega)
      · skip
        refine bw_push rfl ?_
        refine bw_ret rfl rfl ?_
        exact ⟨rfl, rfl, _, rfl, Or.inr ⟨by omega, rfl⟩⟩
set_option maxRecDepth 20000 in
set_option maxHeartbeats 4000000 in
theorem m_shift {d L : Nat} {M : abMem} {r : abRf} (hR : RF r M) (hB : RB M) {l f w : Int} (hd : 3 ≤ d) : abW d (0, 0) 226 0 (abEnt (abL 226) [vr (some 567), vi l, vi f, vi w]) [] (0, 0) (A0 L) M (qE (some (vi (if 0 ≤ l ∧ l < gI M 568 1 ∧ 0 ≤ f ∧ f < gI M 568 0 ∧ 0 ≤ w ∧ w ≤ 1 then mv (gI M 568) l f w else -2147483648))) (A0 L) M) := by
  have b1 := hB.fr
  have b2 := hB.la
  show abW d (0, 0) 226 0 [some (vr (some 567)), some (vi l), some (vi f), some (vi w)] [] (0, 0) (A0 L) M (qE (some (vi (if 0 ≤ l ∧ l < gI M 568 1 ∧ 0 ≤ f ∧ f < gI M 568 0 ∧ 0 ≤ w ∧ w ≤ 1 then mv (gI M 568) l f w else -2147483648))) (A0 L) M)
  refine bw_aload rfl rfl ?_
  refine bw_iload rfl rfl ?_
  refine bw_callVj (e := d - 1) (as := [_]) rfl (by omega) rfl rfl (Nat.le_of_ble_eq_true rfl) (Nat.le_of_ble_eq_true rfl) rfl (m_isLayer hR hB (by omega)) (fun r2 hr2 => ?_)
  refine bw_ifeq rfl (fun c5 => ?_) (fun c5 => ?_)
  · skip
    refine bw_pushc rfl ?_
    refine bw_ret rfl rfl ?_
    exact ⟨congrArg (fun x => some (vi x)) (by first | rfl | ((repeat (first | rw [if_pos (by omega)] | rw [if_neg (by omega)])) <;> first | rfl | omega)), rfl, rfl⟩
  · skip
    refine bw_aload rfl rfl ?_
    refine bw_iload rfl rfl ?_
    refine bw_callVj (e := d - 1) (as := [_]) rfl (by omega) rfl rfl (Nat.le_of_ble_eq_true rfl) (Nat.le_of_ble_eq_true rfl) rfl (m_isFrame hR hB (by omega)) (fun r10 hr10 => ?_)
    refine bw_ifeq rfl (fun c13 => ?_) (fun c13 => ?_)
    · skip
      refine bw_pushc rfl ?_
      refine bw_ret rfl rfl ?_
      exact ⟨congrArg (fun x => some (vi x)) (by first | rfl | ((repeat (first | rw [if_pos (by omega)] | rw [if_neg (by omega)])) <;> first | rfl | omega)), rfl, rfl⟩
    · skip
      refine bw_iload rfl rfl ?_
      refine bw_push rfl ?_
      refine bw_push rfl ?_
      refine bw_callSj (e := d - 1) (as := [_, _, _]) rfl (by omega) rfl rfl (Nat.le_of_ble_eq_true rfl) (Nat.le_of_ble_eq_true rfl) (m_isIn hR) (fun r19 hr19 => ?_)
      refine bw_ifeq rfl (fun c22 => ?_) (fun c22 => ?_)
      · skip
        refine bw_pushc rfl ?_
        refine bw_ret rfl rfl ?_
        exact ⟨congrArg (fun x => some (vi x)) (by first | rfl | ((repeat (first | rw [if_pos (by omega)] | rw [if_neg (by omega)])) <;> first | rfl | omega)), rfl, rfl⟩
      · skip
        refine bw_aload rfl rfl ?_
        refine bw_iload rfl rfl ?_
        refine bw_iload rfl rfl ?_
        refine bw_iload rfl rfl ?_
        refine bw_callVe (e := d - 1) (as := [_, _, _]) rfl (by omega) rfl rfl (Nat.le_of_ble_eq_true rfl) (Nat.le_of_ble_eq_true rfl) rfl (m_moved hR hB (by omega) (by omega) (by omega) (by omega)) ?_
        refine bw_goto rfl ?_
        refine bw_ret rfl rfl ?_
        exact ⟨congrArg (fun x => some (vi x)) (by first | rfl | ((repeat (first | rw [if_pos (by omega)] | rw [if_neg (by omega)])) <;> first | rfl | omega)), rfl, rfl⟩
set_option maxRecDepth 20000 in
set_option maxHeartbeats 4000000 in
theorem m_hidden {d L : Nat} {M : abMem} {r : abRf} (hR : RF r M) (hB : RB M) {l f : Int} (hd : 3 ≤ d) : abW d (0, 0) 228 0 (abEnt (abL 228) [vr (some 567), vi l, vi f]) [] (0, 0) (A0 L) M (qJ (A0 L) M (fun x => (0 ≤ l ∧ l < gI M 568 1 ∧ 0 ≤ f ∧ f < gI M 568 0) ∧ (hid (gI M 568) l f ∧ x = 1 ∨ ¬ hid (gI M 568) l f ∧ x = 0) ∨ ¬ (0 ≤ l ∧ l < gI M 568 1 ∧ 0 ≤ f ∧ f < gI M 568 0) ∧ x = -1)) := by
  have b1 := hB.fr
  have b2 := hB.la
  show abW d (0, 0) 228 0 [some (vr (some 567)), some (vi l), some (vi f)] [] (0, 0) (A0 L) M (qJ (A0 L) M (fun x => (0 ≤ l ∧ l < gI M 568 1 ∧ 0 ≤ f ∧ f < gI M 568 0) ∧ (hid (gI M 568) l f ∧ x = 1 ∨ ¬ hid (gI M 568) l f ∧ x = 0) ∨ ¬ (0 ≤ l ∧ l < gI M 568 1 ∧ 0 ≤ f ∧ f < gI M 568 0) ∧ x = -1))
  refine bw_aload rfl rfl ?_
  refine bw_iload rfl rfl ?_
  refine bw_callVj (e := d - 1) (as := [_]) rfl (by omega) rfl rfl (Nat.le_of_ble_eq_true rfl) (Nat.le_of_ble_eq_true rfl) rfl (m_isLayer hR hB (by omega)) (fun r2 hr2 => ?_)
  refine bw_ifeq rfl (fun c5 => ?_) (fun c5 => ?_)
  · skip
    refine bw_push rfl ?_
    refine bw_goto rfl ?_
    refine bw_ret rfl rfl ?_
    first
    | exact ⟨rfl, rfl, _, rfl, Or.inr ⟨by omega, rfl⟩⟩
    | (refine ⟨rfl, rfl, _, rfl, Or.inl ⟨by omega, ?_⟩⟩
       rcases hr23 with q | q
       · first
         | exact Or.inl ⟨q.1, rfl⟩
         | (exfalso; omega)
       · first
         | exact Or.inr ⟨q.1, rfl⟩
         | (exfalso; omega))
  · skip
    refine bw_aload rfl rfl ?_
    refine bw_iload rfl rfl ?_
    refine bw_callVj (e := d - 1) (as := [_]) rfl (by omega) rfl rfl (Nat.le_of_ble_eq_true rfl) (Nat.le_of_ble_eq_true rfl) rfl (m_isFrame hR hB (by omega)) (fun r10 hr10 => ?_)
    refine bw_ifne rfl (fun c13 => ?_) (fun c13 => ?_)
    · skip
      refine bw_aload rfl rfl ?_
      refine bw_iload rfl rfl ?_
      refine bw_iload rfl rfl ?_
      refine bw_callVj (e := d - 1) (as := [_, _]) rfl (by omega) rfl rfl (Nat.le_of_ble_eq_true rfl) (Nat.le_of_ble_eq_true rfl) rfl (m_isHidden hR hB (by omega)) (fun r23 hr23 => ?_)
      refine bw_ifeq rfl (fun c26 => ?_) (fun c26 => ?_)
      · skip
        refine bw_push rfl ?_
        refine bw_ret rfl rfl ?_
        first
        | exact ⟨rfl, rfl, _, rfl, Or.inr ⟨by omega, rfl⟩⟩
        | (refine ⟨rfl, rfl, _, rfl, Or.inl ⟨by omega, ?_⟩⟩
           rcases hr23 with q | q
           · first
             | exact Or.inl ⟨q.1, rfl⟩
             | (exfalso; omega)
           · first
             | exact Or.inr ⟨q.1, rfl⟩
             | (exfalso; omega))
      · skip
        refine bw_push rfl ?_
        refine bw_goto rfl ?_
        refine bw_ret rfl rfl ?_
        first
        | exact ⟨rfl, rfl, _, rfl, Or.inr ⟨by omega, rfl⟩⟩
        | (refine ⟨rfl, rfl, _, rfl, Or.inl ⟨by omega, ?_⟩⟩
           rcases hr23 with q | q
           · first
             | exact Or.inl ⟨q.1, rfl⟩
             | (exfalso; omega)
           · first
             | exact Or.inr ⟨q.1, rfl⟩
             | (exfalso; omega))
    · skip
      refine bw_push rfl ?_
      refine bw_goto rfl ?_
      refine bw_ret rfl rfl ?_
      first
      | exact ⟨rfl, rfl, _, rfl, Or.inr ⟨by omega, rfl⟩⟩
      | (refine ⟨rfl, rfl, _, rfl, Or.inl ⟨by omega, ?_⟩⟩
         rcases hr23 with q | q
         · first
           | exact Or.inl ⟨q.1, rfl⟩
           | (exfalso; omega)
         · first
           | exact Or.inr ⟨q.1, rfl⟩
           | (exfalso; omega))
set_option maxRecDepth 20000 in
set_option maxHeartbeats 4000000 in
theorem m_fault {d L : Nat} {M : abMem} {r : abRf} (hR : RF r M) {w : Int} : abW d (0, 0) 188 0 (abEnt (abL 188) [vr (some 567), vi w]) [] (0, 0) (A0 L) M (qE (some (vi (if w = 0 then gI M 567 6 else if w = 1 then gI M 567 7 else -1))) (A0 L) M) := by
  show abW d (0, 0) 188 0 [some (vr (some 567)), some (vi w)] [] (0, 0) (A0 L) M (qE (some (vi (if w = 0 then gI M 567 6 else if w = 1 then gI M 567 7 else -1))) (A0 L) M)
  refine bw_iload rfl rfl ?_
  refine bw_ifne rfl (fun c1 => ?_) (fun c1 => ?_)
  · skip
    refine bw_iload rfl rfl ?_
    refine bw_push rfl ?_
    refine bw_icne rfl (fun c13 => ?_) (fun c13 => ?_)
    · skip
      refine bw_push rfl ?_
      refine bw_ret rfl rfl ?_
      exact ⟨congrArg (fun x => some (vi x)) (by first | rfl | ((repeat (first | rw [if_pos (by omega)] | rw [if_neg (by omega)])) <;> first | rfl | omega)), rfl, rfl⟩
    · skip
      refine bw_aload rfl rfl ?_
      refine bw_getI rfl rfl ?_
      refine bw_goto rfl ?_
      refine bw_ret rfl rfl ?_
      exact ⟨congrArg (fun x => some (vi x)) (by first | rfl | ((repeat (first | rw [if_pos (by omega)] | rw [if_neg (by omega)])) <;> first | rfl | omega)), rfl, rfl⟩
  · skip
    refine bw_aload rfl rfl ?_
    refine bw_getI rfl rfl ?_
    refine bw_goto rfl ?_
    refine bw_ret rfl rfl ?_
    exact ⟨congrArg (fun x => some (vi x)) (by first | rfl | ((repeat (first | rw [if_pos (by omega)] | rw [if_neg (by omega)])) <;> first | rfl | omega)), rfl, rfl⟩
set_option maxRecDepth 20000 in
set_option maxHeartbeats 4000000 in
theorem m_end {d L : Nat} {M : abMem} {r : abRf} (hR : RF r M) {n : Int} : abW d (0, 0) 144 0 (abEnt (abL 144) [vr (some 567), vi n]) [] (0, 0) (A0 L) M (qI (A0 L) (fun x N => (0 ≤ n ∧ n ≤ gI M 567 5) ∧ x = 1 ∧ N = sI M 567 5 n ∨ ¬ (0 ≤ n ∧ n ≤ gI M 567 5) ∧ x = 0 ∧ N = M)) := by
  show abW d (0, 0) 144 0 [some (vr (some 567)), some (vi n)] [] (0, 0) (A0 L) M (qI (A0 L) (fun x N => (0 ≤ n ∧ n ≤ gI M 567 5) ∧ x = 1 ∧ N = sI M 567 5 n ∨ ¬ (0 ≤ n ∧ n ≤ gI M 567 5) ∧ x = 0 ∧ N = M))
  refine bw_iload rfl rfl ?_
  refine bw_iflt rfl (fun c1 => ?_) (fun c1 => ?_)
  · skip
    refine bw_push rfl ?_
    refine bw_retz rfl rfl (by omega) ?_
    exact ⟨rfl, _, rfl, Or.inr ⟨by omega, rfl, rfl⟩⟩
  · skip
    refine bw_iload rfl rfl ?_
    refine bw_aload rfl rfl ?_
    refine bw_getI rfl rfl ?_
    refine bw_icle rfl (fun c9 => ?_) (fun c9 => ?_)
    · skip
      refine bw_aload rfl rfl ?_
      refine bw_iload rfl rfl ?_
      refine bw_putI rfl rfl ?_
      refine bw_push rfl ?_
      refine bw_retz rfl rfl (by omega) ?_
      exact ⟨rfl, _, rfl, Or.inl ⟨by omega, rfl, rfl⟩⟩
    · skip
      refine bw_push rfl ?_
      refine bw_retz rfl rfl (by omega) ?_
      exact ⟨rfl, _, rfl, Or.inr ⟨by omega, rfl, rfl⟩⟩
/-- byte k of a number -/
def byV (v k : Int) : Int := xand (xshr v (24 - 8 * k)) 255
/-- n bytes of a number laid from t on -/
def ly (S : Int → Int) (t v n : Int) : Int → Int := fun j => if t ≤ j ∧ j < t + n then byV v (j - t) else S j
theorem ly_0 {S : Int → Int} {t v : Int} : ly S t v 0 = S := by
  funext j
  unfold ly
  rw [if_neg (by omega)]
theorem ly_s {S : Int → Int} {t v k : Int} (hk : 0 ≤ k) : up (ly S t v k) (t + k) (byV v k) = ly S t v (k + 1) := by
  funext j
  unfold up ly
  by_cases q : j = t + k
  · rw [if_pos q, if_pos (by omega), q]; congr 1; omega
  · rw [if_neg q]
    by_cases q2 : t ≤ j ∧ j < t + k
    · rw [if_pos q2, if_pos (by omega)]
    · rw [if_neg q2, if_neg (by omega)]
abbrev p71 (a : Nat) : Prop := a = 571
abbrev q5 (j : Int) : Prop := j = 5
set_option maxRecDepth 20000 in
set_option maxHeartbeats 4000000 in
theorem m_lays {d L : Nat} {M : abMem} {r : abRf} (hR : RF r M) {v : Int} (ht : 0 ≤ gI M 567 5 ∧ gI M 567 5 ≤ 1196) : abW d (0, 0) 142 0 (abEnt (abL 142) [vr (some 567), vi v]) [] (0, 0) (A0 L) M (qV (A0 L) (fun N => s5 p71 q5 M N ∧ gI N 567 5 = gI M 567 5 + 4 ∧ gI N 571 = ly (gI M 571) (gI M 567 5) v 4)) := by
  have L2 : ∀ (kf : Nat) (k : Int), (0 ≤ k ∧ k ≤ 4) → ((4 - k).toNat) < kf → abW d (0, 0) 142 2 [some (vr (some 567)), some (vi v), some (vi k)] [] (0, 0) (A0 L) ((wI M 571 (ly (gI M 571) (gI M 567 5) v k))) (qV (A0 L) (fun N => s5 p71 q5 M N ∧ gI N 567 5 = gI M 567 5 + 4 ∧ gI N 571 = ly (gI M 571) (gI M 567 5) v 4)) := by
    intro kf
    induction kf with
    | zero => intro k  g1 hm9; exact absurd hm9 (Nat.not_lt_zero _)
    | succ kf ih2 =>
      intro k  g1 hm2
      have ih := ih2
      refine bw_iload rfl rfl ?_
      refine bw_push rfl ?_
      refine bw_icge rfl (fun c4 => ?_) (fun c4 => ?_)
      · skip
        refine bw_aload rfl rfl ?_
        first | refine bw_dup rfl ?_ | refine bw_dupi rfl ?_
        refine bw_getI rfl rfl ?_
        rw [gI_wI_ne (show 567 ≠ 571 by decide)]
        refine bw_push rfl ?_
        refine bw_iadd rfl ⟨by omega, by omega⟩ ?_
        refine bw_putI rfl rfl ?_
        refine bw_retv rfl rfl ?_
        obtain rfl : k = 4 := by omega
        exact ⟨rfl, rfl, ⟨rfl, fun a ha h7 => by rw [gI_sI_ne h7, gI_wI_ne ha], fun j hj => by rw [gI_sI_nj hj, gI_wI_ne (by decide)], WA_of (by rw [gI_sI_nj (by decide), gI_wI_ne (by decide)]) (by rw [gI_sI_nj (by decide), gI_wI_ne (by decide)])⟩, by rw [gI_sI_eq], by rw [gI_sI_ne (by decide), gI_wI_eq]⟩
      · skip
        refine bw_aload rfl rfl ?_
        refine bw_getr rfl rfl (hR _ _) ?_
        refine bw_aload rfl rfl ?_
        refine bw_getI rfl rfl ?_
        rw [gI_wI_ne (show 567 ≠ 571 by decide)]
        refine bw_iload rfl rfl ?_
        refine bw_iadd rfl ⟨by omega, by omega⟩ ?_
        refine bw_iload rfl rfl ?_
        refine bw_push rfl ?_
        refine bw_push rfl ?_
        refine bw_iload rfl rfl ?_
        refine bw_imul rfl ⟨by omega, by omega⟩ ?_
        refine bw_isub rfl ⟨by omega, by omega⟩ ?_
        refine bw_ishr rfl ?_
        refine bw_push rfl ?_
        refine bw_iand rfl ?_
        refine bw_asti rfl (by first | rfl | assumption) (by omega) (by omega) ?_
        refine bw_iinc (ls2 := [_, _, _]) rfl rfl rfl ⟨by omega, by omega⟩ rfl ?_
        refine bw_goto rfl ?_
        refine bw_cast (M2 := wI M 571 (ly (gI M 571) (gI M 567 5) v (k + 1))) (ih _ (by omega) (by omega)) rfl rfl ?_
        rw [sI_wI, show xand (xshr v (24 - 8 * k)) 255 = byV v k from rfl, ly_s (by omega)]
  show abW d (0, 0) 142 0 [some (vr (some 567)), some (vi v), none] [] (0, 0) (A0 L) M (qV (A0 L) (fun N => s5 p71 q5 M N ∧ gI N 567 5 = gI M 567 5 + 4 ∧ gI N 571 = ly (gI M 571) (gI M 567 5) v 4))
  refine bw_push rfl ?_
  refine bw_istore (ls2 := [_, _, _]) rfl rfl (Nat.le_of_ble_eq_true rfl) rfl ?_
  refine bw_cast (M2 := wI M 571 (ly (gI M 571) (gI M 567 5) v 0)) (L2 5 0 (by omega) (by omega)) rfl rfl ?_
  rw [ly_0, wI_self]
set_option maxRecDepth 20000 in
set_option maxHeartbeats 4000000 in
theorem m_feed {d L : Nat} {M : abMem} {r : abRf} (hR : RF r M) {a b c g e : Int} (ht : 0 ≤ gI M 567 5 ∧ gI M 567 5 ≤ 1200) (hd : 1 ≤ d) : abW d (0, 0) 143 0 (abEnt (abL 143) [vr (some 567), vi a, vi b, vi c, vi g, vi e]) [] (0, 0) (A0 L) M (qI (A0 L) (fun x N => 1180 < gI M 567 5 ∧ x = -1 ∧ N = M ∨ gI M 567 5 ≤ 1180 ∧ x = gI M 567 5 + 20 ∧ s5 p71 q5 M N ∧ gI N 567 5 = gI M 567 5 + 20 ∧ gI N 571 = ly (ly (ly (ly (ly (gI M 571) (gI M 567 5) a 4) (gI M 567 5 + 4) b 4) (gI M 567 5 + 8) c 4) (gI M 567 5 + 12) g 4) (gI M 567 5 + 16) e 4)) := by
  show abW d (0, 0) 143 0 [some (vr (some 567)), some (vi a), some (vi b), some (vi c), some (vi g), some (vi e)] [] (0, 0) (A0 L) M (qI (A0 L) (fun x N => 1180 < gI M 567 5 ∧ x = -1 ∧ N = M ∨ gI M 567 5 ≤ 1180 ∧ x = gI M 567 5 + 20 ∧ s5 p71 q5 M N ∧ gI N 567 5 = gI M 567 5 + 20 ∧ gI N 571 = ly (ly (ly (ly (ly (gI M 571) (gI M 567 5) a 4) (gI M 567 5 + 4) b 4) (gI M 567 5 + 8) c 4) (gI M 567 5 + 12) g 4) (gI M 567 5 + 16) e 4))
  refine bw_aload rfl rfl ?_
  refine bw_getI rfl rfl ?_
  refine bw_push rfl ?_
  refine bw_iadd rfl ⟨by omega, by omega⟩ ?_
  refine bw_push rfl ?_
  refine bw_icle rfl (fun c10 => ?_) (fun c10 => ?_)
  · skip
    refine bw_aload rfl rfl ?_
    refine bw_iload rfl rfl ?_
    refine bw_callVv (e := d - 1) (as := [_]) rfl (by omega) rfl rfl (Nat.le_of_ble_eq_true rfl) (Nat.le_of_ble_eq_true rfl) rfl (m_lays hR (by omega)) (fun M17 hM17 => ?_)
    obtain ⟨u17, v17, w17⟩ := hM17
    have hR := u17.RF hR
    refine bw_aload rfl rfl ?_
    refine bw_iload rfl rfl ?_
    refine bw_callVv (e := d - 1) (as := [_]) rfl (by omega) rfl rfl (Nat.le_of_ble_eq_true rfl) (Nat.le_of_ble_eq_true rfl) rfl (m_lays hR (by omega)) (fun M22 hM22 => ?_)
    obtain ⟨u22, v22, w22⟩ := hM22
    have hR := u22.RF hR
    refine bw_aload rfl rfl ?_
    refine bw_iload rfl rfl ?_
    refine bw_callVv (e := d - 1) (as := [_]) rfl (by omega) rfl rfl (Nat.le_of_ble_eq_true rfl) (Nat.le_of_ble_eq_true rfl) rfl (m_lays hR (by omega)) (fun M27 hM27 => ?_)
    obtain ⟨u27, v27, w27⟩ := hM27
    have hR := u27.RF hR
    refine bw_aload rfl rfl ?_
    refine bw_iload rfl rfl ?_
    refine bw_callVv (e := d - 1) (as := [_]) rfl (by omega) rfl rfl (Nat.le_of_ble_eq_true rfl) (Nat.le_of_ble_eq_true rfl) rfl (m_lays hR (by omega)) (fun M33 hM33 => ?_)
    obtain ⟨u33, v33, w33⟩ := hM33
    have hR := u33.RF hR
    refine bw_aload rfl rfl ?_
    refine bw_iload rfl rfl ?_
    refine bw_callVv (e := d - 1) (as := [_]) rfl (by omega) rfl rfl (Nat.le_of_ble_eq_true rfl) (Nat.le_of_ble_eq_true rfl) rfl (m_lays hR (by omega)) (fun M39 hM39 => ?_)
    obtain ⟨u39, v39, w39⟩ := hM39
    have hR := u39.RF hR
    refine bw_aload rfl rfl ?_
    refine bw_getI rfl rfl ?_
    refine bw_ret rfl rfl ?_
    refine ⟨rfl, _, rfl, Or.inr ⟨by omega, by omega, (((u17.trans u22).trans u27).trans u33).trans u39, by omega, ?_⟩⟩
    rw [w39, w33, w27, w22, w17, v33, v27, v22, v17]
    rw [show gI M 567 5 + 4 + 4 = gI M 567 5 + 8 by omega, show gI M 567 5 + 8 + 4 = gI M 567 5 + 12 by omega, show gI M 567 5 + 12 + 4 = gI M 567 5 + 16 by omega]
  · skip
    refine bw_push rfl ?_
    refine bw_ret rfl rfl ?_
    exact ⟨rfl, _, rfl, Or.inl ⟨by omega, rfl, rfl⟩⟩
