/-- a row of a sheet of the reference -/
def mR (M : abMem) (i l : Int) : Int → Int := fun f => gI M 569 (i + 96 * l + f)

/-- what the numbers of a scene keep to -/
abbrev SW (s : Int → Int) : Prop := (0 ≤ s 0 ∧ s 0 ≤ 96) ∧ (0 ≤ s 1 ∧ s 1 ≤ 6) ∧ (0 ≤ s 2 ∧ s 2 ≤ 40) ∧ (0 ≤ s 3 ∧ s 3 ≤ 12) ∧ (0 ≤ s 4 ∧ s 4 ≤ 12) ∧ (0 ≤ s 5 ∧ s 5 ≤ 60) ∧ (∀ l : Int, 0 ≤ l → l < s 1 → 1 ≤ s (6 + l) ∧ s (6 + l) ≤ 24) ∧ (∀ l : Int, 0 ≤ l → l < s 1 → 1 ≤ s (12 + 7 * l) ∧ s (12 + 7 * l) ≤ 6) ∧ (∀ l i : Int, 0 ≤ l → l < s 1 → 0 ≤ i → i < s (12 + 7 * l) → 97 ≤ s (13 + 7 * l + i) ∧ s (13 + 7 * l + i) ≤ 122) ∧ (∀ k : Int, 0 ≤ k → k < s 2 → (0 ≤ s (54 + 7 * k) ∧ s (54 + 7 * k) < s 1) ∧ (1 ≤ s (54 + 7 * k + 1) ∧ s (54 + 7 * k + 1) ≤ 99) ∧ (0 ≤ s (54 + 7 * k + 2) ∧ s (54 + 7 * k + 2) ≤ 11) ∧ (0 ≤ s (54 + 7 * k + 3) ∧ s (54 + 7 * k + 3) ≤ 7) ∧ (1 ≤ s (54 + 7 * k + 4) ∧ s (54 + 7 * k + 4) ≤ 12) ∧ (1 ≤ s (54 + 7 * k + 5) ∧ s (54 + 7 * k + 5) ≤ 8) ∧ (1 ≤ s (54 + 7 * k + 6) ∧ s (54 + 7 * k + 6) ≤ 9)) ∧ (∀ k : Int, 0 ≤ k → k < s 3 → (0 ≤ s (334 + 5 * k) ∧ s (334 + 5 * k) < s 1) ∧ (0 ≤ s (334 + 5 * k + 1) ∧ s (334 + 5 * k + 1) ≤ s (334 + 5 * k + 2) ∧ s (334 + 5 * k + 2) < s 0) ∧ (-9 ≤ s (334 + 5 * k + 3) ∧ s (334 + 5 * k + 3) ≤ 9) ∧ (-9 ≤ s (334 + 5 * k + 4) ∧ s (334 + 5 * k + 4) ≤ 9)) ∧ (∀ k : Int, 0 ≤ k → k < s 4 → (0 ≤ s (394 + 3 * k) ∧ s (394 + 3 * k) < s 1) ∧ (0 ≤ s (394 + 3 * k + 1) ∧ s (394 + 3 * k + 1) ≤ s (394 + 3 * k + 2) ∧ s (394 + 3 * k + 2) < s 0)) ∧ (∀ j : Int, 0 ≤ j → j < 576 → 0 ≤ s (430 + j) ∧ s (430 + j) ≤ 99)
theorem SW.fr {s : Int → Int} (h : SW s) : 0 ≤ s 0 ∧ s 0 ≤ 96 := h.1
theorem SW.la {s : Int → Int} (h : SW s) : 0 ≤ s 1 ∧ s 1 ≤ 6 := h.2.1
theorem SW.bo {s : Int → Int} (h : SW s) : 0 ≤ s 2 ∧ s 2 ≤ 40 := h.2.2.1
theorem SW.sl {s : Int → Int} (h : SW s) : 0 ≤ s 3 ∧ s 3 ≤ 12 := h.2.2.2.1
theorem SW.hi {s : Int → Int} (h : SW s) : 0 ≤ s 4 ∧ s 4 ≤ 12 := h.2.2.2.2.1
theorem SW.st {s : Int → Int} (h : SW s) : 0 ≤ s 5 ∧ s 5 ≤ 60 := h.2.2.2.2.2.1
theorem SW.on {s : Int → Int} (h : SW s) : ∀ l : Int, 0 ≤ l → l < s 1 → 1 ≤ s (6 + l) ∧ s (6 + l) ≤ 24 := h.2.2.2.2.2.2.1
theorem SW.nm {s : Int → Int} (h : SW s) : ∀ l : Int, 0 ≤ l → l < s 1 → 1 ≤ s (12 + 7 * l) ∧ s (12 + 7 * l) ≤ 6 := h.2.2.2.2.2.2.2.1
theorem SW.le {s : Int → Int} (h : SW s) : ∀ l i : Int, 0 ≤ l → l < s 1 → 0 ≤ i → i < s (12 + 7 * l) → 97 ≤ s (13 + 7 * l + i) ∧ s (13 + 7 * l + i) ≤ 122 := h.2.2.2.2.2.2.2.2.1
theorem SW.bx {s : Int → Int} (h : SW s) : ∀ k : Int, 0 ≤ k → k < s 2 → (0 ≤ s (54 + 7 * k) ∧ s (54 + 7 * k) < s 1) ∧ (1 ≤ s (54 + 7 * k + 1) ∧ s (54 + 7 * k + 1) ≤ 99) ∧ (0 ≤ s (54 + 7 * k + 2) ∧ s (54 + 7 * k + 2) ≤ 11) ∧ (0 ≤ s (54 + 7 * k + 3) ∧ s (54 + 7 * k + 3) ≤ 7) ∧ (1 ≤ s (54 + 7 * k + 4) ∧ s (54 + 7 * k + 4) ≤ 12) ∧ (1 ≤ s (54 + 7 * k + 5) ∧ s (54 + 7 * k + 5) ≤ 8) ∧ (1 ≤ s (54 + 7 * k + 6) ∧ s (54 + 7 * k + 6) ≤ 9) := h.2.2.2.2.2.2.2.2.2.1
theorem SW.sd {s : Int → Int} (h : SW s) : ∀ k : Int, 0 ≤ k → k < s 3 → (0 ≤ s (334 + 5 * k) ∧ s (334 + 5 * k) < s 1) ∧ (0 ≤ s (334 + 5 * k + 1) ∧ s (334 + 5 * k + 1) ≤ s (334 + 5 * k + 2) ∧ s (334 + 5 * k + 2) < s 0) ∧ (-9 ≤ s (334 + 5 * k + 3) ∧ s (334 + 5 * k + 3) ≤ 9) ∧ (-9 ≤ s (334 + 5 * k + 4) ∧ s (334 + 5 * k + 4) ≤ 9) := h.2.2.2.2.2.2.2.2.2.2.1
theorem SW.hd {s : Int → Int} (h : SW s) : ∀ k : Int, 0 ≤ k → k < s 4 → (0 ≤ s (394 + 3 * k) ∧ s (394 + 3 * k) < s 1) ∧ (0 ≤ s (394 + 3 * k + 1) ∧ s (394 + 3 * k + 1) ≤ s (394 + 3 * k + 2) ∧ s (394 + 3 * k + 2) < s 0) := h.2.2.2.2.2.2.2.2.2.2.2.1
theorem SW.td {s : Int → Int} (h : SW s) : ∀ j : Int, 0 ≤ j → j < 576 → 0 ≤ s (430 + j) ∧ s (430 + j) ≤ 99 := h.2.2.2.2.2.2.2.2.2.2.2.2
/-- what the numbers of the reference keep to -/
abbrev RB (M : abMem) : Prop := (SW (gI M 568)) ∧ (∀ j : Int, 0 ≤ j → j < 13968 → 0 ≤ gI M 569 j ∧ gI M 569 j ≤ 99)
theorem RB.sw {M : abMem} (h : RB M) : SW (gI M 568) := h.1
theorem RB.sh {M : abMem} (h : RB M) : ∀ j : Int, 0 ≤ j → j < 13968 → 0 ≤ gI M 569 j ∧ gI M 569 j ≤ 99 := h.2
theorem RB.fr {M : abMem} (h : RB M) : 0 ≤ gI M 568 0 ∧ gI M 568 0 ≤ 96 := h.sw.fr
theorem RB.la {M : abMem} (h : RB M) : 0 ≤ gI M 568 1 ∧ gI M 568 1 ≤ 6 := h.sw.la
theorem RB.mR {M : abMem} (h : RB M) {i l f : Int} (h1 : 0 ≤ i + 96 * l + f) (h2 : i + 96 * l + f < 13968) : 0 ≤ mR M i l f ∧ mR M i l f ≤ 99 := h.sh _ h1 h2
set_option maxRecDepth 20000 in
set_option maxHeartbeats 4000000 in
theorem m_isIn {d L : Nat} {M : abMem} {r : abRf} (hR : RF r M) {v lo hi : Int} : abW d (0, 0) 136 0 (abEnt (abL 136) [vi v, vi lo, vi hi]) [] (0, 0) (A0 L) M (qJ (A0 L) M (fun x => (lo ≤ v ∧ v ≤ hi) ∧ x = 1 ∨ ¬ (lo ≤ v ∧ v ≤ hi) ∧ x = 0)) := by
  show abW d (0, 0) 136 0 [some (vi v), some (vi lo), some (vi hi)] [] (0, 0) (A0 L) M (qJ (A0 L) M (fun x => (lo ≤ v ∧ v ≤ hi) ∧ x = 1 ∨ ¬ (lo ≤ v ∧ v ≤ hi) ∧ x = 0))
  refine bw_iload rfl rfl ?_
  refine bw_iload rfl rfl ?_
  refine bw_iclt rfl (fun c2 => ?_) (fun c2 => ?_)
  · skip
    refine bw_push rfl ?_
    refine bw_retz rfl rfl (by omega) ?_
    exact ⟨rfl, rfl, _, rfl, by omega⟩
  · skip
    refine bw_iload rfl rfl ?_
    refine bw_iload rfl rfl ?_
    refine bw_icgt rfl (fun c7 => ?_) (fun c7 => ?_)
    · skip
      refine bw_push rfl ?_
      refine bw_retz rfl rfl (by omega) ?_
      exact ⟨rfl, rfl, _, rfl, by omega⟩
    · skip
      refine bw_push rfl ?_
      refine bw_goto rfl ?_
      refine bw_retz rfl rfl (by omega) ?_
      exact ⟨rfl, rfl, _, rfl, by omega⟩
set_option maxRecDepth 20000 in
set_option maxHeartbeats 4000000 in
theorem m_lesser {d L : Nat} {M : abMem} {r : abRf} (hR : RF r M) {v w : Int} : abW d (0, 0) 137 0 (abEnt (abL 137) [vi v, vi w]) [] (0, 0) (A0 L) M (qE (some (vi (min v w))) (A0 L) M) := by
  show abW d (0, 0) 137 0 [some (vi v), some (vi w)] [] (0, 0) (A0 L) M (qE (some (vi (min v w))) (A0 L) M)
  refine bw_iload rfl rfl ?_
  refine bw_iload rfl rfl ?_
  refine bw_icge rfl (fun c2 => ?_) (fun c2 => ?_)
  · skip
    refine bw_iload rfl rfl ?_
    refine bw_ret rfl rfl ?_
    exact ⟨by congr 2; omega, rfl, rfl⟩
  · skip
    refine bw_iload rfl rfl ?_
    refine bw_goto rfl ?_
    refine bw_ret rfl rfl ?_
    exact ⟨by congr 2; omega, rfl, rfl⟩
set_option maxRecDepth 20000 in
set_option maxHeartbeats 4000000 in
theorem m_greater {d L : Nat} {M : abMem} {r : abRf} (hR : RF r M) {v w : Int} : abW d (0, 0) 138 0 (abEnt (abL 138) [vi v, vi w]) [] (0, 0) (A0 L) M (qE (some (vi (max v w))) (A0 L) M) := by
  show abW d (0, 0) 138 0 [some (vi v), some (vi w)] [] (0, 0) (A0 L) M (qE (some (vi (max v w))) (A0 L) M)
  refine bw_iload rfl rfl ?_
  refine bw_iload rfl rfl ?_
  refine bw_icle rfl (fun c2 => ?_) (fun c2 => ?_)
  · skip
    refine bw_iload rfl rfl ?_
    refine bw_ret rfl rfl ?_
    exact ⟨by congr 2; omega, rfl, rfl⟩
  · skip
    refine bw_iload rfl rfl ?_
    refine bw_goto rfl ?_
    refine bw_ret rfl rfl ?_
    exact ⟨by congr 2; omega, rfl, rfl⟩
set_option maxRecDepth 20000 in
set_option maxHeartbeats 4000000 in
theorem m_bare {d L : Nat} {M : abMem} {r : abRf} (hR : RF r M) {v : Int} (hv : -2147483648 < v) : abW d (0, 0) 139 0 (abEnt (abL 139) [vi v]) [] (0, 0) (A0 L) M (qE (some (vi (ab1 v))) (A0 L) M) := by
  show abW d (0, 0) 139 0 [some (vi v)] [] (0, 0) (A0 L) M (qE (some (vi (ab1 v))) (A0 L) M)
  refine bw_iload rfl rfl ?_
  refine bw_ifge rfl (fun c1 => ?_) (fun c1 => ?_)
  · skip
    refine bw_iload rfl rfl ?_
    refine bw_ret rfl rfl ?_
    have := ab1_c v
    exact ⟨by congr 2; omega, rfl, rfl⟩
  · skip
    refine bw_iload rfl rfl ?_
    refine bw_ineg rfl ⟨by omega, by omega⟩ ?_
    refine bw_goto rfl ?_
    refine bw_ret rfl rfl ?_
    have := ab1_c v
    exact ⟨by congr 2; omega, rfl, rfl⟩
set_option maxRecDepth 20000 in
set_option maxHeartbeats 4000000 in
theorem m_frames {d L : Nat} {M : abMem} {r : abRf} (hR : RF r M) : abW d (0, 0) 190 0 (abEnt (abL 190) [vr (some 567)]) [] (0, 0) (A0 L) M (qE (some (vi (gI M 568 0))) (A0 L) M) := by
  show abW d (0, 0) 190 0 [some (vr (some 567))] [] (0, 0) (A0 L) M (qE (some (vi (gI M 568 0))) (A0 L) M)
  refine bw_aload rfl rfl ?_
  refine bw_getr rfl rfl (hR _ _) ?_
  refine bw_push rfl ?_
  refine bw_aldi rfl (by first | rfl | assumption) (by omega) (by omega) ?_
  refine bw_ret rfl rfl ?_
  exact ⟨by first | rfl | (congr 3; omega), rfl, rfl⟩
set_option maxRecDepth 20000 in
set_option maxHeartbeats 4000000 in
theorem m_layers {d L : Nat} {M : abMem} {r : abRf} (hR : RF r M) : abW d (0, 0) 191 0 (abEnt (abL 191) [vr (some 567)]) [] (0, 0) (A0 L) M (qE (some (vi (gI M 568 1))) (A0 L) M) := by
  show abW d (0, 0) 191 0 [some (vr (some 567))] [] (0, 0) (A0 L) M (qE (some (vi (gI M 568 1))) (A0 L) M)
  refine bw_aload rfl rfl ?_
  refine bw_getr rfl rfl (hR _ _) ?_
  refine bw_push rfl ?_
  refine bw_aldi rfl (by first | rfl | assumption) (by omega) (by omega) ?_
  refine bw_ret rfl rfl ?_
  exact ⟨by first | rfl | (congr 3; omega), rfl, rfl⟩
set_option maxRecDepth 20000 in
set_option maxHeartbeats 4000000 in
theorem m_isLayer {d L : Nat} {M : abMem} {r : abRf} (hR : RF r M) (hB : RB M) {l : Int} (hd : 1 ≤ d) : abW d (0, 0) 192 0 (abEnt (abL 192) [vr (some 567), vi l]) [] (0, 0) (A0 L) M (qJ (A0 L) M (fun x => (0 ≤ l ∧ l < gI M 568 1) ∧ x = 1 ∨ ¬ (0 ≤ l ∧ l < gI M 568 1) ∧ x = 0)) := by
  have b2 := hB.la
  show abW d (0, 0) 192 0 [some (vr (some 567)), some (vi l)] [] (0, 0) (A0 L) M (qJ (A0 L) M (fun x => (0 ≤ l ∧ l < gI M 568 1) ∧ x = 1 ∨ ¬ (0 ≤ l ∧ l < gI M 568 1) ∧ x = 0))
  refine bw_iload rfl rfl ?_
  refine bw_push rfl ?_
  refine bw_aload rfl rfl ?_
  refine bw_callVe (e := d - 1) (as := []) rfl (by omega) rfl rfl (Nat.le_of_ble_eq_true rfl) (Nat.le_of_ble_eq_true rfl) rfl (m_layers hR) ?_
  refine bw_push rfl ?_
  refine bw_isub rfl ⟨by omega, by omega⟩ ?_
  refine bw_callSj (e := d - 1) (as := [_, _, _]) rfl (by omega) rfl rfl (Nat.le_of_ble_eq_true rfl) (Nat.le_of_ble_eq_true rfl) (m_isIn hR) (fun r8 hr8 => ?_)
  refine bw_retz rfl rfl (by omega) ?_
  exact ⟨rfl, rfl, _, rfl, by omega⟩
set_option maxRecDepth 20000 in
set_option maxHeartbeats 4000000 in
theorem m_isFrame {d L : Nat} {M : abMem} {r : abRf} (hR : RF r M) (hB : RB M) {l : Int} (hd : 1 ≤ d) : abW d (0, 0) 193 0 (abEnt (abL 193) [vr (some 567), vi l]) [] (0, 0) (A0 L) M (qJ (A0 L) M (fun x => (0 ≤ l ∧ l < gI M 568 0) ∧ x = 1 ∨ ¬ (0 ≤ l ∧ l < gI M 568 0) ∧ x = 0)) := by
  have b1 := hB.fr
  show abW d (0, 0) 193 0 [some (vr (some 567)), some (vi l)] [] (0, 0) (A0 L) M (qJ (A0 L) M (fun x => (0 ≤ l ∧ l < gI M 568 0) ∧ x = 1 ∨ ¬ (0 ≤ l ∧ l < gI M 568 0) ∧ x = 0))
  refine bw_iload rfl rfl ?_
  refine bw_push rfl ?_
  refine bw_aload rfl rfl ?_
  refine bw_callVe (e := d - 1) (as := []) rfl (by omega) rfl rfl (Nat.le_of_ble_eq_true rfl) (Nat.le_of_ble_eq_true rfl) rfl (m_frames hR) ?_
  refine bw_push rfl ?_
  refine bw_isub rfl ⟨by omega, by omega⟩ ?_
  refine bw_callSj (e := d - 1) (as := [_, _, _]) rfl (by omega) rfl rfl (Nat.le_of_ble_eq_true rfl) (Nat.le_of_ble_eq_true rfl) (m_isIn hR) (fun r8 hr8 => ?_)
  refine bw_retz rfl rfl (by omega) ?_
  exact ⟨rfl, rfl, _, rfl, by omega⟩
set_option maxRecDepth 20000 in
set_option maxHeartbeats 4000000 in
theorem m_has {d L : Nat} {M : abMem} {r : abRf} (hR : RF r M) {i l f : Int} (h1 : 0 ≤ i ∧ i ≤ 13386) (h2 : 0 ≤ l ∧ l ≤ 5) (h3 : 0 ≤ f ∧ f ≤ 95) : abW d (0, 0) 194 0 (abEnt (abL 194) [vr (some 567), vi i, vi l, vi f]) [] (0, 0) (A0 L) M (qE (some (vi (mR M i l f))) (A0 L) M) := by
  show abW d (0, 0) 194 0 [some (vr (some 567)), some (vi i), some (vi l), some (vi f)] [] (0, 0) (A0 L) M (qE (some (vi (mR M i l f))) (A0 L) M)
  refine bw_aload rfl rfl ?_
  refine bw_getr rfl rfl (hR _ _) ?_
  refine bw_iload rfl rfl ?_
  refine bw_push rfl ?_
  refine bw_iload rfl rfl ?_
  refine bw_imul rfl ⟨by omega, by omega⟩ ?_
  refine bw_iadd rfl ⟨by omega, by omega⟩ ?_
  refine bw_iload rfl rfl ?_
  refine bw_iadd rfl ⟨by omega, by omega⟩ ?_
  refine bw_aldi rfl (by first | rfl | assumption) (by omega) (by omega) ?_
  refine bw_ret rfl rfl ?_
  exact ⟨by first | rfl | (congr 3; omega), rfl, rfl⟩
set_option maxRecDepth 20000 in
set_option maxHeartbeats 4000000 in
theorem m_beginsAt {d L : Nat} {M : abMem} {r : abRf} (hR : RF r M) {i l f : Int} (h1 : 0 ≤ i ∧ i ≤ 13386) (h2 : 0 ≤ l ∧ l ≤ 5) (h3 : 0 ≤ f ∧ f ≤ 95) (hd : 1 ≤ d) : abW d (0, 0) 197 0 (abEnt (abL 197) [vr (some 567), vi i, vi l, vi f]) [] (0, 0) (A0 L) M (qE (some (vi (if pE (mR M i l) f then 1 else 0))) (A0 L) M) := by
  show abW d (0, 0) 197 0 [some (vr (some 567)), some (vi i), some (vi l), some (vi f)] [] (0, 0) (A0 L) M (qE (some (vi (if pE (mR M i l) f then 1 else 0))) (A0 L) M)
  refine bw_iload rfl rfl ?_
  refine bw_ifeq rfl (fun c1 => ?_) (fun c1 => ?_)
  · skip
    refine bw_push rfl ?_
    refine bw_goto rfl ?_
    refine bw_retz rfl rfl (by omega) ?_
    exact ⟨by simp [pE, *], rfl, rfl⟩
  · skip
    refine bw_aload rfl rfl ?_
    refine bw_iload rfl rfl ?_
    refine bw_iload rfl rfl ?_
    refine bw_iload rfl rfl ?_
    refine bw_callVe (e := d - 1) (as := [_, _, _]) rfl (by omega) rfl rfl (Nat.le_of_ble_eq_true rfl) (Nat.le_of_ble_eq_true rfl) rfl (m_has hR (by omega) (by omega) (by omega)) ?_
    refine bw_aload rfl rfl ?_
    refine bw_iload rfl rfl ?_
    refine bw_iload rfl rfl ?_
    refine bw_iload rfl rfl ?_
    refine bw_push rfl ?_
    refine bw_isub rfl ⟨by omega, by omega⟩ ?_
    refine bw_callVe (e := d - 1) (as := [_, _, _]) rfl (by omega) rfl rfl (Nat.le_of_ble_eq_true rfl) (Nat.le_of_ble_eq_true rfl) rfl (m_has hR (by omega) (by omega) (by omega)) ?_
    refine bw_iceq rfl (fun c20 => ?_) (fun c20 => ?_)
    · skip
      refine bw_push rfl ?_
      refine bw_retz rfl rfl (by omega) ?_
      exact ⟨by simp [pE, *], rfl, rfl⟩
    · skip
      refine bw_push rfl ?_
      refine bw_goto rfl ?_
      refine bw_retz rfl rfl (by omega) ?_
      exact ⟨by simp [pE, *], rfl, rfl⟩
def pXE (z : Int) (f : Int → Int) (i : Int) : Bool := decide (z ≠ 0 ∨ f i ≠ 0) && pE f i
theorem pXE_1 {z : Int} (h : z ≠ 0) (f : Int → Int) : pXE z f = pE f := by funext i; simp [pXE, h]
theorem pXE_0 (f : Int → Int) : pXE 0 f = pFE f := by funext i; simp [pXE, pFE, pE]
/-- the row has it ahead of i, too -/
def pWA (f : Int → Int) (i : Int) : Prop := ∃ e : Int, 0 ≤ e ∧ e < i ∧ f e = f i
/-- a drawing, the first time -/
noncomputable def pU (f : Int → Int) (i : Int) : Bool := @decide (f i ≠ 0 ∧ ¬ pWA f i) (Classical.propDecidable _)
theorem pU_t {f : Int → Int} {i : Int} (h : f i ≠ 0) (h2 : ¬ pWA f i) : pU f i = true := @decide_eq_true _ (Classical.propDecidable _) ⟨h, h2⟩
theorem pU_f {f : Int → Int} {i : Int} (h : ¬ (f i ≠ 0 ∧ ¬ pWA f i)) : pU f i = false := @decide_eq_false _ (Classical.propDecidable _) h
set_option maxRecDepth 20000 in
set_option maxHeartbeats 4000000 in
theorem m_exposures {d L : Nat} {M : abMem} {r : abRf} (hR : RF r M) {i l : Int} (hB : RB M) (h1 : 0 ≤ i ∧ i ≤ 13386) (h2 : 0 ≤ l ∧ l ≤ 5) {z : Int} (hd : 2 ≤ d) : abW d (0, 0) 198 0 (abEnt (abL 198) [vr (some 567), vi i, vi l, vi z]) [] (0, 0) (A0 L) M (qE (some (vi (cN (pXE z (mR M i l)) (gI M 568 0).toNat))) (A0 L) M) := by
  have b1 := hB.fr
  have b2 := hB.la
  have L6 : ∀ (kf : Nat) (c f : Int), (c = cN (pXE z (mR M i l)) f.toNat) → (0 ≤ f ∧ f ≤ gI M 568 0) → ((gI M 568 0 - f).toNat) < kf → abW d (0, 0) 198 6 [some (vr (some 567)), some (vi i), some (vi l), some (vi z), some (vi c), some (vi f)] [] (0, 0) (A0 L) (M) (qE (some (vi (cN (pXE z (mR M i l)) (gI M 568 0).toNat))) (A0 L) M) := by
    intro kf
    induction kf with
    | zero => intro c f  g1 g2 hm9; exact absurd hm9 (Nat.not_lt_zero _)
    | succ kf ih6 =>
      intro c f  g1 g2 hm6
      have ih := ih6
      have b9 := cN_in (pXE z (mR M i l)) f.toNat
      refine bw_iload rfl rfl ?_
      refine bw_aload rfl rfl ?_
      refine bw_callVe (e := d - 1) (as := []) rfl (by omega) rfl rfl (Nat.le_of_ble_eq_true rfl) (Nat.le_of_ble_eq_true rfl) rfl (m_frames hR) ?_
      refine bw_icge rfl (fun c12 => ?_) (fun c12 => ?_)
      · skip
        refine bw_iload rfl rfl ?_
        refine bw_ret rfl rfl ?_
        obtain rfl : f = gI M 568 0 := by omega
        exact ⟨by rw [g1], rfl, rfl⟩
      · skip
        refine bw_iload rfl rfl ?_
        refine bw_ifne rfl (fun c16 => ?_) (fun c16 => ?_)
        · skip
          refine bw_iload rfl rfl ?_
          refine bw_aload rfl rfl ?_
          refine bw_iload rfl rfl ?_
          refine bw_iload rfl rfl ?_
          refine bw_iload rfl rfl ?_
          refine bw_callVe (e := d - 1) (as := [_, _, _]) rfl (by omega) rfl rfl (Nat.le_of_ble_eq_true rfl) (Nat.le_of_ble_eq_true rfl) rfl (m_beginsAt hR (by omega) (by omega) (by omega) (by omega)) ?_
          refine bw_ifeq rfl (fun c43 => ?_) (fun c43 => ?_)
          · skip
            refine bw_push rfl ?_
            refine bw_iadd rfl ⟨by omega, by omega⟩ ?_
            refine bw_istore (ls2 := [_, _, _, _, _, _]) rfl rfl (Nat.le_of_ble_eq_true rfl) rfl ?_
            refine bw_iinc (ls2 := [_, _, _, _, _, _]) rfl rfl rfl ⟨by omega, by omega⟩ rfl ?_
            refine bw_goto rfl ?_
            first
            | (have hp : pE (mR M i l) f = true := by simpa using c43
               exact ih _ _ (by rw [cN_s _ (by omega), ← g1]; simp [pXE, hp]; omega) (by omega) (by omega))
            | exact ih _ _ (by rw [cN_s _ (by omega), ← g1]; simp [pXE, *]; done) (by omega) (by omega)
            | (have hp : pE (mR M i l) f = false := by simpa using c43
               exact ih _ _ (by rw [cN_s _ (by omega), ← g1]; simp [pXE, *]; done) (by omega) (by omega))
          · skip
            refine bw_push rfl ?_
            refine bw_goto rfl ?_
            refine bw_iadd rfl ⟨by omega, by omega⟩ ?_
            refine bw_istore (ls2 := [_, _, _, _, _, _]) rfl rfl (Nat.le_of_ble_eq_true rfl) rfl ?_
            refine bw_iinc (ls2 := [_, _, _, _, _, _]) rfl rfl rfl ⟨by omega, by omega⟩ rfl ?_
            refine bw_goto rfl ?_
            first
            | (have hp : pE (mR M i l) f = true := by simpa using c43
               exact ih _ _ (by rw [cN_s _ (by omega), ← g1]; simp [pXE, hp]; omega) (by omega) (by omega))
            | exact ih _ _ (by rw [cN_s _ (by omega), ← g1]; simp [pXE, *]; done) (by omega) (by omega)
            | (have hp : pE (mR M i l) f = false := by simpa using c43
               exact ih _ _ (by rw [cN_s _ (by omega), ← g1]; simp [pXE, *]; done) (by omega) (by omega))
        · skip
          refine bw_aload rfl rfl ?_
          refine bw_iload rfl rfl ?_
          refine bw_iload rfl rfl ?_
          refine bw_iload rfl rfl ?_
          refine bw_callVe (e := d - 1) (as := [_, _, _]) rfl (by omega) rfl rfl (Nat.le_of_ble_eq_true rfl) (Nat.le_of_ble_eq_true rfl) rfl (m_has hR (by omega) (by omega) (by omega)) ?_
          refine bw_ifne rfl (fun c27 => ?_) (fun c27 => ?_)
          · skip
            refine bw_iload rfl rfl ?_
            refine bw_aload rfl rfl ?_
            refine bw_iload rfl rfl ?_
            refine bw_iload rfl rfl ?_
            refine bw_iload rfl rfl ?_
            refine bw_callVe (e := d - 1) (as := [_, _, _]) rfl (by omega) rfl rfl (Nat.le_of_ble_eq_true rfl) (Nat.le_of_ble_eq_true rfl) rfl (m_beginsAt hR (by omega) (by omega) (by omega) (by omega)) ?_
            refine bw_ifeq rfl (fun c43 => ?_) (fun c43 => ?_)
            · skip
              refine bw_push rfl ?_
              refine bw_iadd rfl ⟨by omega, by omega⟩ ?_
              refine bw_istore (ls2 := [_, _, _, _, _, _]) rfl rfl (Nat.le_of_ble_eq_true rfl) rfl ?_
              refine bw_iinc (ls2 := [_, _, _, _, _, _]) rfl rfl rfl ⟨by omega, by omega⟩ rfl ?_
              refine bw_goto rfl ?_
              first
              | (have hp : pE (mR M i l) f = true := by simpa using c43
                 exact ih _ _ (by rw [cN_s _ (by omega), ← g1]; simp [pXE, hp]; omega) (by omega) (by omega))
              | exact ih _ _ (by rw [cN_s _ (by omega), ← g1]; simp [pXE, *]; done) (by omega) (by omega)
              | (have hp : pE (mR M i l) f = false := by simpa using c43
                 exact ih _ _ (by rw [cN_s _ (by omega), ← g1]; simp [pXE, *]; done) (by omega) (by omega))
            · skip
              refine bw_push rfl ?_
              refine bw_goto rfl ?_
              refine bw_iadd rfl ⟨by omega, by omega⟩ ?_
              refine bw_istore (ls2 := [_, _, _, _, _, _]) rfl rfl (Nat.le_of_ble_eq_true rfl) rfl ?_
              refine bw_iinc (ls2 := [_, _, _, _, _, _]) rfl rfl rfl ⟨by omega, by omega⟩ rfl ?_
              refine bw_goto rfl ?_
              first
              | (have hp : pE (mR M i l) f = true := by simpa using c43
                 exact ih _ _ (by rw [cN_s _ (by omega), ← g1]; simp [pXE, hp]; omega) (by omega) (by omega))
              | exact ih _ _ (by rw [cN_s _ (by omega), ← g1]; simp [pXE, *]; done) (by omega) (by omega)
              | (have hp : pE (mR M i l) f = false := by simpa using c43
                 exact ih _ _ (by rw [cN_s _ (by omega), ← g1]; simp [pXE, *]; done) (by omega) (by omega))
          · skip
            refine bw_goto rfl ?_
            refine bw_iinc (ls2 := [_, _, _, _, _, _]) rfl rfl rfl ⟨by omega, by omega⟩ rfl ?_
            refine bw_goto rfl ?_
            first
            | (have hp : pE (mR M i l) f = true := by simpa using c43
               exact ih _ _ (by rw [cN_s _ (by omega), ← g1]; simp [pXE, hp]; omega) (by omega) (by omega))
            | exact ih _ _ (by rw [cN_s _ (by omega), ← g1]; simp [pXE, *]; done) (by omega) (by omega)
            | (have hp : pE (mR M i l) f = false := by simpa using c43
               exact ih _ _ (by rw [cN_s _ (by omega), ← g1]; simp [pXE, *]; done) (by omega) (by omega))
  show abW d (0, 0) 198 0 [some (vr (some 567)), some (vi i), some (vi l), some (vi z), none, none] [] (0, 0) (A0 L) M (qE (some (vi (cN (pXE z (mR M i l)) (gI M 568 0).toNat))) (A0 L) M)
  refine bw_push rfl ?_
  refine bw_istore (ls2 := [_, _, _, _, _, _]) rfl rfl (Nat.le_of_ble_eq_true rfl) rfl ?_
  refine bw_push rfl ?_
  refine bw_istore (ls2 := [_, _, _, _, _, _]) rfl rfl (Nat.le_of_ble_eq_true rfl) rfl ?_
  exact L6 ((gI M 568 0).toNat + 1) 0 0 (by first | rfl | simp [cN, pJ]) (by omega) (by omega)
set_option maxRecDepth 20000 in
set_option maxHeartbeats 4000000 in
theorem m_wasAhead {d L : Nat} {M : abMem} {r : abRf} (hR : RF r M) {l : Int} (hB : RB M) (h2 : 0 ≤ l ∧ l ≤ 5) {f : Int} (h3 : 0 ≤ f ∧ f ≤ 95) (hd : 1 ≤ d) : abW d (0, 0) 200 0 (abEnt (abL 200) [vr (some 567), vi l, vi f]) [] (0, 0) (A0 L) M (qJ (A0 L) M (fun x => pWA (mR M 0 l) f ∧ x = 1 ∨ ¬ pWA (mR M 0 l) f ∧ x = 0)) := by
  have L2 : ∀ (kf : Nat) (e : Int), (0 ≤ e ∧ e ≤ f) → (∀ j : Int, 0 ≤ j → j < e → mR M 0 l j ≠ mR M 0 l f) → ((f - e).toNat) < kf → abW d (0, 0) 200 2 [some (vr (some 567)), some (vi l), some (vi f), some (vi e)] [] (0, 0) (A0 L) (M) (qJ (A0 L) M (fun x => pWA (mR M 0 l) f ∧ x = 1 ∨ ¬ pWA (mR M 0 l) f ∧ x = 0)) := by
    intro kf
    induction kf with
    | zero => intro e  g1 g2 hm9; exact absurd hm9 (Nat.not_lt_zero _)
    | succ kf ih2 =>
      intro e  g1 g2 hm2
      have ih := ih2
      refine bw_iload rfl rfl ?_
      refine bw_iload rfl rfl ?_
      refine bw_icge rfl (fun c4 => ?_) (fun c4 => ?_)
      · skip
        refine bw_push rfl ?_
        refine bw_retz rfl rfl (by omega) ?_
        exact ⟨rfl, rfl, _, rfl, Or.inr ⟨fun ⟨j, h1, h2, h3⟩ => g2 j h1 (by omega) h3, rfl⟩⟩
      · skip
        refine bw_aload rfl rfl ?_
        refine bw_push rfl ?_
        refine bw_iload rfl rfl ?_
        refine bw_iload rfl rfl ?_
        refine bw_callVe (e := d - 1) (as := [_, _, _]) rfl (by omega) rfl rfl (Nat.le_of_ble_eq_true rfl) (Nat.le_of_ble_eq_true rfl) rfl (m_has hR (by omega) (by omega) (by omega)) ?_
        refine bw_aload rfl rfl ?_
        refine bw_push rfl ?_
        refine bw_iload rfl rfl ?_
        refine bw_iload rfl rfl ?_
        refine bw_callVe (e := d - 1) (as := [_, _, _]) rfl (by omega) rfl rfl (Nat.le_of_ble_eq_true rfl) (Nat.le_of_ble_eq_true rfl) rfl (m_has hR (by omega) (by omega) (by omega)) ?_
        refine bw_icne rfl (fun c21 => ?_) (fun c21 => ?_)
        · skip
          refine bw_iinc (ls2 := [_, _, _, _]) rfl rfl rfl ⟨by omega, by omega⟩ rfl ?_
          refine bw_goto rfl ?_
          refine ih _ (by omega) (fun j h1 h2 => ?_) (by omega)
          by_cases q : j = e
          · rw [q]; assumption
          · exact g2 j h1 (by omega)
        · skip
          refine bw_push rfl ?_
          refine bw_retz rfl rfl (by omega) ?_
          exact ⟨rfl, rfl, _, rfl, Or.inl ⟨⟨e, by omega, by omega, by omega⟩, rfl⟩⟩
  show abW d (0, 0) 200 0 [some (vr (some 567)), some (vi l), some (vi f), none] [] (0, 0) (A0 L) M (qJ (A0 L) M (fun x => pWA (mR M 0 l) f ∧ x = 1 ∨ ¬ pWA (mR M 0 l) f ∧ x = 0))
  refine bw_push rfl ?_
  refine bw_istore (ls2 := [_, _, _, _]) rfl rfl (Nat.le_of_ble_eq_true rfl) rfl ?_
  exact L2 (f.toNat + 1) 0 (by omega) (fun j h1 h2 => by omega) (by omega)
set_option maxRecDepth 20000 in
set_option maxHeartbeats 4000000 in
theorem m_unlike {d L : Nat} {M : abMem} {r : abRf} (hR : RF r M) {l : Int} (hB : RB M) (h2 : 0 ≤ l ∧ l ≤ 5) (hd : 2 ≤ d) : abW d (0, 0) 199 0 (abEnt (abL 199) [vr (some 567), vi l]) [] (0, 0) (A0 L) M (qE (some (vi (cN (pU (mR M 0 l)) (gI M 568 0).toNat))) (A0 L) M) := by
  have b1 := hB.fr
  have b2 := hB.la
  have L4 : ∀ (kf : Nat) (c f : Int), (c = cN (pU (mR M 0 l)) f.toNat) → (0 ≤ f ∧ f ≤ gI M 568 0) → ((gI M 568 0 - f).toNat) < kf → abW d (0, 0) 199 4 [some (vr (some 567)), some (vi l), some (vi c), some (vi f)] [] (0, 0) (A0 L) (M) (qE (some (vi (cN (pU (mR M 0 l)) (gI M 568 0).toNat))) (A0 L) M) := by
    intro kf
    induction kf with
    | zero => intro c f  g1 g2 hm9; exact absurd hm9 (Nat.not_lt_zero _)
    | succ kf ih4 =>
      intro c f  g1 g2 hm4
      have ih := ih4
      have b9 := cN_in (pU (mR M 0 l)) f.toNat
      refine bw_iload rfl rfl ?_
      refine bw_aload rfl rfl ?_
      refine bw_callVe (e := d - 1) (as := []) rfl (by omega) rfl rfl (Nat.le_of_ble_eq_true rfl) (Nat.le_of_ble_eq_true rfl) rfl (m_frames hR) ?_
      refine bw_icge rfl (fun c9 => ?_) (fun c9 => ?_)
      · skip
        refine bw_iload rfl rfl ?_
        refine bw_ret rfl rfl ?_
        obtain rfl : f = gI M 568 0 := by omega
        exact ⟨by rw [g1], rfl, rfl⟩
      · skip
        refine bw_aload rfl rfl ?_
        refine bw_push rfl ?_
        refine bw_iload rfl rfl ?_
        refine bw_iload rfl rfl ?_
        refine bw_callVe (e := d - 1) (as := [_, _, _]) rfl (by omega) rfl rfl (Nat.le_of_ble_eq_true rfl) (Nat.le_of_ble_eq_true rfl) rfl (m_has hR (by omega) (by omega) (by omega)) ?_
        refine bw_ifeq rfl (fun c19 => ?_) (fun c19 => ?_)
        · skip
          refine bw_iinc (ls2 := [_, _, _, _]) rfl rfl rfl ⟨by omega, by omega⟩ rfl ?_
          refine bw_goto rfl ?_
          first
          | exact ih _ _ (cN_f (by omega) g1 (pU_f (fun h => h.1 (by assumption)))) (by omega) (by omega)
          | (have hw : ¬ pWA (mR M 0 l) f := hr25.elim (fun h => absurd h.2 (by omega)) (fun h => h.1)
             exact ih _ _ (cN_t (by omega) g1 (pU_t (by assumption) hw)) (by omega) (by omega))
          | (have hw : pWA (mR M 0 l) f := hr25.elim (fun h => h.1) (fun h => absurd h.2 (by omega))
             exact ih _ _ (cN_f (by omega) g1 (pU_f (fun h => h.2 hw))) (by omega) (by omega))
        · skip
          refine bw_aload rfl rfl ?_
          refine bw_iload rfl rfl ?_
          refine bw_iload rfl rfl ?_
          refine bw_callVj (e := d - 1) (as := [_, _]) rfl (by omega) rfl rfl (Nat.le_of_ble_eq_true rfl) (Nat.le_of_ble_eq_true rfl) rfl (m_wasAhead hR hB (by omega) (by omega) (by omega)) (fun r25 hr25 => ?_)
          refine bw_ifeq rfl (fun c28 => ?_) (fun c28 => ?_)
          · skip
            refine bw_iinc (ls2 := [_, _, _, _]) rfl rfl rfl ⟨by omega, by omega⟩ rfl ?_
            refine bw_iinc (ls2 := [_, _, _, _]) rfl rfl rfl ⟨by omega, by omega⟩ rfl ?_
            refine bw_goto rfl ?_
            first
            | exact ih _ _ (cN_f (by omega) g1 (pU_f (fun h => h.1 (by assumption)))) (by omega) (by omega)
            | (have hw : ¬ pWA (mR M 0 l) f := hr25.elim (fun h => absurd h.2 (by omega)) (fun h => h.1)
               exact ih _ _ (cN_t (by omega) g1 (pU_t (by assumption) hw)) (by omega) (by omega))
            | (have hw : pWA (mR M 0 l) f := hr25.elim (fun h => h.1) (fun h => absurd h.2 (by omega))
               exact ih _ _ (cN_f (by omega) g1 (pU_f (fun h => h.2 hw))) (by omega) (by omega))
          · skip
            refine bw_goto rfl ?_
            refine bw_iinc (ls2 := [_, _, _, _]) rfl rfl rfl ⟨by omega, by omega⟩ rfl ?_
            refine bw_goto rfl ?_
            first
            | exact ih _ _ (cN_f (by omega) g1 (pU_f (fun h => h.1 (by assumption)))) (by omega) (by omega)
            | (have hw : ¬ pWA (mR M 0 l) f := hr25.elim (fun h => absurd h.2 (by omega)) (fun h => h.1)
               exact ih _ _ (cN_t (by omega) g1 (pU_t (by assumption) hw)) (by omega) (by omega))
            | (have hw : pWA (mR M 0 l) f := hr25.elim (fun h => h.1) (fun h => absurd h.2 (by omega))
               exact ih _ _ (cN_f (by omega) g1 (pU_f (fun h => h.2 hw))) (by omega) (by omega))
  show abW d (0, 0) 199 0 [some (vr (some 567)), some (vi l), none, none] [] (0, 0) (A0 L) M (qE (some (vi (cN (pU (mR M 0 l)) (gI M 568 0).toNat))) (A0 L) M)
  refine bw_push rfl ?_
  refine bw_istore (ls2 := [_, _, _, _]) rfl rfl (Nat.le_of_ble_eq_true rfl) rfl ?_
  refine bw_push rfl ?_
  refine bw_istore (ls2 := [_, _, _, _]) rfl rfl (Nat.le_of_ble_eq_true rfl) rfl ?_
  exact L4 ((gI M 568 0).toNat + 1) 0 0 (by first | rfl | simp [cN, pJ]) (by omega) (by omega)
set_option maxRecDepth 20000 in
set_option maxHeartbeats 4000000 in
theorem m_filled {d L : Nat} {M : abMem} {r : abRf} (hR : RF r M) {l : Int} (hB : RB M) (h2 : 0 ≤ l ∧ l ≤ 5) (hd : 1 ≤ d) : abW d (0, 0) 201 0 (abEnt (abL 201) [vr (some 567), vi l]) [] (0, 0) (A0 L) M (qE (some (vi (cN (pF (mR M 0 l)) (gI M 568 0).toNat))) (A0 L) M) := by
  have b1 := hB.fr
  have b2 := hB.la
  have L4 : ∀ (kf : Nat) (c f : Int), (c = cN (pF (mR M 0 l)) f.toNat) → (0 ≤ f ∧ f ≤ gI M 568 0) → ((gI M 568 0 - f).toNat) < kf → abW d (0, 0) 201 4 [some (vr (some 567)), some (vi l), some (vi c), some (vi f)] [] (0, 0) (A0 L) (M) (qE (some (vi (cN (pF (mR M 0 l)) (gI M 568 0).toNat))) (A0 L) M) := by
    intro kf
    induction kf with
    | zero => intro c f  g1 g2 hm9; exact absurd hm9 (Nat.not_lt_zero _)
    | succ kf ih4 =>
      intro c f  g1 g2 hm4
      have ih := ih4
      have b9 := cN_in (pF (mR M 0 l)) f.toNat
      refine bw_iload rfl rfl ?_
      refine bw_aload rfl rfl ?_
      refine bw_callVe (e := d - 1) (as := []) rfl (by omega) rfl rfl (Nat.le_of_ble_eq_true rfl) (Nat.le_of_ble_eq_true rfl) rfl (m_frames hR) ?_
      refine bw_icge rfl (fun c9 => ?_) (fun c9 => ?_)
      · skip
        refine bw_iload rfl rfl ?_
        refine bw_ret rfl rfl ?_
        obtain rfl : f = gI M 568 0 := by omega
        exact ⟨by rw [g1], rfl, rfl⟩
      · skip
        refine bw_iload rfl rfl ?_
        refine bw_aload rfl rfl ?_
        refine bw_push rfl ?_
        refine bw_iload rfl rfl ?_
        refine bw_iload rfl rfl ?_
        refine bw_callVe (e := d - 1) (as := [_, _, _]) rfl (by omega) rfl rfl (Nat.le_of_ble_eq_true rfl) (Nat.le_of_ble_eq_true rfl) rfl (m_has hR (by omega) (by omega) (by omega)) ?_
        refine bw_ifle rfl (fun c20 => ?_) (fun c20 => ?_)
        · skip
          refine bw_push rfl ?_
          refine bw_iadd rfl ⟨by omega, by omega⟩ ?_
          refine bw_istore (ls2 := [_, _, _, _]) rfl rfl (Nat.le_of_ble_eq_true rfl) rfl ?_
          refine bw_iinc (ls2 := [_, _, _, _]) rfl rfl rfl ⟨by omega, by omega⟩ rfl ?_
          refine bw_goto rfl ?_
          have v9 := hB.mR (i := 0) (l := l) (f := f) (by omega) (by omega)
          first
          | exact ih _ _ (cN_t (by omega) g1 (by simp [pF]; omega)) (by omega) (by omega)
          | (rw [Int.add_zero]; exact ih _ _ (cN_f (by omega) g1 (by simp [pF]; omega)) (by omega) (by omega))
        · skip
          refine bw_push rfl ?_
          refine bw_goto rfl ?_
          refine bw_iadd rfl ⟨by omega, by omega⟩ ?_
          refine bw_istore (ls2 := [_, _, _, _]) rfl rfl (Nat.le_of_ble_eq_true rfl) rfl ?_
          refine bw_iinc (ls2 := [_, _, _, _]) rfl rfl rfl ⟨by omega, by omega⟩ rfl ?_
          refine bw_goto rfl ?_
          have v9 := hB.mR (i := 0) (l := l) (f := f) (by omega) (by omega)
          first
          | exact ih _ _ (cN_t (by omega) g1 (by simp [pF]; omega)) (by omega) (by omega)
          | (rw [Int.add_zero]; exact ih _ _ (cN_f (by omega) g1 (by simp [pF]; omega)) (by omega) (by omega))
  show abW d (0, 0) 201 0 [some (vr (some 567)), some (vi l), none, none] [] (0, 0) (A0 L) M (qE (some (vi (cN (pF (mR M 0 l)) (gI M 568 0).toNat))) (A0 L) M)
  refine bw_push rfl ?_
  refine bw_istore (ls2 := [_, _, _, _]) rfl rfl (Nat.le_of_ble_eq_true rfl) rfl ?_
  refine bw_push rfl ?_
  refine bw_istore (ls2 := [_, _, _, _]) rfl rfl (Nat.le_of_ble_eq_true rfl) rfl ?_
  exact L4 ((gI M 568 0).toNat + 1) 0 0 (by first | rfl | simp [cN, pJ]) (by omega) (by omega)
set_option maxRecDepth 20000 in
set_option maxHeartbeats 4000000 in
theorem m_jumps {d L : Nat} {M : abMem} {r : abRf} (hR : RF r M) {l : Int} (hB : RB M) (h2 : 0 ≤ l ∧ l ≤ 5) (hd : 1 ≤ d) : abW d (0, 0) 202 0 (abEnt (abL 202) [vr (some 567), vi l]) [] (0, 0) (A0 L) M (qE (some (vi (cN (pJ (mR M 0 l)) (gI M 568 0).toNat))) (A0 L) M) := by
  have b1 := hB.fr
  have b2 := hB.la
  have L4 : ∀ (kf : Nat) (c f : Int), (c = cN (pJ (mR M 0 l)) f.toNat) → (1 ≤ f ∧ (f ≤ gI M 568 0 ∨ gI M 568 0 < 1 ∧ f = 1)) → ((gI M 568 0 - f).toNat) < kf → abW d (0, 0) 202 4 [some (vr (some 567)), some (vi l), some (vi c), some (vi f), none, none] [] (0, 0) (A0 L) (M) (qE (some (vi (cN (pJ (mR M 0 l)) (gI M 568 0).toNat))) (A0 L) M) := by
    intro kf
    induction kf with
    | zero => intro c f  g1 g2 hm9; exact absurd hm9 (Nat.not_lt_zero _)
    | succ kf ih4 =>
      intro c f  g1 g2 hm4
      have ih := ih4
      have b9 := cN_in (pJ (mR M 0 l)) f.toNat
      refine bw_iload rfl rfl ?_
      refine bw_aload rfl rfl ?_
      refine bw_callVe (e := d - 1) (as := []) rfl (by omega) rfl rfl (Nat.le_of_ble_eq_true rfl) (Nat.le_of_ble_eq_true rfl) rfl (m_frames hR) ?_
      refine bw_icge rfl (fun c9 => ?_) (fun c9 => ?_)
      · skip
        refine bw_iload rfl rfl ?_
        refine bw_ret rfl rfl ?_
        refine ⟨?_, rfl, rfl⟩
        rw [g1]
        by_cases hi : f = gI M 568 0
        · rw [hi]
        · have h0 : gI M 568 0 = 0 := by omega
          have h1 : f = 1 := by omega
          subst h1; rw [h0]
          rfl
      · skip
        have v8 := hB.mR (i := 0) (l := l) (f := f - 1) (by omega) (by omega)
        have v9 := hB.mR (i := 0) (l := l) (f := f) (by omega) (by omega)
        refine bw_aload rfl rfl ?_
        refine bw_push rfl ?_
        refine bw_iload rfl rfl ?_
        refine bw_iload rfl rfl ?_
        refine bw_push rfl ?_
        refine bw_isub rfl ⟨by omega, by omega⟩ ?_
        refine bw_callVe (e := d - 1) (as := [_, _, _]) rfl (by omega) rfl rfl (Nat.le_of_ble_eq_true rfl) (Nat.le_of_ble_eq_true rfl) rfl (m_has hR (by omega) (by omega) (by omega)) ?_
        refine bw_istore (ls2 := [_, _, _, _, _, _]) rfl rfl (Nat.le_of_ble_eq_true rfl) rfl ?_
        refine bw_aload rfl rfl ?_
        refine bw_push rfl ?_
        refine bw_iload rfl rfl ?_
        refine bw_iload rfl rfl ?_
        refine bw_callVe (e := d - 1) (as := [_, _, _]) rfl (by omega) rfl rfl (Nat.le_of_ble_eq_true rfl) (Nat.le_of_ble_eq_true rfl) rfl (m_has hR (by omega) (by omega) (by omega)) ?_
        refine bw_istore (ls2 := [_, _, _, _, _, _]) rfl rfl (Nat.le_of_ble_eq_true rfl) rfl ?_
        refine bw_iload rfl rfl ?_
        refine bw_iload rfl rfl ?_
        refine bw_ifle rfl (fun c35 => ?_) (fun c35 => ?_)
        · skip
          refine bw_push rfl ?_
          refine bw_iadd rfl ⟨by omega, by omega⟩ ?_
          refine bw_istore (ls2 := [_, _, _, _, _, _]) rfl rfl (Nat.le_of_ble_eq_true rfl) rfl ?_
          refine bw_iinc (ls2 := [_, _, _, _, _, _]) rfl rfl rfl ⟨by omega, by omega⟩ rfl ?_
          refine bw_goto rfl ?_
          refine bw_forget (ls2 := [some (vr (some 567)), some (vi l), some (vi _), some (vi _), none, none]) ⟨rfl, rfl, rfl, rfl, trivial⟩ ?_
          have a1 := ab1_c (mR M 0 l (f - 1) - mR M 0 l f)
          have a2 := ab1_c (mR M 0 l f - mR M 0 l (f - 1))
          first
          | exact ih _ _ (cN_t (by omega) g1 (decide_eq_true ⟨by omega, by omega, by omega, by omega⟩)) (by omega) (by omega)
          | (rw [Int.add_zero]; exact ih _ _ (cN_f (by omega) g1 (decide_eq_false (fun hh => by omega))) (by omega) (by omega))
        · skip
          refine bw_iload rfl rfl ?_
          refine bw_ifle rfl (fun c40 => ?_) (fun c40 => ?_)
          · skip
            refine bw_push rfl ?_
            refine bw_iadd rfl ⟨by omega, by omega⟩ ?_
            refine bw_istore (ls2 := [_, _, _, _, _, _]) rfl rfl (Nat.le_of_ble_eq_true rfl) rfl ?_
            refine bw_iinc (ls2 := [_, _, _, _, _, _]) rfl rfl rfl ⟨by omega, by omega⟩ rfl ?_
            refine bw_goto rfl ?_
            refine bw_forget (ls2 := [some (vr (some 567)), some (vi l), some (vi _), some (vi _), none, none]) ⟨rfl, rfl, rfl, rfl, trivial⟩ ?_
            have a1 := ab1_c (mR M 0 l (f - 1) - mR M 0 l f)
            have a2 := ab1_c (mR M 0 l f - mR M 0 l (f - 1))
            first
            | exact ih _ _ (cN_t (by omega) g1 (decide_eq_true ⟨by omega, by omega, by omega, by omega⟩)) (by omega) (by omega)
            | (rw [Int.add_zero]; exact ih _ _ (cN_f (by omega) g1 (decide_eq_false (fun hh => by omega))) (by omega) (by omega))
          · skip
            refine bw_iload rfl rfl ?_
            refine bw_iload rfl rfl ?_
            refine bw_isub rfl ⟨by omega, by omega⟩ ?_
            refine bw_callSe (e := d - 1) (as := [_]) rfl (by omega) rfl rfl (Nat.le_of_ble_eq_true rfl) (Nat.le_of_ble_eq_true rfl) (m_bare hR (by omega)) ?_
            refine bw_push rfl ?_
            refine bw_icle rfl (fun c52 => ?_) (fun c52 => ?_)
            · skip
              refine bw_push rfl ?_
              refine bw_iadd rfl ⟨by omega, by omega⟩ ?_
              refine bw_istore (ls2 := [_, _, _, _, _, _]) rfl rfl (Nat.le_of_ble_eq_true rfl) rfl ?_
              refine bw_iinc (ls2 := [_, _, _, _, _, _]) rfl rfl rfl ⟨by omega, by omega⟩ rfl ?_
              refine bw_goto rfl ?_
              refine bw_forget (ls2 := [some (vr (some 567)), some (vi l), some (vi _), some (vi _), none, none]) ⟨rfl, rfl, rfl, rfl, trivial⟩ ?_
              have a1 := ab1_c (mR M 0 l (f - 1) - mR M 0 l f)
              have a2 := ab1_c (mR M 0 l f - mR M 0 l (f - 1))
              first
              | exact ih _ _ (cN_t (by omega) g1 (decide_eq_true ⟨by omega, by omega, by omega, by omega⟩)) (by omega) (by omega)
              | (rw [Int.add_zero]; exact ih _ _ (cN_f (by omega) g1 (decide_eq_false (fun hh => by omega))) (by omega) (by omega))
            · skip
              refine bw_push rfl ?_
              refine bw_goto rfl ?_
              refine bw_iadd rfl ⟨by omega, by omega⟩ ?_
              refine bw_istore (ls2 := [_, _, _, _, _, _]) rfl rfl (Nat.le_of_ble_eq_true rfl) rfl ?_
              refine bw_iinc (ls2 := [_, _, _, _, _, _]) rfl rfl rfl ⟨by omega, by omega⟩ rfl ?_
              refine bw_goto rfl ?_
              refine bw_forget (ls2 := [some (vr (some 567)), some (vi l), some (vi _), some (vi _), none, none]) ⟨rfl, rfl, rfl, rfl, trivial⟩ ?_
              have a1 := ab1_c (mR M 0 l (f - 1) - mR M 0 l f)
              have a2 := ab1_c (mR M 0 l f - mR M 0 l (f - 1))
              first
              | exact ih _ _ (cN_t (by omega) g1 (decide_eq_true ⟨by omega, by omega, by omega, by omega⟩)) (by omega) (by omega)
              | (rw [Int.add_zero]; exact ih _ _ (cN_f (by omega) g1 (decide_eq_false (fun hh => by omega))) (by omega) (by omega))
  show abW d (0, 0) 202 0 [some (vr (some 567)), some (vi l), none, none, none, none] [] (0, 0) (A0 L) M (qE (some (vi (cN (pJ (mR M 0 l)) (gI M 568 0).toNat))) (A0 L) M)
  refine bw_push rfl ?_
  refine bw_istore (ls2 := [_, _, _, _, _, _]) rfl rfl (Nat.le_of_ble_eq_true rfl) rfl ?_
  refine bw_push rfl ?_
  refine bw_istore (ls2 := [_, _, _, _, _, _]) rfl rfl (Nat.le_of_ble_eq_true rfl) rfl ?_
  exact L4 ((gI M 568 0).toNat + 1) 0 1 (by first | rfl | simp [cN, pJ]) (by omega) (by omega)
set_option maxRecDepth 20000 in
set_option maxHeartbeats 4000000 in
theorem m_greatest {d L : Nat} {M : abMem} {r : abRf} (hR : RF r M) {l : Int} (hB : RB M) (h2 : 0 ≤ l ∧ l ≤ 5) (hd : 1 ≤ d) : abW d (0, 0) 203 0 (abEnt (abL 203) [vr (some 567), vi l]) [] (0, 0) (A0 L) M (qE (some (vi (mX (mR M 0 l) (gI M 568 0).toNat))) (A0 L) M) := by
  have b1 := hB.fr
  have b2 := hB.la
  have L4 : ∀ (kf : Nat) (c f : Int), (c = mX (mR M 0 l) f.toNat) → (0 ≤ f ∧ f ≤ gI M 568 0) → ((gI M 568 0 - f).toNat) < kf → abW d (0, 0) 203 4 [some (vr (some 567)), some (vi l), some (vi c), some (vi f)] [] (0, 0) (A0 L) (M) (qE (some (vi (mX (mR M 0 l) (gI M 568 0).toNat))) (A0 L) M) := by
    intro kf
    induction kf with
    | zero => intro c f  g1 g2 hm9; exact absurd hm9 (Nat.not_lt_zero _)
    | succ kf ih4 =>
      intro c f  g1 g2 hm4
      have ih := ih4
      refine bw_iload rfl rfl ?_
      refine bw_aload rfl rfl ?_
      refine bw_callVe (e := d - 1) (as := []) rfl (by omega) rfl rfl (Nat.le_of_ble_eq_true rfl) (Nat.le_of_ble_eq_true rfl) rfl (m_frames hR) ?_
      refine bw_icge rfl (fun c9 => ?_) (fun c9 => ?_)
      · skip
        refine bw_iload rfl rfl ?_
        refine bw_ret rfl rfl ?_
        obtain rfl : f = gI M 568 0 := by omega
        exact ⟨by rw [g1], rfl, rfl⟩
      · skip
        refine bw_iload rfl rfl ?_
        refine bw_aload rfl rfl ?_
        refine bw_push rfl ?_
        refine bw_iload rfl rfl ?_
        refine bw_iload rfl rfl ?_
        refine bw_callVe (e := d - 1) (as := [_, _, _]) rfl (by omega) rfl rfl (Nat.le_of_ble_eq_true rfl) (Nat.le_of_ble_eq_true rfl) rfl (m_has hR (by omega) (by omega) (by omega)) ?_
        refine bw_callSe (e := d - 1) (as := [_, _]) rfl (by omega) rfl rfl (Nat.le_of_ble_eq_true rfl) (Nat.le_of_ble_eq_true rfl) (m_greater hR) ?_
        refine bw_istore (ls2 := [_, _, _, _]) rfl rfl (Nat.le_of_ble_eq_true rfl) rfl ?_
        refine bw_iinc (ls2 := [_, _, _, _]) rfl rfl rfl ⟨by omega, by omega⟩ rfl ?_
        refine bw_goto rfl ?_
        exact ih _ _ (by rw [mX_s _ (by omega), g1]) (by omega) (by omega)
  show abW d (0, 0) 203 0 [some (vr (some 567)), some (vi l), none, none] [] (0, 0) (A0 L) M (qE (some (vi (mX (mR M 0 l) (gI M 568 0).toNat))) (A0 L) M)
  refine bw_push rfl ?_
  refine bw_istore (ls2 := [_, _, _, _]) rfl rfl (Nat.le_of_ble_eq_true rfl) rfl ?_
  refine bw_push rfl ?_
  refine bw_istore (ls2 := [_, _, _, _]) rfl rfl (Nat.le_of_ble_eq_true rfl) rfl ?_
  exact L4 ((gI M 568 0).toNat + 1) 0 0 rfl (by omega) (by omega)
set_option maxRecDepth 20000 in
set_option maxHeartbeats 4000000 in
theorem m_ahead {d L : Nat} {M : abMem} {r : abRf} (hR : RF r M) {l : Int} (hB : RB M) (h2 : 0 ≤ l ∧ l ≤ 5) {t : Int} (h3 : 0 ≤ t ∧ t ≤ 95) (hd : 2 ≤ d) : abW d (0, 0) 210 0 (abEnt (abL 210) [vr (some 567), vi l, vi t]) [] (0, 0) (A0 L) M (qE (some (vi (cN (pE (mR M 0 l)) (t).toNat))) (A0 L) M) := by
  have b1 := hB.fr
  have b2 := hB.la
  have L5 : ∀ (kf : Nat) (c f : Int), (c = cN (pE (mR M 0 l)) f.toNat) → (0 ≤ f ∧ f ≤ t) → ((t - f).toNat) < kf → abW d (0, 0) 210 5 [some (vr (some 567)), some (vi l), some (vi t), some (vi c), some (vi f)] [] (0, 0) (A0 L) (M) (qE (some (vi (cN (pE (mR M 0 l)) (t).toNat))) (A0 L) M) := by
    intro kf
    induction kf with
    | zero => intro c f  g1 g2 hm9; exact absurd hm9 (Nat.not_lt_zero _)
    | succ kf ih5 =>
      intro c f  g1 g2 hm5
      have ih := ih5
      have b9 := cN_in (pE (mR M 0 l)) f.toNat
      refine bw_iload rfl rfl ?_
      refine bw_iload rfl rfl ?_
      refine bw_icge rfl (fun c8 => ?_) (fun c8 => ?_)
      · skip
        refine bw_iload rfl rfl ?_
        refine bw_ret rfl rfl ?_
        obtain rfl : f = t := by omega
        exact ⟨by rw [g1], rfl, rfl⟩
      · skip
        refine bw_iload rfl rfl ?_
        refine bw_aload rfl rfl ?_
        refine bw_push rfl ?_
        refine bw_iload rfl rfl ?_
        refine bw_iload rfl rfl ?_
        refine bw_callVe (e := d - 1) (as := [_, _, _]) rfl (by omega) rfl rfl (Nat.le_of_ble_eq_true rfl) (Nat.le_of_ble_eq_true rfl) rfl (m_beginsAt hR (by omega) (by omega) (by omega) (by omega)) ?_
        refine bw_ifeq rfl (fun c20 => ?_) (fun c20 => ?_)
        · skip
          refine bw_push rfl ?_
          refine bw_iadd rfl ⟨by omega, by omega⟩ ?_
          refine bw_istore (ls2 := [_, _, _, _, _]) rfl rfl (Nat.le_of_ble_eq_true rfl) rfl ?_
          refine bw_iinc (ls2 := [_, _, _, _, _]) rfl rfl rfl ⟨by omega, by omega⟩ rfl ?_
          refine bw_goto rfl ?_
          first
          | exact ih _ _ (cN_t (by omega) g1 (by simpa using c20)) (by omega) (by omega)
          | (rw [Int.add_zero]; exact ih _ _ (cN_f (by omega) g1 (by simpa using c20)) (by omega) (by omega))
        · skip
          refine bw_push rfl ?_
          refine bw_goto rfl ?_
          refine bw_iadd rfl ⟨by omega, by omega⟩ ?_
          refine bw_istore (ls2 := [_, _, _, _, _]) rfl rfl (Nat.le_of_ble_eq_true rfl) rfl ?_
          refine bw_iinc (ls2 := [_, _, _, _, _]) rfl rfl rfl ⟨by omega, by omega⟩ rfl ?_
          refine bw_goto rfl ?_
          first
          | exact ih _ _ (cN_t (by omega) g1 (by simpa using c20)) (by omega) (by omega)
          | (rw [Int.add_zero]; exact ih _ _ (cN_f (by omega) g1 (by simpa using c20)) (by omega) (by omega))
  show abW d (0, 0) 210 0 [some (vr (some 567)), some (vi l), some (vi t), none, none] [] (0, 0) (A0 L) M (qE (some (vi (cN (pE (mR M 0 l)) (t).toNat))) (A0 L) M)
  refine bw_push rfl ?_
  refine bw_istore (ls2 := [_, _, _, _, _]) rfl rfl (Nat.le_of_ble_eq_true rfl) rfl ?_
  refine bw_push rfl ?_
  refine bw_istore (ls2 := [_, _, _, _, _]) rfl rfl (Nat.le_of_ble_eq_true rfl) rfl ?_
  exact L5 ((t).toNat + 1) 0 0 (by first | rfl | simp [cN, pJ]) (by omega) (by omega)
