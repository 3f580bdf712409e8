theorem plc_cg {g g' : Int → Int} {l : Int} (e : ∀ p : Int, 0 ≤ p → p < 6 → g p = g' p) : plc g l = plc g' l := by
  unfold plc
  rw [e 0 (by decide) (by decide), e 1 (by decide) (by decide), e 2 (by decide) (by decide), e 3 (by decide) (by decide), e 4 (by decide) (by decide), e 5 (by decide) (by decide)]
set_option maxRecDepth 20000 in
set_option maxHeartbeats 4000000 in
theorem c_hasPlace {d L : Nat} {M : abMem} {r : abRf} (hR : RF r M) {s : Nat} (hs : s = 372 ∨ s = 459) (hc : cur r = s) {k : Int} (h : INV r M k) {l f : Int} (hd : 1 ≤ d) : abW d (0, 0) 125 0 (abEnt (abL 125) [vr (some 0), vi l, vi f]) [] (0, 0) (A0 L) M (qJ (A0 L) M (fun x => ((0 ≤ l ∧ l < gI M 568 1) ∧ (0 ≤ f ∧ f < gI M 568 0)) ∧ x = 1 ∨ ¬ ((0 ≤ l ∧ l < gI M 568 1) ∧ (0 ≤ f ∧ f < gI M 568 0)) ∧ x = 0)) := by
  rcases hs with rfl | rfl
  · have hS : SR M 372 (gI M 568) := by have q := h.sr; rw [hc] at q; exact q
    have b1 := h.fr
    have b2 := h.la
    have hrf := hR
    show abW d (0, 0) 125 0 [some (vr (some 0)), some (vi l), some (vi f)] [] (0, 0) (A0 L) M (qJ (A0 L) M (fun x => ((0 ≤ l ∧ l < gI M 568 1) ∧ (0 ≤ f ∧ f < gI M 568 0)) ∧ x = 1 ∨ ¬ ((0 ≤ l ∧ l < gI M 568 1) ∧ (0 ≤ f ∧ f < gI M 568 0)) ∧ x = 0))
    refine bw_aload rfl rfl ?_
    refine bw_getr rfl rfl (cur_r hR hc) ?_
    refine bw_iload rfl rfl ?_
    refine bw_callVNj (e := d - 1) (as := [_]) rfl (by omega) rfl rfl (Nat.le_of_ble_eq_true rfl) (Nat.le_of_ble_eq_true rfl) rfl (c_hasLayer hR (by first | exact Or.inl rfl | exact Or.inr rfl) hS) (fun r5 hr5 => ?_)
    refine bw_ifeq rfl (fun c8 => ?_) (fun c8 => ?_)
    · skip
      refine bw_push rfl ?_
      refine bw_retz rfl rfl (by omega) ?_
      exact ⟨rfl, rfl, _, rfl, by omega⟩
    · skip
      refine bw_aload rfl rfl ?_
      refine bw_getr rfl rfl (cur_r hR hc) ?_
      refine bw_iload rfl rfl ?_
      refine bw_callVNj (e := d - 1) (as := [_]) rfl (by omega) rfl rfl (Nat.le_of_ble_eq_true rfl) (Nat.le_of_ble_eq_true rfl) rfl (c_hasFrame hR (by first | exact Or.inl rfl | exact Or.inr rfl) hS) (fun r16 hr16 => ?_)
      refine bw_ifeq rfl (fun c19 => ?_) (fun c19 => ?_)
      · skip
        refine bw_push rfl ?_
        refine bw_retz rfl rfl (by omega) ?_
        exact ⟨rfl, rfl, _, rfl, by omega⟩
      · skip
        refine bw_push rfl ?_
        refine bw_goto rfl ?_
        refine bw_retz rfl rfl (by omega) ?_
        exact ⟨rfl, rfl, _, rfl, by omega⟩
  · have hS : SR M 459 (gI M 568) := by have q := h.sr; rw [hc] at q; exact q
    have b1 := h.fr
    have b2 := h.la
    have hrf := hR
    show abW d (0, 0) 125 0 [some (vr (some 0)), some (vi l), some (vi f)] [] (0, 0) (A0 L) M (qJ (A0 L) M (fun x => ((0 ≤ l ∧ l < gI M 568 1) ∧ (0 ≤ f ∧ f < gI M 568 0)) ∧ x = 1 ∨ ¬ ((0 ≤ l ∧ l < gI M 568 1) ∧ (0 ≤ f ∧ f < gI M 568 0)) ∧ x = 0))
    refine bw_aload rfl rfl ?_
    refine bw_getr rfl rfl (cur_r hR hc) ?_
    refine bw_iload rfl rfl ?_
    refine bw_callVNj (e := d - 1) (as := [_]) rfl (by omega) rfl rfl (Nat.le_of_ble_eq_true rfl) (Nat.le_of_ble_eq_true rfl) rfl (c_hasLayer hR (by first | exact Or.inl rfl | exact Or.inr rfl) hS) (fun r5 hr5 => ?_)
    refine bw_ifeq rfl (fun c8 => ?_) (fun c8 => ?_)
    · skip
      refine bw_push rfl ?_
      refine bw_retz rfl rfl (by omega) ?_
      exact ⟨rfl, rfl, _, rfl, by omega⟩
    · skip
      refine bw_aload rfl rfl ?_
      refine bw_getr rfl rfl (cur_r hR hc) ?_
      refine bw_iload rfl rfl ?_
      refine bw_callVNj (e := d - 1) (as := [_]) rfl (by omega) rfl rfl (Nat.le_of_ble_eq_true rfl) (Nat.le_of_ble_eq_true rfl) rfl (c_hasFrame hR (by first | exact Or.inl rfl | exact Or.inr rfl) hS) (fun r16 hr16 => ?_)
      refine bw_ifeq rfl (fun c19 => ?_) (fun c19 => ?_)
      · skip
        refine bw_push rfl ?_
        refine bw_retz rfl rfl (by omega) ?_
        exact ⟨rfl, rfl, _, rfl, by omega⟩
      · skip
        refine bw_push rfl ?_
        refine bw_goto rfl ?_
        refine bw_retz rfl rfl (by omega) ?_
        exact ⟨rfl, rfl, _, rfl, by omega⟩
set_option maxRecDepth 20000 in
set_option maxHeartbeats 4000000 in
theorem c_isOnPaper {d L : Nat} {M : abMem} {r : abRf} (hR : RF r M) {u v : Int} : abW d (0, 0) 126 0 (abEnt (abL 126) [vi u, vi v]) [] (0, 0) (A0 L) M (qJ (A0 L) M (fun x => ((0 ≤ u ∧ u ≤ 11) ∧ (0 ≤ v ∧ v ≤ 7)) ∧ x = 1 ∨ ¬ ((0 ≤ u ∧ u ≤ 11) ∧ (0 ≤ v ∧ v ≤ 7)) ∧ x = 0)) := by
  show abW d (0, 0) 126 0 [some (vi u), some (vi v)] [] (0, 0) (A0 L) M (qJ (A0 L) M (fun x => ((0 ≤ u ∧ u ≤ 11) ∧ (0 ≤ v ∧ v ≤ 7)) ∧ x = 1 ∨ ¬ ((0 ≤ u ∧ u ≤ 11) ∧ (0 ≤ v ∧ v ≤ 7)) ∧ x = 0))
  refine bw_iload rfl rfl ?_
  refine bw_iflt rfl (fun c1 => ?_) (fun c1 => ?_)
  · skip
    refine bw_push rfl ?_
    refine bw_retz rfl rfl (by omega) ?_
    exact ⟨rfl, rfl, _, rfl, by omega⟩
  · skip
    refine bw_iload rfl rfl ?_
    refine bw_push rfl ?_
    refine bw_icge rfl (fun c7 => ?_) (fun c7 => ?_)
    · skip
      refine bw_push rfl ?_
      refine bw_retz rfl rfl (by omega) ?_
      exact ⟨rfl, rfl, _, rfl, by omega⟩
    · skip
      refine bw_iload rfl rfl ?_
      refine bw_iflt rfl (fun c11 => ?_) (fun c11 => ?_)
      · skip
        refine bw_push rfl ?_
        refine bw_retz rfl rfl (by omega) ?_
        exact ⟨rfl, rfl, _, rfl, by omega⟩
      · skip
        refine bw_iload rfl rfl ?_
        refine bw_push rfl ?_
        refine bw_icge rfl (fun c17 => ?_) (fun c17 => ?_)
        · skip
          refine bw_push rfl ?_
          refine bw_retz rfl rfl (by omega) ?_
          exact ⟨rfl, rfl, _, rfl, by omega⟩
        · skip
          refine bw_push rfl ?_
          refine bw_goto rfl ?_
          refine bw_retz rfl rfl (by omega) ?_
          exact ⟨rfl, rfl, _, rfl, by omega⟩
set_option maxRecDepth 20000 in
set_option maxHeartbeats 4000000 in
theorem c_isDrawing {d L : Nat} {M : abMem} {r : abRf} (hR : RF r M) {v : Int} : abW d (0, 0) 127 0 (abEnt (abL 127) [vi v]) [] (0, 0) (A0 L) M (qJ (A0 L) M (fun x => (0 ≤ v ∧ v ≤ 99) ∧ x = 1 ∨ ¬ (0 ≤ v ∧ v ≤ 99) ∧ x = 0)) := by
  show abW d (0, 0) 127 0 [some (vi v)] [] (0, 0) (A0 L) M (qJ (A0 L) M (fun x => (0 ≤ v ∧ v ≤ 99) ∧ x = 1 ∨ ¬ (0 ≤ v ∧ v ≤ 99) ∧ x = 0))
  refine bw_iload rfl rfl ?_
  refine bw_iflt rfl (fun c1 => ?_) (fun c1 => ?_)
  · skip
    refine bw_push rfl ?_
    refine bw_retz rfl rfl (by omega) ?_
    exact ⟨rfl, rfl, _, rfl, by omega⟩
  · skip
    refine bw_iload rfl rfl ?_
    refine bw_push rfl ?_
    refine bw_icgt rfl (fun c7 => ?_) (fun c7 => ?_)
    · skip
      refine bw_push rfl ?_
      refine bw_retz rfl rfl (by omega) ?_
      exact ⟨rfl, rfl, _, rfl, by omega⟩
    · skip
      refine bw_push rfl ?_
      refine bw_goto rfl ?_
      refine bw_retz rfl rfl (by omega) ?_
      exact ⟨rfl, rfl, _, rfl, by omega⟩
set_option maxRecDepth 20000 in
set_option maxHeartbeats 4000000 in
theorem x_at {d L : Nat} {M : abMem} {r : abRf} (hR : RF r M) {s : Nat} (hs : s = 372 ∨ s = 459) (hc : cur r = s) {k : Int} (h : INV r M k) {l f : Int} (hd : 2 ≤ d) : abW d (0, 0) 93 0 (abEnt (abL 93) [vr (some 0), vi l, vi f]) [] (0, 0) (A0 L) M (qE (some (vi (if 0 ≤ l ∧ l < gI M 568 1 ∧ 0 ≤ f ∧ f < gI M 568 0 then mR M 0 l f else -1))) (A0 L) M) := by
  rcases hs with rfl | rfl
  · have hS : SR M 372 (gI M 568) := by have q := h.sr; rw [hc] at q; exact q
    have b1 := h.fr
    have b2 := h.la
    have hrf := hR
    show abW d (0, 0) 93 0 [some (vr (some 0)), some (vi l), some (vi f)] [] (0, 0) (A0 L) M (qE (some (vi (if 0 ≤ l ∧ l < gI M 568 1 ∧ 0 ≤ f ∧ f < gI M 568 0 then mR M 0 l f else -1))) (A0 L) M)
    refine bw_aload rfl rfl ?_
    refine bw_iload rfl rfl ?_
    refine bw_iload rfl rfl ?_
    refine bw_callVj (e := d - 1) (as := [_, _]) rfl (by omega) rfl rfl (Nat.le_of_ble_eq_true rfl) (Nat.le_of_ble_eq_true rfl) rfl (c_hasPlace hR (by first | exact Or.inl rfl | exact Or.inr rfl) hc h (by omega)) (fun r3 hr3 => ?_)
    refine bw_ifeq rfl (fun c6 => ?_) (fun c6 => ?_)
    · skip
      refine bw_push rfl ?_
      refine bw_ret rfl rfl ?_
      exact ⟨congrArg (fun x => some (vi x)) (by first | rfl | ((repeat (first | rw [if_pos (by omega)] | rw [if_neg (by omega)])) <;> first | rfl | omega)), rfl, rfl⟩
    · skip
      refine bw_aload rfl rfl ?_
      refine bw_getr rfl rfl (hR _ _) ?_
      refine bw_getr rfl rfl (hR _ _) ?_
      refine bw_iload rfl rfl ?_
      refine bw_aldr rfl (by first | rfl | assumption) (by decide) (by omega) (by omega) ((hR _ _).trans (rr_row (fun _ => rfl) (by omega) (by omega) (by omega))) ?_
      refine bw_iload rfl rfl ?_
      refine bw_aldi rfl (kfa (b := 12) (n := 6) (v := (20, 96)) (by decide) (by decide) ⟨by omega, by omega⟩) (by omega) (by omega) ?_
      rw [h.row ⟨by omega, by omega⟩ ⟨by omega, by omega⟩]
      refine bw_goto rfl ?_
      refine bw_ret rfl rfl ?_
      exact ⟨congrArg (fun x => some (vi x)) (by first | rfl | ((repeat (first | rw [if_pos (by omega)] | rw [if_neg (by omega)])) <;> first | rfl | omega)), rfl, rfl⟩
  · have hS : SR M 459 (gI M 568) := by have q := h.sr; rw [hc] at q; exact q
    have b1 := h.fr
    have b2 := h.la
    have hrf := hR
    show abW d (0, 0) 93 0 [some (vr (some 0)), some (vi l), some (vi f)] [] (0, 0) (A0 L) M (qE (some (vi (if 0 ≤ l ∧ l < gI M 568 1 ∧ 0 ≤ f ∧ f < gI M 568 0 then mR M 0 l f else -1))) (A0 L) M)
    refine bw_aload rfl rfl ?_
    refine bw_iload rfl rfl ?_
    refine bw_iload rfl rfl ?_
    refine bw_callVj (e := d - 1) (as := [_, _]) rfl (by omega) rfl rfl (Nat.le_of_ble_eq_true rfl) (Nat.le_of_ble_eq_true rfl) rfl (c_hasPlace hR (by first | exact Or.inl rfl | exact Or.inr rfl) hc h (by omega)) (fun r3 hr3 => ?_)
    refine bw_ifeq rfl (fun c6 => ?_) (fun c6 => ?_)
    · skip
      refine bw_push rfl ?_
      refine bw_ret rfl rfl ?_
      exact ⟨congrArg (fun x => some (vi x)) (by first | rfl | ((repeat (first | rw [if_pos (by omega)] | rw [if_neg (by omega)])) <;> first | rfl | omega)), rfl, rfl⟩
    · skip
      refine bw_aload rfl rfl ?_
      refine bw_getr rfl rfl (hR _ _) ?_
      refine bw_getr rfl rfl (hR _ _) ?_
      refine bw_iload rfl rfl ?_
      refine bw_aldr rfl (by first | rfl | assumption) (by decide) (by omega) (by omega) ((hR _ _).trans (rr_row (fun _ => rfl) (by omega) (by omega) (by omega))) ?_
      refine bw_iload rfl rfl ?_
      refine bw_aldi rfl (kfa (b := 12) (n := 6) (v := (20, 96)) (by decide) (by decide) ⟨by omega, by omega⟩) (by omega) (by omega) ?_
      rw [h.row ⟨by omega, by omega⟩ ⟨by omega, by omega⟩]
      refine bw_goto rfl ?_
      refine bw_ret rfl rfl ?_
      exact ⟨congrArg (fun x => some (vi x)) (by first | rfl | ((repeat (first | rw [if_pos (by omega)] | rw [if_neg (by omega)])) <;> first | rfl | omega)), rfl, rfl⟩
set_option maxRecDepth 20000 in
set_option maxHeartbeats 4000000 in
theorem x_told {d L : Nat} {M : abMem} {r : abRf} (hR : RF r M) {s : Nat} (hs : s = 372 ∨ s = 459) (hc : cur r = s) {k : Int} (h : INV r M k) {l f : Int} (hd : 2 ≤ d) : abW d (0, 0) 94 0 (abEnt (abL 94) [vr (some 0), vi l, vi f]) [] (0, 0) (A0 L) M (qE (some (vi (if 0 ≤ l ∧ l < gI M 568 1 ∧ 0 ≤ f ∧ f < gI M 568 0 then gI M 568 (430 + 96 * l + f) else -1))) (A0 L) M) := by
  rcases hs with rfl | rfl
  · have hS : SR M 372 (gI M 568) := by have q := h.sr; rw [hc] at q; exact q
    have b1 := h.fr
    have b2 := h.la
    have hrf := hR
    show abW d (0, 0) 94 0 [some (vr (some 0)), some (vi l), some (vi f)] [] (0, 0) (A0 L) M (qE (some (vi (if 0 ≤ l ∧ l < gI M 568 1 ∧ 0 ≤ f ∧ f < gI M 568 0 then gI M 568 (430 + 96 * l + f) else -1))) (A0 L) M)
    refine bw_aload rfl rfl ?_
    refine bw_iload rfl rfl ?_
    refine bw_iload rfl rfl ?_
    refine bw_callVj (e := d - 1) (as := [_, _]) rfl (by omega) rfl rfl (Nat.le_of_ble_eq_true rfl) (Nat.le_of_ble_eq_true rfl) rfl (c_hasPlace hR (by first | exact Or.inl rfl | exact Or.inr rfl) hc h (by omega)) (fun r3 hr3 => ?_)
    refine bw_ifeq rfl (fun c6 => ?_) (fun c6 => ?_)
    · skip
      refine bw_push rfl ?_
      refine bw_ret rfl rfl ?_
      exact ⟨congrArg (fun x => some (vi x)) (by first | rfl | ((repeat (first | rw [if_pos (by omega)] | rw [if_neg (by omega)])) <;> first | rfl | omega)), rfl, rfl⟩
    · skip
      refine bw_aload rfl rfl ?_
      refine bw_getr rfl rfl (cur_r hR hc) ?_
      refine bw_getr rfl rfl (hR _ _) ?_
      refine bw_iload rfl rfl ?_
      refine bw_aldr rfl (by first | rfl | assumption) (by decide) (by omega) (by omega) ((hR _ _).trans (rr_row (fun _ => rfl) (by omega) (by omega) (by omega))) ?_
      refine bw_iload rfl rfl ?_
      refine bw_aldi rfl (kfa (b := 383) (n := 6) (v := (20, 96)) (by decide) (by decide) ⟨by omega, by omega⟩) (by omega) (by omega) ?_
      rw [show gI M (383 + l.toNat) f = gI M 568 (430 + 96 * l + f) from hS.rw l f (by omega) (by omega) (by omega) (by omega)]
      refine bw_goto rfl ?_
      refine bw_ret rfl rfl ?_
      exact ⟨congrArg (fun x => some (vi x)) (by first | rfl | ((repeat (first | rw [if_pos (by omega)] | rw [if_neg (by omega)])) <;> first | rfl | omega)), rfl, rfl⟩
  · have hS : SR M 459 (gI M 568) := by have q := h.sr; rw [hc] at q; exact q
    have b1 := h.fr
    have b2 := h.la
    have hrf := hR
    show abW d (0, 0) 94 0 [some (vr (some 0)), some (vi l), some (vi f)] [] (0, 0) (A0 L) M (qE (some (vi (if 0 ≤ l ∧ l < gI M 568 1 ∧ 0 ≤ f ∧ f < gI M 568 0 then gI M 568 (430 + 96 * l + f) else -1))) (A0 L) M)
    refine bw_aload rfl rfl ?_
    refine bw_iload rfl rfl ?_
    refine bw_iload rfl rfl ?_
    refine bw_callVj (e := d - 1) (as := [_, _]) rfl (by omega) rfl rfl (Nat.le_of_ble_eq_true rfl) (Nat.le_of_ble_eq_true rfl) rfl (c_hasPlace hR (by first | exact Or.inl rfl | exact Or.inr rfl) hc h (by omega)) (fun r3 hr3 => ?_)
    refine bw_ifeq rfl (fun c6 => ?_) (fun c6 => ?_)
    · skip
      refine bw_push rfl ?_
      refine bw_ret rfl rfl ?_
      exact ⟨congrArg (fun x => some (vi x)) (by first | rfl | ((repeat (first | rw [if_pos (by omega)] | rw [if_neg (by omega)])) <;> first | rfl | omega)), rfl, rfl⟩
    · skip
      refine bw_aload rfl rfl ?_
      refine bw_getr rfl rfl (cur_r hR hc) ?_
      refine bw_getr rfl rfl (hR _ _) ?_
      refine bw_iload rfl rfl ?_
      refine bw_aldr rfl (by first | rfl | assumption) (by decide) (by omega) (by omega) ((hR _ _).trans (rr_row (fun _ => rfl) (by omega) (by omega) (by omega))) ?_
      refine bw_iload rfl rfl ?_
      refine bw_aldi rfl (kfa (b := 470) (n := 6) (v := (20, 96)) (by decide) (by decide) ⟨by omega, by omega⟩) (by omega) (by omega) ?_
      rw [show gI M (470 + l.toNat) f = gI M 568 (430 + 96 * l + f) from hS.rw l f (by omega) (by omega) (by omega) (by omega)]
      refine bw_goto rfl ?_
      refine bw_ret rfl rfl ?_
      exact ⟨congrArg (fun x => some (vi x)) (by first | rfl | ((repeat (first | rw [if_pos (by omega)] | rw [if_neg (by omega)])) <;> first | rfl | omega)), rfl, rfl⟩
set_option maxRecDepth 20000 in
set_option maxHeartbeats 4000000 in
theorem x_look {d L : Nat} {M : abMem} {r : abRf} (hR : RF r M) {s : Nat} (hs : s = 372 ∨ s = 459) (hc : cur r = s) {k : Int} (h : INV r M k) {w : Int} : abW d (0, 0) 89 0 (abEnt (abL 89) [vr (some 0), vi w]) [] (0, 0) (A0 L) M (qE (some (vi (if w = 0 then gI M 568 0 else if w = 1 then gI M 568 1 else if w = 2 then gI M 568 2 else if w = 3 then gI M 568 3 else if w = 4 then gI M 568 4 else if w = 5 then gI M 567 3 else if w = 6 then gI M 567 5 else -1))) (A0 L) M) := by
  rcases hs with rfl | rfl
  · have hS : SR M 372 (gI M 568) := by have q := h.sr; rw [hc] at q; exact q
    have b1 := h.fr
    have b2 := h.la
    have hrf := hR
    show abW d (0, 0) 89 0 [some (vr (some 0)), some (vi w)] [] (0, 0) (A0 L) M (qE (some (vi (if w = 0 then gI M 568 0 else if w = 1 then gI M 568 1 else if w = 2 then gI M 568 2 else if w = 3 then gI M 568 3 else if w = 4 then gI M 568 4 else if w = 5 then gI M 567 3 else if w = 6 then gI M 567 5 else -1))) (A0 L) M)
    refine bw_iload rfl rfl ?_
    by_cases s1_0 : w = 0
    · refine bw_switch (t := 44) rfl (by rw [s1_0]; rfl) ?_
      refine bw_aload rfl rfl ?_
      refine bw_getr rfl rfl (cur_r hR hc) ?_
      refine bw_getI rfl rfl ?_
      rw [show gI M 372 0 = gI M 568 0 from hS.c0]
      refine bw_ret rfl rfl ?_
      exact ⟨congrArg (fun x => some (vi x)) (by first | rfl | ((repeat (first | rw [if_pos (by omega)] | rw [if_neg (by omega)])) <;> first | rfl | omega)), rfl, rfl⟩
    · skip
      by_cases s1_1 : w = 1
      · refine bw_switch (t := 52) rfl (by rw [s1_1]; rfl) ?_
        refine bw_aload rfl rfl ?_
        refine bw_getr rfl rfl (cur_r hR hc) ?_
        refine bw_getI rfl rfl ?_
        rw [show gI M 372 2 = gI M 568 1 from hS.c2]
        refine bw_ret rfl rfl ?_
        exact ⟨congrArg (fun x => some (vi x)) (by first | rfl | ((repeat (first | rw [if_pos (by omega)] | rw [if_neg (by omega)])) <;> first | rfl | omega)), rfl, rfl⟩
      · skip
        by_cases s1_2 : w = 2
        · refine bw_switch (t := 60) rfl (by rw [s1_2]; rfl) ?_
          refine bw_aload rfl rfl ?_
          refine bw_getr rfl rfl (cur_r hR hc) ?_
          refine bw_getI rfl rfl ?_
          rw [show gI M 372 3 = gI M 568 2 from hS.c3]
          refine bw_ret rfl rfl ?_
          exact ⟨congrArg (fun x => some (vi x)) (by first | rfl | ((repeat (first | rw [if_pos (by omega)] | rw [if_neg (by omega)])) <;> first | rfl | omega)), rfl, rfl⟩
        · skip
          by_cases s1_3 : w = 3
          · refine bw_switch (t := 68) rfl (by rw [s1_3]; rfl) ?_
            refine bw_aload rfl rfl ?_
            refine bw_getr rfl rfl (cur_r hR hc) ?_
            refine bw_getI rfl rfl ?_
            rw [show gI M 372 4 = gI M 568 3 from hS.c4]
            refine bw_ret rfl rfl ?_
            exact ⟨congrArg (fun x => some (vi x)) (by first | rfl | ((repeat (first | rw [if_pos (by omega)] | rw [if_neg (by omega)])) <;> first | rfl | omega)), rfl, rfl⟩
          · skip
            by_cases s1_4 : w = 4
            · refine bw_switch (t := 76) rfl (by rw [s1_4]; rfl) ?_
              refine bw_aload rfl rfl ?_
              refine bw_getr rfl rfl (cur_r hR hc) ?_
              refine bw_getI rfl rfl ?_
              rw [show gI M 372 5 = gI M 568 4 from hS.c5]
              refine bw_ret rfl rfl ?_
              exact ⟨congrArg (fun x => some (vi x)) (by first | rfl | ((repeat (first | rw [if_pos (by omega)] | rw [if_neg (by omega)])) <;> first | rfl | omega)), rfl, rfl⟩
            · skip
              by_cases s1_5 : w = 5
              · refine bw_switch (t := 84) rfl (by rw [s1_5]; rfl) ?_
                refine bw_aload rfl rfl ?_
                refine bw_getr rfl rfl (hR _ _) ?_
                refine bw_getI rfl rfl ?_
                rw [h.hi.1.1]
                refine bw_ret rfl rfl ?_
                exact ⟨congrArg (fun x => some (vi x)) (by first | rfl | ((repeat (first | rw [if_pos (by omega)] | rw [if_neg (by omega)])) <;> first | rfl | omega)), rfl, rfl⟩
              · skip
                by_cases s1_6 : w = 6
                · refine bw_switch (t := 92) rfl (by rw [s1_6]; rfl) ?_
                  refine bw_aload rfl rfl ?_
                  refine bw_getr rfl rfl (hR _ _) ?_
                  refine bw_getI rfl rfl ?_
                  rw [h.ta.1]
                  refine bw_ret rfl rfl ?_
                  exact ⟨congrArg (fun x => some (vi x)) (by first | rfl | ((repeat (first | rw [if_pos (by omega)] | rw [if_neg (by omega)])) <;> first | rfl | omega)), rfl, rfl⟩
                · skip
                  refine bw_switch (t := 100) rfl (by show (if (w) < (0 : Int) ∨ (6 : Int) < (w) then _ else _) = _; rw [if_pos (by omega)]; rfl) ?_
                  refine bw_push rfl ?_
                  refine bw_ret rfl rfl ?_
                  exact ⟨congrArg (fun x => some (vi x)) (by first | rfl | ((repeat (first | rw [if_pos (by omega)] | rw [if_neg (by omega)])) <;> first | rfl | omega)), rfl, rfl⟩
  · have hS : SR M 459 (gI M 568) := by have q := h.sr; rw [hc] at q; exact q
    have b1 := h.fr
    have b2 := h.la
    have hrf := hR
    show abW d (0, 0) 89 0 [some (vr (some 0)), some (vi w)] [] (0, 0) (A0 L) M (qE (some (vi (if w = 0 then gI M 568 0 else if w = 1 then gI M 568 1 else if w = 2 then gI M 568 2 else if w = 3 then gI M 568 3 else if w = 4 then gI M 568 4 else if w = 5 then gI M 567 3 else if w = 6 then gI M 567 5 else -1))) (A0 L) M)
    refine bw_iload rfl rfl ?_
    by_cases s1_0 : w = 0
    · refine bw_switch (t := 44) rfl (by rw [s1_0]; rfl) ?_
      refine bw_aload rfl rfl ?_
      refine bw_getr rfl rfl (cur_r hR hc) ?_
      refine bw_getI rfl rfl ?_
      rw [show gI M 459 0 = gI M 568 0 from hS.c0]
      refine bw_ret rfl rfl ?_
      exact ⟨congrArg (fun x => some (vi x)) (by first | rfl | ((repeat (first | rw [if_pos (by omega)] | rw [if_neg (by omega)])) <;> first | rfl | omega)), rfl, rfl⟩
    · skip
      by_cases s1_1 : w = 1
      · refine bw_switch (t := 52) rfl (by rw [s1_1]; rfl) ?_
        refine bw_aload rfl rfl ?_
        refine bw_getr rfl rfl (cur_r hR hc) ?_
        refine bw_getI rfl rfl ?_
        rw [show gI M 459 2 = gI M 568 1 from hS.c2]
        refine bw_ret rfl rfl ?_
        exact ⟨congrArg (fun x => some (vi x)) (by first | rfl | ((repeat (first | rw [if_pos (by omega)] | rw [if_neg (by omega)])) <;> first | rfl | omega)), rfl, rfl⟩
      · skip
        by_cases s1_2 : w = 2
        · refine bw_switch (t := 60) rfl (by rw [s1_2]; rfl) ?_
          refine bw_aload rfl rfl ?_
          refine bw_getr rfl rfl (cur_r hR hc) ?_
          refine bw_getI rfl rfl ?_
          rw [show gI M 459 3 = gI M 568 2 from hS.c3]
          refine bw_ret rfl rfl ?_
          exact ⟨congrArg (fun x => some (vi x)) (by first | rfl | ((repeat (first | rw [if_pos (by omega)] | rw [if_neg (by omega)])) <;> first | rfl | omega)), rfl, rfl⟩
        · skip
          by_cases s1_3 : w = 3
          · refine bw_switch (t := 68) rfl (by rw [s1_3]; rfl) ?_
            refine bw_aload rfl rfl ?_
            refine bw_getr rfl rfl (cur_r hR hc) ?_
            refine bw_getI rfl rfl ?_
            rw [show gI M 459 4 = gI M 568 3 from hS.c4]
            refine bw_ret rfl rfl ?_
            exact ⟨congrArg (fun x => some (vi x)) (by first | rfl | ((repeat (first | rw [if_pos (by omega)] | rw [if_neg (by omega)])) <;> first | rfl | omega)), rfl, rfl⟩
          · skip
            by_cases s1_4 : w = 4
            · refine bw_switch (t := 76) rfl (by rw [s1_4]; rfl) ?_
              refine bw_aload rfl rfl ?_
              refine bw_getr rfl rfl (cur_r hR hc) ?_
              refine bw_getI rfl rfl ?_
              rw [show gI M 459 5 = gI M 568 4 from hS.c5]
              refine bw_ret rfl rfl ?_
              exact ⟨congrArg (fun x => some (vi x)) (by first | rfl | ((repeat (first | rw [if_pos (by omega)] | rw [if_neg (by omega)])) <;> first | rfl | omega)), rfl, rfl⟩
            · skip
              by_cases s1_5 : w = 5
              · refine bw_switch (t := 84) rfl (by rw [s1_5]; rfl) ?_
                refine bw_aload rfl rfl ?_
                refine bw_getr rfl rfl (hR _ _) ?_
                refine bw_getI rfl rfl ?_
                rw [h.hi.1.1]
                refine bw_ret rfl rfl ?_
                exact ⟨congrArg (fun x => some (vi x)) (by first | rfl | ((repeat (first | rw [if_pos (by omega)] | rw [if_neg (by omega)])) <;> first | rfl | omega)), rfl, rfl⟩
              · skip
                by_cases s1_6 : w = 6
                · refine bw_switch (t := 92) rfl (by rw [s1_6]; rfl) ?_
                  refine bw_aload rfl rfl ?_
                  refine bw_getr rfl rfl (hR _ _) ?_
                  refine bw_getI rfl rfl ?_
                  rw [h.ta.1]
                  refine bw_ret rfl rfl ?_
                  exact ⟨congrArg (fun x => some (vi x)) (by first | rfl | ((repeat (first | rw [if_pos (by omega)] | rw [if_neg (by omega)])) <;> first | rfl | omega)), rfl, rfl⟩
                · skip
                  refine bw_switch (t := 100) rfl (by show (if (w) < (0 : Int) ∨ (6 : Int) < (w) then _ else _) = _; rw [if_pos (by omega)]; rfl) ?_
                  refine bw_push rfl ?_
                  refine bw_ret rfl rfl ?_
                  exact ⟨congrArg (fun x => some (vi x)) (by first | rfl | ((repeat (first | rw [if_pos (by omega)] | rw [if_neg (by omega)])) <;> first | rfl | omega)), rfl, rfl⟩
set_option maxRecDepth 20000 in
set_option maxHeartbeats 4000000 in
theorem x_layer {d L : Nat} {M : abMem} {r : abRf} (hR : RF r M) {s : Nat} (hs : s = 372 ∨ s = 459) (hc : cur r = s) {k : Int} (h : INV r M k) {l w : Int} (hd : 2 ≤ d) : abW d (0, 0) 90 0 (abEnt (abL 90) [vr (some 0), vi l, vi w]) [] (0, 0) (A0 L) M (qE (some (vi (if 0 ≤ l ∧ l < gI M 568 1 then (if w = 0 then gI M 568 (6 + l) else if w = 1 then plc (fun p => gI M 569 (576 + p)) l else if w = 2 then cN (pE (mR M 0 l)) (gI M 568 0).toNat else if w = 3 then cN (pU (mR M 0 l)) (gI M 568 0).toNat else if w = 4 then cN (pF (mR M 0 l)) (gI M 568 0).toNat else if w = 5 then cN (pJ (mR M 0 l)) (gI M 568 0).toNat else if w = 6 then mX (mR M 0 l) (gI M 568 0).toNat else -1) else -1))) (A0 L) M) := by
  rcases hs with rfl | rfl
  · have hS : SR M 372 (gI M 568) := by have q := h.sr; rw [hc] at q; exact q
    have b1 := h.fr
    have b2 := h.la
    have hrf := hR
    show abW d (0, 0) 90 0 [some (vr (some 0)), some (vi l), some (vi w), none] [] (0, 0) (A0 L) M (qE (some (vi (if 0 ≤ l ∧ l < gI M 568 1 then (if w = 0 then gI M 568 (6 + l) else if w = 1 then plc (fun p => gI M 569 (576 + p)) l else if w = 2 then cN (pE (mR M 0 l)) (gI M 568 0).toNat else if w = 3 then cN (pU (mR M 0 l)) (gI M 568 0).toNat else if w = 4 then cN (pF (mR M 0 l)) (gI M 568 0).toNat else if w = 5 then cN (pJ (mR M 0 l)) (gI M 568 0).toNat else if w = 6 then mX (mR M 0 l) (gI M 568 0).toNat else -1) else -1))) (A0 L) M)
    refine bw_aload rfl rfl ?_
    refine bw_getr rfl rfl (cur_r hR hc) ?_
    refine bw_iload rfl rfl ?_
    refine bw_callVNj (e := d - 1) (as := [_]) rfl (by omega) rfl rfl (Nat.le_of_ble_eq_true rfl) (Nat.le_of_ble_eq_true rfl) rfl (c_hasLayer hR (by first | exact Or.inl rfl | exact Or.inr rfl) hS) (fun r5 hr5 => ?_)
    refine bw_ifne rfl (fun c8 => ?_) (fun c8 => ?_)
    · skip
      refine bw_aload rfl rfl ?_
      refine bw_getr rfl rfl (hR _ _) ?_
      refine bw_getr rfl rfl (hR _ _) ?_
      refine bw_iload rfl rfl ?_
      refine bw_aldr rfl (by first | rfl | assumption) (by decide) (by omega) (by omega) ((hR _ _).trans (rr_row (fun _ => rfl) (by omega) (by omega) (by omega))) ?_
      refine bw_astore (ls2 := [_, _, _, _]) rfl rfl (Nat.le_of_ble_eq_true rfl) rfl ?_
      refine bw_iload rfl rfl ?_
      by_cases s24_0 : w = 0
      · refine bw_switch (t := 68) rfl (by rw [s24_0]; rfl) ?_
        refine bw_aload rfl rfl ?_
        refine bw_getr rfl rfl (cur_r hR hc) ?_
        refine bw_getr rfl rfl (hR _ _) ?_
        refine bw_iload rfl rfl ?_
        refine bw_aldi rfl (by first | rfl | assumption) (by omega) (by omega) ?_
        rw [show gI M 373 l = gI M 568 (6 + l) from hS.on l (by omega) (by omega)]
        refine bw_ret rfl rfl ?_
        exact ⟨congrArg (fun x => some (vi x)) (by first | rfl | ((repeat (first | rw [if_pos (by omega)] | rw [if_neg (by omega)])) <;> first | rfl | omega)), rfl, rfl⟩
      · skip
        by_cases s24_1 : w = 1
        · refine bw_switch (t := 78) rfl (by rw [s24_1]; rfl) ?_
          refine bw_aload rfl rfl ?_
          refine bw_getr rfl rfl (hR _ _) ?_
          refine bw_iload rfl rfl ?_
          refine bw_callVNe (e := d - 1) (as := [_]) rfl (by omega) rfl rfl (Nat.le_of_ble_eq_true rfl) (Nat.le_of_ble_eq_true rfl) rfl (c_placeOf hR) ?_
          rw [plc_cg (fun p p0 p1 => h.sh.2.1 p p0 p1)]
          rw [show (fun p : Int => gI M 569 (0 + 576 + p)) = fun p => gI M 569 (576 + p) from rfl]
          refine bw_ret rfl rfl ?_
          exact ⟨congrArg (fun x => some (vi x)) (by first | rfl | ((repeat (first | rw [if_pos (by omega)] | rw [if_neg (by omega)])) <;> first | rfl | omega)), rfl, rfl⟩
        · skip
          by_cases s24_2 : w = 2
          · refine bw_switch (t := 87) rfl (by rw [s24_2]; rfl) ?_
            refine bw_aload rfl rfl ?_
            refine bw_aload rfl rfl ?_
            refine bw_getr rfl rfl (cur_r hR hc) ?_
            refine bw_getI rfl rfl ?_
            rw [show gI M 372 0 = gI M 568 0 from hS.c0]
            refine bw_callSNe (e := d - 1) (as := [_, _]) rfl (by omega) rfl rfl (Nat.le_of_ble_eq_true rfl) (Nat.le_of_ble_eq_true rfl) (c_exposures (z := 96) (by decide) (kfa (L := L) (b := 12) (n := 6) (v := (20, 96)) (by decide) (by decide) ⟨by omega, by omega⟩) (by omega)) ?_
            rw [pE_cg (fun j j0 j1 => h.row ⟨by omega, by omega⟩ ⟨j0, j1⟩)]
            refine bw_ret rfl rfl ?_
            exact ⟨congrArg (fun x => some (vi x)) (by first | rfl | ((repeat (first | rw [if_pos (by omega)] | rw [if_neg (by omega)])) <;> first | rfl | omega)), rfl, rfl⟩
          · skip
            by_cases s24_3 : w = 3
            · refine bw_switch (t := 99) rfl (by rw [s24_3]; rfl) ?_
              refine bw_aload rfl rfl ?_
              refine bw_aload rfl rfl ?_
              refine bw_getr rfl rfl (cur_r hR hc) ?_
              refine bw_getI rfl rfl ?_
              rw [show gI M 372 0 = gI M 568 0 from hS.c0]
              refine bw_callSNe (e := d - 1) (as := [_, _]) rfl (by omega) rfl rfl (Nat.le_of_ble_eq_true rfl) (Nat.le_of_ble_eq_true rfl) (c_unlike (z := 96) (by decide) (kfa (L := L) (b := 12) (n := 6) (v := (20, 96)) (by decide) (by decide) ⟨by omega, by omega⟩) (by omega) (fun j j0 j1 => h.rv ⟨by omega, by omega⟩ ⟨j0, j1⟩) (by omega)) ?_
              rw [pU_cg (fun j j0 j1 => h.row ⟨by omega, by omega⟩ ⟨j0, j1⟩)]
              refine bw_ret rfl rfl ?_
              exact ⟨congrArg (fun x => some (vi x)) (by first | rfl | ((repeat (first | rw [if_pos (by omega)] | rw [if_neg (by omega)])) <;> first | rfl | omega)), rfl, rfl⟩
            · skip
              by_cases s24_4 : w = 4
              · refine bw_switch (t := 111) rfl (by rw [s24_4]; rfl) ?_
                refine bw_aload rfl rfl ?_
                refine bw_aload rfl rfl ?_
                refine bw_getr rfl rfl (cur_r hR hc) ?_
                refine bw_getI rfl rfl ?_
                rw [show gI M 372 0 = gI M 568 0 from hS.c0]
                refine bw_callSNe (e := d - 1) (as := [_, _]) rfl (by omega) rfl rfl (Nat.le_of_ble_eq_true rfl) (Nat.le_of_ble_eq_true rfl) (c_filled (z := 96) (by decide) (kfa (L := L) (b := 12) (n := 6) (v := (20, 96)) (by decide) (by decide) ⟨by omega, by omega⟩) (by omega)) ?_
                rw [pF_cg (fun j j0 j1 => h.row ⟨by omega, by omega⟩ ⟨j0, j1⟩)]
                refine bw_ret rfl rfl ?_
                exact ⟨congrArg (fun x => some (vi x)) (by first | rfl | ((repeat (first | rw [if_pos (by omega)] | rw [if_neg (by omega)])) <;> first | rfl | omega)), rfl, rfl⟩
              · skip
                by_cases s24_5 : w = 5
                · refine bw_switch (t := 123) rfl (by rw [s24_5]; rfl) ?_
                  refine bw_aload rfl rfl ?_
                  refine bw_aload rfl rfl ?_
                  refine bw_getr rfl rfl (cur_r hR hc) ?_
                  refine bw_getI rfl rfl ?_
                  rw [show gI M 372 0 = gI M 568 0 from hS.c0]
                  refine bw_callSNe (e := d - 1) (as := [_, _]) rfl (by omega) rfl rfl (Nat.le_of_ble_eq_true rfl) (Nat.le_of_ble_eq_true rfl) (c_jumps (z := 96) (by decide) (kfa (L := L) (b := 12) (n := 6) (v := (20, 96)) (by decide) (by decide) ⟨by omega, by omega⟩) (by omega) (fun j j0 j1 => h.rv ⟨by omega, by omega⟩ ⟨j0, j1⟩) (by omega)) ?_
                  rw [pJ_cg (fun j j0 j1 => h.row ⟨by omega, by omega⟩ ⟨j0, j1⟩)]
                  refine bw_ret rfl rfl ?_
                  exact ⟨congrArg (fun x => some (vi x)) (by first | rfl | ((repeat (first | rw [if_pos (by omega)] | rw [if_neg (by omega)])) <;> first | rfl | omega)), rfl, rfl⟩
                · skip
                  by_cases s24_6 : w = 6
                  · refine bw_switch (t := 135) rfl (by rw [s24_6]; rfl) ?_
                    refine bw_aload rfl rfl ?_
                    refine bw_aload rfl rfl ?_
                    refine bw_getr rfl rfl (cur_r hR hc) ?_
                    refine bw_getI rfl rfl ?_
                    rw [show gI M 372 0 = gI M 568 0 from hS.c0]
                    refine bw_callSNe (e := d - 1) (as := [_, _]) rfl (by omega) rfl rfl (Nat.le_of_ble_eq_true rfl) (Nat.le_of_ble_eq_true rfl) (c_greatest (z := 96) (by decide) (kfa (L := L) (b := 12) (n := 6) (v := (20, 96)) (by decide) (by decide) ⟨by omega, by omega⟩) (by omega) (by omega)) ?_
                    rw [mX_cg (g := mR M 0 l) _ (fun j j0 j1 => h.row ⟨by omega, by omega⟩ ⟨j0, by omega⟩)]
                    refine bw_ret rfl rfl ?_
                    exact ⟨congrArg (fun x => some (vi x)) (by first | rfl | ((repeat (first | rw [if_pos (by omega)] | rw [if_neg (by omega)])) <;> first | rfl | omega)), rfl, rfl⟩
                  · skip
                    refine bw_switch (t := 147) rfl (by show (if (w) < (0 : Int) ∨ (6 : Int) < (w) then _ else _) = _; rw [if_pos (by omega)]; rfl) ?_
                    refine bw_push rfl ?_
                    refine bw_ret rfl rfl ?_
                    exact ⟨congrArg (fun x => some (vi x)) (by first | rfl | ((repeat (first | rw [if_pos (by omega)] | rw [if_neg (by omega)])) <;> first | rfl | omega)), rfl, rfl⟩
    · skip
      refine bw_push rfl ?_
      refine bw_ret rfl rfl ?_
      exact ⟨congrArg (fun x => some (vi x)) (by first | rfl | ((repeat (first | rw [if_pos (by omega)] | rw [if_neg (by omega)])) <;> first | rfl | omega)), rfl, rfl⟩
  · have hS : SR M 459 (gI M 568) := by have q := h.sr; rw [hc] at q; exact q
    have b1 := h.fr
    have b2 := h.la
    have hrf := hR
    show abW d (0, 0) 90 0 [some (vr (some 0)), some (vi l), some (vi w), none] [] (0, 0) (A0 L) M (qE (some (vi (if 0 ≤ l ∧ l < gI M 568 1 then (if w = 0 then gI M 568 (6 + l) else if w = 1 then plc (fun p => gI M 569 (576 + p)) l else if w = 2 then cN (pE (mR M 0 l)) (gI M 568 0).toNat else if w = 3 then cN (pU (mR M 0 l)) (gI M 568 0).toNat else if w = 4 then cN (pF (mR M 0 l)) (gI M 568 0).toNat else if w = 5 then cN (pJ (mR M 0 l)) (gI M 568 0).toNat else if w = 6 then mX (mR M 0 l) (gI M 568 0).toNat else -1) else -1))) (A0 L) M)
    refine bw_aload rfl rfl ?_
    refine bw_getr rfl rfl (cur_r hR hc) ?_
    refine bw_iload rfl rfl ?_
    refine bw_callVNj (e := d - 1) (as := [_]) rfl (by omega) rfl rfl (Nat.le_of_ble_eq_true rfl) (Nat.le_of_ble_eq_true rfl) rfl (c_hasLayer hR (by first | exact Or.inl rfl | exact Or.inr rfl) hS) (fun r5 hr5 => ?_)
    refine bw_ifne rfl (fun c8 => ?_) (fun c8 => ?_)
    · skip
      refine bw_aload rfl rfl ?_
      refine bw_getr rfl rfl (hR _ _) ?_
      refine bw_getr rfl rfl (hR _ _) ?_
      refine bw_iload rfl rfl ?_
      refine bw_aldr rfl (by first | rfl | assumption) (by decide) (by omega) (by omega) ((hR _ _).trans (rr_row (fun _ => rfl) (by omega) (by omega) (by omega))) ?_
      refine bw_astore (ls2 := [_, _, _, _]) rfl rfl (Nat.le_of_ble_eq_true rfl) rfl ?_
      refine bw_iload rfl rfl ?_
      by_cases s24_0 : w = 0
      · refine bw_switch (t := 68) rfl (by rw [s24_0]; rfl) ?_
        refine bw_aload rfl rfl ?_
        refine bw_getr rfl rfl (cur_r hR hc) ?_
        refine bw_getr rfl rfl (hR _ _) ?_
        refine bw_iload rfl rfl ?_
        refine bw_aldi rfl (by first | rfl | assumption) (by omega) (by omega) ?_
        rw [show gI M 460 l = gI M 568 (6 + l) from hS.on l (by omega) (by omega)]
        refine bw_ret rfl rfl ?_
        exact ⟨congrArg (fun x => some (vi x)) (by first | rfl | ((repeat (first | rw [if_pos (by omega)] | rw [if_neg (by omega)])) <;> first | rfl | omega)), rfl, rfl⟩
      · skip
        by_cases s24_1 : w = 1
        · refine bw_switch (t := 78) rfl (by rw [s24_1]; rfl) ?_
          refine bw_aload rfl rfl ?_
          refine bw_getr rfl rfl (hR _ _) ?_
          refine bw_iload rfl rfl ?_
          refine bw_callVNe (e := d - 1) (as := [_]) rfl (by omega) rfl rfl (Nat.le_of_ble_eq_true rfl) (Nat.le_of_ble_eq_true rfl) rfl (c_placeOf hR) ?_
          rw [plc_cg (fun p p0 p1 => h.sh.2.1 p p0 p1)]
          rw [show (fun p : Int => gI M 569 (0 + 576 + p)) = fun p => gI M 569 (576 + p) from rfl]
          refine bw_ret rfl rfl ?_
          exact ⟨congrArg (fun x => some (vi x)) (by first | rfl | ((repeat (first | rw [if_pos (by omega)] | rw [if_neg (by omega)])) <;> first | rfl | omega)), rfl, rfl⟩
        · skip
          by_cases s24_2 : w = 2
          · refine bw_switch (t := 87) rfl (by rw [s24_2]; rfl) ?_
            refine bw_aload rfl rfl ?_
            refine bw_aload rfl rfl ?_
            refine bw_getr rfl rfl (cur_r hR hc) ?_
            refine bw_getI rfl rfl ?_
            rw [show gI M 459 0 = gI M 568 0 from hS.c0]
            refine bw_callSNe (e := d - 1) (as := [_, _]) rfl (by omega) rfl rfl (Nat.le_of_ble_eq_true rfl) (Nat.le_of_ble_eq_true rfl) (c_exposures (z := 96) (by decide) (kfa (L := L) (b := 12) (n := 6) (v := (20, 96)) (by decide) (by decide) ⟨by omega, by omega⟩) (by omega)) ?_
            rw [pE_cg (fun j j0 j1 => h.row ⟨by omega, by omega⟩ ⟨j0, j1⟩)]
            refine bw_ret rfl rfl ?_
            exact ⟨congrArg (fun x => some (vi x)) (by first | rfl | ((repeat (first | rw [if_pos (by omega)] | rw [if_neg (by omega)])) <;> first | rfl | omega)), rfl, rfl⟩
          · skip
            by_cases s24_3 : w = 3
            · refine bw_switch (t := 99) rfl (by rw [s24_3]; rfl) ?_
              refine bw_aload rfl rfl ?_
              refine bw_aload rfl rfl ?_
              refine bw_getr rfl rfl (cur_r hR hc) ?_
              refine bw_getI rfl rfl ?_
              rw [show gI M 459 0 = gI M 568 0 from hS.c0]
              refine bw_callSNe (e := d - 1) (as := [_, _]) rfl (by omega) rfl rfl (Nat.le_of_ble_eq_true rfl) (Nat.le_of_ble_eq_true rfl) (c_unlike (z := 96) (by decide) (kfa (L := L) (b := 12) (n := 6) (v := (20, 96)) (by decide) (by decide) ⟨by omega, by omega⟩) (by omega) (fun j j0 j1 => h.rv ⟨by omega, by omega⟩ ⟨j0, j1⟩) (by omega)) ?_
              rw [pU_cg (fun j j0 j1 => h.row ⟨by omega, by omega⟩ ⟨j0, j1⟩)]
              refine bw_ret rfl rfl ?_
              exact ⟨congrArg (fun x => some (vi x)) (by first | rfl | ((repeat (first | rw [if_pos (by omega)] | rw [if_neg (by omega)])) <;> first | rfl | omega)), rfl, rfl⟩
            · skip
              by_cases s24_4 : w = 4
              · refine bw_switch (t := 111) rfl (by rw [s24_4]; rfl) ?_
                refine bw_aload rfl rfl ?_
                refine bw_aload rfl rfl ?_
                refine bw_getr rfl rfl (cur_r hR hc) ?_
                refine bw_getI rfl rfl ?_
                rw [show gI M 459 0 = gI M 568 0 from hS.c0]
                refine bw_callSNe (e := d - 1) (as := [_, _]) rfl (by omega) rfl rfl (Nat.le_of_ble_eq_true rfl) (Nat.le_of_ble_eq_true rfl) (c_filled (z := 96) (by decide) (kfa (L := L) (b := 12) (n := 6) (v := (20, 96)) (by decide) (by decide) ⟨by omega, by omega⟩) (by omega)) ?_
                rw [pF_cg (fun j j0 j1 => h.row ⟨by omega, by omega⟩ ⟨j0, j1⟩)]
                refine bw_ret rfl rfl ?_
                exact ⟨congrArg (fun x => some (vi x)) (by first | rfl | ((repeat (first | rw [if_pos (by omega)] | rw [if_neg (by omega)])) <;> first | rfl | omega)), rfl, rfl⟩
              · skip
                by_cases s24_5 : w = 5
                · refine bw_switch (t := 123) rfl (by rw [s24_5]; rfl) ?_
                  refine bw_aload rfl rfl ?_
                  refine bw_aload rfl rfl ?_
                  refine bw_getr rfl rfl (cur_r hR hc) ?_
                  refine bw_getI rfl rfl ?_
                  rw [show gI M 459 0 = gI M 568 0 from hS.c0]
                  refine bw_callSNe (e := d - 1) (as := [_, _]) rfl (by omega) rfl rfl (Nat.le_of_ble_eq_true rfl) (Nat.le_of_ble_eq_true rfl) (c_jumps (z := 96) (by decide) (kfa (L := L) (b := 12) (n := 6) (v := (20, 96)) (by decide) (by decide) ⟨by omega, by omega⟩) (by omega) (fun j j0 j1 => h.rv ⟨by omega, by omega⟩ ⟨j0, j1⟩) (by omega)) ?_
                  rw [pJ_cg (fun j j0 j1 => h.row ⟨by omega, by omega⟩ ⟨j0, j1⟩)]
                  refine bw_ret rfl rfl ?_
                  exact ⟨congrArg (fun x => some (vi x)) (by first | rfl | ((repeat (first | rw [if_pos (by omega)] | rw [if_neg (by omega)])) <;> first | rfl | omega)), rfl, rfl⟩
                · skip
                  by_cases s24_6 : w = 6
                  · refine bw_switch (t := 135) rfl (by rw [s24_6]; rfl) ?_
                    refine bw_aload rfl rfl ?_
                    refine bw_aload rfl rfl ?_
                    refine bw_getr rfl rfl (cur_r hR hc) ?_
                    refine bw_getI rfl rfl ?_
                    rw [show gI M 459 0 = gI M 568 0 from hS.c0]
                    refine bw_callSNe (e := d - 1) (as := [_, _]) rfl (by omega) rfl rfl (Nat.le_of_ble_eq_true rfl) (Nat.le_of_ble_eq_true rfl) (c_greatest (z := 96) (by decide) (kfa (L := L) (b := 12) (n := 6) (v := (20, 96)) (by decide) (by decide) ⟨by omega, by omega⟩) (by omega) (by omega)) ?_
                    rw [mX_cg (g := mR M 0 l) _ (fun j j0 j1 => h.row ⟨by omega, by omega⟩ ⟨j0, by omega⟩)]
                    refine bw_ret rfl rfl ?_
                    exact ⟨congrArg (fun x => some (vi x)) (by first | rfl | ((repeat (first | rw [if_pos (by omega)] | rw [if_neg (by omega)])) <;> first | rfl | omega)), rfl, rfl⟩
                  · skip
                    refine bw_switch (t := 147) rfl (by show (if (w) < (0 : Int) ∨ (6 : Int) < (w) then _ else _) = _; rw [if_pos (by omega)]; rfl) ?_
                    refine bw_push rfl ?_
                    refine bw_ret rfl rfl ?_
                    exact ⟨congrArg (fun x => some (vi x)) (by first | rfl | ((repeat (first | rw [if_pos (by omega)] | rw [if_neg (by omega)])) <;> first | rfl | omega)), rfl, rfl⟩
    · skip
      refine bw_push rfl ?_
      refine bw_ret rfl rfl ?_
      exact ⟨congrArg (fun x => some (vi x)) (by first | rfl | ((repeat (first | rw [if_pos (by omega)] | rw [if_neg (by omega)])) <;> first | rfl | omega)), rfl, rfl⟩
theorem fst_cN {f : Int → Int} {e a : Int} (h : isFst f e a) : cN (pE f) (e + 1).toNat = cN (pE f) a.toNat + 1 := by
  obtain ⟨h1, h2, h3, h4⟩ := h
  have H : ∀ n : Nat, a + n ≤ e → cN (pE f) (a + n + 1).toNat = cN (pE f) a.toNat + 1 := by
    intro n
    induction n with
    | zero =>
      intro _
      rw [show a + ((0 : Nat) : Int) + 1 = a + 1 by omega]
      refine (cN_t h1 rfl (decide_eq_true ?_)).symm
      rcases h4 with q | q
      · exact Or.inl q
      · exact Or.inr (by rw [h3 a (Int.le_refl _) h2]; exact fun z => q z.symm)
    | succ n ih =>
      intro hn
      rw [show a + ((n + 1 : Nat) : Int) + 1 = a + n + 1 + 1 by omega]
      refine (cN_f (by omega) (ih (by omega)).symm (decide_eq_false ?_)).symm
      rintro (q | q)
      · omega
      · exact q ((h3 (a + n + 1) (by omega) (by omega)).trans (h3 (a + n + 1 - 1) (by omega) (by omega)).symm)
  have e2 := H (e - a).toNat (by omega)
  rw [show a + (((e - a).toNat : Nat) : Int) + 1 = e + 1 by omega] at e2
  exact e2
set_option maxRecDepth 20000 in
set_option maxHeartbeats 4000000 in
theorem x_spelt {d L : Nat} {M : abMem} {r : abRf} (hR : RF r M) {s : Nat} (hs : s = 372 ∨ s = 459) (hc : cur r = s) {k : Int} (h : INV r M k) {l w : Int} (hd : 1 ≤ d) : abW d (0, 0) 91 0 (abEnt (abL 91) [vr (some 0), vi l, vi w]) [] (0, 0) (A0 L) M (qE (some (vi (if 0 ≤ l ∧ l < gI M 568 1 then (if w = -1 then gI M 568 (12 + 7 * l) else if 0 ≤ w ∧ w < gI M 568 (12 + 7 * l) then gI M 568 (12 + 7 * l + 1 + w) else -1) else -1))) (A0 L) M) := by
  rcases hs with rfl | rfl
  · have hS : SR M 372 (gI M 568) := by have q := h.sr; rw [hc] at q; exact q
    have b1 := h.fr
    have b2 := h.la
    have hrf := hR
    show abW d (0, 0) 91 0 [some (vr (some 0)), some (vi l), some (vi w)] [] (0, 0) (A0 L) M (qE (some (vi (if 0 ≤ l ∧ l < gI M 568 1 then (if w = -1 then gI M 568 (12 + 7 * l) else if 0 ≤ w ∧ w < gI M 568 (12 + 7 * l) then gI M 568 (12 + 7 * l + 1 + w) else -1) else -1))) (A0 L) M)
    refine bw_aload rfl rfl ?_
    refine bw_getr rfl rfl (cur_r hR hc) ?_
    refine bw_iload rfl rfl ?_
    refine bw_callVNj (e := d - 1) (as := [_]) rfl (by omega) rfl rfl (Nat.le_of_ble_eq_true rfl) (Nat.le_of_ble_eq_true rfl) rfl (c_hasLayer hR (by first | exact Or.inl rfl | exact Or.inr rfl) hS) (fun r5 hr5 => ?_)
    refine bw_ifne rfl (fun c8 => ?_) (fun c8 => ?_)
    · skip
      refine bw_iload rfl rfl ?_
      refine bw_push rfl ?_
      refine bw_icne rfl (fun c15 => ?_) (fun c15 => ?_)
      · skip
        refine bw_iload rfl rfl ?_
        refine bw_iflt rfl (fun c29 => ?_) (fun c29 => ?_)
        · skip
          refine bw_push rfl ?_
          refine bw_ret rfl rfl ?_
          exact ⟨congrArg (fun x => some (vi x)) (by first | rfl | ((repeat (first | rw [if_pos (by omega)] | rw [if_neg (by omega)])) <;> first | rfl | omega)), rfl, rfl⟩
        · skip
          refine bw_iload rfl rfl ?_
          refine bw_aload rfl rfl ?_
          refine bw_getr rfl rfl (cur_r hR hc) ?_
          refine bw_getr rfl rfl (hR _ _) ?_
          refine bw_iload rfl rfl ?_
          have v9 := hS.sw.nm l (by omega) (by omega)
          refine bw_aldi rfl (by first | rfl | assumption) (by omega) (by omega) ?_
          rw [show gI M 374 l = gI M 568 (12 + 7 * l) from hS.nl l (by omega) (by omega)]
          refine bw_icge rfl (fun c42 => ?_) (fun c42 => ?_)
          · skip
            refine bw_push rfl ?_
            refine bw_ret rfl rfl ?_
            exact ⟨congrArg (fun x => some (vi x)) (by first | rfl | ((repeat (first | rw [if_pos (by omega)] | rw [if_neg (by omega)])) <;> first | rfl | omega)), rfl, rfl⟩
          · skip
            refine bw_aload rfl rfl ?_
            refine bw_getr rfl rfl (cur_r hR hc) ?_
            refine bw_getr rfl rfl (hR _ _) ?_
            refine bw_iload rfl rfl ?_
            refine bw_aldr rfl (by first | rfl | assumption) (by decide) (by omega) (by omega) ((hR _ _).trans (rr_row (fun _ => rfl) (by omega) (by omega) (by omega))) ?_
            refine bw_iload rfl rfl ?_
            refine bw_aldi rfl (kfa (b := 376) (n := 6) (v := (20, 6)) (by decide) (by decide) ⟨by omega, by omega⟩) (by omega) (by omega) ?_
            rw [show gI M (376 + l.toNat) w = gI M 568 (13 + 7 * l + w) from hS.nm l w (by omega) (by omega) (by omega) (by omega), show 13 + 7 * l + w = 12 + 7 * l + 1 + w by omega]
            refine bw_goto rfl ?_
            refine bw_ret rfl rfl ?_
            exact ⟨congrArg (fun x => some (vi x)) (by first | rfl | ((repeat (first | rw [if_pos (by omega)] | rw [if_neg (by omega)])) <;> first | rfl | omega)), rfl, rfl⟩
      · skip
        refine bw_aload rfl rfl ?_
        refine bw_getr rfl rfl (cur_r hR hc) ?_
        refine bw_getr rfl rfl (hR _ _) ?_
        refine bw_iload rfl rfl ?_
        refine bw_aldi rfl (by first | rfl | assumption) (by omega) (by omega) ?_
        rw [show gI M 374 l = gI M 568 (12 + 7 * l) from hS.nl l (by omega) (by omega)]
        refine bw_ret rfl rfl ?_
        exact ⟨congrArg (fun x => some (vi x)) (by first | rfl | ((repeat (first | rw [if_pos (by omega)] | rw [if_neg (by omega)])) <;> first | rfl | omega)), rfl, rfl⟩
    · skip
      refine bw_push rfl ?_
      refine bw_ret rfl rfl ?_
      exact ⟨congrArg (fun x => some (vi x)) (by first | rfl | ((repeat (first | rw [if_pos (by omega)] | rw [if_neg (by omega)])) <;> first | rfl | omega)), rfl, rfl⟩
  · have hS : SR M 459 (gI M 568) := by have q := h.sr; rw [hc] at q; exact q
    have b1 := h.fr
    have b2 := h.la
    have hrf := hR
    show abW d (0, 0) 91 0 [some (vr (some 0)), some (vi l), some (vi w)] [] (0, 0) (A0 L) M (qE (some (vi (if 0 ≤ l ∧ l < gI M 568 1 then (if w = -1 then gI M 568 (12 + 7 * l) else if 0 ≤ w ∧ w < gI M 568 (12 + 7 * l) then gI M 568 (12 + 7 * l + 1 + w) else -1) else -1))) (A0 L) M)
    refine bw_aload rfl rfl ?_
    refine bw_getr rfl rfl (cur_r hR hc) ?_
    refine bw_iload rfl rfl ?_
    refine bw_callVNj (e := d - 1) (as := [_]) rfl (by omega) rfl rfl (Nat.le_of_ble_eq_true rfl) (Nat.le_of_ble_eq_true rfl) rfl (c_hasLayer hR (by first | exact Or.inl rfl | exact Or.inr rfl) hS) (fun r5 hr5 => ?_)
    refine bw_ifne rfl (fun c8 => ?_) (fun c8 => ?_)
    · skip
      refine bw_iload rfl rfl ?_
      refine bw_push rfl ?_
      refine bw_icne rfl (fun c15 => ?_) (fun c15 => ?_)
      · skip
        refine bw_iload rfl rfl ?_
        refine bw_iflt rfl (fun c29 => ?_) (fun c29 => ?_)
        · skip
          refine bw_push rfl ?_
          refine bw_ret rfl rfl ?_
          exact ⟨congrArg (fun x => some (vi x)) (by first | rfl | ((repeat (first | rw [if_pos (by omega)] | rw [if_neg (by omega)])) <;> first | rfl | omega)), rfl, rfl⟩
        · skip
          refine bw_iload rfl rfl ?_
          refine bw_aload rfl rfl ?_
          refine bw_getr rfl rfl (cur_r hR hc) ?_
          refine bw_getr rfl rfl (hR _ _) ?_
          refine bw_iload rfl rfl ?_
          have v9 := hS.sw.nm l (by omega) (by omega)
          refine bw_aldi rfl (by first | rfl | assumption) (by omega) (by omega) ?_
          rw [show gI M 461 l = gI M 568 (12 + 7 * l) from hS.nl l (by omega) (by omega)]
          refine bw_icge rfl (fun c42 => ?_) (fun c42 => ?_)
          · skip
            refine bw_push rfl ?_
            refine bw_ret rfl rfl ?_
            exact ⟨congrArg (fun x => some (vi x)) (by first | rfl | ((repeat (first | rw [if_pos (by omega)] | rw [if_neg (by omega)])) <;> first | rfl | omega)), rfl, rfl⟩
          · skip
            refine bw_aload rfl rfl ?_
            refine bw_getr rfl rfl (cur_r hR hc) ?_
            refine bw_getr rfl rfl (hR _ _) ?_
            refine bw_iload rfl rfl ?_
            refine bw_aldr rfl (by first | rfl | assumption) (by decide) (by omega) (by omega) ((hR _ _).trans (rr_row (fun _ => rfl) (by omega) (by omega) (by omega))) ?_
            refine bw_iload rfl rfl ?_
            refine bw_aldi rfl (kfa (b := 463) (n := 6) (v := (20, 6)) (by decide) (by decide) ⟨by omega, by omega⟩) (by omega) (by omega) ?_
            rw [show gI M (463 + l.toNat) w = gI M 568 (13 + 7 * l + w) from hS.nm l w (by omega) (by omega) (by omega) (by omega), show 13 + 7 * l + w = 12 + 7 * l + 1 + w by omega]
            refine bw_goto rfl ?_
            refine bw_ret rfl rfl ?_
            exact ⟨congrArg (fun x => some (vi x)) (by first | rfl | ((repeat (first | rw [if_pos (by omega)] | rw [if_neg (by omega)])) <;> first | rfl | omega)), rfl, rfl⟩
      · skip
        refine bw_aload rfl rfl ?_
        refine bw_getr rfl rfl (cur_r hR hc) ?_
        refine bw_getr rfl rfl (hR _ _) ?_
        refine bw_iload rfl rfl ?_
        refine bw_aldi rfl (by first | rfl | assumption) (by omega) (by omega) ?_
        rw [show gI M 461 l = gI M 568 (12 + 7 * l) from hS.nl l (by omega) (by omega)]
        refine bw_ret rfl rfl ?_
        exact ⟨congrArg (fun x => some (vi x)) (by first | rfl | ((repeat (first | rw [if_pos (by omega)] | rw [if_neg (by omega)])) <;> first | rfl | omega)), rfl, rfl⟩
    · skip
      refine bw_push rfl ?_
      refine bw_ret rfl rfl ?_
      exact ⟨congrArg (fun x => some (vi x)) (by first | rfl | ((repeat (first | rw [if_pos (by omega)] | rw [if_neg (by omega)])) <;> first | rfl | omega)), rfl, rfl⟩
set_option maxRecDepth 20000 in
set_option maxHeartbeats 4000000 in
theorem x_box {d L : Nat} {M : abMem} {r : abRf} (hR : RF r M) {s : Nat} (hs : s = 372 ∨ s = 459) (hc : cur r = s) {k : Int} (h : INV r M k) {z w : Int} : abW d (0, 0) 92 0 (abEnt (abL 92) [vr (some 0), vi z, vi w]) [] (0, 0) (A0 L) M (qE (some (vi (if 0 ≤ z ∧ z < gI M 568 2 ∧ 0 ≤ w ∧ w < 7 then gI M 568 (54 + 7 * z + w) else -1))) (A0 L) M) := by
  rcases hs with rfl | rfl
  · have hS : SR M 372 (gI M 568) := by have q := h.sr; rw [hc] at q; exact q
    have b1 := h.fr
    have b2 := h.la
    have hrf := hR
    have b3 := hS.sw.bo
    show abW d (0, 0) 92 0 [some (vr (some 0)), some (vi z), some (vi w)] [] (0, 0) (A0 L) M (qE (some (vi (if 0 ≤ z ∧ z < gI M 568 2 ∧ 0 ≤ w ∧ w < 7 then gI M 568 (54 + 7 * z + w) else -1))) (A0 L) M)
    refine bw_iload rfl rfl ?_
    refine bw_iflt rfl (fun c1 => ?_) (fun c1 => ?_)
    · skip
      refine bw_push rfl ?_
      refine bw_ret rfl rfl ?_
      exact ⟨congrArg (fun x => some (vi x)) (by first | rfl | ((repeat (first | rw [if_pos (by omega)] | rw [if_neg (by omega)])) <;> first | rfl | omega)), rfl, rfl⟩
    · skip
      refine bw_iload rfl rfl ?_
      refine bw_aload rfl rfl ?_
      refine bw_getr rfl rfl (cur_r hR hc) ?_
      refine bw_getI rfl rfl ?_
      rw [show gI M 372 3 = gI M 568 2 from hS.c3]
      refine bw_icge rfl (fun c12 => ?_) (fun c12 => ?_)
      · skip
        refine bw_push rfl ?_
        refine bw_ret rfl rfl ?_
        exact ⟨congrArg (fun x => some (vi x)) (by first | rfl | ((repeat (first | rw [if_pos (by omega)] | rw [if_neg (by omega)])) <;> first | rfl | omega)), rfl, rfl⟩
      · skip
        refine bw_iload rfl rfl ?_
        refine bw_iflt rfl (fun c16 => ?_) (fun c16 => ?_)
        · skip
          refine bw_push rfl ?_
          refine bw_ret rfl rfl ?_
          exact ⟨congrArg (fun x => some (vi x)) (by first | rfl | ((repeat (first | rw [if_pos (by omega)] | rw [if_neg (by omega)])) <;> first | rfl | omega)), rfl, rfl⟩
        · skip
          refine bw_iload rfl rfl ?_
          refine bw_push rfl ?_
          refine bw_iclt rfl (fun c22 => ?_) (fun c22 => ?_)
          · skip
            refine bw_aload rfl rfl ?_
            refine bw_getr rfl rfl (cur_r hR hc) ?_
            refine bw_getr rfl rfl (hR _ _) ?_
            refine bw_iload rfl rfl ?_
            refine bw_aldr rfl (by first | rfl | assumption) (by decide) (by omega) (by omega) ((hR _ _).trans (rr_row (fun _ => rfl) (by omega) (by omega) (by omega))) ?_
            refine bw_iload rfl rfl ?_
            refine bw_aldi rfl (kfa (b := 411) (n := 40) (v := (20, 7)) (by decide) (by decide) ⟨by omega, by omega⟩) (by omega) (by omega) ?_
            rw [show gI M (411 + z.toNat) w = gI M 568 (54 + 7 * z + w) from hS.bx z w (by omega) (by omega) (by omega) (by omega)]
            refine bw_ret rfl rfl ?_
            exact ⟨congrArg (fun x => some (vi x)) (by first | rfl | ((repeat (first | rw [if_pos (by omega)] | rw [if_neg (by omega)])) <;> first | rfl | omega)), rfl, rfl⟩
          · skip
            refine bw_push rfl ?_
            refine bw_ret rfl rfl ?_
            exact ⟨congrArg (fun x => some (vi x)) (by first | rfl | ((repeat (first | rw [if_pos (by omega)] | rw [if_neg (by omega)])) <;> first | rfl | omega)), rfl, rfl⟩
  · have hS : SR M 459 (gI M 568) := by have q := h.sr; rw [hc] at q; exact q
    have b1 := h.fr
    have b2 := h.la
    have hrf := hR
    have b3 := hS.sw.bo
    show abW d (0, 0) 92 0 [some (vr (some 0)), some (vi z), some (vi w)] [] (0, 0) (A0 L) M (qE (some (vi (if 0 ≤ z ∧ z < gI M 568 2 ∧ 0 ≤ w ∧ w < 7 then gI M 568 (54 + 7 * z + w) else -1))) (A0 L) M)
    refine bw_iload rfl rfl ?_
    refine bw_iflt rfl (fun c1 => ?_) (fun c1 => ?_)
    · skip
      refine bw_push rfl ?_
      refine bw_ret rfl rfl ?_
      exact ⟨congrArg (fun x => some (vi x)) (by first | rfl | ((repeat (first | rw [if_pos (by omega)] | rw [if_neg (by omega)])) <;> first | rfl | omega)), rfl, rfl⟩
    · skip
      refine bw_iload rfl rfl ?_
      refine bw_aload rfl rfl ?_
      refine bw_getr rfl rfl (cur_r hR hc) ?_
      refine bw_getI rfl rfl ?_
      rw [show gI M 459 3 = gI M 568 2 from hS.c3]
      refine bw_icge rfl (fun c12 => ?_) (fun c12 => ?_)
      · skip
        refine bw_push rfl ?_
        refine bw_ret rfl rfl ?_
        exact ⟨congrArg (fun x => some (vi x)) (by first | rfl | ((repeat (first | rw [if_pos (by omega)] | rw [if_neg (by omega)])) <;> first | rfl | omega)), rfl, rfl⟩
      · skip
        refine bw_iload rfl rfl ?_
        refine bw_iflt rfl (fun c16 => ?_) (fun c16 => ?_)
        · skip
          refine bw_push rfl ?_
          refine bw_ret rfl rfl ?_
          exact ⟨congrArg (fun x => some (vi x)) (by first | rfl | ((repeat (first | rw [if_pos (by omega)] | rw [if_neg (by omega)])) <;> first | rfl | omega)), rfl, rfl⟩
        · skip
          refine bw_iload rfl rfl ?_
          refine bw_push rfl ?_
          refine bw_iclt rfl (fun c22 => ?_) (fun c22 => ?_)
          · skip
            refine bw_aload rfl rfl ?_
            refine bw_getr rfl rfl (cur_r hR hc) ?_
            refine bw_getr rfl rfl (hR _ _) ?_
            refine bw_iload rfl rfl ?_
            refine bw_aldr rfl (by first | rfl | assumption) (by decide) (by omega) (by omega) ((hR _ _).trans (rr_row (fun _ => rfl) (by omega) (by omega) (by omega))) ?_
            refine bw_iload rfl rfl ?_
            refine bw_aldi rfl (kfa (b := 498) (n := 40) (v := (20, 7)) (by decide) (by decide) ⟨by omega, by omega⟩) (by omega) (by omega) ?_
            rw [show gI M (498 + z.toNat) w = gI M 568 (54 + 7 * z + w) from hS.bx z w (by omega) (by omega) (by omega) (by omega)]
            refine bw_ret rfl rfl ?_
            exact ⟨congrArg (fun x => some (vi x)) (by first | rfl | ((repeat (first | rw [if_pos (by omega)] | rw [if_neg (by omega)])) <;> first | rfl | omega)), rfl, rfl⟩
          · skip
            refine bw_push rfl ?_
            refine bw_ret rfl rfl ?_
            exact ⟨congrArg (fun x => some (vi x)) (by first | rfl | ((repeat (first | rw [if_pos (by omega)] | rw [if_neg (by omega)])) <;> first | rfl | omega)), rfl, rfl⟩
set_option maxRecDepth 20000 in
set_option maxHeartbeats 4000000 in
theorem x_fault {d L : Nat} {M : abMem} {r : abRf} (hR : RF r M) {k : Int} (h : INV r M k) {w : Int} : abW d (0, 0) 87 0 (abEnt (abL 87) [vr (some 0), vi w]) [] (0, 0) (A0 L) M (qE (some (vi (if w = 0 then gI M 567 6 else if w = 1 then gI M 567 7 else -1))) (A0 L) M) := by
  show abW d (0, 0) 87 0 [some (vr (some 0)), some (vi w)] [] (0, 0) (A0 L) M (qE (some (vi (if w = 0 then gI M 567 6 else if w = 1 then gI M 567 7 else -1))) (A0 L) M)
  refine bw_iload rfl rfl ?_
  by_cases s1_0 : w = 0
  · refine bw_switch (t := 28) rfl (by rw [s1_0]; rfl) ?_
    refine bw_aload rfl rfl ?_
    refine bw_getr rfl rfl (hR _ _) ?_
    refine bw_getI rfl rfl ?_
    refine bw_ret rfl rfl ?_
    exact ⟨congrArg (fun x => some (vi x)) (by first | (rw [if_pos (by omega)]; exact h.fa.1) | (rw [if_neg (by omega), if_pos (by omega)]; exact h.fa.2) | first | rfl | ((repeat (first | rw [if_pos (by omega)] | rw [if_neg (by omega)])) <;> first | rfl | omega)), rfl, rfl⟩
  · skip
    by_cases s1_1 : w = 1
    · refine bw_switch (t := 36) rfl (by rw [s1_1]; rfl) ?_
      refine bw_aload rfl rfl ?_
      refine bw_getr rfl rfl (hR _ _) ?_
      refine bw_getI rfl rfl ?_
      refine bw_ret rfl rfl ?_
      exact ⟨congrArg (fun x => some (vi x)) (by first | (rw [if_pos (by omega)]; exact h.fa.1) | (rw [if_neg (by omega), if_pos (by omega)]; exact h.fa.2) | first | rfl | ((repeat (first | rw [if_pos (by omega)] | rw [if_neg (by omega)])) <;> first | rfl | omega)), rfl, rfl⟩
    · skip
      refine bw_switch (t := 44) rfl (by simp [abSwT, abSw, Op.lookupswitch.offset, s1_0, show ¬ ((0 : Int) = w) from fun h => s1_0 h.symm, s1_1, show ¬ ((1 : Int) = w) from fun h => s1_1 h.symm]) ?_
      refine bw_push rfl ?_
      refine bw_ret rfl rfl ?_
      exact ⟨congrArg (fun x => some (vi x)) (by first | (rw [if_pos (by omega)]; exact h.fa.1) | (rw [if_neg (by omega), if_pos (by omega)]; exact h.fa.2) | first | rfl | ((repeat (first | rw [if_pos (by omega)] | rw [if_neg (by omega)])) <;> first | rfl | omega)), rfl, rfl⟩
set_option maxRecDepth 20000 in
set_option maxHeartbeats 4000000 in
theorem x_hold {d L : Nat} {M : abMem} {r : abRf} (hR : RF r M) {s : Nat} (hs : s = 372 ∨ s = 459) (hc : cur r = s) {k : Int} (h : INV r M k) {l f w : Int} (hd : 2 ≤ d) : abW d (0, 0) 95 0 (abEnt (abL 95) [vr (some 0), vi l, vi f, vi w]) [] (0, 0) (A0 L) M (qJ (A0 L) M (fun x => (0 ≤ l ∧ l < gI M 568 1 ∧ 0 ≤ f ∧ f < gI M 568 0 ∧ 0 ≤ w ∧ w ≤ 2) ∧ (∃ a : Int, isFst (mR M 0 l) f a ∧ (w = 0 ∧ x = a ∨ w = 1 ∧ (∃ t : Int, isStp (mR M 0 l) f (gI M 568 0) t ∧ x = t - a) ∨ w = 2 ∧ x = cN (pE (mR M 0 l)) a.toNat)) ∨ ¬ (0 ≤ l ∧ l < gI M 568 1 ∧ 0 ≤ f ∧ f < gI M 568 0 ∧ 0 ≤ w ∧ w ≤ 2) ∧ x = -1)) := by
  rcases hs with rfl | rfl
  · have hS : SR M 372 (gI M 568) := by have q := h.sr; rw [hc] at q; exact q
    have b1 := h.fr
    have b2 := h.la
    have hrf := hR
    show abW d (0, 0) 95 0 [some (vr (some 0)), some (vi l), some (vi f), some (vi w), none, none] [] (0, 0) (A0 L) M (qJ (A0 L) M (fun x => (0 ≤ l ∧ l < gI M 568 1 ∧ 0 ≤ f ∧ f < gI M 568 0 ∧ 0 ≤ w ∧ w ≤ 2) ∧ (∃ a : Int, isFst (mR M 0 l) f a ∧ (w = 0 ∧ x = a ∨ w = 1 ∧ (∃ t : Int, isStp (mR M 0 l) f (gI M 568 0) t ∧ x = t - a) ∨ w = 2 ∧ x = cN (pE (mR M 0 l)) a.toNat)) ∨ ¬ (0 ≤ l ∧ l < gI M 568 1 ∧ 0 ≤ f ∧ f < gI M 568 0 ∧ 0 ≤ w ∧ w ≤ 2) ∧ x = -1))
    refine bw_aload rfl rfl ?_
    refine bw_iload rfl rfl ?_
    refine bw_iload rfl rfl ?_
    refine bw_callVj (e := d - 1) (as := [_, _]) rfl (by omega) rfl rfl (Nat.le_of_ble_eq_true rfl) (Nat.le_of_ble_eq_true rfl) rfl (c_hasPlace hR (by first | exact Or.inl rfl | exact Or.inr rfl) hc h (by omega)) (fun r3 hr3 => ?_)
    refine bw_ifne rfl (fun c6 => ?_) (fun c6 => ?_)
    · skip
      refine bw_aload rfl rfl ?_
      refine bw_getr rfl rfl (hR _ _) ?_
      refine bw_getr rfl rfl (hR _ _) ?_
      refine bw_iload rfl rfl ?_
      refine bw_aldr rfl (by first | rfl | assumption) (by decide) (by omega) (by omega) ((hR _ _).trans (rr_row (fun _ => rfl) (by omega) (by omega) (by omega))) ?_
      refine bw_astore (ls2 := [_, _, _, _, _, _]) rfl rfl (Nat.le_of_ble_eq_true rfl) rfl ?_
      refine bw_aload rfl rfl ?_
      refine bw_iload rfl rfl ?_
      refine bw_callSNi (e := d - 1) (as := [_, _]) rfl (by omega) rfl rfl (Nat.le_of_ble_eq_true rfl) (Nat.le_of_ble_eq_true rfl) (c_first (z := 96) (by decide) (kfa (L := L) (b := 12) (n := 6) (v := (20, 96)) (by decide) (by decide) ⟨by omega, by omega⟩) (by omega)) (fun r25 M25 hM25 => ?_)
      rw [hM25.2]
      have v25 := isFst_cg (n := gI M 568 0) (by omega) hM25.1 (fun j j0 j1 => h.row ⟨by omega, by omega⟩ ⟨j0, j1⟩)
      have w25 := v25.1
      have z25 := v25.2.1
      refine bw_istore (ls2 := [_, _, _, _, _, _]) rfl rfl (Nat.le_of_ble_eq_true rfl) rfl ?_
      refine bw_iload rfl rfl ?_
      by_cases s31_0 : w = 0
      · refine bw_switch (t := 56) rfl (by rw [s31_0]; rfl) ?_
        refine bw_iload rfl rfl ?_
        refine bw_ret rfl rfl ?_
        first
        | exact ⟨rfl, rfl, _, rfl, Or.inr ⟨by omega, rfl⟩⟩
        | exact ⟨rfl, rfl, _, rfl, Or.inl ⟨by omega, _, v25, Or.inl ⟨by omega, rfl⟩⟩⟩
        | exact ⟨rfl, rfl, _, rfl, Or.inl ⟨by omega, _, v25, Or.inr (Or.inl ⟨by omega, _, v69, rfl⟩)⟩⟩
        | exact ⟨rfl, rfl, _, rfl, Or.inl ⟨by omega, _, v25, Or.inr (Or.inr ⟨by omega, by omega⟩)⟩⟩
      · skip
        by_cases s31_1 : w = 1
        · refine bw_switch (t := 59) rfl (by rw [s31_1]; rfl) ?_
          refine bw_aload rfl rfl ?_
          refine bw_iload rfl rfl ?_
          refine bw_aload rfl rfl ?_
          refine bw_getr rfl rfl (cur_r hR hc) ?_
          refine bw_getI rfl rfl ?_
          rw [show gI M 372 0 = gI M 568 0 from hS.c0]
          refine bw_callSNi (e := d - 1) (as := [_, _, _]) rfl (by omega) rfl rfl (Nat.le_of_ble_eq_true rfl) (Nat.le_of_ble_eq_true rfl) (c_stop (z := 96) (by decide) (kfa (L := L) (b := 12) (n := 6) (v := (20, 96)) (by decide) (by decide) ⟨by omega, by omega⟩) (by omega)) (fun r69 M69 hM69 => ?_)
          rw [hM69.2]
          have v69 := isStp_cg (by omega) hM69.1 (fun j j0 j1 => h.row ⟨by omega, by omega⟩ ⟨j0, j1⟩)
          have w69 := v69.1
          have z69 := v69.2.1
          refine bw_iload rfl rfl ?_
          refine bw_isub rfl ⟨by omega, by omega⟩ ?_
          refine bw_ret rfl rfl ?_
          first
          | exact ⟨rfl, rfl, _, rfl, Or.inr ⟨by omega, rfl⟩⟩
          | exact ⟨rfl, rfl, _, rfl, Or.inl ⟨by omega, _, v25, Or.inl ⟨by omega, rfl⟩⟩⟩
          | exact ⟨rfl, rfl, _, rfl, Or.inl ⟨by omega, _, v25, Or.inr (Or.inl ⟨by omega, _, v69, rfl⟩)⟩⟩
          | exact ⟨rfl, rfl, _, rfl, Or.inl ⟨by omega, _, v25, Or.inr (Or.inr ⟨by omega, by omega⟩)⟩⟩
        · skip
          by_cases s31_2 : w = 2
          · refine bw_switch (t := 76) rfl (by rw [s31_2]; rfl) ?_
            refine bw_aload rfl rfl ?_
            refine bw_iload rfl rfl ?_
            refine bw_push rfl ?_
            refine bw_iadd rfl ⟨by omega, by omega⟩ ?_
            refine bw_callSNe (e := d - 1) (as := [_, _]) rfl (by omega) rfl rfl (Nat.le_of_ble_eq_true rfl) (Nat.le_of_ble_eq_true rfl) (c_exposures (z := 96) (by decide) (kfa (L := L) (b := 12) (n := 6) (v := (20, 96)) (by decide) (by decide) ⟨by omega, by omega⟩) (by omega)) ?_
            rw [pE_cg (g := mR M 0 l) (fun j j0 j1 => h.row ⟨by omega, by omega⟩ ⟨j0, by omega⟩), fst_cN v25]
            have b9 := cN_z (pE (mR M 0 l)) (k := r25) (by omega)
            refine bw_push rfl ?_
            refine bw_isub rfl ⟨by omega, by omega⟩ ?_
            refine bw_ret rfl rfl ?_
            first
            | exact ⟨rfl, rfl, _, rfl, Or.inr ⟨by omega, rfl⟩⟩
            | exact ⟨rfl, rfl, _, rfl, Or.inl ⟨by omega, _, v25, Or.inl ⟨by omega, rfl⟩⟩⟩
            | exact ⟨rfl, rfl, _, rfl, Or.inl ⟨by omega, _, v25, Or.inr (Or.inl ⟨by omega, _, v69, rfl⟩)⟩⟩
            | exact ⟨rfl, rfl, _, rfl, Or.inl ⟨by omega, _, v25, Or.inr (Or.inr ⟨by omega, by omega⟩)⟩⟩
          · skip
            refine bw_switch (t := 87) rfl (by show (if (w) < (0 : Int) ∨ (2 : Int) < (w) then _ else _) = _; rw [if_pos (by omega)]; rfl) ?_
            refine bw_push rfl ?_
            refine bw_ret rfl rfl ?_
            first
            | exact ⟨rfl, rfl, _, rfl, Or.inr ⟨by omega, rfl⟩⟩
            | exact ⟨rfl, rfl, _, rfl, Or.inl ⟨by omega, _, v25, Or.inl ⟨by omega, rfl⟩⟩⟩
            | exact ⟨rfl, rfl, _, rfl, Or.inl ⟨by omega, _, v25, Or.inr (Or.inl ⟨by omega, _, v69, rfl⟩)⟩⟩
            | exact ⟨rfl, rfl, _, rfl, Or.inl ⟨by omega, _, v25, Or.inr (Or.inr ⟨by omega, by omega⟩)⟩⟩
    · skip
      refine bw_push rfl ?_
      refine bw_ret rfl rfl ?_
      first
      | exact ⟨rfl, rfl, _, rfl, Or.inr ⟨by omega, rfl⟩⟩
      | exact ⟨rfl, rfl, _, rfl, Or.inl ⟨by omega, _, v25, Or.inl ⟨by omega, rfl⟩⟩⟩
      | exact ⟨rfl, rfl, _, rfl, Or.inl ⟨by omega, _, v25, Or.inr (Or.inl ⟨by omega, _, v69, rfl⟩)⟩⟩
      | exact ⟨rfl, rfl, _, rfl, Or.inl ⟨by omega, _, v25, Or.inr (Or.inr ⟨by omega, by omega⟩)⟩⟩
  · have hS : SR M 459 (gI M 568) := by have q := h.sr; rw [hc] at q; exact q
    have b1 := h.fr
    have b2 := h.la
    have hrf := hR
    show abW d (0, 0) 95 0 [some (vr (some 0)), some (vi l), some (vi f), some (vi w), none, none] [] (0, 0) (A0 L) M (qJ (A0 L) M (fun x => (0 ≤ l ∧ l < gI M 568 1 ∧ 0 ≤ f ∧ f < gI M 568 0 ∧ 0 ≤ w ∧ w ≤ 2) ∧ (∃ a : Int, isFst (mR M 0 l) f a ∧ (w = 0 ∧ x = a ∨ w = 1 ∧ (∃ t : Int, isStp (mR M 0 l) f (gI M 568 0) t ∧ x = t - a) ∨ w = 2 ∧ x = cN (pE (mR M 0 l)) a.toNat)) ∨ ¬ (0 ≤ l ∧ l < gI M 568 1 ∧ 0 ≤ f ∧ f < gI M 568 0 ∧ 0 ≤ w ∧ w ≤ 2) ∧ x = -1))
    refine bw_aload rfl rfl ?_
    refine bw_iload rfl rfl ?_
    refine bw_iload rfl rfl ?_
    refine bw_callVj (e := d - 1) (as := [_, _]) rfl (by omega) rfl rfl (Nat.le_of_ble_eq_true rfl) (Nat.le_of_ble_eq_true rfl) rfl (c_hasPlace hR (by first | exact Or.inl rfl | exact Or.inr rfl) hc h (by omega)) (fun r3 hr3 => ?_)
    refine bw_ifne rfl (fun c6 => ?_) (fun c6 => ?_)
    · skip
      refine bw_aload rfl rfl ?_
      refine bw_getr rfl rfl (hR _ _) ?_
      refine bw_getr rfl rfl (hR _ _) ?_
      refine bw_iload rfl rfl ?_
      refine bw_aldr rfl (by first | rfl | assumption) (by decide) (by omega) (by omega) ((hR _ _).trans (rr_row (fun _ => rfl) (by omega) (by omega) (by omega))) ?_
      refine bw_astore (ls2 := [_, _, _, _, _, _]) rfl rfl (Nat.le_of_ble_eq_true rfl) rfl ?_
      refine bw_aload rfl rfl ?_
      refine bw_iload rfl rfl ?_
      refine bw_callSNi (e := d - 1) (as := [_, _]) rfl (by omega) rfl rfl (Nat.le_of_ble_eq_true rfl) (Nat.le_of_ble_eq_true rfl) (c_first (z := 96) (by decide) (kfa (L := L) (b := 12) (n := 6) (v := (20, 96)) (by decide) (by decide) ⟨by omega, by omega⟩) (by omega)) (fun r25 M25 hM25 => ?_)
      rw [hM25.2]
      have v25 := isFst_cg (n := gI M 568 0) (by omega) hM25.1 (fun j j0 j1 => h.row ⟨by omega, by omega⟩ ⟨j0, j1⟩)
      have w25 := v25.1
      have z25 := v25.2.1
      refine bw_istore (ls2 := [_, _, _, _, _, _]) rfl rfl (Nat.le_of_ble_eq_true rfl) rfl ?_
      refine bw_iload rfl rfl ?_
      by_cases s31_0 : w = 0
      · refine bw_switch (t := 56) rfl (by rw [s31_0]; rfl) ?_
        refine bw_iload rfl rfl ?_
        refine bw_ret rfl rfl ?_
        first
        | exact ⟨rfl, rfl, _, rfl, Or.inr ⟨by omega, rfl⟩⟩
        | exact ⟨rfl, rfl, _, rfl, Or.inl ⟨by omega, _, v25, Or.inl ⟨by omega, rfl⟩⟩⟩
        | exact ⟨rfl, rfl, _, rfl, Or.inl ⟨by omega, _, v25, Or.inr (Or.inl ⟨by omega, _, v69, rfl⟩)⟩⟩
        | exact ⟨rfl, rfl, _, rfl, Or.inl ⟨by omega, _, v25, Or.inr (Or.inr ⟨by omega, by omega⟩)⟩⟩
      · skip
        by_cases s31_1 : w = 1
        · refine bw_switch (t := 59) rfl (by rw [s31_1]; rfl) ?_
          refine bw_aload rfl rfl ?_
          refine bw_iload rfl rfl ?_
          refine bw_aload rfl rfl ?_
          refine bw_getr rfl rfl (cur_r hR hc) ?_
          refine bw_getI rfl rfl ?_
          rw [show gI M 459 0 = gI M 568 0 from hS.c0]
          refine bw_callSNi (e := d - 1) (as := [_, _, _]) rfl (by omega) rfl rfl (Nat.le_of_ble_eq_true rfl) (Nat.le_of_ble_eq_true rfl) (c_stop (z := 96) (by decide) (kfa (L := L) (b := 12) (n := 6) (v := (20, 96)) (by decide) (by decide) ⟨by omega, by omega⟩) (by omega)) (fun r69 M69 hM69 => ?_)
          rw [hM69.2]
          have v69 := isStp_cg (by omega) hM69.1 (fun j j0 j1 => h.row ⟨by omega, by omega⟩ ⟨j0, j1⟩)
          have w69 := v69.1
          have z69 := v69.2.1
          refine bw_iload rfl rfl ?_
          refine bw_isub rfl ⟨by omega, by omega⟩ ?_
          refine bw_ret rfl rfl ?_
          first
          | exact ⟨rfl, rfl, _, rfl, Or.inr ⟨by omega, rfl⟩⟩
          | exact ⟨rfl, rfl, _, rfl, Or.inl ⟨by omega, _, v25, Or.inl ⟨by omega, rfl⟩⟩⟩
          | exact ⟨rfl, rfl, _, rfl, Or.inl ⟨by omega, _, v25, Or.inr (Or.inl ⟨by omega, _, v69, rfl⟩)⟩⟩
          | exact ⟨rfl, rfl, _, rfl, Or.inl ⟨by omega, _, v25, Or.inr (Or.inr ⟨by omega, by omega⟩)⟩⟩
        · skip
          by_cases s31_2 : w = 2
          · refine bw_switch (t := 76) rfl (by rw [s31_2]; rfl) ?_
            refine bw_aload rfl rfl ?_
            refine bw_iload rfl rfl ?_
            refine bw_push rfl ?_
            refine bw_iadd rfl ⟨by omega, by omega⟩ ?_
            refine bw_callSNe (e := d - 1) (as := [_, _]) rfl (by omega) rfl rfl (Nat.le_of_ble_eq_true rfl) (Nat.le_of_ble_eq_true rfl) (c_exposures (z := 96) (by decide) (kfa (L := L) (b := 12) (n := 6) (v := (20, 96)) (by decide) (by decide) ⟨by omega, by omega⟩) (by omega)) ?_
            rw [pE_cg (g := mR M 0 l) (fun j j0 j1 => h.row ⟨by omega, by omega⟩ ⟨j0, by omega⟩), fst_cN v25]
            have b9 := cN_z (pE (mR M 0 l)) (k := r25) (by omega)
            refine bw_push rfl ?_
            refine bw_isub rfl ⟨by omega, by omega⟩ ?_
            refine bw_ret rfl rfl ?_
            first
            | exact ⟨rfl, rfl, _, rfl, Or.inr ⟨by omega, rfl⟩⟩
            | exact ⟨rfl, rfl, _, rfl, Or.inl ⟨by omega, _, v25, Or.inl ⟨by omega, rfl⟩⟩⟩
            | exact ⟨rfl, rfl, _, rfl, Or.inl ⟨by omega, _, v25, Or.inr (Or.inl ⟨by omega, _, v69, rfl⟩)⟩⟩
            | exact ⟨rfl, rfl, _, rfl, Or.inl ⟨by omega, _, v25, Or.inr (Or.inr ⟨by omega, by omega⟩)⟩⟩
          · skip
            refine bw_switch (t := 87) rfl (by show (if (w) < (0 : Int) ∨ (2 : Int) < (w) then _ else _) = _; rw [if_pos (by omega)]; rfl) ?_
            refine bw_push rfl ?_
            refine bw_ret rfl rfl ?_
            first
            | exact ⟨rfl, rfl, _, rfl, Or.inr ⟨by omega, rfl⟩⟩
            | exact ⟨rfl, rfl, _, rfl, Or.inl ⟨by omega, _, v25, Or.inl ⟨by omega, rfl⟩⟩⟩
            | exact ⟨rfl, rfl, _, rfl, Or.inl ⟨by omega, _, v25, Or.inr (Or.inl ⟨by omega, _, v69, rfl⟩)⟩⟩
            | exact ⟨rfl, rfl, _, rfl, Or.inl ⟨by omega, _, v25, Or.inr (Or.inr ⟨by omega, by omega⟩)⟩⟩
    · skip
      refine bw_push rfl ?_
      refine bw_ret rfl rfl ?_
      first
      | exact ⟨rfl, rfl, _, rfl, Or.inr ⟨by omega, rfl⟩⟩
      | exact ⟨rfl, rfl, _, rfl, Or.inl ⟨by omega, _, v25, Or.inl ⟨by omega, rfl⟩⟩⟩
      | exact ⟨rfl, rfl, _, rfl, Or.inl ⟨by omega, _, v25, Or.inr (Or.inl ⟨by omega, _, v69, rfl⟩)⟩⟩
      | exact ⟨rfl, rfl, _, rfl, Or.inl ⟨by omega, _, v25, Or.inr (Or.inr ⟨by omega, by omega⟩)⟩⟩
