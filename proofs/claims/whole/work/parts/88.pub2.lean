set_option maxRecDepth 20000 in
set_option maxHeartbeats 4000000 in
theorem x_find {d L : Nat} {M : abMem} {r : abRf} (hR : RF r M) {s : Nat} (hs : s = 372 ∨ s = 459) (hc : cur r = s) {k : Int} (h : INV r M k) {l dr z : Int} (hd : 1 ≤ d) : abW d (0, 0) 96 0 (abEnt (abL 96) [vr (some 0), vi l, vi dr, vi z]) [] (0, 0) (A0 L) M (qJ (A0 L) M (fun x => (0 ≤ l ∧ l < gI M 568 1 ∧ 0 ≤ dr ∧ dr ≤ 99 ∧ 0 ≤ z) ∧ isFnd (mR M 0 l) dr (gI M 568 0) z x ∨ ¬ (0 ≤ l ∧ l < gI M 568 1 ∧ 0 ≤ dr ∧ dr ≤ 99 ∧ 0 ≤ z) ∧ x = -1)) := by
  rcases hs with rfl | rfl
  · have hS : SR M 372 (gI M 568) := by have q := h.sr; rw [hc] at q; exact q
    have b1 := h.fr
    have b2 := h.la
    have hrf := hR
    have L30 : ∀ (kf : Nat) (c f : Int), (c = cN (fun j => decide (mR M 0 l j = dr)) f.toNat) → (0 ≤ f ∧ f ≤ gI M 568 0) → (0 ≤ c ∧ c ≤ z) → (0 ≤ l ∧ l < gI M 568 1 ∧ 0 ≤ dr ∧ dr ≤ 99 ∧ 0 ≤ z) → ((gI M 568 0 - f).toNat) < kf → abW d (0, 0) 96 30 [some (vr (some 0)), some (vi l), some (vi dr), some (vi z), some (vi c), some (vi f)] [] (0, 0) (A0 L) (M) (qJ (A0 L) M (fun x => (0 ≤ l ∧ l < gI M 568 1 ∧ 0 ≤ dr ∧ dr ≤ 99 ∧ 0 ≤ z) ∧ isFnd (mR M 0 l) dr (gI M 568 0) z x ∨ ¬ (0 ≤ l ∧ l < gI M 568 1 ∧ 0 ≤ dr ∧ dr ≤ 99 ∧ 0 ≤ z) ∧ x = -1)) := by
      intro kf
      induction kf with
      | zero => intro c f  g1 g2 g3 g4 hm9; exact absurd hm9 (Nat.not_lt_zero _)
      | succ kf ih30 =>
        intro c f  g1 g2 g3 g4 hm30
        have ih := ih30
        have b9 := cN_in (fun j => decide (mR M 0 l j = dr)) f.toNat
        refine bw_iload rfl rfl ?_
        refine bw_aload rfl rfl ?_
        refine bw_getr rfl rfl (cur_r hR hc) ?_
        refine bw_getI rfl rfl ?_
        rw [show gI M 372 0 = gI M 568 0 from hS.c0]
        refine bw_icge rfl (fun c39 => ?_) (fun c39 => ?_)
        · skip
          refine bw_push rfl ?_
          refine bw_ret rfl rfl ?_
          first
          | exact ⟨rfl, rfl, _, rfl, Or.inr ⟨by omega, rfl⟩⟩
          | exact ⟨rfl, rfl, _, rfl, Or.inl ⟨g4, Or.inr ⟨by omega, by omega, by omega, by omega⟩⟩⟩
          | (obtain rfl : f = gI M 568 0 := by omega
             exact ⟨rfl, rfl, _, rfl, Or.inl ⟨g4, Or.inl ⟨rfl, by omega⟩⟩⟩)
        · skip
          refine bw_aload rfl rfl ?_
          refine bw_getr rfl rfl (hR _ _) ?_
          refine bw_getr rfl rfl (hR _ _) ?_
          refine bw_iload rfl rfl ?_
          refine bw_aldr rfl (by first | rfl | assumption) (by decide) (by omega) (by omega) ((hR _ _).trans (rr_row (fun _ => rfl) (by omega) (by omega) (by omega))) ?_
          refine bw_iload rfl rfl ?_
          refine bw_aldi rfl (kfa (b := 12) (n := 6) (v := (20, 96)) (by decide) (by decide) ⟨by omega, by omega⟩) (by omega) (by omega) ?_
          rw [h.row ⟨by omega, by omega⟩ ⟨by omega, by omega⟩]
          refine bw_iload rfl rfl ?_
          refine bw_icne rfl (fun c55 => ?_) (fun c55 => ?_)
          · skip
            refine bw_iinc (ls2 := [_, _, _, _, _, _]) rfl rfl rfl ⟨by omega, by omega⟩ rfl ?_
            refine bw_goto rfl ?_
            first
            | exact ih _ _ (cN_f (by omega) g1 (decide_eq_false (by assumption))) (by omega) (by omega) g4 (by omega)
            | exact ih _ _ (cN_t (by omega) g1 (decide_eq_true (by omega))) (by omega) (by omega) g4 (by omega)
          · skip
            refine bw_iload rfl rfl ?_
            refine bw_iload rfl rfl ?_
            refine bw_icne rfl (fun c61 => ?_) (fun c61 => ?_)
            · skip
              refine bw_iinc (ls2 := [_, _, _, _, _, _]) rfl rfl rfl ⟨by omega, by omega⟩ rfl ?_
              refine bw_iinc (ls2 := [_, _, _, _, _, _]) rfl rfl rfl ⟨by omega, by omega⟩ rfl ?_
              refine bw_goto rfl ?_
              first
              | exact ih _ _ (cN_f (by omega) g1 (decide_eq_false (by assumption))) (by omega) (by omega) g4 (by omega)
              | exact ih _ _ (cN_t (by omega) g1 (decide_eq_true (by omega))) (by omega) (by omega) g4 (by omega)
            · skip
              refine bw_iload rfl rfl ?_
              refine bw_ret rfl rfl ?_
              first
              | exact ⟨rfl, rfl, _, rfl, Or.inr ⟨by omega, rfl⟩⟩
              | exact ⟨rfl, rfl, _, rfl, Or.inl ⟨g4, Or.inr ⟨by omega, by omega, by omega, by omega⟩⟩⟩
              | (obtain rfl : f = gI M 568 0 := by omega
                 exact ⟨rfl, rfl, _, rfl, Or.inl ⟨g4, Or.inl ⟨rfl, by omega⟩⟩⟩)
    show abW d (0, 0) 96 0 [some (vr (some 0)), some (vi l), some (vi dr), some (vi z), none, none] [] (0, 0) (A0 L) M (qJ (A0 L) M (fun x => (0 ≤ l ∧ l < gI M 568 1 ∧ 0 ≤ dr ∧ dr ≤ 99 ∧ 0 ≤ z) ∧ isFnd (mR M 0 l) dr (gI M 568 0) z x ∨ ¬ (0 ≤ l ∧ l < gI M 568 1 ∧ 0 ≤ dr ∧ dr ≤ 99 ∧ 0 ≤ z) ∧ x = -1))
    refine bw_aload rfl rfl ?_
    refine bw_getr rfl rfl (cur_r hR hc) ?_
    refine bw_iload rfl rfl ?_
    refine bw_callVNj (e := d - 1) (as := [_]) rfl (by omega) rfl rfl (Nat.le_of_ble_eq_true rfl) (Nat.le_of_ble_eq_true rfl) rfl (c_hasLayer hR (by first | exact Or.inl rfl | exact Or.inr rfl) hS) (fun r5 hr5 => ?_)
    refine bw_ifeq rfl (fun c8 => ?_) (fun c8 => ?_)
    · skip
      refine bw_push rfl ?_
      refine bw_ret rfl rfl ?_
      first
      | exact ⟨rfl, rfl, _, rfl, Or.inr ⟨by omega, rfl⟩⟩
      | exact ⟨rfl, rfl, _, rfl, Or.inl ⟨g4, Or.inr ⟨by omega, by omega, by omega, by omega⟩⟩⟩
      | (obtain rfl : f = gI M 568 0 := by omega
         exact ⟨rfl, rfl, _, rfl, Or.inl ⟨g4, Or.inl ⟨rfl, by omega⟩⟩⟩)
    · skip
      refine bw_iload rfl rfl ?_
      refine bw_callSj (e := d - 1) (as := [_]) rfl (by omega) rfl rfl (Nat.le_of_ble_eq_true rfl) (Nat.le_of_ble_eq_true rfl) (c_isDrawing hR) (fun r12 hr12 => ?_)
      refine bw_ifeq rfl (fun c15 => ?_) (fun c15 => ?_)
      · skip
        refine bw_push rfl ?_
        refine bw_ret rfl rfl ?_
        first
        | exact ⟨rfl, rfl, _, rfl, Or.inr ⟨by omega, rfl⟩⟩
        | exact ⟨rfl, rfl, _, rfl, Or.inl ⟨g4, Or.inr ⟨by omega, by omega, by omega, by omega⟩⟩⟩
        | (obtain rfl : f = gI M 568 0 := by omega
           exact ⟨rfl, rfl, _, rfl, Or.inl ⟨g4, Or.inl ⟨rfl, by omega⟩⟩⟩)
      · skip
        refine bw_iload rfl rfl ?_
        refine bw_ifge rfl (fun c19 => ?_) (fun c19 => ?_)
        · skip
          refine bw_push rfl ?_
          refine bw_istore (ls2 := [_, _, _, _, _, _]) rfl rfl (Nat.le_of_ble_eq_true rfl) rfl ?_
          refine bw_push rfl ?_
          refine bw_istore (ls2 := [_, _, _, _, _, _]) rfl rfl (Nat.le_of_ble_eq_true rfl) rfl ?_
          exact L30 98 0 0 rfl (by omega) (by omega) (by omega) (by omega)
        · skip
          refine bw_push rfl ?_
          refine bw_ret rfl rfl ?_
          first
          | exact ⟨rfl, rfl, _, rfl, Or.inr ⟨by omega, rfl⟩⟩
          | exact ⟨rfl, rfl, _, rfl, Or.inl ⟨g4, Or.inr ⟨by omega, by omega, by omega, by omega⟩⟩⟩
          | (obtain rfl : f = gI M 568 0 := by omega
             exact ⟨rfl, rfl, _, rfl, Or.inl ⟨g4, Or.inl ⟨rfl, by omega⟩⟩⟩)
  · have hS : SR M 459 (gI M 568) := by have q := h.sr; rw [hc] at q; exact q
    have b1 := h.fr
    have b2 := h.la
    have hrf := hR
    have L30 : ∀ (kf : Nat) (c f : Int), (c = cN (fun j => decide (mR M 0 l j = dr)) f.toNat) → (0 ≤ f ∧ f ≤ gI M 568 0) → (0 ≤ c ∧ c ≤ z) → (0 ≤ l ∧ l < gI M 568 1 ∧ 0 ≤ dr ∧ dr ≤ 99 ∧ 0 ≤ z) → ((gI M 568 0 - f).toNat) < kf → abW d (0, 0) 96 30 [some (vr (some 0)), some (vi l), some (vi dr), some (vi z), some (vi c), some (vi f)] [] (0, 0) (A0 L) (M) (qJ (A0 L) M (fun x => (0 ≤ l ∧ l < gI M 568 1 ∧ 0 ≤ dr ∧ dr ≤ 99 ∧ 0 ≤ z) ∧ isFnd (mR M 0 l) dr (gI M 568 0) z x ∨ ¬ (0 ≤ l ∧ l < gI M 568 1 ∧ 0 ≤ dr ∧ dr ≤ 99 ∧ 0 ≤ z) ∧ x = -1)) := by
      intro kf
      induction kf with
      | zero => intro c f  g1 g2 g3 g4 hm9; exact absurd hm9 (Nat.not_lt_zero _)
      | succ kf ih30 =>
        intro c f  g1 g2 g3 g4 hm30
        have ih := ih30
        have b9 := cN_in (fun j => decide (mR M 0 l j = dr)) f.toNat
        refine bw_iload rfl rfl ?_
        refine bw_aload rfl rfl ?_
        refine bw_getr rfl rfl (cur_r hR hc) ?_
        refine bw_getI rfl rfl ?_
        rw [show gI M 459 0 = gI M 568 0 from hS.c0]
        refine bw_icge rfl (fun c39 => ?_) (fun c39 => ?_)
        · skip
          refine bw_push rfl ?_
          refine bw_ret rfl rfl ?_
          first
          | exact ⟨rfl, rfl, _, rfl, Or.inr ⟨by omega, rfl⟩⟩
          | exact ⟨rfl, rfl, _, rfl, Or.inl ⟨g4, Or.inr ⟨by omega, by omega, by omega, by omega⟩⟩⟩
          | (obtain rfl : f = gI M 568 0 := by omega
             exact ⟨rfl, rfl, _, rfl, Or.inl ⟨g4, Or.inl ⟨rfl, by omega⟩⟩⟩)
        · skip
          refine bw_aload rfl rfl ?_
          refine bw_getr rfl rfl (hR _ _) ?_
          refine bw_getr rfl rfl (hR _ _) ?_
          refine bw_iload rfl rfl ?_
          refine bw_aldr rfl (by first | rfl | assumption) (by decide) (by omega) (by omega) ((hR _ _).trans (rr_row (fun _ => rfl) (by omega) (by omega) (by omega))) ?_
          refine bw_iload rfl rfl ?_
          refine bw_aldi rfl (kfa (b := 12) (n := 6) (v := (20, 96)) (by decide) (by decide) ⟨by omega, by omega⟩) (by omega) (by omega) ?_
          rw [h.row ⟨by omega, by omega⟩ ⟨by omega, by omega⟩]
          refine bw_iload rfl rfl ?_
          refine bw_icne rfl (fun c55 => ?_) (fun c55 => ?_)
          · skip
            refine bw_iinc (ls2 := [_, _, _, _, _, _]) rfl rfl rfl ⟨by omega, by omega⟩ rfl ?_
            refine bw_goto rfl ?_
            first
            | exact ih _ _ (cN_f (by omega) g1 (decide_eq_false (by assumption))) (by omega) (by omega) g4 (by omega)
            | exact ih _ _ (cN_t (by omega) g1 (decide_eq_true (by omega))) (by omega) (by omega) g4 (by omega)
          · skip
            refine bw_iload rfl rfl ?_
            refine bw_iload rfl rfl ?_
            refine bw_icne rfl (fun c61 => ?_) (fun c61 => ?_)
            · skip
              refine bw_iinc (ls2 := [_, _, _, _, _, _]) rfl rfl rfl ⟨by omega, by omega⟩ rfl ?_
              refine bw_iinc (ls2 := [_, _, _, _, _, _]) rfl rfl rfl ⟨by omega, by omega⟩ rfl ?_
              refine bw_goto rfl ?_
              first
              | exact ih _ _ (cN_f (by omega) g1 (decide_eq_false (by assumption))) (by omega) (by omega) g4 (by omega)
              | exact ih _ _ (cN_t (by omega) g1 (decide_eq_true (by omega))) (by omega) (by omega) g4 (by omega)
            · skip
              refine bw_iload rfl rfl ?_
              refine bw_ret rfl rfl ?_
              first
              | exact ⟨rfl, rfl, _, rfl, Or.inr ⟨by omega, rfl⟩⟩
              | exact ⟨rfl, rfl, _, rfl, Or.inl ⟨g4, Or.inr ⟨by omega, by omega, by omega, by omega⟩⟩⟩
              | (obtain rfl : f = gI M 568 0 := by omega
                 exact ⟨rfl, rfl, _, rfl, Or.inl ⟨g4, Or.inl ⟨rfl, by omega⟩⟩⟩)
    show abW d (0, 0) 96 0 [some (vr (some 0)), some (vi l), some (vi dr), some (vi z), none, none] [] (0, 0) (A0 L) M (qJ (A0 L) M (fun x => (0 ≤ l ∧ l < gI M 568 1 ∧ 0 ≤ dr ∧ dr ≤ 99 ∧ 0 ≤ z) ∧ isFnd (mR M 0 l) dr (gI M 568 0) z x ∨ ¬ (0 ≤ l ∧ l < gI M 568 1 ∧ 0 ≤ dr ∧ dr ≤ 99 ∧ 0 ≤ z) ∧ x = -1))
    refine bw_aload rfl rfl ?_
    refine bw_getr rfl rfl (cur_r hR hc) ?_
    refine bw_iload rfl rfl ?_
    refine bw_callVNj (e := d - 1) (as := [_]) rfl (by omega) rfl rfl (Nat.le_of_ble_eq_true rfl) (Nat.le_of_ble_eq_true rfl) rfl (c_hasLayer hR (by first | exact Or.inl rfl | exact Or.inr rfl) hS) (fun r5 hr5 => ?_)
    refine bw_ifeq rfl (fun c8 => ?_) (fun c8 => ?_)
    · skip
      refine bw_push rfl ?_
      refine bw_ret rfl rfl ?_
      first
      | exact ⟨rfl, rfl, _, rfl, Or.inr ⟨by omega, rfl⟩⟩
      | exact ⟨rfl, rfl, _, rfl, Or.inl ⟨g4, Or.inr ⟨by omega, by omega, by omega, by omega⟩⟩⟩
      | (obtain rfl : f = gI M 568 0 := by omega
         exact ⟨rfl, rfl, _, rfl, Or.inl ⟨g4, Or.inl ⟨rfl, by omega⟩⟩⟩)
    · skip
      refine bw_iload rfl rfl ?_
      refine bw_callSj (e := d - 1) (as := [_]) rfl (by omega) rfl rfl (Nat.le_of_ble_eq_true rfl) (Nat.le_of_ble_eq_true rfl) (c_isDrawing hR) (fun r12 hr12 => ?_)
      refine bw_ifeq rfl (fun c15 => ?_) (fun c15 => ?_)
      · skip
        refine bw_push rfl ?_
        refine bw_ret rfl rfl ?_
        first
        | exact ⟨rfl, rfl, _, rfl, Or.inr ⟨by omega, rfl⟩⟩
        | exact ⟨rfl, rfl, _, rfl, Or.inl ⟨g4, Or.inr ⟨by omega, by omega, by omega, by omega⟩⟩⟩
        | (obtain rfl : f = gI M 568 0 := by omega
           exact ⟨rfl, rfl, _, rfl, Or.inl ⟨g4, Or.inl ⟨rfl, by omega⟩⟩⟩)
      · skip
        refine bw_iload rfl rfl ?_
        refine bw_ifge rfl (fun c19 => ?_) (fun c19 => ?_)
        · skip
          refine bw_push rfl ?_
          refine bw_istore (ls2 := [_, _, _, _, _, _]) rfl rfl (Nat.le_of_ble_eq_true rfl) rfl ?_
          refine bw_push rfl ?_
          refine bw_istore (ls2 := [_, _, _, _, _, _]) rfl rfl (Nat.le_of_ble_eq_true rfl) rfl ?_
          exact L30 98 0 0 rfl (by omega) (by omega) (by omega) (by omega)
        · skip
          refine bw_push rfl ?_
          refine bw_ret rfl rfl ?_
          first
          | exact ⟨rfl, rfl, _, rfl, Or.inr ⟨by omega, rfl⟩⟩
          | exact ⟨rfl, rfl, _, rfl, Or.inl ⟨g4, Or.inr ⟨by omega, by omega, by omega, by omega⟩⟩⟩
          | (obtain rfl : f = gI M 568 0 := by omega
             exact ⟨rfl, rfl, _, rfl, Or.inl ⟨g4, Or.inl ⟨rfl, by omega⟩⟩⟩)
theorem cy_2 {f : Int → Int} {n c q : Int} (h : isCy f n c q) (hq : 1 ≤ q) : 2 ≤ q := by
  obtain ⟨_, _, ⟨j, j1, j2, j3⟩, _⟩ := h
  by_cases z : q = 1
  · rw [show j = c by omega] at j3; exact absurd rfl j3
  · omega
theorem per_C1 {f : Int → Int} {n r : Int} (h : ∃ m b : Int, n < 2 * m ∧ isPer f n m r b) : (r = -1 ∧ noC f n) ∨ (2 ≤ r ∧ ∃ b : Int, isC1 f n b r) := by
  obtain ⟨m, b, hm, h1, h2⟩ := h
  rcases h1 with ⟨q1, q2⟩ | ⟨q1, q2, q3⟩
  · refine Or.inl ⟨q1, fun c q hq hc => ?_⟩
    have a := cy_2 hc hq
    have b1 := hc.1
    have b2 := hc.2.1
    have := h2 q c a (by omega) hc
    omega
  · refine Or.inr ⟨q1, b, ⟨by omega, q3⟩, fun c q hq hc => ?_⟩
    have a := cy_2 hc hq
    have b1 := hc.1
    have b2 := hc.2.1
    have := h2 q c a (by omega) hc
    omega
theorem beg_C1 {f : Int → Int} {n b p x : Int} (h : isC1 f n b p) (hb : isBeg f n p x) : x = b := by
  have a := cy_beg h.1.1 hb h.1.2
  have b := h.2 x p h.1.1 a.2
  omega
theorem isC1_cg {f g : Int → Int} {n b p : Int} (h : isC1 f n b p) (e : ∀ j : Int, 0 ≤ j → j < n → f j = g j) : isC1 g n b p := ⟨⟨h.1.1, isCy_congr h.1.2 h.1.1 e⟩, fun c q hq hc => h.2 c q hq (isCy_congr hc hq (fun j j0 j1 => (e j j0 j1).symm))⟩
theorem noC_cg {f g : Int → Int} {n : Int} (h : noC f n) (e : ∀ j : Int, 0 ≤ j → j < n → f j = g j) : noC g n := fun c q hq hc => h c q hq (isCy_congr hc hq (fun j j0 j1 => (e j j0 j1).symm))
theorem clo_cg {f g : Int → Int} {b p n : Int} (hb : 0 ≤ b ∧ 1 ≤ p ∧ b + p ≤ n) (e : ∀ j : Int, 0 ≤ j → j < n → f j = g j) : clo f b p = clo g b p := by
  unfold clo
  rw [e b (by omega) (by omega), e (b + p - 1) (by omega) (by omega)]
theorem clo_in (f : Int → Int) (b p : Int) : clo f b p = 0 ∨ clo f b p = 1 := by
  unfold clo
  split
  · exact Or.inr rfl
  · exact Or.inl rfl
set_option maxRecDepth 20000 in
set_option maxHeartbeats 4000000 in
theorem x_cycle {d L : Nat} {M : abMem} {r : abRf} (hR : RF r M) {s : Nat} (hs : s = 372 ∨ s = 459) (hc : cur r = s) {k : Int} (h : INV r M k) {l w : Int} (hd : 3 ≤ d) : abW d (0, 0) 97 0 (abEnt (abL 97) [vr (some 0), vi l, vi w]) [] (0, 0) (A0 L) M (qJ (A0 L) M (fun x => ((0 ≤ l ∧ l < gI M 568 1) ∧ 0 ≤ w ∧ w ≤ 3) ∧ cyV (mR M 0 l) (gI M 568 0) w x ∨ ¬ ((0 ≤ l ∧ l < gI M 568 1) ∧ 0 ≤ w ∧ w ≤ 3) ∧ x = -1)) := by
  rcases hs with rfl | rfl
  · have hS : SR M 372 (gI M 568) := by have q := h.sr; rw [hc] at q; exact q
    have b1 := h.fr
    have b2 := h.la
    have hrf := hR
    show abW d (0, 0) 97 0 [some (vr (some 0)), some (vi l), some (vi w), none, none, none] [] (0, 0) (A0 L) M (qJ (A0 L) M (fun x => ((0 ≤ l ∧ l < gI M 568 1) ∧ 0 ≤ w ∧ w ≤ 3) ∧ cyV (mR M 0 l) (gI M 568 0) w x ∨ ¬ ((0 ≤ l ∧ l < gI M 568 1) ∧ 0 ≤ w ∧ w ≤ 3) ∧ x = -1))
    refine bw_aload rfl rfl ?_
    refine bw_getr rfl rfl (cur_r hR hc) ?_
    refine bw_iload rfl rfl ?_
    refine bw_callVNj (e := d - 1) (as := [_]) rfl (by omega) rfl rfl (Nat.le_of_ble_eq_true rfl) (Nat.le_of_ble_eq_true rfl) rfl (c_hasLayer hR (by first | exact Or.inl rfl | exact Or.inr rfl) hS) (fun r5 hr5 => ?_)
    refine bw_ifne rfl (fun c8 => ?_) (fun c8 => ?_)
    · skip
      refine bw_aload rfl rfl ?_
      refine bw_getr rfl rfl (hR _ _) ?_
      refine bw_getr rfl rfl (hR _ _) ?_
      refine bw_iload rfl rfl ?_
      refine bw_aldr rfl (by first | rfl | assumption) (by decide) (by omega) (by omega) ((hR _ _).trans (rr_row (fun _ => rfl) (by omega) (by omega) (by omega))) ?_
      refine bw_astore (ls2 := [_, _, _, _, _, _]) rfl rfl (Nat.le_of_ble_eq_true rfl) rfl ?_
      refine bw_aload rfl rfl ?_
      refine bw_aload rfl rfl ?_
      refine bw_getr rfl rfl (cur_r hR hc) ?_
      refine bw_getI rfl rfl ?_
      rw [show gI M 372 0 = gI M 568 0 from hS.c0]
      refine bw_callSNi (e := d - 1) (as := [_, _]) rfl (by omega) rfl rfl (Nat.le_of_ble_eq_true rfl) (Nat.le_of_ble_eq_true rfl) (c_cyclePeriod (z := 96) (by decide) (kfa (L := L) (b := 12) (n := 6) (v := (20, 96)) (by decide) (by decide) ⟨by omega, by omega⟩) (by omega) (by omega)) (fun r31 M31 hM31 => ?_)
      rw [hM31.2]
      have v31 := per_C1 hM31.1
      have hrow : ∀ j : Int, 0 ≤ j → j < gI M 568 0 → gI M (12 + l.toNat) j = mR M 0 l j := (fun j j0 j1 => h.row ⟨by omega, by omega⟩ ⟨j0, j1⟩)
      refine bw_istore (ls2 := [_, _, _, _, _, _]) rfl rfl (Nat.le_of_ble_eq_true rfl) rfl ?_
      refine bw_iload rfl rfl ?_
      refine bw_push rfl ?_
      refine bw_iceq rfl (fun c39 => ?_) (fun c39 => ?_)
      · skip
        refine bw_push rfl ?_
        refine bw_ret rfl rfl ?_
        first
        | (exfalso; rcases v31 with q | q <;> omega)
        | (by_cases q : (0 ≤ l ∧ l < gI M 568 1) ∧ 0 ≤ w ∧ w ≤ 3
           · exact ⟨rfl, rfl, _, rfl, Or.inl ⟨q, Or.inl (v31.elim (fun z => ⟨noC_cg z.2 hrow, rfl⟩) (fun z => absurd z.1 (by omega)))⟩⟩
           · exact ⟨rfl, rfl, _, rfl, Or.inr ⟨q, rfl⟩⟩)
      · skip
        refine bw_iload rfl rfl ?_
        refine bw_ifne rfl (fun c44 => ?_) (fun c44 => ?_)
        · skip
          obtain ⟨vd, bb, vb⟩ := v31.resolve_left (fun q => absurd q.1 (by omega))
          have y1 := vb.1.2.1
          have y2 := vb.1.2.2.1
          refine bw_aload rfl rfl ?_
          refine bw_aload rfl rfl ?_
          refine bw_getr rfl rfl (cur_r hR hc) ?_
          refine bw_getI rfl rfl ?_
          rw [show gI M 372 0 = gI M 568 0 from hS.c0]
          refine bw_iload rfl rfl ?_
          refine bw_callSNi (e := d - 1) (as := [_, _, _]) rfl (by omega) rfl rfl (Nat.le_of_ble_eq_true rfl) (Nat.le_of_ble_eq_true rfl) (c_cycleBegin (z := 96) (by decide) (kfa (L := L) (b := 12) (n := 6) (v := (20, 96)) (by decide) (by decide) ⟨by omega, by omega⟩) (by omega) (by omega) (by omega)) (fun r59 M59 hM59 => ?_)
          rw [hM59.2]
          obtain rfl := beg_C1 vb hM59.1
          have vc := isC1_cg vb hrow
          clear hM59
          refine bw_istore (ls2 := [_, _, _, _, _, _]) rfl rfl (Nat.le_of_ble_eq_true rfl) rfl ?_
          refine bw_iload rfl rfl ?_
          by_cases s65_0 : w = 0
          · refine bw_switch (t := 96) rfl (by rw [s65_0]; rfl) ?_
            refine bw_iload rfl rfl ?_
            refine bw_ret rfl rfl ?_
            first
            | exact ⟨rfl, rfl, _, rfl, Or.inr ⟨by omega, rfl⟩⟩
            | exact ⟨rfl, rfl, _, rfl, Or.inl ⟨by omega, Or.inr ⟨_, _, vc, Or.inl ⟨by omega, rfl⟩⟩⟩⟩
            | exact ⟨rfl, rfl, _, rfl, Or.inl ⟨by omega, Or.inr ⟨_, _, vc, Or.inr (Or.inl ⟨by omega, rfl⟩)⟩⟩⟩
            | exact ⟨rfl, rfl, _, rfl, Or.inl ⟨by omega, Or.inr ⟨_, _, vc, Or.inr (Or.inr (Or.inl ⟨by omega, rfl⟩))⟩⟩⟩
            | exact ⟨rfl, rfl, _, rfl, Or.inl ⟨by omega, Or.inr ⟨_, _, vc, Or.inr (Or.inr (Or.inr ⟨by omega, by omega⟩))⟩⟩⟩
          · skip
            by_cases s65_1 : w = 1
            · refine bw_switch (t := 99) rfl (by rw [s65_1]; rfl) ?_
              refine bw_iload rfl rfl ?_
              refine bw_ret rfl rfl ?_
              first
              | exact ⟨rfl, rfl, _, rfl, Or.inr ⟨by omega, rfl⟩⟩
              | exact ⟨rfl, rfl, _, rfl, Or.inl ⟨by omega, Or.inr ⟨_, _, vc, Or.inl ⟨by omega, rfl⟩⟩⟩⟩
              | exact ⟨rfl, rfl, _, rfl, Or.inl ⟨by omega, Or.inr ⟨_, _, vc, Or.inr (Or.inl ⟨by omega, rfl⟩)⟩⟩⟩
              | exact ⟨rfl, rfl, _, rfl, Or.inl ⟨by omega, Or.inr ⟨_, _, vc, Or.inr (Or.inr (Or.inl ⟨by omega, rfl⟩))⟩⟩⟩
              | exact ⟨rfl, rfl, _, rfl, Or.inl ⟨by omega, Or.inr ⟨_, _, vc, Or.inr (Or.inr (Or.inr ⟨by omega, by omega⟩))⟩⟩⟩
            · skip
              by_cases s65_2 : w = 2
              · refine bw_switch (t := 102) rfl (by rw [s65_2]; rfl) ?_
                refine bw_aload rfl rfl ?_
                refine bw_getr rfl rfl (cur_r hR hc) ?_
                refine bw_getI rfl rfl ?_
                rw [show gI M 372 0 = gI M 568 0 from hS.c0]
                refine bw_iload rfl rfl ?_
                refine bw_isub rfl ⟨by omega, by omega⟩ ?_
                refine bw_iload rfl rfl ?_
                refine bw_idiv rfl (by omega) (by omega) ?_
                refine bw_ret rfl rfl ?_
                first
                | exact ⟨rfl, rfl, _, rfl, Or.inr ⟨by omega, rfl⟩⟩
                | exact ⟨rfl, rfl, _, rfl, Or.inl ⟨by omega, Or.inr ⟨_, _, vc, Or.inl ⟨by omega, rfl⟩⟩⟩⟩
                | exact ⟨rfl, rfl, _, rfl, Or.inl ⟨by omega, Or.inr ⟨_, _, vc, Or.inr (Or.inl ⟨by omega, rfl⟩)⟩⟩⟩
                | exact ⟨rfl, rfl, _, rfl, Or.inl ⟨by omega, Or.inr ⟨_, _, vc, Or.inr (Or.inr (Or.inl ⟨by omega, rfl⟩))⟩⟩⟩
                | exact ⟨rfl, rfl, _, rfl, Or.inl ⟨by omega, Or.inr ⟨_, _, vc, Or.inr (Or.inr (Or.inr ⟨by omega, by omega⟩))⟩⟩⟩
              · skip
                by_cases s65_3 : w = 3
                · refine bw_switch (t := 116) rfl (by rw [s65_3]; rfl) ?_
                  refine bw_aload rfl rfl ?_
                  refine bw_iload rfl rfl ?_
                  refine bw_iload rfl rfl ?_
                  refine bw_callSNe (e := d - 1) (as := [_, _, _]) rfl (by omega) rfl rfl (Nat.le_of_ble_eq_true rfl) (Nat.le_of_ble_eq_true rfl) (c_closes (z := 96) (n := gI M 568 0) (by decide) (kfa (L := L) (b := 12) (n := 6) (v := (20, 96)) (by decide) (by decide) ⟨by omega, by omega⟩) (by omega) (fun j j0 j1 => h.rv ⟨by omega, by omega⟩ ⟨j0, j1⟩) (by omega)) ?_
                  rw [clo_cg (by omega) hrow]
                  have ci := clo_in (mR M 0 l) r59 r31
                  refine bw_ifeq rfl (fun c124 => ?_) (fun c124 => ?_)
                  · skip
                    refine bw_push rfl ?_
                    refine bw_ret rfl rfl ?_
                    first
                    | exact ⟨rfl, rfl, _, rfl, Or.inr ⟨by omega, rfl⟩⟩
                    | exact ⟨rfl, rfl, _, rfl, Or.inl ⟨by omega, Or.inr ⟨_, _, vc, Or.inl ⟨by omega, rfl⟩⟩⟩⟩
                    | exact ⟨rfl, rfl, _, rfl, Or.inl ⟨by omega, Or.inr ⟨_, _, vc, Or.inr (Or.inl ⟨by omega, rfl⟩)⟩⟩⟩
                    | exact ⟨rfl, rfl, _, rfl, Or.inl ⟨by omega, Or.inr ⟨_, _, vc, Or.inr (Or.inr (Or.inl ⟨by omega, rfl⟩))⟩⟩⟩
                    | exact ⟨rfl, rfl, _, rfl, Or.inl ⟨by omega, Or.inr ⟨_, _, vc, Or.inr (Or.inr (Or.inr ⟨by omega, by omega⟩))⟩⟩⟩
                  · skip
                    refine bw_push rfl ?_
                    refine bw_goto rfl ?_
                    refine bw_ret rfl rfl ?_
                    first
                    | exact ⟨rfl, rfl, _, rfl, Or.inr ⟨by omega, rfl⟩⟩
                    | exact ⟨rfl, rfl, _, rfl, Or.inl ⟨by omega, Or.inr ⟨_, _, vc, Or.inl ⟨by omega, rfl⟩⟩⟩⟩
                    | exact ⟨rfl, rfl, _, rfl, Or.inl ⟨by omega, Or.inr ⟨_, _, vc, Or.inr (Or.inl ⟨by omega, rfl⟩)⟩⟩⟩
                    | exact ⟨rfl, rfl, _, rfl, Or.inl ⟨by omega, Or.inr ⟨_, _, vc, Or.inr (Or.inr (Or.inl ⟨by omega, rfl⟩))⟩⟩⟩
                    | exact ⟨rfl, rfl, _, rfl, Or.inl ⟨by omega, Or.inr ⟨_, _, vc, Or.inr (Or.inr (Or.inr ⟨by omega, by omega⟩))⟩⟩⟩
                · skip
                  refine bw_switch (t := 133) rfl (by show (if (w) < (0 : Int) ∨ (3 : Int) < (w) then _ else _) = _; rw [if_pos (by omega)]; rfl) ?_
                  refine bw_push rfl ?_
                  refine bw_ret rfl rfl ?_
                  first
                  | exact ⟨rfl, rfl, _, rfl, Or.inr ⟨by omega, rfl⟩⟩
                  | exact ⟨rfl, rfl, _, rfl, Or.inl ⟨by omega, Or.inr ⟨_, _, vc, Or.inl ⟨by omega, rfl⟩⟩⟩⟩
                  | exact ⟨rfl, rfl, _, rfl, Or.inl ⟨by omega, Or.inr ⟨_, _, vc, Or.inr (Or.inl ⟨by omega, rfl⟩)⟩⟩⟩
                  | exact ⟨rfl, rfl, _, rfl, Or.inl ⟨by omega, Or.inr ⟨_, _, vc, Or.inr (Or.inr (Or.inl ⟨by omega, rfl⟩))⟩⟩⟩
                  | exact ⟨rfl, rfl, _, rfl, Or.inl ⟨by omega, Or.inr ⟨_, _, vc, Or.inr (Or.inr (Or.inr ⟨by omega, by omega⟩))⟩⟩⟩
        · skip
          refine bw_push rfl ?_
          refine bw_ret rfl rfl ?_
          first
          | (exfalso; rcases v31 with q | q <;> omega)
          | (by_cases q : (0 ≤ l ∧ l < gI M 568 1) ∧ 0 ≤ w ∧ w ≤ 3
             · exact ⟨rfl, rfl, _, rfl, Or.inl ⟨q, Or.inl (v31.elim (fun z => ⟨noC_cg z.2 hrow, rfl⟩) (fun z => absurd z.1 (by omega)))⟩⟩
             · exact ⟨rfl, rfl, _, rfl, Or.inr ⟨q, rfl⟩⟩)
    · skip
      refine bw_push rfl ?_
      refine bw_ret rfl rfl ?_
      first
      | exact ⟨rfl, rfl, _, rfl, Or.inr ⟨by omega, rfl⟩⟩
      | exact ⟨rfl, rfl, _, rfl, Or.inl ⟨by omega, Or.inr ⟨_, _, vc, Or.inl ⟨by omega, rfl⟩⟩⟩⟩
      | exact ⟨rfl, rfl, _, rfl, Or.inl ⟨by omega, Or.inr ⟨_, _, vc, Or.inr (Or.inl ⟨by omega, rfl⟩)⟩⟩⟩
      | exact ⟨rfl, rfl, _, rfl, Or.inl ⟨by omega, Or.inr ⟨_, _, vc, Or.inr (Or.inr (Or.inl ⟨by omega, rfl⟩))⟩⟩⟩
      | exact ⟨rfl, rfl, _, rfl, Or.inl ⟨by omega, Or.inr ⟨_, _, vc, Or.inr (Or.inr (Or.inr ⟨by omega, by omega⟩))⟩⟩⟩
  · have hS : SR M 459 (gI M 568) := by have q := h.sr; rw [hc] at q; exact q
    have b1 := h.fr
    have b2 := h.la
    have hrf := hR
    show abW d (0, 0) 97 0 [some (vr (some 0)), some (vi l), some (vi w), none, none, none] [] (0, 0) (A0 L) M (qJ (A0 L) M (fun x => ((0 ≤ l ∧ l < gI M 568 1) ∧ 0 ≤ w ∧ w ≤ 3) ∧ cyV (mR M 0 l) (gI M 568 0) w x ∨ ¬ ((0 ≤ l ∧ l < gI M 568 1) ∧ 0 ≤ w ∧ w ≤ 3) ∧ x = -1))
    refine bw_aload rfl rfl ?_
    refine bw_getr rfl rfl (cur_r hR hc) ?_
    refine bw_iload rfl rfl ?_
    refine bw_callVNj (e := d - 1) (as := [_]) rfl (by omega) rfl rfl (Nat.le_of_ble_eq_true rfl) (Nat.le_of_ble_eq_true rfl) rfl (c_hasLayer hR (by first | exact Or.inl rfl | exact Or.inr rfl) hS) (fun r5 hr5 => ?_)
    refine bw_ifne rfl (fun c8 => ?_) (fun c8 => ?_)
    · skip
      refine bw_aload rfl rfl ?_
      refine bw_getr rfl rfl (hR _ _) ?_
      refine bw_getr rfl rfl (hR _ _) ?_
      refine bw_iload rfl rfl ?_
      refine bw_aldr rfl (by first | rfl | assumption) (by decide) (by omega) (by omega) ((hR _ _).trans (rr_row (fun _ => rfl) (by omega) (by omega) (by omega))) ?_
      refine bw_astore (ls2 := [_, _, _, _, _, _]) rfl rfl (Nat.le_of_ble_eq_true rfl) rfl ?_
      refine bw_aload rfl rfl ?_
      refine bw_aload rfl rfl ?_
      refine bw_getr rfl rfl (cur_r hR hc) ?_
      refine bw_getI rfl rfl ?_
      rw [show gI M 459 0 = gI M 568 0 from hS.c0]
      refine bw_callSNi (e := d - 1) (as := [_, _]) rfl (by omega) rfl rfl (Nat.le_of_ble_eq_true rfl) (Nat.le_of_ble_eq_true rfl) (c_cyclePeriod (z := 96) (by decide) (kfa (L := L) (b := 12) (n := 6) (v := (20, 96)) (by decide) (by decide) ⟨by omega, by omega⟩) (by omega) (by omega)) (fun r31 M31 hM31 => ?_)
      rw [hM31.2]
      have v31 := per_C1 hM31.1
      have hrow : ∀ j : Int, 0 ≤ j → j < gI M 568 0 → gI M (12 + l.toNat) j = mR M 0 l j := (fun j j0 j1 => h.row ⟨by omega, by omega⟩ ⟨j0, j1⟩)
      refine bw_istore (ls2 := [_, _, _, _, _, _]) rfl rfl (Nat.le_of_ble_eq_true rfl) rfl ?_
      refine bw_iload rfl rfl ?_
      refine bw_push rfl ?_
      refine bw_iceq rfl (fun c39 => ?_) (fun c39 => ?_)
      · skip
        refine bw_push rfl ?_
        refine bw_ret rfl rfl ?_
        first
        | (exfalso; rcases v31 with q | q <;> omega)
        | (by_cases q : (0 ≤ l ∧ l < gI M 568 1) ∧ 0 ≤ w ∧ w ≤ 3
           · exact ⟨rfl, rfl, _, rfl, Or.inl ⟨q, Or.inl (v31.elim (fun z => ⟨noC_cg z.2 hrow, rfl⟩) (fun z => absurd z.1 (by omega)))⟩⟩
           · exact ⟨rfl, rfl, _, rfl, Or.inr ⟨q, rfl⟩⟩)
      · skip
        refine bw_iload rfl rfl ?_
        refine bw_ifne rfl (fun c44 => ?_) (fun c44 => ?_)
        · skip
          obtain ⟨vd, bb, vb⟩ := v31.resolve_left (fun q => absurd q.1 (by omega))
          have y1 := vb.1.2.1
          have y2 := vb.1.2.2.1
          refine bw_aload rfl rfl ?_
          refine bw_aload rfl rfl ?_
          refine bw_getr rfl rfl (cur_r hR hc) ?_
          refine bw_getI rfl rfl ?_
          rw [show gI M 459 0 = gI M 568 0 from hS.c0]
          refine bw_iload rfl rfl ?_
          refine bw_callSNi (e := d - 1) (as := [_, _, _]) rfl (by omega) rfl rfl (Nat.le_of_ble_eq_true rfl) (Nat.le_of_ble_eq_true rfl) (c_cycleBegin (z := 96) (by decide) (kfa (L := L) (b := 12) (n := 6) (v := (20, 96)) (by decide) (by decide) ⟨by omega, by omega⟩) (by omega) (by omega) (by omega)) (fun r59 M59 hM59 => ?_)
          rw [hM59.2]
          obtain rfl := beg_C1 vb hM59.1
          have vc := isC1_cg vb hrow
          clear hM59
          refine bw_istore (ls2 := [_, _, _, _, _, _]) rfl rfl (Nat.le_of_ble_eq_true rfl) rfl ?_
          refine bw_iload rfl rfl ?_
          by_cases s65_0 : w = 0
          · refine bw_switch (t := 96) rfl (by rw [s65_0]; rfl) ?_
            refine bw_iload rfl rfl ?_
            refine bw_ret rfl rfl ?_
            first
            | exact ⟨rfl, rfl, _, rfl, Or.inr ⟨by omega, rfl⟩⟩
            | exact ⟨rfl, rfl, _, rfl, Or.inl ⟨by omega, Or.inr ⟨_, _, vc, Or.inl ⟨by omega, rfl⟩⟩⟩⟩
            | exact ⟨rfl, rfl, _, rfl, Or.inl ⟨by omega, Or.inr ⟨_, _, vc, Or.inr (Or.inl ⟨by omega, rfl⟩)⟩⟩⟩
            | exact ⟨rfl, rfl, _, rfl, Or.inl ⟨by omega, Or.inr ⟨_, _, vc, Or.inr (Or.inr (Or.inl ⟨by omega, rfl⟩))⟩⟩⟩
            | exact ⟨rfl, rfl, _, rfl, Or.inl ⟨by omega, Or.inr ⟨_, _, vc, Or.inr (Or.inr (Or.inr ⟨by omega, by omega⟩))⟩⟩⟩
          · skip
            by_cases s65_1 : w = 1
            · refine bw_switch (t := 99) rfl (by rw [s65_1]; rfl) ?_
              refine bw_iload rfl rfl ?_
              refine bw_ret rfl rfl ?_
              first
              | exact ⟨rfl, rfl, _, rfl, Or.inr ⟨by omega, rfl⟩⟩
              | exact ⟨rfl, rfl, _, rfl, Or.inl ⟨by omega, Or.inr ⟨_, _, vc, Or.inl ⟨by omega, rfl⟩⟩⟩⟩
              | exact ⟨rfl, rfl, _, rfl, Or.inl ⟨by omega, Or.inr ⟨_, _, vc, Or.inr (Or.inl ⟨by omega, rfl⟩)⟩⟩⟩
              | exact ⟨rfl, rfl, _, rfl, Or.inl ⟨by omega, Or.inr ⟨_, _, vc, Or.inr (Or.inr (Or.inl ⟨by omega, rfl⟩))⟩⟩⟩
              | exact ⟨rfl, rfl, _, rfl, Or.inl ⟨by omega, Or.inr ⟨_, _, vc, Or.inr (Or.inr (Or.inr ⟨by omega, by omega⟩))⟩⟩⟩
            · skip
              by_cases s65_2 : w = 2
              · refine bw_switch (t := 102) rfl (by rw [s65_2]; rfl) ?_
                refine bw_aload rfl rfl ?_
                refine bw_getr rfl rfl (cur_r hR hc) ?_
                refine bw_getI rfl rfl ?_
                rw [show gI M 459 0 = gI M 568 0 from hS.c0]
                refine bw_iload rfl rfl ?_
                refine bw_isub rfl ⟨by omega, by omega⟩ ?_
                refine bw_iload rfl rfl ?_
                refine bw_idiv rfl (by omega) (by omega) ?_
                refine bw_ret rfl rfl ?_
                first
                | exact ⟨rfl, rfl, _, rfl, Or.inr ⟨by omega, rfl⟩⟩
                | exact ⟨rfl, rfl, _, rfl, Or.inl ⟨by omega, Or.inr ⟨_, _, vc, Or.inl ⟨by omega, rfl⟩⟩⟩⟩
                | exact ⟨rfl, rfl, _, rfl, Or.inl ⟨by omega, Or.inr ⟨_, _, vc, Or.inr (Or.inl ⟨by omega, rfl⟩)⟩⟩⟩
                | exact ⟨rfl, rfl, _, rfl, Or.inl ⟨by omega, Or.inr ⟨_, _, vc, Or.inr (Or.inr (Or.inl ⟨by omega, rfl⟩))⟩⟩⟩
                | exact ⟨rfl, rfl, _, rfl, Or.inl ⟨by omega, Or.inr ⟨_, _, vc, Or.inr (Or.inr (Or.inr ⟨by omega, by omega⟩))⟩⟩⟩
              · skip
                by_cases s65_3 : w = 3
                · refine bw_switch (t := 116) rfl (by rw [s65_3]; rfl) ?_
                  refine bw_aload rfl rfl ?_
                  refine bw_iload rfl rfl ?_
                  refine bw_iload rfl rfl ?_
                  refine bw_callSNe (e := d - 1) (as := [_, _, _]) rfl (by omega) rfl rfl (Nat.le_of_ble_eq_true rfl) (Nat.le_of_ble_eq_true rfl) (c_closes (z := 96) (n := gI M 568 0) (by decide) (kfa (L := L) (b := 12) (n := 6) (v := (20, 96)) (by decide) (by decide) ⟨by omega, by omega⟩) (by omega) (fun j j0 j1 => h.rv ⟨by omega, by omega⟩ ⟨j0, j1⟩) (by omega)) ?_
                  rw [clo_cg (by omega) hrow]
                  have ci := clo_in (mR M 0 l) r59 r31
                  refine bw_ifeq rfl (fun c124 => ?_) (fun c124 => ?_)
                  · skip
                    refine bw_push rfl ?_
                    refine bw_ret rfl rfl ?_
                    first
                    | exact ⟨rfl, rfl, _, rfl, Or.inr ⟨by omega, rfl⟩⟩
                    | exact ⟨rfl, rfl, _, rfl, Or.inl ⟨by omega, Or.inr ⟨_, _, vc, Or.inl ⟨by omega, rfl⟩⟩⟩⟩
                    | exact ⟨rfl, rfl, _, rfl, Or.inl ⟨by omega, Or.inr ⟨_, _, vc, Or.inr (Or.inl ⟨by omega, rfl⟩)⟩⟩⟩
                    | exact ⟨rfl, rfl, _, rfl, Or.inl ⟨by omega, Or.inr ⟨_, _, vc, Or.inr (Or.inr (Or.inl ⟨by omega, rfl⟩))⟩⟩⟩
                    | exact ⟨rfl, rfl, _, rfl, Or.inl ⟨by omega, Or.inr ⟨_, _, vc, Or.inr (Or.inr (Or.inr ⟨by omega, by omega⟩))⟩⟩⟩
                  · skip
                    refine bw_push rfl ?_
                    refine bw_goto rfl ?_
                    refine bw_ret rfl rfl ?_
                    first
                    | exact ⟨rfl, rfl, _, rfl, Or.inr ⟨by omega, rfl⟩⟩
                    | exact ⟨rfl, rfl, _, rfl, Or.inl ⟨by omega, Or.inr ⟨_, _, vc, Or.inl ⟨by omega, rfl⟩⟩⟩⟩
                    | exact ⟨rfl, rfl, _, rfl, Or.inl ⟨by omega, Or.inr ⟨_, _, vc, Or.inr (Or.inl ⟨by omega, rfl⟩)⟩⟩⟩
                    | exact ⟨rfl, rfl, _, rfl, Or.inl ⟨by omega, Or.inr ⟨_, _, vc, Or.inr (Or.inr (Or.inl ⟨by omega, rfl⟩))⟩⟩⟩
                    | exact ⟨rfl, rfl, _, rfl, Or.inl ⟨by omega, Or.inr ⟨_, _, vc, Or.inr (Or.inr (Or.inr ⟨by omega, by omega⟩))⟩⟩⟩
                · skip
                  refine bw_switch (t := 133) rfl (by show (if (w) < (0 : Int) ∨ (3 : Int) < (w) then _ else _) = _; rw [if_pos (by omega)]; rfl) ?_
                  refine bw_push rfl ?_
                  refine bw_ret rfl rfl ?_
                  first
                  | exact ⟨rfl, rfl, _, rfl, Or.inr ⟨by omega, rfl⟩⟩
                  | exact ⟨rfl, rfl, _, rfl, Or.inl ⟨by omega, Or.inr ⟨_, _, vc, Or.inl ⟨by omega, rfl⟩⟩⟩⟩
                  | exact ⟨rfl, rfl, _, rfl, Or.inl ⟨by omega, Or.inr ⟨_, _, vc, Or.inr (Or.inl ⟨by omega, rfl⟩)⟩⟩⟩
                  | exact ⟨rfl, rfl, _, rfl, Or.inl ⟨by omega, Or.inr ⟨_, _, vc, Or.inr (Or.inr (Or.inl ⟨by omega, rfl⟩))⟩⟩⟩
                  | exact ⟨rfl, rfl, _, rfl, Or.inl ⟨by omega, Or.inr ⟨_, _, vc, Or.inr (Or.inr (Or.inr ⟨by omega, by omega⟩))⟩⟩⟩
        · skip
          refine bw_push rfl ?_
          refine bw_ret rfl rfl ?_
          first
          | (exfalso; rcases v31 with q | q <;> omega)
          | (by_cases q : (0 ≤ l ∧ l < gI M 568 1) ∧ 0 ≤ w ∧ w ≤ 3
             · exact ⟨rfl, rfl, _, rfl, Or.inl ⟨q, Or.inl (v31.elim (fun z => ⟨noC_cg z.2 hrow, rfl⟩) (fun z => absurd z.1 (by omega)))⟩⟩
             · exact ⟨rfl, rfl, _, rfl, Or.inr ⟨q, rfl⟩⟩)
    · skip
      refine bw_push rfl ?_
      refine bw_ret rfl rfl ?_
      first
      | exact ⟨rfl, rfl, _, rfl, Or.inr ⟨by omega, rfl⟩⟩
      | exact ⟨rfl, rfl, _, rfl, Or.inl ⟨by omega, Or.inr ⟨_, _, vc, Or.inl ⟨by omega, rfl⟩⟩⟩⟩
      | exact ⟨rfl, rfl, _, rfl, Or.inl ⟨by omega, Or.inr ⟨_, _, vc, Or.inr (Or.inl ⟨by omega, rfl⟩)⟩⟩⟩
      | exact ⟨rfl, rfl, _, rfl, Or.inl ⟨by omega, Or.inr ⟨_, _, vc, Or.inr (Or.inr (Or.inl ⟨by omega, rfl⟩))⟩⟩⟩
      | exact ⟨rfl, rfl, _, rfl, Or.inl ⟨by omega, Or.inr ⟨_, _, vc, Or.inr (Or.inr (Or.inr ⟨by omega, by omega⟩))⟩⟩⟩
set_option maxRecDepth 20000 in
set_option maxHeartbeats 4000000 in
theorem x_shift {d L : Nat} {M : abMem} {r : abRf} (hR : RF r M) {s : Nat} (hs : s = 372 ∨ s = 459) (hc : cur r = s) {k : Int} (h : INV r M k) {l f w : Int} (hd : 2 ≤ d) : abW d (0, 0) 99 0 (abEnt (abL 99) [vr (some 0), vi l, vi f, vi w]) [] (0, 0) (A0 L) M (qE (some (vi (if 0 ≤ l ∧ l < gI M 568 1 ∧ 0 ≤ f ∧ f < gI M 568 0 ∧ 0 ≤ w ∧ w ≤ 1 then mv (gI M 568) l f w else -2147483648))) (A0 L) M) := by
  rcases hs with rfl | rfl
  · have hS : SR M 372 (gI M 568) := by have q := h.sr; rw [hc] at q; exact q
    have b1 := h.fr
    have b2 := h.la
    have hrf := hR
    show abW d (0, 0) 99 0 [some (vr (some 0)), some (vi l), some (vi f), some (vi w)] [] (0, 0) (A0 L) M (qE (some (vi (if 0 ≤ l ∧ l < gI M 568 1 ∧ 0 ≤ f ∧ f < gI M 568 0 ∧ 0 ≤ w ∧ w ≤ 1 then mv (gI M 568) l f w else -2147483648))) (A0 L) M)
    refine bw_aload rfl rfl ?_
    refine bw_iload rfl rfl ?_
    refine bw_iload rfl rfl ?_
    refine bw_callVj (e := d - 1) (as := [_, _]) rfl (by omega) rfl rfl (Nat.le_of_ble_eq_true rfl) (Nat.le_of_ble_eq_true rfl) rfl (c_hasPlace hR (by first | exact Or.inl rfl | exact Or.inr rfl) hc h (by omega)) (fun r3 hr3 => ?_)
    refine bw_ifne rfl (fun c6 => ?_) (fun c6 => ?_)
    · skip
      refine bw_iload rfl rfl ?_
      by_cases s13_0 : w = 0
      · refine bw_switch (t := 40) rfl (by rw [s13_0]; rfl) ?_
        refine bw_aload rfl rfl ?_
        refine bw_getr rfl rfl (cur_r hR hc) ?_
        refine bw_getr rfl rfl (hR _ _) ?_
        refine bw_iload rfl rfl ?_
        refine bw_aldr rfl (by first | rfl | assumption) (by decide) (by omega) (by omega) ((hR _ _).trans (rr_row (fun _ => rfl) (by omega) (by omega) (by omega))) ?_
        refine bw_iload rfl rfl ?_
        refine bw_aldi rfl (kfa (b := 390) (n := 6) (v := (20, 96)) (by decide) (by decide) ⟨by omega, by omega⟩) (by omega) (by omega) ?_
        rw [show gI M (390 + l.toNat) f = mv (gI M 568) l f w from by rw [s13_0]; exact hS.rt l f (by omega) (by omega) (by omega) (by omega)]
        refine bw_ret rfl rfl ?_
        exact ⟨congrArg (fun x => some (vi x)) (by first | rfl | ((repeat (first | rw [if_pos (by omega)] | rw [if_neg (by omega)])) <;> first | rfl | omega)), rfl, rfl⟩
      · skip
        by_cases s13_1 : w = 1
        · refine bw_switch (t := 52) rfl (by rw [s13_1]; rfl) ?_
          refine bw_aload rfl rfl ?_
          refine bw_getr rfl rfl (cur_r hR hc) ?_
          refine bw_getr rfl rfl (hR _ _) ?_
          refine bw_iload rfl rfl ?_
          refine bw_aldr rfl (by first | rfl | assumption) (by decide) (by omega) (by omega) ((hR _ _).trans (rr_row (fun _ => rfl) (by omega) (by omega) (by omega))) ?_
          refine bw_iload rfl rfl ?_
          refine bw_aldi rfl (kfa (b := 397) (n := 6) (v := (20, 96)) (by decide) (by decide) ⟨by omega, by omega⟩) (by omega) (by omega) ?_
          rw [show gI M (397 + l.toNat) f = mv (gI M 568) l f w from by rw [s13_1]; exact hS.dn l f (by omega) (by omega) (by omega) (by omega)]
          refine bw_ret rfl rfl ?_
          exact ⟨congrArg (fun x => some (vi x)) (by first | rfl | ((repeat (first | rw [if_pos (by omega)] | rw [if_neg (by omega)])) <;> first | rfl | omega)), rfl, rfl⟩
        · skip
          refine bw_switch (t := 64) rfl (by simp [abSwT, abSw, Op.lookupswitch.offset, s13_0, show ¬ ((0 : Int) = w) from fun h => s13_0 h.symm, s13_1, show ¬ ((1 : Int) = w) from fun h => s13_1 h.symm]) ?_
          refine bw_pushc rfl ?_
          refine bw_ret rfl rfl ?_
          exact ⟨congrArg (fun x => some (vi x)) (by first | rfl | ((repeat (first | rw [if_pos (by omega)] | rw [if_neg (by omega)])) <;> first | rfl | omega)), rfl, rfl⟩
    · skip
      refine bw_pushc rfl ?_
      refine bw_ret rfl rfl ?_
      exact ⟨congrArg (fun x => some (vi x)) (by first | rfl | ((repeat (first | rw [if_pos (by omega)] | rw [if_neg (by omega)])) <;> first | rfl | omega)), rfl, rfl⟩
  · have hS : SR M 459 (gI M 568) := by have q := h.sr; rw [hc] at q; exact q
    have b1 := h.fr
    have b2 := h.la
    have hrf := hR
    show abW d (0, 0) 99 0 [some (vr (some 0)), some (vi l), some (vi f), some (vi w)] [] (0, 0) (A0 L) M (qE (some (vi (if 0 ≤ l ∧ l < gI M 568 1 ∧ 0 ≤ f ∧ f < gI M 568 0 ∧ 0 ≤ w ∧ w ≤ 1 then mv (gI M 568) l f w else -2147483648))) (A0 L) M)
    refine bw_aload rfl rfl ?_
    refine bw_iload rfl rfl ?_
    refine bw_iload rfl rfl ?_
    refine bw_callVj (e := d - 1) (as := [_, _]) rfl (by omega) rfl rfl (Nat.le_of_ble_eq_true rfl) (Nat.le_of_ble_eq_true rfl) rfl (c_hasPlace hR (by first | exact Or.inl rfl | exact Or.inr rfl) hc h (by omega)) (fun r3 hr3 => ?_)
    refine bw_ifne rfl (fun c6 => ?_) (fun c6 => ?_)
    · skip
      refine bw_iload rfl rfl ?_
      by_cases s13_0 : w = 0
      · refine bw_switch (t := 40) rfl (by rw [s13_0]; rfl) ?_
        refine bw_aload rfl rfl ?_
        refine bw_getr rfl rfl (cur_r hR hc) ?_
        refine bw_getr rfl rfl (hR _ _) ?_
        refine bw_iload rfl rfl ?_
        refine bw_aldr rfl (by first | rfl | assumption) (by decide) (by omega) (by omega) ((hR _ _).trans (rr_row (fun _ => rfl) (by omega) (by omega) (by omega))) ?_
        refine bw_iload rfl rfl ?_
        refine bw_aldi rfl (kfa (b := 477) (n := 6) (v := (20, 96)) (by decide) (by decide) ⟨by omega, by omega⟩) (by omega) (by omega) ?_
        rw [show gI M (477 + l.toNat) f = mv (gI M 568) l f w from by rw [s13_0]; exact hS.rt l f (by omega) (by omega) (by omega) (by omega)]
        refine bw_ret rfl rfl ?_
        exact ⟨congrArg (fun x => some (vi x)) (by first | rfl | ((repeat (first | rw [if_pos (by omega)] | rw [if_neg (by omega)])) <;> first | rfl | omega)), rfl, rfl⟩
      · skip
        by_cases s13_1 : w = 1
        · refine bw_switch (t := 52) rfl (by rw [s13_1]; rfl) ?_
          refine bw_aload rfl rfl ?_
          refine bw_getr rfl rfl (cur_r hR hc) ?_
          refine bw_getr rfl rfl (hR _ _) ?_
          refine bw_iload rfl rfl ?_
          refine bw_aldr rfl (by first | rfl | assumption) (by decide) (by omega) (by omega) ((hR _ _).trans (rr_row (fun _ => rfl) (by omega) (by omega) (by omega))) ?_
          refine bw_iload rfl rfl ?_
          refine bw_aldi rfl (kfa (b := 484) (n := 6) (v := (20, 96)) (by decide) (by decide) ⟨by omega, by omega⟩) (by omega) (by omega) ?_
          rw [show gI M (484 + l.toNat) f = mv (gI M 568) l f w from by rw [s13_1]; exact hS.dn l f (by omega) (by omega) (by omega) (by omega)]
          refine bw_ret rfl rfl ?_
          exact ⟨congrArg (fun x => some (vi x)) (by first | rfl | ((repeat (first | rw [if_pos (by omega)] | rw [if_neg (by omega)])) <;> first | rfl | omega)), rfl, rfl⟩
        · skip
          refine bw_switch (t := 64) rfl (by simp [abSwT, abSw, Op.lookupswitch.offset, s13_0, show ¬ ((0 : Int) = w) from fun h => s13_0 h.symm, s13_1, show ¬ ((1 : Int) = w) from fun h => s13_1 h.symm]) ?_
          refine bw_pushc rfl ?_
          refine bw_ret rfl rfl ?_
          exact ⟨congrArg (fun x => some (vi x)) (by first | rfl | ((repeat (first | rw [if_pos (by omega)] | rw [if_neg (by omega)])) <;> first | rfl | omega)), rfl, rfl⟩
    · skip
      refine bw_pushc rfl ?_
      refine bw_ret rfl rfl ?_
      exact ⟨congrArg (fun x => some (vi x)) (by first | rfl | ((repeat (first | rw [if_pos (by omega)] | rw [if_neg (by omega)])) <;> first | rfl | omega)), rfl, rfl⟩
set_option maxRecDepth 20000 in
set_option maxHeartbeats 4000000 in
theorem x_hidden {d L : Nat} {M : abMem} {r : abRf} (hR : RF r M) {s : Nat} (hs : s = 372 ∨ s = 459) (hc : cur r = s) {k : Int} (h : INV r M k) {l f : Int} (hd : 2 ≤ d) : abW d (0, 0) 100 0 (abEnt (abL 100) [vr (some 0), vi l, vi f]) [] (0, 0) (A0 L) M (qJ (A0 L) M (fun x => (0 ≤ l ∧ l < gI M 568 1 ∧ 0 ≤ f ∧ f < gI M 568 0) ∧ (hid (gI M 568) l f ∧ x = 1 ∨ ¬ hid (gI M 568) l f ∧ x = 0) ∨ ¬ (0 ≤ l ∧ l < gI M 568 1 ∧ 0 ≤ f ∧ f < gI M 568 0) ∧ x = -1)) := by
  rcases hs with rfl | rfl
  · have hS : SR M 372 (gI M 568) := by have q := h.sr; rw [hc] at q; exact q
    have b1 := h.fr
    have b2 := h.la
    have hrf := hR
    show abW d (0, 0) 100 0 [some (vr (some 0)), some (vi l), some (vi f)] [] (0, 0) (A0 L) M (qJ (A0 L) M (fun x => (0 ≤ l ∧ l < gI M 568 1 ∧ 0 ≤ f ∧ f < gI M 568 0) ∧ (hid (gI M 568) l f ∧ x = 1 ∨ ¬ hid (gI M 568) l f ∧ x = 0) ∨ ¬ (0 ≤ l ∧ l < gI M 568 1 ∧ 0 ≤ f ∧ f < gI M 568 0) ∧ x = -1))
    refine bw_aload rfl rfl ?_
    refine bw_iload rfl rfl ?_
    refine bw_iload rfl rfl ?_
    refine bw_callVj (e := d - 1) (as := [_, _]) rfl (by omega) rfl rfl (Nat.le_of_ble_eq_true rfl) (Nat.le_of_ble_eq_true rfl) rfl (c_hasPlace hR (by first | exact Or.inl rfl | exact Or.inr rfl) hc h (by omega)) (fun r3 hr3 => ?_)
    refine bw_ifeq rfl (fun c6 => ?_) (fun c6 => ?_)
    · skip
      refine bw_push rfl ?_
      refine bw_ret rfl rfl ?_
      first
      | exact ⟨rfl, rfl, _, rfl, Or.inr ⟨by omega, rfl⟩⟩
      | exact ⟨rfl, rfl, _, rfl, Or.inl ⟨by omega, hv⟩⟩
    · skip
      refine bw_aload rfl rfl ?_
      refine bw_getr rfl rfl (cur_r hR hc) ?_
      refine bw_getr rfl rfl (hR _ _) ?_
      refine bw_iload rfl rfl ?_
      refine bw_aldr rfl (by first | rfl | assumption) (by decide) (by omega) (by omega) ((hR _ _).trans (rr_row (fun _ => rfl) (by omega) (by omega) (by omega))) ?_
      refine bw_iload rfl rfl ?_
      refine bw_aldi rfl (kfa (b := 404) (n := 6) (v := (20, 96)) (by decide) (by decide) ⟨by omega, by omega⟩) (by omega) (by omega) ?_
      have hv := hS.cv l f (by omega) (by omega) (by omega) (by omega)
      refine bw_goto rfl ?_
      refine bw_ret rfl rfl ?_
      first
      | exact ⟨rfl, rfl, _, rfl, Or.inr ⟨by omega, rfl⟩⟩
      | exact ⟨rfl, rfl, _, rfl, Or.inl ⟨by omega, hv⟩⟩
  · have hS : SR M 459 (gI M 568) := by have q := h.sr; rw [hc] at q; exact q
    have b1 := h.fr
    have b2 := h.la
    have hrf := hR
    show abW d (0, 0) 100 0 [some (vr (some 0)), some (vi l), some (vi f)] [] (0, 0) (A0 L) M (qJ (A0 L) M (fun x => (0 ≤ l ∧ l < gI M 568 1 ∧ 0 ≤ f ∧ f < gI M 568 0) ∧ (hid (gI M 568) l f ∧ x = 1 ∨ ¬ hid (gI M 568) l f ∧ x = 0) ∨ ¬ (0 ≤ l ∧ l < gI M 568 1 ∧ 0 ≤ f ∧ f < gI M 568 0) ∧ x = -1))
    refine bw_aload rfl rfl ?_
    refine bw_iload rfl rfl ?_
    refine bw_iload rfl rfl ?_
    refine bw_callVj (e := d - 1) (as := [_, _]) rfl (by omega) rfl rfl (Nat.le_of_ble_eq_true rfl) (Nat.le_of_ble_eq_true rfl) rfl (c_hasPlace hR (by first | exact Or.inl rfl | exact Or.inr rfl) hc h (by omega)) (fun r3 hr3 => ?_)
    refine bw_ifeq rfl (fun c6 => ?_) (fun c6 => ?_)
    · skip
      refine bw_push rfl ?_
      refine bw_ret rfl rfl ?_
      first
      | exact ⟨rfl, rfl, _, rfl, Or.inr ⟨by omega, rfl⟩⟩
      | exact ⟨rfl, rfl, _, rfl, Or.inl ⟨by omega, hv⟩⟩
    · skip
      refine bw_aload rfl rfl ?_
      refine bw_getr rfl rfl (cur_r hR hc) ?_
      refine bw_getr rfl rfl (hR _ _) ?_
      refine bw_iload rfl rfl ?_
      refine bw_aldr rfl (by first | rfl | assumption) (by decide) (by omega) (by omega) ((hR _ _).trans (rr_row (fun _ => rfl) (by omega) (by omega) (by omega))) ?_
      refine bw_iload rfl rfl ?_
      refine bw_aldi rfl (kfa (b := 491) (n := 6) (v := (20, 96)) (by decide) (by decide) ⟨by omega, by omega⟩) (by omega) (by omega) ?_
      have hv := hS.cv l f (by omega) (by omega) (by omega) (by omega)
      refine bw_goto rfl ?_
      refine bw_ret rfl rfl ?_
      first
      | exact ⟨rfl, rfl, _, rfl, Or.inr ⟨by omega, rfl⟩⟩
      | exact ⟨rfl, rfl, _, rfl, Or.inl ⟨by omega, hv⟩⟩
set_option maxRecDepth 20000 in
set_option maxHeartbeats 4000000 in
theorem x_changes {d L : Nat} {M : abMem} {r : abRf} (hR : RF r M) {s : Nat} (hs : s = 372 ∨ s = 459) (hc : cur r = s) {k : Int} (h : INV r M k) {f : Int} (hd : 1 ≤ d) : abW d (0, 0) 109 0 (abEnt (abL 109) [vr (some 0), vi f]) [] (0, 0) (A0 L) M (qE (some (vi (if 0 ≤ f ∧ f < gI M 568 0 then cN (pCh (mR M 0) f) (gI M 568 1).toNat else -1))) (A0 L) M) := by
  rcases hs with rfl | rfl
  · have hS : SR M 372 (gI M 568) := by have q := h.sr; rw [hc] at q; exact q
    have b1 := h.fr
    have b2 := h.la
    have hrf := hR
    have L17 : ∀ (kf : Nat) (c l : Int), (c = cN (pCh (mR M 0) f) l.toNat) → (0 ≤ l ∧ l ≤ gI M 568 1) → (0 ≤ f ∧ f < gI M 568 0) → ((gI M 568 1 - l).toNat) < kf → abW d (0, 0) 109 17 [some (vr (some 0)), some (vi f), some (vi c), some (vi l), none] [] (0, 0) (A0 L) (M) (qE (some (vi (if 0 ≤ f ∧ f < gI M 568 0 then cN (pCh (mR M 0) f) (gI M 568 1).toNat else -1))) (A0 L) M) := by
      intro kf
      induction kf with
      | zero => intro c l  g1 g2 g3 hm9; exact absurd hm9 (Nat.not_lt_zero _)
      | succ kf ih17 =>
        intro c l  g1 g2 g3 hm17
        have ih := ih17
        have b9 := cN_in (pCh (mR M 0) f) l.toNat
        refine bw_iload rfl rfl ?_
        refine bw_aload rfl rfl ?_
        refine bw_getr rfl rfl (cur_r hR hc) ?_
        refine bw_getI rfl rfl ?_
        rw [show gI M 372 2 = gI M 568 1 from hS.c2]
        refine bw_icge rfl (fun c25 => ?_) (fun c25 => ?_)
        · skip
          refine bw_iload rfl rfl ?_
          refine bw_ret rfl rfl ?_
          obtain rfl : l = gI M 568 1 := by omega
          exact ⟨by rw [if_pos g3, g1], rfl, rfl⟩
        · skip
          refine bw_iload rfl rfl ?_
          refine bw_ifne rfl (fun c29 => ?_) (fun c29 => ?_)
          · skip
            refine bw_aload rfl rfl ?_
            refine bw_getr rfl rfl (hR _ _) ?_
            refine bw_getr rfl rfl (hR _ _) ?_
            refine bw_iload rfl rfl ?_
            refine bw_aldr rfl (by first | rfl | assumption) (by decide) (by omega) (by omega) ((hR _ _).trans (rr_row (fun _ => rfl) (by omega) (by omega) (by omega))) ?_
            refine bw_iload rfl rfl ?_
            refine bw_push rfl ?_
            refine bw_isub rfl ⟨by omega, by omega⟩ ?_
            refine bw_aldi rfl (kfa (b := 12) (n := 6) (v := (20, 96)) (by decide) (by decide) ⟨by omega, by omega⟩) (by omega) (by omega) ?_
            rw [h.row ⟨by omega, by omega⟩ ⟨by omega, by omega⟩]
            refine bw_istore (ls2 := [_, _, _, _, _]) rfl rfl (Nat.le_of_ble_eq_true rfl) rfl ?_
            refine bw_aload rfl rfl ?_
            refine bw_getr rfl rfl (hR _ _) ?_
            refine bw_getr rfl rfl (hR _ _) ?_
            refine bw_iload rfl rfl ?_
            refine bw_aldr rfl (by first | rfl | assumption) (by decide) (by omega) (by omega) ((hR _ _).trans (rr_row (fun _ => rfl) (by omega) (by omega) (by omega))) ?_
            refine bw_iload rfl rfl ?_
            refine bw_aldi rfl (kfa (b := 12) (n := 6) (v := (20, 96)) (by decide) (by decide) ⟨by omega, by omega⟩) (by omega) (by omega) ?_
            rw [h.row ⟨by omega, by omega⟩ ⟨by omega, by omega⟩]
            refine bw_iload rfl rfl ?_
            refine bw_iceq rfl (fun c64 => ?_) (fun c64 => ?_)
            · skip
              refine bw_iinc (ls2 := [_, _, _, _, _]) rfl rfl rfl ⟨by omega, by omega⟩ rfl ?_
              refine bw_goto rfl ?_
              refine bw_forget (ls2 := [some (vr (some 0)), some (vi f), some (vi _), some (vi _), none]) ⟨rfl, rfl, rfl, rfl, trivial⟩ ?_
              first
              | exact ih _ _ (cN_f (by omega) g1 (decide_eq_false (by rw [if_pos (by omega)]; omega))) (by omega) g3 (by omega)
              | exact ih _ _ (cN_f (by omega) g1 (decide_eq_false (by rw [if_neg (by omega)]; omega))) (by omega) g3 (by omega)
              | exact ih _ _ (cN_t (by omega) g1 (decide_eq_true (by rw [if_pos (by omega)]; omega))) (by omega) g3 (by omega)
              | exact ih _ _ (cN_t (by omega) g1 (decide_eq_true (by rw [if_neg (by omega)]; omega))) (by omega) g3 (by omega)
            · skip
              refine bw_iinc (ls2 := [_, _, _, _, _]) rfl rfl rfl ⟨by omega, by omega⟩ rfl ?_
              refine bw_iinc (ls2 := [_, _, _, _, _]) rfl rfl rfl ⟨by omega, by omega⟩ rfl ?_
              refine bw_goto rfl ?_
              refine bw_forget (ls2 := [some (vr (some 0)), some (vi f), some (vi _), some (vi _), none]) ⟨rfl, rfl, rfl, rfl, trivial⟩ ?_
              first
              | exact ih _ _ (cN_f (by omega) g1 (decide_eq_false (by rw [if_pos (by omega)]; omega))) (by omega) g3 (by omega)
              | exact ih _ _ (cN_f (by omega) g1 (decide_eq_false (by rw [if_neg (by omega)]; omega))) (by omega) g3 (by omega)
              | exact ih _ _ (cN_t (by omega) g1 (decide_eq_true (by rw [if_pos (by omega)]; omega))) (by omega) g3 (by omega)
              | exact ih _ _ (cN_t (by omega) g1 (decide_eq_true (by rw [if_neg (by omega)]; omega))) (by omega) g3 (by omega)
          · skip
            refine bw_push rfl ?_
            refine bw_goto rfl ?_
            refine bw_istore (ls2 := [_, _, _, _, _]) rfl rfl (Nat.le_of_ble_eq_true rfl) rfl ?_
            refine bw_aload rfl rfl ?_
            refine bw_getr rfl rfl (hR _ _) ?_
            refine bw_getr rfl rfl (hR _ _) ?_
            refine bw_iload rfl rfl ?_
            refine bw_aldr rfl (by first | rfl | assumption) (by decide) (by omega) (by omega) ((hR _ _).trans (rr_row (fun _ => rfl) (by omega) (by omega) (by omega))) ?_
            refine bw_iload rfl rfl ?_
            refine bw_aldi rfl (kfa (b := 12) (n := 6) (v := (20, 96)) (by decide) (by decide) ⟨by omega, by omega⟩) (by omega) (by omega) ?_
            rw [h.row ⟨by omega, by omega⟩ ⟨by omega, by omega⟩]
            refine bw_iload rfl rfl ?_
            refine bw_iceq rfl (fun c64 => ?_) (fun c64 => ?_)
            · skip
              refine bw_iinc (ls2 := [_, _, _, _, _]) rfl rfl rfl ⟨by omega, by omega⟩ rfl ?_
              refine bw_goto rfl ?_
              refine bw_forget (ls2 := [some (vr (some 0)), some (vi f), some (vi _), some (vi _), none]) ⟨rfl, rfl, rfl, rfl, trivial⟩ ?_
              first
              | exact ih _ _ (cN_f (by omega) g1 (decide_eq_false (by rw [if_pos (by omega)]; omega))) (by omega) g3 (by omega)
              | exact ih _ _ (cN_f (by omega) g1 (decide_eq_false (by rw [if_neg (by omega)]; omega))) (by omega) g3 (by omega)
              | exact ih _ _ (cN_t (by omega) g1 (decide_eq_true (by rw [if_pos (by omega)]; omega))) (by omega) g3 (by omega)
              | exact ih _ _ (cN_t (by omega) g1 (decide_eq_true (by rw [if_neg (by omega)]; omega))) (by omega) g3 (by omega)
            · skip
              refine bw_iinc (ls2 := [_, _, _, _, _]) rfl rfl rfl ⟨by omega, by omega⟩ rfl ?_
              refine bw_iinc (ls2 := [_, _, _, _, _]) rfl rfl rfl ⟨by omega, by omega⟩ rfl ?_
              refine bw_goto rfl ?_
              refine bw_forget (ls2 := [some (vr (some 0)), some (vi f), some (vi _), some (vi _), none]) ⟨rfl, rfl, rfl, rfl, trivial⟩ ?_
              first
              | exact ih _ _ (cN_f (by omega) g1 (decide_eq_false (by rw [if_pos (by omega)]; omega))) (by omega) g3 (by omega)
              | exact ih _ _ (cN_f (by omega) g1 (decide_eq_false (by rw [if_neg (by omega)]; omega))) (by omega) g3 (by omega)
              | exact ih _ _ (cN_t (by omega) g1 (decide_eq_true (by rw [if_pos (by omega)]; omega))) (by omega) g3 (by omega)
              | exact ih _ _ (cN_t (by omega) g1 (decide_eq_true (by rw [if_neg (by omega)]; omega))) (by omega) g3 (by omega)
    show abW d (0, 0) 109 0 [some (vr (some 0)), some (vi f), none, none, none] [] (0, 0) (A0 L) M (qE (some (vi (if 0 ≤ f ∧ f < gI M 568 0 then cN (pCh (mR M 0) f) (gI M 568 1).toNat else -1))) (A0 L) M)
    refine bw_aload rfl rfl ?_
    refine bw_getr rfl rfl (cur_r hR hc) ?_
    refine bw_iload rfl rfl ?_
    refine bw_callVNj (e := d - 1) (as := [_]) rfl (by omega) rfl rfl (Nat.le_of_ble_eq_true rfl) (Nat.le_of_ble_eq_true rfl) rfl (c_hasFrame hR (by first | exact Or.inl rfl | exact Or.inr rfl) hS) (fun r5 hr5 => ?_)
    refine bw_ifne rfl (fun c8 => ?_) (fun c8 => ?_)
    · skip
      refine bw_push rfl ?_
      refine bw_istore (ls2 := [_, _, _, _, _]) rfl rfl (Nat.le_of_ble_eq_true rfl) rfl ?_
      refine bw_push rfl ?_
      refine bw_istore (ls2 := [_, _, _, _, _]) rfl rfl (Nat.le_of_ble_eq_true rfl) rfl ?_
      exact L17 8 0 0 rfl (by omega) (by omega) (by omega)
    · skip
      refine bw_push rfl ?_
      refine bw_ret rfl rfl ?_
      exact ⟨congrArg (fun x => some (vi x)) (by first | rfl | ((repeat (first | rw [if_pos (by omega)] | rw [if_neg (by omega)])) <;> first | rfl | omega)), rfl, rfl⟩
  · have hS : SR M 459 (gI M 568) := by have q := h.sr; rw [hc] at q; exact q
    have b1 := h.fr
    have b2 := h.la
    have hrf := hR
    have L17 : ∀ (kf : Nat) (c l : Int), (c = cN (pCh (mR M 0) f) l.toNat) → (0 ≤ l ∧ l ≤ gI M 568 1) → (0 ≤ f ∧ f < gI M 568 0) → ((gI M 568 1 - l).toNat) < kf → abW d (0, 0) 109 17 [some (vr (some 0)), some (vi f), some (vi c), some (vi l), none] [] (0, 0) (A0 L) (M) (qE (some (vi (if 0 ≤ f ∧ f < gI M 568 0 then cN (pCh (mR M 0) f) (gI M 568 1).toNat else -1))) (A0 L) M) := by
      intro kf
      induction kf with
      | zero => intro c l  g1 g2 g3 hm9; exact absurd hm9 (Nat.not_lt_zero _)
      | succ kf ih17 =>
        intro c l  g1 g2 g3 hm17
        have ih := ih17
        have b9 := cN_in (pCh (mR M 0) f) l.toNat
        refine bw_iload rfl rfl ?_
        refine bw_aload rfl rfl ?_
        refine bw_getr rfl rfl (cur_r hR hc) ?_
        refine bw_getI rfl rfl ?_
        rw [show gI M 459 2 = gI M 568 1 from hS.c2]
        refine bw_icge rfl (fun c25 => ?_) (fun c25 => ?_)
        · skip
          refine bw_iload rfl rfl ?_
          refine bw_ret rfl rfl ?_
          obtain rfl : l = gI M 568 1 := by omega
          exact ⟨by rw [if_pos g3, g1], rfl, rfl⟩
        · skip
          refine bw_iload rfl rfl ?_
          refine bw_ifne rfl (fun c29 => ?_) (fun c29 => ?_)
          · skip
            refine bw_aload rfl rfl ?_
            refine bw_getr rfl rfl (hR _ _) ?_
            refine bw_getr rfl rfl (hR _ _) ?_
            refine bw_iload rfl rfl ?_
            refine bw_aldr rfl (by first | rfl | assumption) (by decide) (by omega) (by omega) ((hR _ _).trans (rr_row (fun _ => rfl) (by omega) (by omega) (by omega))) ?_
            refine bw_iload rfl rfl ?_
            refine bw_push rfl ?_
            refine bw_isub rfl ⟨by omega, by omega⟩ ?_
            refine bw_aldi rfl (kfa (b := 12) (n := 6) (v := (20, 96)) (by decide) (by decide) ⟨by omega, by omega⟩) (by omega) (by omega) ?_
            rw [h.row ⟨by omega, by omega⟩ ⟨by omega, by omega⟩]
            refine bw_istore (ls2 := [_, _, _, _, _]) rfl rfl (Nat.le_of_ble_eq_true rfl) rfl ?_
            refine bw_aload rfl rfl ?_
            refine bw_getr rfl rfl (hR _ _) ?_
            refine bw_getr rfl rfl (hR _ _) ?_
            refine bw_iload rfl rfl ?_
            refine bw_aldr rfl (by first | rfl | assumption) (by decide) (by omega) (by omega) ((hR _ _).trans (rr_row (fun _ => rfl) (by omega) (by omega) (by omega))) ?_
            refine bw_iload rfl rfl ?_
            refine bw_aldi rfl (kfa (b := 12) (n := 6) (v := (20, 96)) (by decide) (by decide) ⟨by omega, by omega⟩) (by omega) (by omega) ?_
            rw [h.row ⟨by omega, by omega⟩ ⟨by omega, by omega⟩]
            refine bw_iload rfl rfl ?_
            refine bw_iceq rfl (fun c64 => ?_) (fun c64 => ?_)
            · skip
              refine bw_iinc (ls2 := [_, _, _, _, _]) rfl rfl rfl ⟨by omega, by omega⟩ rfl ?_
              refine bw_goto rfl ?_
              refine bw_forget (ls2 := [some (vr (some 0)), some (vi f), some (vi _), some (vi _), none]) ⟨rfl, rfl, rfl, rfl, trivial⟩ ?_
              first
              | exact ih _ _ (cN_f (by omega) g1 (decide_eq_false (by rw [if_pos (by omega)]; omega))) (by omega) g3 (by omega)
              | exact ih _ _ (cN_f (by omega) g1 (decide_eq_false (by rw [if_neg (by omega)]; omega))) (by omega) g3 (by omega)
              | exact ih _ _ (cN_t (by omega) g1 (decide_eq_true (by rw [if_pos (by omega)]; omega))) (by omega) g3 (by omega)
              | exact ih _ _ (cN_t (by omega) g1 (decide_eq_true (by rw [if_neg (by omega)]; omega))) (by omega) g3 (by omega)
            · skip
              refine bw_iinc (ls2 := [_, _, _, _, _]) rfl rfl rfl ⟨by omega, by omega⟩ rfl ?_
              refine bw_iinc (ls2 := [_, _, _, _, _]) rfl rfl rfl ⟨by omega, by omega⟩ rfl ?_
              refine bw_goto rfl ?_
              refine bw_forget (ls2 := [some (vr (some 0)), some (vi f), some (vi _), some (vi _), none]) ⟨rfl, rfl, rfl, rfl, trivial⟩ ?_
              first
              | exact ih _ _ (cN_f (by omega) g1 (decide_eq_false (by rw [if_pos (by omega)]; omega))) (by omega) g3 (by omega)
              | exact ih _ _ (cN_f (by omega) g1 (decide_eq_false (by rw [if_neg (by omega)]; omega))) (by omega) g3 (by omega)
              | exact ih _ _ (cN_t (by omega) g1 (decide_eq_true (by rw [if_pos (by omega)]; omega))) (by omega) g3 (by omega)
              | exact ih _ _ (cN_t (by omega) g1 (decide_eq_true (by rw [if_neg (by omega)]; omega))) (by omega) g3 (by omega)
          · skip
            refine bw_push rfl ?_
            refine bw_goto rfl ?_
            refine bw_istore (ls2 := [_, _, _, _, _]) rfl rfl (Nat.le_of_ble_eq_true rfl) rfl ?_
            refine bw_aload rfl rfl ?_
            refine bw_getr rfl rfl (hR _ _) ?_
            refine bw_getr rfl rfl (hR _ _) ?_
            refine bw_iload rfl rfl ?_
            refine bw_aldr rfl (by first | rfl | assumption) (by decide) (by omega) (by omega) ((hR _ _).trans (rr_row (fun _ => rfl) (by omega) (by omega) (by omega))) ?_
            refine bw_iload rfl rfl ?_
            refine bw_aldi rfl (kfa (b := 12) (n := 6) (v := (20, 96)) (by decide) (by decide) ⟨by omega, by omega⟩) (by omega) (by omega) ?_
            rw [h.row ⟨by omega, by omega⟩ ⟨by omega, by omega⟩]
            refine bw_iload rfl rfl ?_
            refine bw_iceq rfl (fun c64 => ?_) (fun c64 => ?_)
            · skip
              refine bw_iinc (ls2 := [_, _, _, _, _]) rfl rfl rfl ⟨by omega, by omega⟩ rfl ?_
              refine bw_goto rfl ?_
              refine bw_forget (ls2 := [some (vr (some 0)), some (vi f), some (vi _), some (vi _), none]) ⟨rfl, rfl, rfl, rfl, trivial⟩ ?_
              first
              | exact ih _ _ (cN_f (by omega) g1 (decide_eq_false (by rw [if_pos (by omega)]; omega))) (by omega) g3 (by omega)
              | exact ih _ _ (cN_f (by omega) g1 (decide_eq_false (by rw [if_neg (by omega)]; omega))) (by omega) g3 (by omega)
              | exact ih _ _ (cN_t (by omega) g1 (decide_eq_true (by rw [if_pos (by omega)]; omega))) (by omega) g3 (by omega)
              | exact ih _ _ (cN_t (by omega) g1 (decide_eq_true (by rw [if_neg (by omega)]; omega))) (by omega) g3 (by omega)
            · skip
              refine bw_iinc (ls2 := [_, _, _, _, _]) rfl rfl rfl ⟨by omega, by omega⟩ rfl ?_
              refine bw_iinc (ls2 := [_, _, _, _, _]) rfl rfl rfl ⟨by omega, by omega⟩ rfl ?_
              refine bw_goto rfl ?_
              refine bw_forget (ls2 := [some (vr (some 0)), some (vi f), some (vi _), some (vi _), none]) ⟨rfl, rfl, rfl, rfl, trivial⟩ ?_
              first
              | exact ih _ _ (cN_f (by omega) g1 (decide_eq_false (by rw [if_pos (by omega)]; omega))) (by omega) g3 (by omega)
              | exact ih _ _ (cN_f (by omega) g1 (decide_eq_false (by rw [if_neg (by omega)]; omega))) (by omega) g3 (by omega)
              | exact ih _ _ (cN_t (by omega) g1 (decide_eq_true (by rw [if_pos (by omega)]; omega))) (by omega) g3 (by omega)
              | exact ih _ _ (cN_t (by omega) g1 (decide_eq_true (by rw [if_neg (by omega)]; omega))) (by omega) g3 (by omega)
    show abW d (0, 0) 109 0 [some (vr (some 0)), some (vi f), none, none, none] [] (0, 0) (A0 L) M (qE (some (vi (if 0 ≤ f ∧ f < gI M 568 0 then cN (pCh (mR M 0) f) (gI M 568 1).toNat else -1))) (A0 L) M)
    refine bw_aload rfl rfl ?_
    refine bw_getr rfl rfl (cur_r hR hc) ?_
    refine bw_iload rfl rfl ?_
    refine bw_callVNj (e := d - 1) (as := [_]) rfl (by omega) rfl rfl (Nat.le_of_ble_eq_true rfl) (Nat.le_of_ble_eq_true rfl) rfl (c_hasFrame hR (by first | exact Or.inl rfl | exact Or.inr rfl) hS) (fun r5 hr5 => ?_)
    refine bw_ifne rfl (fun c8 => ?_) (fun c8 => ?_)
    · skip
      refine bw_push rfl ?_
      refine bw_istore (ls2 := [_, _, _, _, _]) rfl rfl (Nat.le_of_ble_eq_true rfl) rfl ?_
      refine bw_push rfl ?_
      refine bw_istore (ls2 := [_, _, _, _, _]) rfl rfl (Nat.le_of_ble_eq_true rfl) rfl ?_
      exact L17 8 0 0 rfl (by omega) (by omega) (by omega)
    · skip
      refine bw_push rfl ?_
      refine bw_ret rfl rfl ?_
      exact ⟨congrArg (fun x => some (vi x)) (by first | rfl | ((repeat (first | rw [if_pos (by omega)] | rw [if_neg (by omega)])) <;> first | rfl | omega)), rfl, rfl⟩
