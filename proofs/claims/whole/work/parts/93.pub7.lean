set_option maxRecDepth 20000 in
set_option maxHeartbeats 4000000 in
theorem c_firstWith {d L : Nat} {M : abMem} {r : abRf} (hR : RF r M) {s : Nat} (hs : s = 372 ∨ s = 459) (hc : cur r = s) {k : Int} (h : INV r M k) {z : Int} : abW d (0, 0) 133 0 (abEnt (abL 133) [vr (some 0), vi z]) [] (0, 0) (A0 L) M (qJ (A0 L) M (fun x => (x = -1 ∧ ∀ j : Int, 0 ≤ j → j < gI M 568 0 → gI M 548 j ≠ z) ∨ ((0 ≤ x ∧ x < gI M 568 0) ∧ gI M 548 x = z ∧ ∀ j : Int, 0 ≤ j → j < x → gI M 548 j ≠ z))) := by
  rcases hs with rfl | rfl
  · have hS : SR M 372 (gI M 568) := by have q := h.sr; rw [hc] at q; exact q
    have b1 := h.fr
    have b2 := h.la
    have hrf := hR
    have L2 : ∀ (kf : Nat) (f : Int), (0 ≤ f ∧ f ≤ gI M 568 0) → (∀ j : Int, 0 ≤ j → j < f → gI M 548 j ≠ z) → ((gI M 568 0 - f).toNat) < kf → abW d (0, 0) 133 2 [some (vr (some 0)), some (vi z), some (vi f)] [] (0, 0) (A0 L) (M) (qJ (A0 L) M (fun x => (x = -1 ∧ ∀ j : Int, 0 ≤ j → j < gI M 568 0 → gI M 548 j ≠ z) ∨ ((0 ≤ x ∧ x < gI M 568 0) ∧ gI M 548 x = z ∧ ∀ j : Int, 0 ≤ j → j < x → gI M 548 j ≠ z))) := by
      intro kf
      induction kf with
      | zero => intro f  g1 g2 hm9; exact absurd hm9 (Nat.not_lt_zero _)
      | succ kf ih2 =>
        intro f  g1 g2 hm2
        have ih := ih2
        refine bw_iload rfl rfl ?_
        refine bw_aload rfl rfl ?_
        refine bw_getr rfl rfl (cur_r hR hc) ?_
        refine bw_getI rfl rfl ?_
        rw [show gI M 372 0 = gI M 568 0 from hS.c0]
        refine bw_icge rfl (fun c10 => ?_) (fun c10 => ?_)
        · skip
          refine bw_push rfl ?_
          refine bw_ret rfl rfl ?_
          exact ⟨rfl, rfl, _, rfl, Or.inl ⟨rfl, fun j j0 j1 => g2 j j0 (by omega)⟩⟩
        · skip
          refine bw_aload rfl rfl ?_
          refine bw_getr rfl rfl (hR _ _) ?_
          refine bw_iload rfl rfl ?_
          refine bw_aldi rfl (by first | rfl | assumption) (by omega) (by omega) ?_
          refine bw_iload rfl rfl ?_
          refine bw_icne rfl (fun c20 => ?_) (fun c20 => ?_)
          · skip
            refine bw_iinc (ls2 := [_, _, _]) rfl rfl rfl ⟨by omega, by omega⟩ rfl ?_
            refine bw_goto rfl ?_
            refine ih _ (by omega) (fun j j0 j1 => ?_) (by omega)
            by_cases q : j = f
            · rw [q]; assumption
            · exact g2 j j0 (by omega)
          · skip
            refine bw_iload rfl rfl ?_
            refine bw_ret rfl rfl ?_
            exact ⟨rfl, rfl, _, rfl, Or.inr ⟨by omega, by omega, g2⟩⟩
    show abW d (0, 0) 133 0 [some (vr (some 0)), some (vi z), none] [] (0, 0) (A0 L) M (qJ (A0 L) M (fun x => (x = -1 ∧ ∀ j : Int, 0 ≤ j → j < gI M 568 0 → gI M 548 j ≠ z) ∨ ((0 ≤ x ∧ x < gI M 568 0) ∧ gI M 548 x = z ∧ ∀ j : Int, 0 ≤ j → j < x → gI M 548 j ≠ z)))
    refine bw_push rfl ?_
    refine bw_istore (ls2 := [_, _, _]) rfl rfl (Nat.le_of_ble_eq_true rfl) rfl ?_
    exact L2 98 0 (by omega) (fun j j0 j1 => by omega) (by omega)
  · have hS : SR M 459 (gI M 568) := by have q := h.sr; rw [hc] at q; exact q
    have b1 := h.fr
    have b2 := h.la
    have hrf := hR
    have L2 : ∀ (kf : Nat) (f : Int), (0 ≤ f ∧ f ≤ gI M 568 0) → (∀ j : Int, 0 ≤ j → j < f → gI M 548 j ≠ z) → ((gI M 568 0 - f).toNat) < kf → abW d (0, 0) 133 2 [some (vr (some 0)), some (vi z), some (vi f)] [] (0, 0) (A0 L) (M) (qJ (A0 L) M (fun x => (x = -1 ∧ ∀ j : Int, 0 ≤ j → j < gI M 568 0 → gI M 548 j ≠ z) ∨ ((0 ≤ x ∧ x < gI M 568 0) ∧ gI M 548 x = z ∧ ∀ j : Int, 0 ≤ j → j < x → gI M 548 j ≠ z))) := by
      intro kf
      induction kf with
      | zero => intro f  g1 g2 hm9; exact absurd hm9 (Nat.not_lt_zero _)
      | succ kf ih2 =>
        intro f  g1 g2 hm2
        have ih := ih2
        refine bw_iload rfl rfl ?_
        refine bw_aload rfl rfl ?_
        refine bw_getr rfl rfl (cur_r hR hc) ?_
        refine bw_getI rfl rfl ?_
        rw [show gI M 459 0 = gI M 568 0 from hS.c0]
        refine bw_icge rfl (fun c10 => ?_) (fun c10 => ?_)
        · skip
          refine bw_push rfl ?_
          refine bw_ret rfl rfl ?_
          exact ⟨rfl, rfl, _, rfl, Or.inl ⟨rfl, fun j j0 j1 => g2 j j0 (by omega)⟩⟩
        · skip
          refine bw_aload rfl rfl ?_
          refine bw_getr rfl rfl (hR _ _) ?_
          refine bw_iload rfl rfl ?_
          refine bw_aldi rfl (by first | rfl | assumption) (by omega) (by omega) ?_
          refine bw_iload rfl rfl ?_
          refine bw_icne rfl (fun c20 => ?_) (fun c20 => ?_)
          · skip
            refine bw_iinc (ls2 := [_, _, _]) rfl rfl rfl ⟨by omega, by omega⟩ rfl ?_
            refine bw_goto rfl ?_
            refine ih _ (by omega) (fun j j0 j1 => ?_) (by omega)
            by_cases q : j = f
            · rw [q]; assumption
            · exact g2 j j0 (by omega)
          · skip
            refine bw_iload rfl rfl ?_
            refine bw_ret rfl rfl ?_
            exact ⟨rfl, rfl, _, rfl, Or.inr ⟨by omega, by omega, g2⟩⟩
    show abW d (0, 0) 133 0 [some (vr (some 0)), some (vi z), none] [] (0, 0) (A0 L) M (qJ (A0 L) M (fun x => (x = -1 ∧ ∀ j : Int, 0 ≤ j → j < gI M 568 0 → gI M 548 j ≠ z) ∨ ((0 ≤ x ∧ x < gI M 568 0) ∧ gI M 548 x = z ∧ ∀ j : Int, 0 ≤ j → j < x → gI M 548 j ≠ z)))
    refine bw_push rfl ?_
    refine bw_istore (ls2 := [_, _, _]) rfl rfl (Nat.le_of_ble_eq_true rfl) rfl ?_
    exact L2 98 0 (by omega) (fun j j0 j1 => by omega) (by omega)
set_option maxRecDepth 20000 in
set_option maxHeartbeats 4000000 in
theorem c_framesWith {d L : Nat} {M : abMem} {r : abRf} (hR : RF r M) {s : Nat} (hs : s = 372 ∨ s = 459) (hc : cur r = s) {k : Int} (h : INV r M k) {z : Int} : abW d (0, 0) 134 0 (abEnt (abL 134) [vr (some 0), vi z]) [] (0, 0) (A0 L) M (qE (some (vi (cN (fun j => decide (gI M 548 j = z)) (gI M 568 0).toNat))) (A0 L) M) := by
  rcases hs with rfl | rfl
  · have hS : SR M 372 (gI M 568) := by have q := h.sr; rw [hc] at q; exact q
    have b1 := h.fr
    have b2 := h.la
    have hrf := hR
    have L4 : ∀ (kf : Nat) (c f : Int), (c = cN (fun j => decide (gI M 548 j = z)) f.toNat) → (0 ≤ f ∧ f ≤ gI M 568 0) → ((gI M 568 0 - f).toNat) < kf → abW d (0, 0) 134 4 [some (vr (some 0)), some (vi z), some (vi c), some (vi f)] [] (0, 0) (A0 L) (M) (qE (some (vi (cN (fun j => decide (gI M 548 j = z)) (gI M 568 0).toNat))) (A0 L) M) := by
      intro kf
      induction kf with
      | zero => intro c f  g1 g2 hm9; exact absurd hm9 (Nat.not_lt_zero _)
      | succ kf ih4 =>
        intro c f  g1 g2 hm4
        have ih := ih4
        have b9 := cN_in (fun j => decide (gI M 548 j = z)) f.toNat
        refine bw_iload rfl rfl ?_
        refine bw_aload rfl rfl ?_
        refine bw_getr rfl rfl (cur_r hR hc) ?_
        refine bw_getI rfl rfl ?_
        rw [show gI M 372 0 = gI M 568 0 from hS.c0]
        refine bw_icge rfl (fun c12 => ?_) (fun c12 => ?_)
        · skip
          refine bw_iload rfl rfl ?_
          refine bw_ret rfl rfl ?_
          obtain rfl : f = gI M 568 0 := by omega
          exact ⟨by rw [g1], rfl, rfl⟩
        · skip
          refine bw_aload rfl rfl ?_
          refine bw_getr rfl rfl (hR _ _) ?_
          refine bw_iload rfl rfl ?_
          refine bw_aldi rfl (by first | rfl | assumption) (by omega) (by omega) ?_
          refine bw_iload rfl rfl ?_
          refine bw_icne rfl (fun c22 => ?_) (fun c22 => ?_)
          · skip
            refine bw_iinc (ls2 := [_, _, _, _]) rfl rfl rfl ⟨by omega, by omega⟩ rfl ?_
            refine bw_goto rfl ?_
            first
            | exact ih _ _ (cN_t (by omega) g1 (decide_eq_true (by omega))) (by omega) (by omega)
            | exact ih _ _ (cN_f (by omega) g1 (decide_eq_false (by omega))) (by omega) (by omega)
          · skip
            refine bw_iinc (ls2 := [_, _, _, _]) rfl rfl rfl ⟨by omega, by omega⟩ rfl ?_
            refine bw_iinc (ls2 := [_, _, _, _]) rfl rfl rfl ⟨by omega, by omega⟩ rfl ?_
            refine bw_goto rfl ?_
            first
            | exact ih _ _ (cN_t (by omega) g1 (decide_eq_true (by omega))) (by omega) (by omega)
            | exact ih _ _ (cN_f (by omega) g1 (decide_eq_false (by omega))) (by omega) (by omega)
    show abW d (0, 0) 134 0 [some (vr (some 0)), some (vi z), none, none] [] (0, 0) (A0 L) M (qE (some (vi (cN (fun j => decide (gI M 548 j = z)) (gI M 568 0).toNat))) (A0 L) M)
    refine bw_push rfl ?_
    refine bw_istore (ls2 := [_, _, _, _]) rfl rfl (Nat.le_of_ble_eq_true rfl) rfl ?_
    refine bw_push rfl ?_
    refine bw_istore (ls2 := [_, _, _, _]) rfl rfl (Nat.le_of_ble_eq_true rfl) rfl ?_
    exact L4 98 0 0 rfl (by omega) (by omega)
  · have hS : SR M 459 (gI M 568) := by have q := h.sr; rw [hc] at q; exact q
    have b1 := h.fr
    have b2 := h.la
    have hrf := hR
    have L4 : ∀ (kf : Nat) (c f : Int), (c = cN (fun j => decide (gI M 548 j = z)) f.toNat) → (0 ≤ f ∧ f ≤ gI M 568 0) → ((gI M 568 0 - f).toNat) < kf → abW d (0, 0) 134 4 [some (vr (some 0)), some (vi z), some (vi c), some (vi f)] [] (0, 0) (A0 L) (M) (qE (some (vi (cN (fun j => decide (gI M 548 j = z)) (gI M 568 0).toNat))) (A0 L) M) := by
      intro kf
      induction kf with
      | zero => intro c f  g1 g2 hm9; exact absurd hm9 (Nat.not_lt_zero _)
      | succ kf ih4 =>
        intro c f  g1 g2 hm4
        have ih := ih4
        have b9 := cN_in (fun j => decide (gI M 548 j = z)) f.toNat
        refine bw_iload rfl rfl ?_
        refine bw_aload rfl rfl ?_
        refine bw_getr rfl rfl (cur_r hR hc) ?_
        refine bw_getI rfl rfl ?_
        rw [show gI M 459 0 = gI M 568 0 from hS.c0]
        refine bw_icge rfl (fun c12 => ?_) (fun c12 => ?_)
        · skip
          refine bw_iload rfl rfl ?_
          refine bw_ret rfl rfl ?_
          obtain rfl : f = gI M 568 0 := by omega
          exact ⟨by rw [g1], rfl, rfl⟩
        · skip
          refine bw_aload rfl rfl ?_
          refine bw_getr rfl rfl (hR _ _) ?_
          refine bw_iload rfl rfl ?_
          refine bw_aldi rfl (by first | rfl | assumption) (by omega) (by omega) ?_
          refine bw_iload rfl rfl ?_
          refine bw_icne rfl (fun c22 => ?_) (fun c22 => ?_)
          · skip
            refine bw_iinc (ls2 := [_, _, _, _]) rfl rfl rfl ⟨by omega, by omega⟩ rfl ?_
            refine bw_goto rfl ?_
            first
            | exact ih _ _ (cN_t (by omega) g1 (decide_eq_true (by omega))) (by omega) (by omega)
            | exact ih _ _ (cN_f (by omega) g1 (decide_eq_false (by omega))) (by omega) (by omega)
          · skip
            refine bw_iinc (ls2 := [_, _, _, _]) rfl rfl rfl ⟨by omega, by omega⟩ rfl ?_
            refine bw_iinc (ls2 := [_, _, _, _]) rfl rfl rfl ⟨by omega, by omega⟩ rfl ?_
            refine bw_goto rfl ?_
            first
            | exact ih _ _ (cN_t (by omega) g1 (decide_eq_true (by omega))) (by omega) (by omega)
            | exact ih _ _ (cN_f (by omega) g1 (decide_eq_false (by omega))) (by omega) (by omega)
    show abW d (0, 0) 134 0 [some (vr (some 0)), some (vi z), none, none] [] (0, 0) (A0 L) M (qE (some (vi (cN (fun j => decide (gI M 548 j = z)) (gI M 568 0).toNat))) (A0 L) M)
    refine bw_push rfl ?_
    refine bw_istore (ls2 := [_, _, _, _]) rfl rfl (Nat.le_of_ble_eq_true rfl) rfl ?_
    refine bw_push rfl ?_
    refine bw_istore (ls2 := [_, _, _, _]) rfl rfl (Nat.le_of_ble_eq_true rfl) rfl ?_
    exact L4 98 0 0 rfl (by omega) (by omega)
set_option maxRecDepth 20000 in
set_option maxHeartbeats 4000000 in
theorem x_same {d L : Nat} {M : abMem} {r : abRf} (hR : RF r M) {s : Nat} (hs : s = 372 ∨ s = 459) (hc : cur r = s) {k : Int} (h : INV r M k) {f e : Int} (hk : k ≤ 900000) (hd : 7 ≤ d) : abW d (0, 0) 105 0 (abEnt (abL 105) [vr (some 0), vi f, vi e]) [] (0, 0) (A0 L) M (qI (A0 L) (fun x N => OKP r M N (k + 1) ∧ (((0 ≤ f ∧ f < gI M 568 0) ∧ (0 ≤ e ∧ e < gI M 568 0)) ∧ (alk M 0 f e ∧ x = 1 ∨ ¬ alk M 0 f e ∧ x = 0) ∨ ¬ ((0 ≤ f ∧ f < gI M 568 0) ∧ (0 ≤ e ∧ e < gI M 568 0)) ∧ x = -1))) := by
  rcases hs with rfl | rfl
  · have hS : SR M 372 (gI M 568) := by have q := h.sr; rw [hc] at q; exact q
    have b1 := h.fr
    have b2 := h.la
    have hrf := hR
    show abW d (0, 0) 105 0 [some (vr (some 0)), some (vi f), some (vi e)] [] (0, 0) (A0 L) M (qI (A0 L) (fun x N => OKP r M N (k + 1) ∧ (((0 ≤ f ∧ f < gI M 568 0) ∧ (0 ≤ e ∧ e < gI M 568 0)) ∧ (alk M 0 f e ∧ x = 1 ∨ ¬ alk M 0 f e ∧ x = 0) ∨ ¬ ((0 ≤ f ∧ f < gI M 568 0) ∧ (0 ≤ e ∧ e < gI M 568 0)) ∧ x = -1)))
    refine bw_aload rfl rfl ?_
    refine bw_getr rfl rfl (cur_r hR hc) ?_
    refine bw_iload rfl rfl ?_
    refine bw_callVNj (e := d - 1) (as := [_]) rfl (by omega) rfl rfl (Nat.le_of_ble_eq_true rfl) (Nat.le_of_ble_eq_true rfl) rfl (c_hasFrame hR (by first | exact Or.inl rfl | exact Or.inr rfl) hS) (fun r5 hr5 => ?_)
    refine bw_ifeq rfl (fun c8 => ?_) (fun c8 => ?_)
    · skip
      refine bw_push rfl ?_
      refine bw_ret rfl rfl ?_
      first
      | exact ⟨rfl, _, rfl, OKP_refl h (by omega), Or.inr ⟨by omega, rfl⟩⟩
      | exact ⟨rfl, _, rfl, hOK, Or.inl ⟨by omega, Or.inl ⟨pe.mp (by omega), rfl⟩⟩⟩
      | exact ⟨rfl, _, rfl, hOK, Or.inl ⟨by omega, Or.inr ⟨fun z => by have := pe.mpr z; omega, rfl⟩⟩⟩
    · skip
      refine bw_aload rfl rfl ?_
      refine bw_getr rfl rfl (cur_r hR hc) ?_
      refine bw_iload rfl rfl ?_
      refine bw_callVNj (e := d - 1) (as := [_]) rfl (by omega) rfl rfl (Nat.le_of_ble_eq_true rfl) (Nat.le_of_ble_eq_true rfl) rfl (c_hasFrame hR (by first | exact Or.inl rfl | exact Or.inr rfl) hS) (fun r16 hr16 => ?_)
      refine bw_ifne rfl (fun c19 => ?_) (fun c19 => ?_)
      · skip
        refine bw_aload rfl rfl ?_
        refine bw_callVv (e := d - 1) (as := []) rfl (by omega) rfl rfl (Nat.le_of_ble_eq_true rfl) (Nat.le_of_ble_eq_true rfl) rfl (c_findPictures hR (by first | exact Or.inl rfl | exact Or.inr rfl) hc h (by omega) (by omega)) (fun M25 hM25 => ?_)
        obtain ⟨⟨r2, q2, i2, f2⟩, p2⟩ := hM25
        have hR := i2.rf
        have e8 : gI M25 568 = gI M 568 := f2 568 (by decide)
        have e9 : gI M25 569 = gI M 569 := f2 569 (by decide)
        have hpO := (i2.pc.resolve_left (by omega)).2
        have hc2 : cur r2 = 372 := by rw [← hc]; unfold cur; rw [q2]
        have hS : SR M25 372 (gI M 568) := by have q := i2.sr; rw [hc2, e8] at q; exact q
        have eA := alk_e e8 e9
        have hc := hc2
        have hOK : OKP r M M25 (k + 1) := ⟨r2, q2, i2, f2⟩
        have pe := pic_eq hpO (e := f) (f := e) (by rw [e8]; omega) (by rw [e8]; omega)
        rw [eA] at pe
        refine bw_aload rfl rfl ?_
        refine bw_getr rfl rfl (hR _ _) ?_
        refine bw_iload rfl rfl ?_
        refine bw_aldi rfl (by first | rfl | assumption) (by omega) (by omega) ?_
        refine bw_aload rfl rfl ?_
        refine bw_getr rfl rfl (hR _ _) ?_
        refine bw_iload rfl rfl ?_
        refine bw_aldi rfl (by first | rfl | assumption) (by omega) (by omega) ?_
        refine bw_icne rfl (fun c40 => ?_) (fun c40 => ?_)
        · skip
          refine bw_push rfl ?_
          refine bw_ret rfl rfl ?_
          first
          | exact ⟨rfl, _, rfl, OKP_refl h (by omega), Or.inr ⟨by omega, rfl⟩⟩
          | exact ⟨rfl, _, rfl, hOK, Or.inl ⟨by omega, Or.inl ⟨pe.mp (by omega), rfl⟩⟩⟩
          | exact ⟨rfl, _, rfl, hOK, Or.inl ⟨by omega, Or.inr ⟨fun z => by have := pe.mpr z; omega, rfl⟩⟩⟩
        · skip
          refine bw_push rfl ?_
          refine bw_goto rfl ?_
          refine bw_ret rfl rfl ?_
          first
          | exact ⟨rfl, _, rfl, OKP_refl h (by omega), Or.inr ⟨by omega, rfl⟩⟩
          | exact ⟨rfl, _, rfl, hOK, Or.inl ⟨by omega, Or.inl ⟨pe.mp (by omega), rfl⟩⟩⟩
          | exact ⟨rfl, _, rfl, hOK, Or.inl ⟨by omega, Or.inr ⟨fun z => by have := pe.mpr z; omega, rfl⟩⟩⟩
      · skip
        refine bw_push rfl ?_
        refine bw_ret rfl rfl ?_
        first
        | exact ⟨rfl, _, rfl, OKP_refl h (by omega), Or.inr ⟨by omega, rfl⟩⟩
        | exact ⟨rfl, _, rfl, hOK, Or.inl ⟨by omega, Or.inl ⟨pe.mp (by omega), rfl⟩⟩⟩
        | exact ⟨rfl, _, rfl, hOK, Or.inl ⟨by omega, Or.inr ⟨fun z => by have := pe.mpr z; omega, rfl⟩⟩⟩
  · have hS : SR M 459 (gI M 568) := by have q := h.sr; rw [hc] at q; exact q
    have b1 := h.fr
    have b2 := h.la
    have hrf := hR
    show abW d (0, 0) 105 0 [some (vr (some 0)), some (vi f), some (vi e)] [] (0, 0) (A0 L) M (qI (A0 L) (fun x N => OKP r M N (k + 1) ∧ (((0 ≤ f ∧ f < gI M 568 0) ∧ (0 ≤ e ∧ e < gI M 568 0)) ∧ (alk M 0 f e ∧ x = 1 ∨ ¬ alk M 0 f e ∧ x = 0) ∨ ¬ ((0 ≤ f ∧ f < gI M 568 0) ∧ (0 ≤ e ∧ e < gI M 568 0)) ∧ x = -1)))
    refine bw_aload rfl rfl ?_
    refine bw_getr rfl rfl (cur_r hR hc) ?_
    refine bw_iload rfl rfl ?_
    refine bw_callVNj (e := d - 1) (as := [_]) rfl (by omega) rfl rfl (Nat.le_of_ble_eq_true rfl) (Nat.le_of_ble_eq_true rfl) rfl (c_hasFrame hR (by first | exact Or.inl rfl | exact Or.inr rfl) hS) (fun r5 hr5 => ?_)
    refine bw_ifeq rfl (fun c8 => ?_) (fun c8 => ?_)
    · skip
      refine bw_push rfl ?_
      refine bw_ret rfl rfl ?_
      first
      | exact ⟨rfl, _, rfl, OKP_refl h (by omega), Or.inr ⟨by omega, rfl⟩⟩
      | exact ⟨rfl, _, rfl, hOK, Or.inl ⟨by omega, Or.inl ⟨pe.mp (by omega), rfl⟩⟩⟩
      | exact ⟨rfl, _, rfl, hOK, Or.inl ⟨by omega, Or.inr ⟨fun z => by have := pe.mpr z; omega, rfl⟩⟩⟩
    · skip
      refine bw_aload rfl rfl ?_
      refine bw_getr rfl rfl (cur_r hR hc) ?_
      refine bw_iload rfl rfl ?_
      refine bw_callVNj (e := d - 1) (as := [_]) rfl (by omega) rfl rfl (Nat.le_of_ble_eq_true rfl) (Nat.le_of_ble_eq_true rfl) rfl (c_hasFrame hR (by first | exact Or.inl rfl | exact Or.inr rfl) hS) (fun r16 hr16 => ?_)
      refine bw_ifne rfl (fun c19 => ?_) (fun c19 => ?_)
      · skip
        refine bw_aload rfl rfl ?_
        refine bw_callVv (e := d - 1) (as := []) rfl (by omega) rfl rfl (Nat.le_of_ble_eq_true rfl) (Nat.le_of_ble_eq_true rfl) rfl (c_findPictures hR (by first | exact Or.inl rfl | exact Or.inr rfl) hc h (by omega) (by omega)) (fun M25 hM25 => ?_)
        obtain ⟨⟨r2, q2, i2, f2⟩, p2⟩ := hM25
        have hR := i2.rf
        have e8 : gI M25 568 = gI M 568 := f2 568 (by decide)
        have e9 : gI M25 569 = gI M 569 := f2 569 (by decide)
        have hpO := (i2.pc.resolve_left (by omega)).2
        have hc2 : cur r2 = 459 := by rw [← hc]; unfold cur; rw [q2]
        have hS : SR M25 459 (gI M 568) := by have q := i2.sr; rw [hc2, e8] at q; exact q
        have eA := alk_e e8 e9
        have hc := hc2
        have hOK : OKP r M M25 (k + 1) := ⟨r2, q2, i2, f2⟩
        have pe := pic_eq hpO (e := f) (f := e) (by rw [e8]; omega) (by rw [e8]; omega)
        rw [eA] at pe
        refine bw_aload rfl rfl ?_
        refine bw_getr rfl rfl (hR _ _) ?_
        refine bw_iload rfl rfl ?_
        refine bw_aldi rfl (by first | rfl | assumption) (by omega) (by omega) ?_
        refine bw_aload rfl rfl ?_
        refine bw_getr rfl rfl (hR _ _) ?_
        refine bw_iload rfl rfl ?_
        refine bw_aldi rfl (by first | rfl | assumption) (by omega) (by omega) ?_
        refine bw_icne rfl (fun c40 => ?_) (fun c40 => ?_)
        · skip
          refine bw_push rfl ?_
          refine bw_ret rfl rfl ?_
          first
          | exact ⟨rfl, _, rfl, OKP_refl h (by omega), Or.inr ⟨by omega, rfl⟩⟩
          | exact ⟨rfl, _, rfl, hOK, Or.inl ⟨by omega, Or.inl ⟨pe.mp (by omega), rfl⟩⟩⟩
          | exact ⟨rfl, _, rfl, hOK, Or.inl ⟨by omega, Or.inr ⟨fun z => by have := pe.mpr z; omega, rfl⟩⟩⟩
        · skip
          refine bw_push rfl ?_
          refine bw_goto rfl ?_
          refine bw_ret rfl rfl ?_
          first
          | exact ⟨rfl, _, rfl, OKP_refl h (by omega), Or.inr ⟨by omega, rfl⟩⟩
          | exact ⟨rfl, _, rfl, hOK, Or.inl ⟨by omega, Or.inl ⟨pe.mp (by omega), rfl⟩⟩⟩
          | exact ⟨rfl, _, rfl, hOK, Or.inl ⟨by omega, Or.inr ⟨fun z => by have := pe.mpr z; omega, rfl⟩⟩⟩
      · skip
        refine bw_push rfl ?_
        refine bw_ret rfl rfl ?_
        first
        | exact ⟨rfl, _, rfl, OKP_refl h (by omega), Or.inr ⟨by omega, rfl⟩⟩
        | exact ⟨rfl, _, rfl, hOK, Or.inl ⟨by omega, Or.inl ⟨pe.mp (by omega), rfl⟩⟩⟩
        | exact ⟨rfl, _, rfl, hOK, Or.inl ⟨by omega, Or.inr ⟨fun z => by have := pe.mpr z; omega, rfl⟩⟩⟩
set_option maxRecDepth 20000 in
set_option maxHeartbeats 4000000 in
theorem x_like {d L : Nat} {M : abMem} {r : abRf} (hR : RF r M) {s : Nat} (hs : s = 372 ∨ s = 459) (hc : cur r = s) {k : Int} (h : INV r M k) {f w : Int} (hk : k ≤ 900000) (hd : 7 ≤ d) : abW d (0, 0) 106 0 (abEnt (abL 106) [vr (some 0), vi f, vi w]) [] (0, 0) (A0 L) M (qI (A0 L) (fun x N => OKP r M N (k + 1) ∧ (((0 ≤ f ∧ f < gI M 568 0) ∧ 0 ≤ w ∧ w ≤ 1) ∧ (w = 0 ∧ isFL (alk M 0) f x ∨ w = 1 ∧ x = cN (pB (fun e => alk M 0 e f)) (gI M 568 0).toNat) ∨ ¬ ((0 ≤ f ∧ f < gI M 568 0) ∧ 0 ≤ w ∧ w ≤ 1) ∧ x = -1))) := by
  rcases hs with rfl | rfl
  · have hS : SR M 372 (gI M 568) := by have q := h.sr; rw [hc] at q; exact q
    have b1 := h.fr
    have b2 := h.la
    have hrf := hR
    show abW d (0, 0) 106 0 [some (vr (some 0)), some (vi f), some (vi w)] [] (0, 0) (A0 L) M (qI (A0 L) (fun x N => OKP r M N (k + 1) ∧ (((0 ≤ f ∧ f < gI M 568 0) ∧ 0 ≤ w ∧ w ≤ 1) ∧ (w = 0 ∧ isFL (alk M 0) f x ∨ w = 1 ∧ x = cN (pB (fun e => alk M 0 e f)) (gI M 568 0).toNat) ∨ ¬ ((0 ≤ f ∧ f < gI M 568 0) ∧ 0 ≤ w ∧ w ≤ 1) ∧ x = -1)))
    refine bw_aload rfl rfl ?_
    refine bw_getr rfl rfl (cur_r hR hc) ?_
    refine bw_iload rfl rfl ?_
    refine bw_callVNj (e := d - 1) (as := [_]) rfl (by omega) rfl rfl (Nat.le_of_ble_eq_true rfl) (Nat.le_of_ble_eq_true rfl) rfl (c_hasFrame hR (by first | exact Or.inl rfl | exact Or.inr rfl) hS) (fun r5 hr5 => ?_)
    refine bw_ifne rfl (fun c8 => ?_) (fun c8 => ?_)
    · skip
      refine bw_aload rfl rfl ?_
      refine bw_callVv (e := d - 1) (as := []) rfl (by omega) rfl rfl (Nat.le_of_ble_eq_true rfl) (Nat.le_of_ble_eq_true rfl) rfl (c_findPictures hR (by first | exact Or.inl rfl | exact Or.inr rfl) hc h (by omega) (by omega)) (fun M14 hM14 => ?_)
      obtain ⟨⟨r2, q2, i2, f2⟩, p2⟩ := hM14
      have hR := i2.rf
      have e8 : gI M14 568 = gI M 568 := f2 568 (by decide)
      have e9 : gI M14 569 = gI M 569 := f2 569 (by decide)
      have hpO := (i2.pc.resolve_left (by omega)).2
      have hc2 : cur r2 = 372 := by rw [← hc]; unfold cur; rw [q2]
      have hS : SR M14 372 (gI M 568) := by have q := i2.sr; rw [hc2, e8] at q; exact q
      have eA := alk_e e8 e9
      have hc := hc2
      have hOK : OKP r M M14 (k + 1) := ⟨r2, q2, i2, f2⟩
      have pe : ∀ j : Int, 0 ≤ j → j < gI M 568 0 → (gI M14 548 j = gI M14 548 f ↔ alk M 0 j f) := fun j j0 j1 => by
        have q := pic_eq hpO (e := j) (f := f) (by rw [e8]; omega) (by rw [e8]; omega)
        rw [eA] at q
        exact q
      refine bw_iload rfl rfl ?_
      by_cases s18_0 : w = 0
      · refine bw_switch (t := 44) rfl (by rw [s18_0]; rfl) ?_
        refine bw_aload rfl rfl ?_
        refine bw_aload rfl rfl ?_
        refine bw_getr rfl rfl (hR _ _) ?_
        refine bw_iload rfl rfl ?_
        refine bw_aldi rfl (by first | rfl | assumption) (by omega) (by omega) ?_
        refine bw_callVj (e := d - 1) (as := [_]) rfl (by omega) rfl rfl (Nat.le_of_ble_eq_true rfl) (Nat.le_of_ble_eq_true rfl) rfl (c_firstWith hR (by first | exact Or.inl rfl | exact Or.inr rfl) hc i2) (fun r51 hr51 => ?_)
        rw [e8] at hr51
        refine bw_ret rfl rfl ?_
        refine ⟨rfl, _, rfl, hOK, Or.inl ⟨by omega, Or.inl ⟨by omega, ?_⟩⟩⟩
        rcases hr51 with ⟨_, q⟩ | ⟨q1, q3, q4⟩
        · exact absurd rfl (q f (by omega) (by omega))
        · refine ⟨q1.1, ?_, (pe _ q1.1 q1.2).mp q3, fun j j0 j1 z => q4 j j0 j1 ((pe j j0 (by omega)).mpr z)⟩
          by_cases z : r51 ≤ f
          · exact z
          · exact absurd rfl (q4 f (by omega) (by omega))
      · skip
        by_cases s18_1 : w = 1
        · refine bw_switch (t := 55) rfl (by rw [s18_1]; rfl) ?_
          refine bw_aload rfl rfl ?_
          refine bw_aload rfl rfl ?_
          refine bw_getr rfl rfl (hR _ _) ?_
          refine bw_iload rfl rfl ?_
          refine bw_aldi rfl (by first | rfl | assumption) (by omega) (by omega) ?_
          refine bw_callVe (e := d - 1) (as := [_]) rfl (by omega) rfl rfl (Nat.le_of_ble_eq_true rfl) (Nat.le_of_ble_eq_true rfl) rfl (c_framesWith hR (by first | exact Or.inl rfl | exact Or.inr rfl) hc i2) ?_
          rw [e8]
          refine bw_ret rfl rfl ?_
          refine ⟨rfl, _, rfl, hOK, Or.inl ⟨by omega, Or.inr ⟨by omega, ?_⟩⟩⟩
          refine cN_congr _ (fun j j0 j1 => ?_)
          by_cases z : alk M 0 j f
          · rw [pB_t (P := fun e => alk M 0 e f) z]; exact decide_eq_true ((pe j j0 (by omega)).mpr z)
          · rw [pB_f (P := fun e => alk M 0 e f) z]; exact decide_eq_false (fun y => z ((pe j j0 (by omega)).mp y))
        · skip
          refine bw_switch (t := 66) rfl (by simp [abSwT, abSw, Op.lookupswitch.offset, s18_0, show ¬ ((0 : Int) = w) from fun h => s18_0 h.symm, s18_1, show ¬ ((1 : Int) = w) from fun h => s18_1 h.symm]) ?_
          refine bw_push rfl ?_
          refine bw_ret rfl rfl ?_
          first
          | exact ⟨rfl, _, rfl, OKP_refl h (by omega), Or.inr ⟨by omega, rfl⟩⟩
          | exact ⟨rfl, _, rfl, hOK, Or.inr ⟨by omega, rfl⟩⟩
    · skip
      refine bw_push rfl ?_
      refine bw_ret rfl rfl ?_
      first
      | exact ⟨rfl, _, rfl, OKP_refl h (by omega), Or.inr ⟨by omega, rfl⟩⟩
      | exact ⟨rfl, _, rfl, hOK, Or.inr ⟨by omega, rfl⟩⟩
  · have hS : SR M 459 (gI M 568) := by have q := h.sr; rw [hc] at q; exact q
    have b1 := h.fr
    have b2 := h.la
    have hrf := hR
    show abW d (0, 0) 106 0 [some (vr (some 0)), some (vi f), some (vi w)] [] (0, 0) (A0 L) M (qI (A0 L) (fun x N => OKP r M N (k + 1) ∧ (((0 ≤ f ∧ f < gI M 568 0) ∧ 0 ≤ w ∧ w ≤ 1) ∧ (w = 0 ∧ isFL (alk M 0) f x ∨ w = 1 ∧ x = cN (pB (fun e => alk M 0 e f)) (gI M 568 0).toNat) ∨ ¬ ((0 ≤ f ∧ f < gI M 568 0) ∧ 0 ≤ w ∧ w ≤ 1) ∧ x = -1)))
    refine bw_aload rfl rfl ?_
    refine bw_getr rfl rfl (cur_r hR hc) ?_
    refine bw_iload rfl rfl ?_
    refine bw_callVNj (e := d - 1) (as := [_]) rfl (by omega) rfl rfl (Nat.le_of_ble_eq_true rfl) (Nat.le_of_ble_eq_true rfl) rfl (c_hasFrame hR (by first | exact Or.inl rfl | exact Or.inr rfl) hS) (fun r5 hr5 => ?_)
    refine bw_ifne rfl (fun c8 => ?_) (fun c8 => ?_)
    · skip
      refine bw_aload rfl rfl ?_
      refine bw_callVv (e := d - 1) (as := []) rfl (by omega) rfl rfl (Nat.le_of_ble_eq_true rfl) (Nat.le_of_ble_eq_true rfl) rfl (c_findPictures hR (by first | exact Or.inl rfl | exact Or.inr rfl) hc h (by omega) (by omega)) (fun M14 hM14 => ?_)
      obtain ⟨⟨r2, q2, i2, f2⟩, p2⟩ := hM14
      have hR := i2.rf
      have e8 : gI M14 568 = gI M 568 := f2 568 (by decide)
      have e9 : gI M14 569 = gI M 569 := f2 569 (by decide)
      have hpO := (i2.pc.resolve_left (by omega)).2
      have hc2 : cur r2 = 459 := by rw [← hc]; unfold cur; rw [q2]
      have hS : SR M14 459 (gI M 568) := by have q := i2.sr; rw [hc2, e8] at q; exact q
      have eA := alk_e e8 e9
      have hc := hc2
      have hOK : OKP r M M14 (k + 1) := ⟨r2, q2, i2, f2⟩
      have pe : ∀ j : Int, 0 ≤ j → j < gI M 568 0 → (gI M14 548 j = gI M14 548 f ↔ alk M 0 j f) := fun j j0 j1 => by
        have q := pic_eq hpO (e := j) (f := f) (by rw [e8]; omega) (by rw [e8]; omega)
        rw [eA] at q
        exact q
      refine bw_iload rfl rfl ?_
      by_cases s18_0 : w = 0
      · refine bw_switch (t := 44) rfl (by rw [s18_0]; rfl) ?_
        refine bw_aload rfl rfl ?_
        refine bw_aload rfl rfl ?_
        refine bw_getr rfl rfl (hR _ _) ?_
        refine bw_iload rfl rfl ?_
        refine bw_aldi rfl (by first | rfl | assumption) (by omega) (by omega) ?_
        refine bw_callVj (e := d - 1) (as := [_]) rfl (by omega) rfl rfl (Nat.le_of_ble_eq_true rfl) (Nat.le_of_ble_eq_true rfl) rfl (c_firstWith hR (by first | exact Or.inl rfl | exact Or.inr rfl) hc i2) (fun r51 hr51 => ?_)
        rw [e8] at hr51
        refine bw_ret rfl rfl ?_
        refine ⟨rfl, _, rfl, hOK, Or.inl ⟨by omega, Or.inl ⟨by omega, ?_⟩⟩⟩
        rcases hr51 with ⟨_, q⟩ | ⟨q1, q3, q4⟩
        · exact absurd rfl (q f (by omega) (by omega))
        · refine ⟨q1.1, ?_, (pe _ q1.1 q1.2).mp q3, fun j j0 j1 z => q4 j j0 j1 ((pe j j0 (by omega)).mpr z)⟩
          by_cases z : r51 ≤ f
          · exact z
          · exact absurd rfl (q4 f (by omega) (by omega))
      · skip
        by_cases s18_1 : w = 1
        · refine bw_switch (t := 55) rfl (by rw [s18_1]; rfl) ?_
          refine bw_aload rfl rfl ?_
          refine bw_aload rfl rfl ?_
          refine bw_getr rfl rfl (hR _ _) ?_
          refine bw_iload rfl rfl ?_
          refine bw_aldi rfl (by first | rfl | assumption) (by omega) (by omega) ?_
          refine bw_callVe (e := d - 1) (as := [_]) rfl (by omega) rfl rfl (Nat.le_of_ble_eq_true rfl) (Nat.le_of_ble_eq_true rfl) rfl (c_framesWith hR (by first | exact Or.inl rfl | exact Or.inr rfl) hc i2) ?_
          rw [e8]
          refine bw_ret rfl rfl ?_
          refine ⟨rfl, _, rfl, hOK, Or.inl ⟨by omega, Or.inr ⟨by omega, ?_⟩⟩⟩
          refine cN_congr _ (fun j j0 j1 => ?_)
          by_cases z : alk M 0 j f
          · rw [pB_t (P := fun e => alk M 0 e f) z]; exact decide_eq_true ((pe j j0 (by omega)).mpr z)
          · rw [pB_f (P := fun e => alk M 0 e f) z]; exact decide_eq_false (fun y => z ((pe j j0 (by omega)).mp y))
        · skip
          refine bw_switch (t := 66) rfl (by simp [abSwT, abSw, Op.lookupswitch.offset, s18_0, show ¬ ((0 : Int) = w) from fun h => s18_0 h.symm, s18_1, show ¬ ((1 : Int) = w) from fun h => s18_1 h.symm]) ?_
          refine bw_push rfl ?_
          refine bw_ret rfl rfl ?_
          first
          | exact ⟨rfl, _, rfl, OKP_refl h (by omega), Or.inr ⟨by omega, rfl⟩⟩
          | exact ⟨rfl, _, rfl, hOK, Or.inr ⟨by omega, rfl⟩⟩
    · skip
      refine bw_push rfl ?_
      refine bw_ret rfl rfl ?_
      first
      | exact ⟨rfl, _, rfl, OKP_refl h (by omega), Or.inr ⟨by omega, rfl⟩⟩
      | exact ⟨rfl, _, rfl, hOK, Or.inr ⟨by omega, rfl⟩⟩
theorem kth_ex {p : Int → Bool} {k : Int} (hk : 0 ≤ k) : ∀ n : Nat, k < cN p n → ∃ r : Int, 0 ≤ r ∧ r < n ∧ p r = true ∧ cN p r.toNat = k := by
  intro n
  induction n with
  | zero => intro h; have : cN p 0 = 0 := rfl; omega
  | succ n ih =>
    intro h
    by_cases q : k < cN p n
    · obtain ⟨r, r0, r1, r2⟩ := ih q
      exact ⟨r, r0, by omega, r2⟩
    · have e : cN p (n + 1) = cN p n + if p n then 1 else 0 := rfl
      by_cases z : p n = true
      · rw [e, if_pos z] at h
        exact ⟨n, by omega, by omega, z, by rw [Int.toNat_natCast]; omega⟩
      · rw [e, if_neg z] at h
        omega
set_option maxRecDepth 20000 in
set_option maxHeartbeats 4000000 in
theorem x_take {d L : Nat} {M : abMem} {r : abRf} (hR : RF r M) {s : Nat} (hs : s = 372 ∨ s = 459) (hc : cur r = s) {k : Int} (h : INV r M k) {z : Int} (hk : k ≤ 900000) (hd : 7 ≤ d) : abW d (0, 0) 107 0 (abEnt (abL 107) [vr (some 0), vi z]) [] (0, 0) (A0 L) M (qI (A0 L) (fun x N => OKP r M N (k + 1) ∧ (z = -1 ∧ x = tk M 0 ∨ z < -1 ∧ x = -1 ∨ 0 ≤ z ∧ isKth (pB (nwE (alk M 0))) (gI M 568 0) z x))) := by
  rcases hs with rfl | rfl
  · have hS : SR M 372 (gI M 568) := by have q := h.sr; rw [hc] at q; exact q
    have b1 := h.fr
    have b2 := h.la
    have hrf := hR
    show abW d (0, 0) 107 0 [some (vr (some 0)), some (vi z)] [] (0, 0) (A0 L) M (qI (A0 L) (fun x N => OKP r M N (k + 1) ∧ (z = -1 ∧ x = tk M 0 ∨ z < -1 ∧ x = -1 ∨ 0 ≤ z ∧ isKth (pB (nwE (alk M 0))) (gI M 568 0) z x)))
    refine bw_aload rfl rfl ?_
    refine bw_callVv (e := d - 1) (as := []) rfl (by omega) rfl rfl (Nat.le_of_ble_eq_true rfl) (Nat.le_of_ble_eq_true rfl) rfl (c_findPictures hR (by first | exact Or.inl rfl | exact Or.inr rfl) hc h (by omega) (by omega)) (fun M1 hM1 => ?_)
    obtain ⟨⟨r2, q2, i2, f2⟩, p2⟩ := hM1
    have hR := i2.rf
    have e8 : gI M1 568 = gI M 568 := f2 568 (by decide)
    have e9 : gI M1 569 = gI M 569 := f2 569 (by decide)
    have hpO := (i2.pc.resolve_left (by omega)).2
    have hc2 : cur r2 = 372 := by rw [← hc]; unfold cur; rw [q2]
    have hS : SR M1 372 (gI M 568) := by have q := i2.sr; rw [hc2, e8] at q; exact q
    have eA := alk_e e8 e9
    have hc := hc2
    have hOK : OKP r M M1 (k + 1) := ⟨r2, q2, i2, f2⟩
    have pn : ∀ j : Int, 0 ≤ j → j < gI M 568 0 → 0 ≤ gI M1 548 j ∧ (nwE (alk M 0) j → gI M1 548 j = cN (pB (nwE (alk M 0))) j.toNat) := fun j j0 j1 => by
      have q := pic_nw hpO (f := j) (by rw [e8]; omega)
      rw [eA] at q
      exact q
    refine bw_iload rfl rfl ?_
    refine bw_push rfl ?_
    refine bw_icne rfl (fun c6 => ?_) (fun c6 => ?_)
    · skip
      refine bw_aload rfl rfl ?_
      refine bw_iload rfl rfl ?_
      refine bw_callVj (e := d - 1) (as := [_]) rfl (by omega) rfl rfl (Nat.le_of_ble_eq_true rfl) (Nat.le_of_ble_eq_true rfl) rfl (c_firstWith hR (by first | exact Or.inl rfl | exact Or.inr rfl) hc i2) (fun r18 hr18 => ?_)
      rw [e8] at hr18
      refine bw_ret rfl rfl ?_
      first
      | exact ⟨rfl, _, rfl, hOK, Or.inl ⟨by omega, rfl⟩⟩
      | (refine ⟨rfl, _, rfl, hOK, ?_⟩
         by_cases q0 : z < -1
         · refine Or.inr (Or.inl ⟨q0, ?_⟩)
           rcases hr18 with ⟨q, _⟩ | ⟨q1, q3, _⟩
           · exact q
           · have := (pn _ q1.1 q1.2).1
             omega
         · refine Or.inr (Or.inr ⟨by omega, ?_⟩)
           rcases hr18 with ⟨q, q5⟩ | ⟨q1, q3, q4⟩
           · refine Or.inl ⟨q, ?_⟩
             by_cases w : cN (pB (nwE (alk M 0))) (gI M 568 0).toNat ≤ z
             · exact w
             · obtain ⟨y, y0, y1, y2, y3⟩ := kth_ex (p := pB (nwE (alk M 0))) (k := z) (by omega) (gI M 568 0).toNat (by omega)
               have yn : nwE (alk M 0) y := @of_decide_eq_true _ (Classical.propDecidable _) y2
               exact absurd (((pn y y0 (by omega)).2 yn).trans y3) (q5 y y0 (by omega))
           · obtain ⟨y, hy, ey⟩ := hpO.2 r18 q1.1 (by rw [e8]; exact q1.2)
             rw [eA] at hy ey
             have yx := hy.2.1
             have yn : nwE (alk M 0) y := fun j j0 j1 w => hy.2.2.2 j j0 j1 (alk_trans w hy.2.2.1)
             have py := (pn y hy.1 (by omega)).2 yn
             have yr : y = r18 := by
               by_cases w : y < r18
               · exact absurd (py.trans (ey.symm.trans q3)) (q4 y hy.1 w)
               · omega
             rw [yr] at yn py
             exact Or.inr ⟨q1.1, q1.2, pB_t yn, py.symm.trans q3⟩)
    · skip
      refine bw_aload rfl rfl ?_
      refine bw_getI rfl rfl ?_
      rw [hpO.1, tk_eq e8 e9]
      refine bw_goto rfl ?_
      refine bw_ret rfl rfl ?_
      first
      | exact ⟨rfl, _, rfl, hOK, Or.inl ⟨by omega, rfl⟩⟩
      | (refine ⟨rfl, _, rfl, hOK, ?_⟩
         by_cases q0 : z < -1
         · refine Or.inr (Or.inl ⟨q0, ?_⟩)
           rcases hr18 with ⟨q, _⟩ | ⟨q1, q3, _⟩
           · exact q
           · have := (pn _ q1.1 q1.2).1
             omega
         · refine Or.inr (Or.inr ⟨by omega, ?_⟩)
           rcases hr18 with ⟨q, q5⟩ | ⟨q1, q3, q4⟩
           · refine Or.inl ⟨q, ?_⟩
             by_cases w : cN (pB (nwE (alk M 0))) (gI M 568 0).toNat ≤ z
             · exact w
             · obtain ⟨y, y0, y1, y2, y3⟩ := kth_ex (p := pB (nwE (alk M 0))) (k := z) (by omega) (gI M 568 0).toNat (by omega)
               have yn : nwE (alk M 0) y := @of_decide_eq_true _ (Classical.propDecidable _) y2
               exact absurd (((pn y y0 (by omega)).2 yn).trans y3) (q5 y y0 (by omega))
           · obtain ⟨y, hy, ey⟩ := hpO.2 r18 q1.1 (by rw [e8]; exact q1.2)
             rw [eA] at hy ey
             have yx := hy.2.1
             have yn : nwE (alk M 0) y := fun j j0 j1 w => hy.2.2.2 j j0 j1 (alk_trans w hy.2.2.1)
             have py := (pn y hy.1 (by omega)).2 yn
             have yr : y = r18 := by
               by_cases w : y < r18
               · exact absurd (py.trans (ey.symm.trans q3)) (q4 y hy.1 w)
               · omega
             rw [yr] at yn py
             exact Or.inr ⟨q1.1, q1.2, pB_t yn, py.symm.trans q3⟩)
  · have hS : SR M 459 (gI M 568) := by have q := h.sr; rw [hc] at q; exact q
    have b1 := h.fr
    have b2 := h.la
    have hrf := hR
    show abW d (0, 0) 107 0 [some (vr (some 0)), some (vi z)] [] (0, 0) (A0 L) M (qI (A0 L) (fun x N => OKP r M N (k + 1) ∧ (z = -1 ∧ x = tk M 0 ∨ z < -1 ∧ x = -1 ∨ 0 ≤ z ∧ isKth (pB (nwE (alk M 0))) (gI M 568 0) z x)))
    refine bw_aload rfl rfl ?_
    refine bw_callVv (e := d - 1) (as := []) rfl (by omega) rfl rfl (Nat.le_of_ble_eq_true rfl) (Nat.le_of_ble_eq_true rfl) rfl (c_findPictures hR (by first | exact Or.inl rfl | exact Or.inr rfl) hc h (by omega) (by omega)) (fun M1 hM1 => ?_)
    obtain ⟨⟨r2, q2, i2, f2⟩, p2⟩ := hM1
    have hR := i2.rf
    have e8 : gI M1 568 = gI M 568 := f2 568 (by decide)
    have e9 : gI M1 569 = gI M 569 := f2 569 (by decide)
    have hpO := (i2.pc.resolve_left (by omega)).2
    have hc2 : cur r2 = 459 := by rw [← hc]; unfold cur; rw [q2]
    have hS : SR M1 459 (gI M 568) := by have q := i2.sr; rw [hc2, e8] at q; exact q
    have eA := alk_e e8 e9
    have hc := hc2
    have hOK : OKP r M M1 (k + 1) := ⟨r2, q2, i2, f2⟩
    have pn : ∀ j : Int, 0 ≤ j → j < gI M 568 0 → 0 ≤ gI M1 548 j ∧ (nwE (alk M 0) j → gI M1 548 j = cN (pB (nwE (alk M 0))) j.toNat) := fun j j0 j1 => by
      have q := pic_nw hpO (f := j) (by rw [e8]; omega)
      rw [eA] at q
      exact q
    refine bw_iload rfl rfl ?_
    refine bw_push rfl ?_
    refine bw_icne rfl (fun c6 => ?_) (fun c6 => ?_)
    · skip
      refine bw_aload rfl rfl ?_
      refine bw_iload rfl rfl ?_
      refine bw_callVj (e := d - 1) (as := [_]) rfl (by omega) rfl rfl (Nat.le_of_ble_eq_true rfl) (Nat.le_of_ble_eq_true rfl) rfl (c_firstWith hR (by first | exact Or.inl rfl | exact Or.inr rfl) hc i2) (fun r18 hr18 => ?_)
      rw [e8] at hr18
      refine bw_ret rfl rfl ?_
      first
      | exact ⟨rfl, _, rfl, hOK, Or.inl ⟨by omega, rfl⟩⟩
      | (refine ⟨rfl, _, rfl, hOK, ?_⟩
         by_cases q0 : z < -1
         · refine Or.inr (Or.inl ⟨q0, ?_⟩)
           rcases hr18 with ⟨q, _⟩ | ⟨q1, q3, _⟩
           · exact q
           · have := (pn _ q1.1 q1.2).1
             omega
         · refine Or.inr (Or.inr ⟨by omega, ?_⟩)
           rcases hr18 with ⟨q, q5⟩ | ⟨q1, q3, q4⟩
           · refine Or.inl ⟨q, ?_⟩
             by_cases w : cN (pB (nwE (alk M 0))) (gI M 568 0).toNat ≤ z
             · exact w
             · obtain ⟨y, y0, y1, y2, y3⟩ := kth_ex (p := pB (nwE (alk M 0))) (k := z) (by omega) (gI M 568 0).toNat (by omega)
               have yn : nwE (alk M 0) y := @of_decide_eq_true _ (Classical.propDecidable _) y2
               exact absurd (((pn y y0 (by omega)).2 yn).trans y3) (q5 y y0 (by omega))
           · obtain ⟨y, hy, ey⟩ := hpO.2 r18 q1.1 (by rw [e8]; exact q1.2)
             rw [eA] at hy ey
             have yx := hy.2.1
             have yn : nwE (alk M 0) y := fun j j0 j1 w => hy.2.2.2 j j0 j1 (alk_trans w hy.2.2.1)
             have py := (pn y hy.1 (by omega)).2 yn
             have yr : y = r18 := by
               by_cases w : y < r18
               · exact absurd (py.trans (ey.symm.trans q3)) (q4 y hy.1 w)
               · omega
             rw [yr] at yn py
             exact Or.inr ⟨q1.1, q1.2, pB_t yn, py.symm.trans q3⟩)
    · skip
      refine bw_aload rfl rfl ?_
      refine bw_getI rfl rfl ?_
      rw [hpO.1, tk_eq e8 e9]
      refine bw_goto rfl ?_
      refine bw_ret rfl rfl ?_
      first
      | exact ⟨rfl, _, rfl, hOK, Or.inl ⟨by omega, rfl⟩⟩
      | (refine ⟨rfl, _, rfl, hOK, ?_⟩
         by_cases q0 : z < -1
         · refine Or.inr (Or.inl ⟨q0, ?_⟩)
           rcases hr18 with ⟨q, _⟩ | ⟨q1, q3, _⟩
           · exact q
           · have := (pn _ q1.1 q1.2).1
             omega
         · refine Or.inr (Or.inr ⟨by omega, ?_⟩)
           rcases hr18 with ⟨q, q5⟩ | ⟨q1, q3, q4⟩
           · refine Or.inl ⟨q, ?_⟩
             by_cases w : cN (pB (nwE (alk M 0))) (gI M 568 0).toNat ≤ z
             · exact w
             · obtain ⟨y, y0, y1, y2, y3⟩ := kth_ex (p := pB (nwE (alk M 0))) (k := z) (by omega) (gI M 568 0).toNat (by omega)
               have yn : nwE (alk M 0) y := @of_decide_eq_true _ (Classical.propDecidable _) y2
               exact absurd (((pn y y0 (by omega)).2 yn).trans y3) (q5 y y0 (by omega))
           · obtain ⟨y, hy, ey⟩ := hpO.2 r18 q1.1 (by rw [e8]; exact q1.2)
             rw [eA] at hy ey
             have yx := hy.2.1
             have yn : nwE (alk M 0) y := fun j j0 j1 w => hy.2.2.2 j j0 j1 (alk_trans w hy.2.2.1)
             have py := (pn y hy.1 (by omega)).2 yn
             have yr : y = r18 := by
               by_cases w : y < r18
               · exact absurd (py.trans (ey.symm.trans q3)) (q4 y hy.1 w)
               · omega
             rw [yr] at yn py
             exact Or.inr ⟨q1.1, q1.2, pB_t yn, py.symm.trans q3⟩)
/-- the longest of the runs of the first f frames; s is where the last one begins -/
def stJ (E : Int → Int → Prop) (f m b s : Int) : Prop := (f = 0 ∧ m = 0 ∧ b = 0 ∧ s = 0) ∨ ((0 ≤ s ∧ s < f) ∧ (∀ j : Int, s ≤ j → j < f → E j s) ∧ (∀ x : Int, 0 ≤ x → x < s → ¬ ∀ j : Int, x ≤ j → j ≤ s → E j x) ∧ isStl E f m b)
theorem stJ_s {E : Int → Int → Prop} (hr : ∀ j, E j j) (hs : ∀ i j, E i j → E j i) (ht : ∀ i j k, E i j → E j k → E i k) {f m b s s2 m2 b2 : Int} (h : stJ E f m b s) (hf : 0 ≤ f) (h2 : (s2 = s ∧ E f s) ∨ (s2 = f ∧ ¬ E f s)) (hm : (m < f + 1 - s2 ∧ m2 = f + 1 - s2 ∧ b2 = s2) ∨ (f + 1 - s2 ≤ m ∧ m2 = m ∧ b2 = b)) : stJ E (f + 1) m2 b2 s2 := by
  have A : (0 ≤ s2 ∧ s2 < f + 1) ∧ (∀ j : Int, s2 ≤ j → j < f + 1 → E j s2) ∧ (∀ x : Int, 0 ≤ x → x < s2 → ¬ ∀ j : Int, x ≤ j → j ≤ s2 → E j x) := by
    rcases h with ⟨q0, q1, q2, q3⟩ | ⟨q0, q1, q2, q3⟩
    · have z : s2 = 0 := by omega
      rw [z]
      exact ⟨by omega, fun j j0 j1 => by rw [show j = 0 by omega]; exact hr 0, fun x x0 x1 => by omega⟩
    · rcases h2 with ⟨e, e2⟩ | ⟨e, e2⟩
      · rw [e]
        refine ⟨by omega, fun j j0 j1 => ?_, q2⟩
        by_cases z : j = f
        · rw [z]; exact e2
        · exact q1 j j0 (by omega)
      · rw [e]
        refine ⟨by omega, fun j j0 j1 => by rw [show j = f by omega]; exact hr f, fun x x0 x1 k => ?_⟩
        by_cases z : s ≤ x
        · exact e2 (ht _ _ _ (k f (by omega) (Int.le_refl _)) (q1 x z x1))
        · exact q2 x x0 (by omega) (fun j j0 j1 => k j j0 (by omega))
  obtain ⟨a1, a2, a3⟩ := A
  have old : ∀ x y : Int, 1 ≤ y → 0 ≤ x → x + y ≤ f → runE E x y → y ≤ m ∧ (y = m → b ≤ x) := fun x y y1 x0 xy k => by
    rcases h with ⟨q0, _⟩ | ⟨_, _, _, q3⟩
    · omega
    · exact q3.2 x y y1 x0 xy k
  have olb : m = 0 ∨ (1 ≤ m ∧ 0 ≤ b ∧ b + m ≤ f ∧ runE E b m) := by
    rcases h with ⟨_, q1, _⟩ | ⟨_, _, _, q3⟩
    · exact Or.inl q1
    · exact Or.inr q3.1
  have new : ∀ x y : Int, 1 ≤ y → 0 ≤ x → x + y = f + 1 → runE E x y → s2 ≤ x := fun x y y1 x0 xy k => by
    by_cases z : s2 ≤ x
    · exact z
    · exact absurd (fun j j0 j1 => k j j0 (by omega)) (a3 x x0 (by omega))
  refine Or.inr ⟨a1, a2, a3, ?_⟩
  rcases hm with ⟨c1, c2, c3⟩ | ⟨c1, c2, c3⟩
  · rw [c2, c3]
    refine ⟨⟨by omega, a1.1, by omega, fun j j0 j1 => a2 j j0 (by omega)⟩, fun x y y1 x0 xy k => ?_⟩
    by_cases z : x + y ≤ f
    · have := old x y y1 x0 z k
      omega
    · have := new x y y1 x0 (by omega) k
      omega
  · rw [c2, c3]
    have o := olb.resolve_left (by omega)
    refine ⟨⟨o.1, o.2.1, by omega, o.2.2.2⟩, fun x y y1 x0 xy k => ?_⟩
    by_cases z : x + y ≤ f
    · exact old x y y1 x0 z k
    · have := new x y y1 x0 (by omega) k
      omega
set_option maxRecDepth 20000 in
set_option maxHeartbeats 4000000 in
theorem x_still {d L : Nat} {M : abMem} {r : abRf} (hR : RF r M) {s : Nat} (hs : s = 372 ∨ s = 459) (hc : cur r = s) {k : Int} (h : INV r M k) {w : Int} (hk : k ≤ 900000) (hd : 7 ≤ d) : abW d (0, 0) 108 0 (abEnt (abL 108) [vr (some 0), vi w]) [] (0, 0) (A0 L) M (qI (A0 L) (fun x N => OKP r M N (k + 1) ∧ ((1 ≤ gI M 568 0 ∧ 0 ≤ w ∧ w ≤ 1) ∧ (∃ m b : Int, isStl (alk M 0) (gI M 568 0) m b ∧ (w = 0 ∧ x = m ∨ w = 1 ∧ x = b)) ∨ ¬ (1 ≤ gI M 568 0 ∧ 0 ≤ w ∧ w ≤ 1) ∧ x = -1))) := by
  rcases hs with rfl | rfl
  · have hS : SR M 372 (gI M 568) := by have q := h.sr; rw [hc] at q; exact q
    have b1 := h.fr
    have b2 := h.la
    have hrf := hR
    have L35 : ∀ (kf : Nat) (N : abMem) (r2 : abRf) (m b u f : Int), (RF r2 N ∧ cur r2 = 372 ∧ SR N 372 (gI M 568)) → (OKP r M N (k + 1)) → (∀ e f : Int, 0 ≤ e → e < gI M 568 0 → 0 ≤ f → f < gI M 568 0 → (gI N 548 e = gI N 548 f ↔ alk M 0 e f)) → (stJ (alk M 0) f m b u) → (0 ≤ f ∧ f ≤ gI M 568 0) → (0 ≤ u ∧ u ≤ f ∧ (u = 0 ∨ u < f) ∧ (0 ≤ m ∧ m ≤ 96)) → (1 ≤ gI M 568 0 ∧ 0 ≤ w ∧ w ≤ 1) → ((gI M 568 0 - f).toNat) < kf → abW d (0, 0) 108 35 [some (vr (some 0)), some (vi w), some (vi m), some (vi b), some (vi u), some (vi f)] [] (0, 0) (A0 L) (N) (qI (A0 L) (fun x N => OKP r M N (k + 1) ∧ ((1 ≤ gI M 568 0 ∧ 0 ≤ w ∧ w ≤ 1) ∧ (∃ m b : Int, isStl (alk M 0) (gI M 568 0) m b ∧ (w = 0 ∧ x = m ∨ w = 1 ∧ x = b)) ∨ ¬ (1 ≤ gI M 568 0 ∧ 0 ≤ w ∧ w ≤ 1) ∧ x = -1))) := by
      intro kf
      induction kf with
      | zero => intro N  r2  m b u f  g1 g2 g3 g4 g5 g6 g7 hm9; exact absurd hm9 (Nat.not_lt_zero _)
      | succ kf ih35 =>
        intro N  r2  m b u f  g1 g2 g3 g4 g5 g6 g7 hm35
        have ih := ih35
        have hR := g1.1
        have hc := g1.2.1
        have hS := g1.2.2
        refine bw_iload rfl rfl ?_
        refine bw_aload rfl rfl ?_
        refine bw_getr rfl rfl (cur_r hR hc) ?_
        refine bw_getI rfl rfl ?_
        rw [show gI N 372 0 = gI M 568 0 from hS.c0]
        refine bw_icge rfl (fun c44 => ?_) (fun c44 => ?_)
        · skip
          refine bw_iload rfl rfl ?_
          refine bw_ifne rfl (fun c97 => ?_) (fun c97 => ?_)
          · skip
            refine bw_iload rfl rfl ?_
            refine bw_ret rfl rfl ?_
            obtain rfl : f = gI M 568 0 := by omega
            have q4 : isStl (alk M 0) (gI M 568 0) m b := by
              rcases g4 with q | q
              · omega
              · exact q.2.2.2
            first
            | exact ⟨rfl, _, rfl, g2, Or.inl ⟨g7, m, b, q4, Or.inl ⟨by omega, rfl⟩⟩⟩
            | exact ⟨rfl, _, rfl, g2, Or.inl ⟨g7, m, b, q4, Or.inr ⟨by omega, rfl⟩⟩⟩
          · skip
            refine bw_iload rfl rfl ?_
            refine bw_goto rfl ?_
            refine bw_ret rfl rfl ?_
            obtain rfl : f = gI M 568 0 := by omega
            have q4 : isStl (alk M 0) (gI M 568 0) m b := by
              rcases g4 with q | q
              · omega
              · exact q.2.2.2
            first
            | exact ⟨rfl, _, rfl, g2, Or.inl ⟨g7, m, b, q4, Or.inl ⟨by omega, rfl⟩⟩⟩
            | exact ⟨rfl, _, rfl, g2, Or.inl ⟨g7, m, b, q4, Or.inr ⟨by omega, rfl⟩⟩⟩
        · skip
          refine bw_aload rfl rfl ?_
          refine bw_getr rfl rfl (hR _ _) ?_
          refine bw_iload rfl rfl ?_
          refine bw_aldi rfl (by first | rfl | assumption) (by omega) (by omega) ?_
          refine bw_aload rfl rfl ?_
          refine bw_getr rfl rfl (hR _ _) ?_
          refine bw_iload rfl rfl ?_
          refine bw_aldi rfl (by first | rfl | assumption) (by omega) (by omega) ?_
          refine bw_iceq rfl (fun c61 => ?_) (fun c61 => ?_)
          · skip
            refine bw_iload rfl rfl ?_
            refine bw_push rfl ?_
            refine bw_iadd rfl ⟨by omega, by omega⟩ ?_
            refine bw_iload rfl rfl ?_
            refine bw_isub rfl ⟨by omega, by omega⟩ ?_
            refine bw_iload rfl rfl ?_
            refine bw_icle rfl (fun c76 => ?_) (fun c76 => ?_)
            · skip
              refine bw_iinc (ls2 := [_, _, _, _, _, _]) rfl rfl rfl ⟨by omega, by omega⟩ rfl ?_
              refine bw_goto rfl ?_
              refine bw_forget (ls2 := [some (vr (some 0)), some (vi w), some (vi _), some (vi _), some (vi _), some (vi _)]) ⟨rfl, rfl, rfl, rfl, rfl, rfl, trivial⟩ ?_
              have pe := g3 f u (by omega) (by omega) (by omega) (by omega)
              first
              | exact ih _ _ _ _ _ _ g1 g2 g3 (stJ_s (alk_refl M 0) (fun _ _ => alk_symm) (fun _ _ _ => alk_trans) g4 (by omega) (Or.inl ⟨rfl, pe.mp (by omega)⟩) (Or.inl ⟨by omega, rfl, rfl⟩)) (by omega) (by omega) g7 (by omega)
              | exact ih _ _ _ _ _ _ g1 g2 g3 (stJ_s (alk_refl M 0) (fun _ _ => alk_symm) (fun _ _ _ => alk_trans) g4 (by omega) (Or.inl ⟨rfl, pe.mp (by omega)⟩) (Or.inr ⟨by omega, rfl, rfl⟩)) (by omega) (by omega) g7 (by omega)
              | exact ih _ _ _ _ _ _ g1 g2 g3 (stJ_s (alk_refl M 0) (fun _ _ => alk_symm) (fun _ _ _ => alk_trans) g4 (by omega) (Or.inr ⟨rfl, fun z => by have := pe.mpr z; omega⟩) (Or.inl ⟨by omega, rfl, rfl⟩)) (by omega) (by omega) g7 (by omega)
              | exact ih _ _ _ _ _ _ g1 g2 g3 (stJ_s (alk_refl M 0) (fun _ _ => alk_symm) (fun _ _ _ => alk_trans) g4 (by omega) (Or.inr ⟨rfl, fun z => by have := pe.mpr z; omega⟩) (Or.inr ⟨by omega, rfl, rfl⟩)) (by omega) (by omega) g7 (by omega)
            · skip
              refine bw_iload rfl rfl ?_
              refine bw_push rfl ?_
              refine bw_iadd rfl ⟨by omega, by omega⟩ ?_
              refine bw_iload rfl rfl ?_
              refine bw_isub rfl ⟨by omega, by omega⟩ ?_
              refine bw_istore (ls2 := [_, _, _, _, _, _]) rfl rfl (Nat.le_of_ble_eq_true rfl) rfl ?_
              refine bw_iload rfl rfl ?_
              refine bw_istore (ls2 := [_, _, _, _, _, _]) rfl rfl (Nat.le_of_ble_eq_true rfl) rfl ?_
              refine bw_iinc (ls2 := [_, _, _, _, _, _]) rfl rfl rfl ⟨by omega, by omega⟩ rfl ?_
              refine bw_goto rfl ?_
              refine bw_forget (ls2 := [some (vr (some 0)), some (vi w), some (vi _), some (vi _), some (vi _), some (vi _)]) ⟨rfl, rfl, rfl, rfl, rfl, rfl, trivial⟩ ?_
              have pe := g3 f u (by omega) (by omega) (by omega) (by omega)
              first
              | exact ih _ _ _ _ _ _ g1 g2 g3 (stJ_s (alk_refl M 0) (fun _ _ => alk_symm) (fun _ _ _ => alk_trans) g4 (by omega) (Or.inl ⟨rfl, pe.mp (by omega)⟩) (Or.inl ⟨by omega, rfl, rfl⟩)) (by omega) (by omega) g7 (by omega)
              | exact ih _ _ _ _ _ _ g1 g2 g3 (stJ_s (alk_refl M 0) (fun _ _ => alk_symm) (fun _ _ _ => alk_trans) g4 (by omega) (Or.inl ⟨rfl, pe.mp (by omega)⟩) (Or.inr ⟨by omega, rfl, rfl⟩)) (by omega) (by omega) g7 (by omega)
              | exact ih _ _ _ _ _ _ g1 g2 g3 (stJ_s (alk_refl M 0) (fun _ _ => alk_symm) (fun _ _ _ => alk_trans) g4 (by omega) (Or.inr ⟨rfl, fun z => by have := pe.mpr z; omega⟩) (Or.inl ⟨by omega, rfl, rfl⟩)) (by omega) (by omega) g7 (by omega)
              | exact ih _ _ _ _ _ _ g1 g2 g3 (stJ_s (alk_refl M 0) (fun _ _ => alk_symm) (fun _ _ _ => alk_trans) g4 (by omega) (Or.inr ⟨rfl, fun z => by have := pe.mpr z; omega⟩) (Or.inr ⟨by omega, rfl, rfl⟩)) (by omega) (by omega) g7 (by omega)
          · skip
            refine bw_iload rfl rfl ?_
            refine bw_istore (ls2 := [_, _, _, _, _, _]) rfl rfl (Nat.le_of_ble_eq_true rfl) rfl ?_
            refine bw_iload rfl rfl ?_
            refine bw_push rfl ?_
            refine bw_iadd rfl ⟨by omega, by omega⟩ ?_
            refine bw_iload rfl rfl ?_
            refine bw_isub rfl ⟨by omega, by omega⟩ ?_
            refine bw_iload rfl rfl ?_
            refine bw_icle rfl (fun c76 => ?_) (fun c76 => ?_)
            · skip
              refine bw_iinc (ls2 := [_, _, _, _, _, _]) rfl rfl rfl ⟨by omega, by omega⟩ rfl ?_
              refine bw_goto rfl ?_
              refine bw_forget (ls2 := [some (vr (some 0)), some (vi w), some (vi _), some (vi _), some (vi _), some (vi _)]) ⟨rfl, rfl, rfl, rfl, rfl, rfl, trivial⟩ ?_
              have pe := g3 f u (by omega) (by omega) (by omega) (by omega)
              first
              | exact ih _ _ _ _ _ _ g1 g2 g3 (stJ_s (alk_refl M 0) (fun _ _ => alk_symm) (fun _ _ _ => alk_trans) g4 (by omega) (Or.inl ⟨rfl, pe.mp (by omega)⟩) (Or.inl ⟨by omega, rfl, rfl⟩)) (by omega) (by omega) g7 (by omega)
              | exact ih _ _ _ _ _ _ g1 g2 g3 (stJ_s (alk_refl M 0) (fun _ _ => alk_symm) (fun _ _ _ => alk_trans) g4 (by omega) (Or.inl ⟨rfl, pe.mp (by omega)⟩) (Or.inr ⟨by omega, rfl, rfl⟩)) (by omega) (by omega) g7 (by omega)
              | exact ih _ _ _ _ _ _ g1 g2 g3 (stJ_s (alk_refl M 0) (fun _ _ => alk_symm) (fun _ _ _ => alk_trans) g4 (by omega) (Or.inr ⟨rfl, fun z => by have := pe.mpr z; omega⟩) (Or.inl ⟨by omega, rfl, rfl⟩)) (by omega) (by omega) g7 (by omega)
              | exact ih _ _ _ _ _ _ g1 g2 g3 (stJ_s (alk_refl M 0) (fun _ _ => alk_symm) (fun _ _ _ => alk_trans) g4 (by omega) (Or.inr ⟨rfl, fun z => by have := pe.mpr z; omega⟩) (Or.inr ⟨by omega, rfl, rfl⟩)) (by omega) (by omega) g7 (by omega)
            · skip
              refine bw_iload rfl rfl ?_
              refine bw_push rfl ?_
              refine bw_iadd rfl ⟨by omega, by omega⟩ ?_
              refine bw_iload rfl rfl ?_
              refine bw_isub rfl ⟨by omega, by omega⟩ ?_
              refine bw_istore (ls2 := [_, _, _, _, _, _]) rfl rfl (Nat.le_of_ble_eq_true rfl) rfl ?_
              refine bw_iload rfl rfl ?_
              refine bw_istore (ls2 := [_, _, _, _, _, _]) rfl rfl (Nat.le_of_ble_eq_true rfl) rfl ?_
              refine bw_iinc (ls2 := [_, _, _, _, _, _]) rfl rfl rfl ⟨by omega, by omega⟩ rfl ?_
              refine bw_goto rfl ?_
              refine bw_forget (ls2 := [some (vr (some 0)), some (vi w), some (vi _), some (vi _), some (vi _), some (vi _)]) ⟨rfl, rfl, rfl, rfl, rfl, rfl, trivial⟩ ?_
              have pe := g3 f u (by omega) (by omega) (by omega) (by omega)
              first
              | exact ih _ _ _ _ _ _ g1 g2 g3 (stJ_s (alk_refl M 0) (fun _ _ => alk_symm) (fun _ _ _ => alk_trans) g4 (by omega) (Or.inl ⟨rfl, pe.mp (by omega)⟩) (Or.inl ⟨by omega, rfl, rfl⟩)) (by omega) (by omega) g7 (by omega)
              | exact ih _ _ _ _ _ _ g1 g2 g3 (stJ_s (alk_refl M 0) (fun _ _ => alk_symm) (fun _ _ _ => alk_trans) g4 (by omega) (Or.inl ⟨rfl, pe.mp (by omega)⟩) (Or.inr ⟨by omega, rfl, rfl⟩)) (by omega) (by omega) g7 (by omega)
              | exact ih _ _ _ _ _ _ g1 g2 g3 (stJ_s (alk_refl M 0) (fun _ _ => alk_symm) (fun _ _ _ => alk_trans) g4 (by omega) (Or.inr ⟨rfl, fun z => by have := pe.mpr z; omega⟩) (Or.inl ⟨by omega, rfl, rfl⟩)) (by omega) (by omega) g7 (by omega)
              | exact ih _ _ _ _ _ _ g1 g2 g3 (stJ_s (alk_refl M 0) (fun _ _ => alk_symm) (fun _ _ _ => alk_trans) g4 (by omega) (Or.inr ⟨rfl, fun z => by have := pe.mpr z; omega⟩) (Or.inr ⟨by omega, rfl, rfl⟩)) (by omega) (by omega) g7 (by omega)
    show abW d (0, 0) 108 0 [some (vr (some 0)), some (vi w), none, none, none, none] [] (0, 0) (A0 L) M (qI (A0 L) (fun x N => OKP r M N (k + 1) ∧ ((1 ≤ gI M 568 0 ∧ 0 ≤ w ∧ w ≤ 1) ∧ (∃ m b : Int, isStl (alk M 0) (gI M 568 0) m b ∧ (w = 0 ∧ x = m ∨ w = 1 ∧ x = b)) ∨ ¬ (1 ≤ gI M 568 0 ∧ 0 ≤ w ∧ w ≤ 1) ∧ x = -1)))
    refine bw_aload rfl rfl ?_
    refine bw_getr rfl rfl (cur_r hR hc) ?_
    refine bw_getI rfl rfl ?_
    rw [show gI M 372 0 = gI M 568 0 from hS.c0]
    refine bw_ifeq rfl (fun c7 => ?_) (fun c7 => ?_)
    · skip
      refine bw_push rfl ?_
      refine bw_ret rfl rfl ?_
      exact ⟨rfl, _, rfl, OKP_refl h (by omega), Or.inr ⟨by omega, rfl⟩⟩
    · skip
      refine bw_iload rfl rfl ?_
      refine bw_iflt rfl (fun c11 => ?_) (fun c11 => ?_)
      · skip
        refine bw_push rfl ?_
        refine bw_ret rfl rfl ?_
        exact ⟨rfl, _, rfl, OKP_refl h (by omega), Or.inr ⟨by omega, rfl⟩⟩
      · skip
        refine bw_iload rfl rfl ?_
        refine bw_push rfl ?_
        refine bw_icle rfl (fun c16 => ?_) (fun c16 => ?_)
        · skip
          refine bw_aload rfl rfl ?_
          refine bw_callVv (e := d - 1) (as := []) rfl (by omega) rfl rfl (Nat.le_of_ble_eq_true rfl) (Nat.le_of_ble_eq_true rfl) rfl (c_findPictures hR (by first | exact Or.inl rfl | exact Or.inr rfl) hc h (by omega) (by omega)) (fun M22 hM22 => ?_)
          obtain ⟨⟨r2, q2, i2, f2⟩, p2⟩ := hM22
          have hR := i2.rf
          have e8 : gI M22 568 = gI M 568 := f2 568 (by decide)
          have e9 : gI M22 569 = gI M 569 := f2 569 (by decide)
          have hpO := (i2.pc.resolve_left (by omega)).2
          have hc2 : cur r2 = 372 := by rw [← hc]; unfold cur; rw [q2]
          have hS : SR M22 372 (gI M 568) := by have q := i2.sr; rw [hc2, e8] at q; exact q
          have eA := alk_e e8 e9
          have hc := hc2
          have hOK : OKP r M M22 (k + 1) := ⟨r2, q2, i2, f2⟩
          refine bw_push rfl ?_
          refine bw_istore (ls2 := [_, _, _, _, _, _]) rfl rfl (Nat.le_of_ble_eq_true rfl) rfl ?_
          refine bw_push rfl ?_
          refine bw_istore (ls2 := [_, _, _, _, _, _]) rfl rfl (Nat.le_of_ble_eq_true rfl) rfl ?_
          refine bw_push rfl ?_
          refine bw_istore (ls2 := [_, _, _, _, _, _]) rfl rfl (Nat.le_of_ble_eq_true rfl) rfl ?_
          refine bw_push rfl ?_
          refine bw_istore (ls2 := [_, _, _, _, _, _]) rfl rfl (Nat.le_of_ble_eq_true rfl) rfl ?_
          exact L35 98 M22 r2 0 0 0 0 ⟨hR, hc, hS⟩ hOK (fun e f e0 e1 f0 f1 => by
            have q := pic_eq hpO (e := e) (f := f) (by rw [e8]; omega) (by rw [e8]; omega)
            rw [eA] at q
            exact q) (Or.inl ⟨rfl, rfl, rfl, rfl⟩) (by omega) (by omega) (by omega) (by omega)
        · skip
          refine bw_push rfl ?_
          refine bw_ret rfl rfl ?_
          exact ⟨rfl, _, rfl, OKP_refl h (by omega), Or.inr ⟨by omega, rfl⟩⟩
  · have hS : SR M 459 (gI M 568) := by have q := h.sr; rw [hc] at q; exact q
    have b1 := h.fr
    have b2 := h.la
    have hrf := hR
    have L35 : ∀ (kf : Nat) (N : abMem) (r2 : abRf) (m b u f : Int), (RF r2 N ∧ cur r2 = 459 ∧ SR N 459 (gI M 568)) → (OKP r M N (k + 1)) → (∀ e f : Int, 0 ≤ e → e < gI M 568 0 → 0 ≤ f → f < gI M 568 0 → (gI N 548 e = gI N 548 f ↔ alk M 0 e f)) → (stJ (alk M 0) f m b u) → (0 ≤ f ∧ f ≤ gI M 568 0) → (0 ≤ u ∧ u ≤ f ∧ (u = 0 ∨ u < f) ∧ (0 ≤ m ∧ m ≤ 96)) → (1 ≤ gI M 568 0 ∧ 0 ≤ w ∧ w ≤ 1) → ((gI M 568 0 - f).toNat) < kf → abW d (0, 0) 108 35 [some (vr (some 0)), some (vi w), some (vi m), some (vi b), some (vi u), some (vi f)] [] (0, 0) (A0 L) (N) (qI (A0 L) (fun x N => OKP r M N (k + 1) ∧ ((1 ≤ gI M 568 0 ∧ 0 ≤ w ∧ w ≤ 1) ∧ (∃ m b : Int, isStl (alk M 0) (gI M 568 0) m b ∧ (w = 0 ∧ x = m ∨ w = 1 ∧ x = b)) ∨ ¬ (1 ≤ gI M 568 0 ∧ 0 ≤ w ∧ w ≤ 1) ∧ x = -1))) := by
      intro kf
      induction kf with
      | zero => intro N  r2  m b u f  g1 g2 g3 g4 g5 g6 g7 hm9; exact absurd hm9 (Nat.not_lt_zero _)
      | succ kf ih35 =>
        intro N  r2  m b u f  g1 g2 g3 g4 g5 g6 g7 hm35
        have ih := ih35
        have hR := g1.1
        have hc := g1.2.1
        have hS := g1.2.2
        refine bw_iload rfl rfl ?_
        refine bw_aload rfl rfl ?_
        refine bw_getr rfl rfl (cur_r hR hc) ?_
        refine bw_getI rfl rfl ?_
        rw [show gI N 459 0 = gI M 568 0 from hS.c0]
        refine bw_icge rfl (fun c44 => ?_) (fun c44 => ?_)
        · skip
          refine bw_iload rfl rfl ?_
          refine bw_ifne rfl (fun c97 => ?_) (fun c97 => ?_)
          · skip
            refine bw_iload rfl rfl ?_
            refine bw_ret rfl rfl ?_
            obtain rfl : f = gI M 568 0 := by omega
            have q4 : isStl (alk M 0) (gI M 568 0) m b := by
              rcases g4 with q | q
              · omega
              · exact q.2.2.2
            first
            | exact ⟨rfl, _, rfl, g2, Or.inl ⟨g7, m, b, q4, Or.inl ⟨by omega, rfl⟩⟩⟩
            | exact ⟨rfl, _, rfl, g2, Or.inl ⟨g7, m, b, q4, Or.inr ⟨by omega, rfl⟩⟩⟩
          · skip
            refine bw_iload rfl rfl ?_
            refine bw_goto rfl ?_
            refine bw_ret rfl rfl ?_
            obtain rfl : f = gI M 568 0 := by omega
            have q4 : isStl (alk M 0) (gI M 568 0) m b := by
              rcases g4 with q | q
              · omega
              · exact q.2.2.2
            first
            | exact ⟨rfl, _, rfl, g2, Or.inl ⟨g7, m, b, q4, Or.inl ⟨by omega, rfl⟩⟩⟩
            | exact ⟨rfl, _, rfl, g2, Or.inl ⟨g7, m, b, q4, Or.inr ⟨by omega, rfl⟩⟩⟩
        · skip
          refine bw_aload rfl rfl ?_
          refine bw_getr rfl rfl (hR _ _) ?_
          refine bw_iload rfl rfl ?_
          refine bw_aldi rfl (by first | rfl | assumption) (by omega) (by omega) ?_
          refine bw_aload rfl rfl ?_
          refine bw_getr rfl rfl (hR _ _) ?_
          refine bw_iload rfl rfl ?_
          refine bw_aldi rfl (by first | rfl | assumption) (by omega) (by omega) ?_
          refine bw_iceq rfl (fun c61 => ?_) (fun c61 => ?_)
          · skip
            refine bw_iload rfl rfl ?_
            refine bw_push rfl ?_
            refine bw_iadd rfl ⟨by omega, by omega⟩ ?_
            refine bw_iload rfl rfl ?_
            refine bw_isub rfl ⟨by omega, by omega⟩ ?_
            refine bw_iload rfl rfl ?_
            refine bw_icle rfl (fun c76 => ?_) (fun c76 => ?_)
            · skip
              refine bw_iinc (ls2 := [_, _, _, _, _, _]) rfl rfl rfl ⟨by omega, by omega⟩ rfl ?_
              refine bw_goto rfl ?_
              refine bw_forget (ls2 := [some (vr (some 0)), some (vi w), some (vi _), some (vi _), some (vi _), some (vi _)]) ⟨rfl, rfl, rfl, rfl, rfl, rfl, trivial⟩ ?_
              have pe := g3 f u (by omega) (by omega) (by omega) (by omega)
              first
              | exact ih _ _ _ _ _ _ g1 g2 g3 (stJ_s (alk_refl M 0) (fun _ _ => alk_symm) (fun _ _ _ => alk_trans) g4 (by omega) (Or.inl ⟨rfl, pe.mp (by omega)⟩) (Or.inl ⟨by omega, rfl, rfl⟩)) (by omega) (by omega) g7 (by omega)
              | exact ih _ _ _ _ _ _ g1 g2 g3 (stJ_s (alk_refl M 0) (fun _ _ => alk_symm) (fun _ _ _ => alk_trans) g4 (by omega) (Or.inl ⟨rfl, pe.mp (by omega)⟩) (Or.inr ⟨by omega, rfl, rfl⟩)) (by omega) (by omega) g7 (by omega)
              | exact ih _ _ _ _ _ _ g1 g2 g3 (stJ_s (alk_refl M 0) (fun _ _ => alk_symm) (fun _ _ _ => alk_trans) g4 (by omega) (Or.inr ⟨rfl, fun z => by have := pe.mpr z; omega⟩) (Or.inl ⟨by omega, rfl, rfl⟩)) (by omega) (by omega) g7 (by omega)
              | exact ih _ _ _ _ _ _ g1 g2 g3 (stJ_s (alk_refl M 0) (fun _ _ => alk_symm) (fun _ _ _ => alk_trans) g4 (by omega) (Or.inr ⟨rfl, fun z => by have := pe.mpr z; omega⟩) (Or.inr ⟨by omega, rfl, rfl⟩)) (by omega) (by omega) g7 (by omega)
            · skip
              refine bw_iload rfl rfl ?_
              refine bw_push rfl ?_
              refine bw_iadd rfl ⟨by omega, by omega⟩ ?_
              refine bw_iload rfl rfl ?_
              refine bw_isub rfl ⟨by omega, by omega⟩ ?_
              refine bw_istore (ls2 := [_, _, _, _, _, _]) rfl rfl (Nat.le_of_ble_eq_true rfl) rfl ?_
              refine bw_iload rfl rfl ?_
              refine bw_istore (ls2 := [_, _, _, _, _, _]) rfl rfl (Nat.le_of_ble_eq_true rfl) rfl ?_
              refine bw_iinc (ls2 := [_, _, _, _, _, _]) rfl rfl rfl ⟨by omega, by omega⟩ rfl ?_
              refine bw_goto rfl ?_
              refine bw_forget (ls2 := [some (vr (some 0)), some (vi w), some (vi _), some (vi _), some (vi _), some (vi _)]) ⟨rfl, rfl, rfl, rfl, rfl, rfl, trivial⟩ ?_
              have pe := g3 f u (by omega) (by omega) (by omega) (by omega)
              first
              | exact ih _ _ _ _ _ _ g1 g2 g3 (stJ_s (alk_refl M 0) (fun _ _ => alk_symm) (fun _ _ _ => alk_trans) g4 (by omega) (Or.inl ⟨rfl, pe.mp (by omega)⟩) (Or.inl ⟨by omega, rfl, rfl⟩)) (by omega) (by omega) g7 (by omega)
              | exact ih _ _ _ _ _ _ g1 g2 g3 (stJ_s (alk_refl M 0) (fun _ _ => alk_symm) (fun _ _ _ => alk_trans) g4 (by omega) (Or.inl ⟨rfl, pe.mp (by omega)⟩) (Or.inr ⟨by omega, rfl, rfl⟩)) (by omega) (by omega) g7 (by omega)
              | exact ih _ _ _ _ _ _ g1 g2 g3 (stJ_s (alk_refl M 0) (fun _ _ => alk_symm) (fun _ _ _ => alk_trans) g4 (by omega) (Or.inr ⟨rfl, fun z => by have := pe.mpr z; omega⟩) (Or.inl ⟨by omega, rfl, rfl⟩)) (by omega) (by omega) g7 (by omega)
              | exact ih _ _ _ _ _ _ g1 g2 g3 (stJ_s (alk_refl M 0) (fun _ _ => alk_symm) (fun _ _ _ => alk_trans) g4 (by omega) (Or.inr ⟨rfl, fun z => by have := pe.mpr z; omega⟩) (Or.inr ⟨by omega, rfl, rfl⟩)) (by omega) (by omega) g7 (by omega)
          · skip
            refine bw_iload rfl rfl ?_
            refine bw_istore (ls2 := [_, _, _, _, _, _]) rfl rfl (Nat.le_of_ble_eq_true rfl) rfl ?_
            refine bw_iload rfl rfl ?_
            refine bw_push rfl ?_
            refine bw_iadd rfl ⟨by omega, by omega⟩ ?_
            refine bw_iload rfl rfl ?_
            refine bw_isub rfl ⟨by omega, by omega⟩ ?_
            refine bw_iload rfl rfl ?_
            refine bw_icle rfl (fun c76 => ?_) (fun c76 => ?_)
            · skip
              refine bw_iinc (ls2 := [_, _, _, _, _, _]) rfl rfl rfl ⟨by omega, by omega⟩ rfl ?_
              refine bw_goto rfl ?_
              refine bw_forget (ls2 := [some (vr (some 0)), some (vi w), some (vi _), some (vi _), some (vi _), some (vi _)]) ⟨rfl, rfl, rfl, rfl, rfl, rfl, trivial⟩ ?_
              have pe := g3 f u (by omega) (by omega) (by omega) (by omega)
              first
              | exact ih _ _ _ _ _ _ g1 g2 g3 (stJ_s (alk_refl M 0) (fun _ _ => alk_symm) (fun _ _ _ => alk_trans) g4 (by omega) (Or.inl ⟨rfl, pe.mp (by omega)⟩) (Or.inl ⟨by omega, rfl, rfl⟩)) (by omega) (by omega) g7 (by omega)
              | exact ih _ _ _ _ _ _ g1 g2 g3 (stJ_s (alk_refl M 0) (fun _ _ => alk_symm) (fun _ _ _ => alk_trans) g4 (by omega) (Or.inl ⟨rfl, pe.mp (by omega)⟩) (Or.inr ⟨by omega, rfl, rfl⟩)) (by omega) (by omega) g7 (by omega)
              | exact ih _ _ _ _ _ _ g1 g2 g3 (stJ_s (alk_refl M 0) (fun _ _ => alk_symm) (fun _ _ _ => alk_trans) g4 (by omega) (Or.inr ⟨rfl, fun z => by have := pe.mpr z; omega⟩) (Or.inl ⟨by omega, rfl, rfl⟩)) (by omega) (by omega) g7 (by omega)
              | exact ih _ _ _ _ _ _ g1 g2 g3 (stJ_s (alk_refl M 0) (fun _ _ => alk_symm) (fun _ _ _ => alk_trans) g4 (by omega) (Or.inr ⟨rfl, fun z => by have := pe.mpr z; omega⟩) (Or.inr ⟨by omega, rfl, rfl⟩)) (by omega) (by omega) g7 (by omega)
            · skip
              refine bw_iload rfl rfl ?_
              refine bw_push rfl ?_
              refine bw_iadd rfl ⟨by omega, by omega⟩ ?_
              refine bw_iload rfl rfl ?_
              refine bw_isub rfl ⟨by omega, by omega⟩ ?_
              refine bw_istore (ls2 := [_, _, _, _, _, _]) rfl rfl (Nat.le_of_ble_eq_true rfl) rfl ?_
              refine bw_iload rfl rfl ?_
              refine bw_istore (ls2 := [_, _, _, _, _, _]) rfl rfl (Nat.le_of_ble_eq_true rfl) rfl ?_
              refine bw_iinc (ls2 := [_, _, _, _, _, _]) rfl rfl rfl ⟨by omega, by omega⟩ rfl ?_
              refine bw_goto rfl ?_
              refine bw_forget (ls2 := [some (vr (some 0)), some (vi w), some (vi _), some (vi _), some (vi _), some (vi _)]) ⟨rfl, rfl, rfl, rfl, rfl, rfl, trivial⟩ ?_
              have pe := g3 f u (by omega) (by omega) (by omega) (by omega)
              first
              | exact ih _ _ _ _ _ _ g1 g2 g3 (stJ_s (alk_refl M 0) (fun _ _ => alk_symm) (fun _ _ _ => alk_trans) g4 (by omega) (Or.inl ⟨rfl, pe.mp (by omega)⟩) (Or.inl ⟨by omega, rfl, rfl⟩)) (by omega) (by omega) g7 (by omega)
              | exact ih _ _ _ _ _ _ g1 g2 g3 (stJ_s (alk_refl M 0) (fun _ _ => alk_symm) (fun _ _ _ => alk_trans) g4 (by omega) (Or.inl ⟨rfl, pe.mp (by omega)⟩) (Or.inr ⟨by omega, rfl, rfl⟩)) (by omega) (by omega) g7 (by omega)
              | exact ih _ _ _ _ _ _ g1 g2 g3 (stJ_s (alk_refl M 0) (fun _ _ => alk_symm) (fun _ _ _ => alk_trans) g4 (by omega) (Or.inr ⟨rfl, fun z => by have := pe.mpr z; omega⟩) (Or.inl ⟨by omega, rfl, rfl⟩)) (by omega) (by omega) g7 (by omega)
              | exact ih _ _ _ _ _ _ g1 g2 g3 (stJ_s (alk_refl M 0) (fun _ _ => alk_symm) (fun _ _ _ => alk_trans) g4 (by omega) (Or.inr ⟨rfl, fun z => by have := pe.mpr z; omega⟩) (Or.inr ⟨by omega, rfl, rfl⟩)) (by omega) (by omega) g7 (by omega)
    show abW d (0, 0) 108 0 [some (vr (some 0)), some (vi w), none, none, none, none] [] (0, 0) (A0 L) M (qI (A0 L) (fun x N => OKP r M N (k + 1) ∧ ((1 ≤ gI M 568 0 ∧ 0 ≤ w ∧ w ≤ 1) ∧ (∃ m b : Int, isStl (alk M 0) (gI M 568 0) m b ∧ (w = 0 ∧ x = m ∨ w = 1 ∧ x = b)) ∨ ¬ (1 ≤ gI M 568 0 ∧ 0 ≤ w ∧ w ≤ 1) ∧ x = -1)))
    refine bw_aload rfl rfl ?_
    refine bw_getr rfl rfl (cur_r hR hc) ?_
    refine bw_getI rfl rfl ?_
    rw [show gI M 459 0 = gI M 568 0 from hS.c0]
    refine bw_ifeq rfl (fun c7 => ?_) (fun c7 => ?_)
    · skip
      refine bw_push rfl ?_
      refine bw_ret rfl rfl ?_
      exact ⟨rfl, _, rfl, OKP_refl h (by omega), Or.inr ⟨by omega, rfl⟩⟩
    · skip
      refine bw_iload rfl rfl ?_
      refine bw_iflt rfl (fun c11 => ?_) (fun c11 => ?_)
      · skip
        refine bw_push rfl ?_
        refine bw_ret rfl rfl ?_
        exact ⟨rfl, _, rfl, OKP_refl h (by omega), Or.inr ⟨by omega, rfl⟩⟩
      · skip
        refine bw_iload rfl rfl ?_
        refine bw_push rfl ?_
        refine bw_icle rfl (fun c16 => ?_) (fun c16 => ?_)
        · skip
          refine bw_aload rfl rfl ?_
          refine bw_callVv (e := d - 1) (as := []) rfl (by omega) rfl rfl (Nat.le_of_ble_eq_true rfl) (Nat.le_of_ble_eq_true rfl) rfl (c_findPictures hR (by first | exact Or.inl rfl | exact Or.inr rfl) hc h (by omega) (by omega)) (fun M22 hM22 => ?_)
          obtain ⟨⟨r2, q2, i2, f2⟩, p2⟩ := hM22
          have hR := i2.rf
          have e8 : gI M22 568 = gI M 568 := f2 568 (by decide)
          have e9 : gI M22 569 = gI M 569 := f2 569 (by decide)
          have hpO := (i2.pc.resolve_left (by omega)).2
          have hc2 : cur r2 = 459 := by rw [← hc]; unfold cur; rw [q2]
          have hS : SR M22 459 (gI M 568) := by have q := i2.sr; rw [hc2, e8] at q; exact q
          have eA := alk_e e8 e9
          have hc := hc2
          have hOK : OKP r M M22 (k + 1) := ⟨r2, q2, i2, f2⟩
          refine bw_push rfl ?_
          refine bw_istore (ls2 := [_, _, _, _, _, _]) rfl rfl (Nat.le_of_ble_eq_true rfl) rfl ?_
          refine bw_push rfl ?_
          refine bw_istore (ls2 := [_, _, _, _, _, _]) rfl rfl (Nat.le_of_ble_eq_true rfl) rfl ?_
          refine bw_push rfl ?_
          refine bw_istore (ls2 := [_, _, _, _, _, _]) rfl rfl (Nat.le_of_ble_eq_true rfl) rfl ?_
          refine bw_push rfl ?_
          refine bw_istore (ls2 := [_, _, _, _, _, _]) rfl rfl (Nat.le_of_ble_eq_true rfl) rfl ?_
          exact L35 98 M22 r2 0 0 0 0 ⟨hR, hc, hS⟩ hOK (fun e f e0 e1 f0 f1 => by
            have q := pic_eq hpO (e := e) (f := f) (by rw [e8]; omega) (by rw [e8]; omega)
            rw [eA] at q
            exact q) (Or.inl ⟨rfl, rfl, rfl, rfl⟩) (by omega) (by omega) (by omega) (by omega)
        · skip
          refine bw_push rfl ?_
          refine bw_ret rfl rfl ?_
          exact ⟨rfl, _, rfl, OKP_refl h (by omega), Or.inr ⟨by omega, rfl⟩⟩
