theorem plc_in {g : Int → Int} {l n : Int} (hn : n ≤ 6) (h : ∃ p : Int, 0 ≤ p ∧ p < n ∧ g p = l) : (0 ≤ plc g l ∧ plc g l < n) ∧ g (plc g l) = l := by
  obtain ⟨p, p0, p1, p2⟩ := h
  have H : ∀ m : Nat, (∀ j : Int, 0 ≤ j → j < m → g j ≠ l) ∨ ∃ x : Int, 0 ≤ x ∧ x < m ∧ g x = l ∧ ∀ j : Int, 0 ≤ j → j < x → g j ≠ l := by
    intro m
    induction m with
    | zero => exact Or.inl (fun j j0 j1 => by omega)
    | succ m ih =>
      rcases ih with ih | ⟨x, x0, x1, x2, x3⟩
      · by_cases q : g m = l
        · exact Or.inr ⟨m, by omega, by omega, q, ih⟩
        · refine Or.inl (fun j j0 j1 => ?_)
          by_cases z : j = m
          · rw [z]; exact q
          · exact ih j j0 (by omega)
      · exact Or.inr ⟨x, x0, by omega, x2, x3⟩
  rcases H (p.toNat + 1) with h | ⟨x, x0, x1, x2, x3⟩
  · exact absurd p2 (h p p0 (by omega))
  · rw [plc_of (by omega) x2 x3]
    exact ⟨by omega, x2⟩
/-- what raise does to the numbers of the sheet -/
theorem rs_row {S : Int → Int} {p l x : Int} (hp : 0 ≤ p ∧ p < 5) (hx : 0 ≤ x ∧ x < 576) : rsP S p l (582 + x) = S x := by
  unfold rsP
  rw [up_ne (by omega), up_ne (by omega)]
  unfold cpF
  rw [if_pos (by omega)]; congr 1; omega
theorem rs_st {S : Int → Int} {p l q : Int} (hp : 0 ≤ p ∧ p < 5) (hq : 0 ≤ q ∧ q < 6) : rsP S p l (582 + (576 + q)) = if q = p + 1 then l else if q = p then S (576 + p + 1) else S (576 + q) := by
  unfold rsP
  by_cases z : q = p + 1
  · rw [up_eq (by omega), if_pos z]
  · rw [up_ne (by omega), if_neg z]
    by_cases z2 : q = p
    · rw [up_eq (by omega), if_pos z2]
    · rw [up_ne (by omega), if_neg z2]
      unfold cpF
      rw [if_pos (by omega)]; congr 1; omega
set_option maxRecDepth 20000 in
set_option maxHeartbeats 4000000 in
theorem x_raise {d L : Nat} {M : abMem} {r : abRf} (hR : RF r M) {s : Nat} (hs : s = 372 ∨ s = 459) (hc : cur r = s) {k : Int} (h : INV r M k) {l : Int} (hd : 4 ≤ d) : abW d (0, 0) 119 0 (abEnt (abL 119) [vr (some 0), vi l]) [] (0, 0) (A0 L) M (qI (A0 L) (fun x N => (0 ≤ l ∧ l < gI M 568 1) ∧ ((plc (fun p => gI M 569 (576 + p)) l) = gI M 568 1 - 1 ∧ x = -3 ∧ N = M ∨ (plc (fun p => gI M 569 (576 + p)) l) < gI M 568 1 - 1 ∧ x = (plc (fun p => gI M 569 (576 + p)) l) + 1 ∧ actD M (fun j => rsP (gI M 569) (plc (fun p => gI M 569 (576 + p)) l) l (582 + j)) N) ∨ ¬ (0 ≤ l ∧ l < gI M 568 1) ∧ x = -2 ∧ N = M)) := by
  rcases hs with rfl | rfl
  · have hS : SR M 372 (gI M 568) := by have q := h.sr; rw [hc] at q; exact q
    have b1 := h.fr
    have b2 := h.la
    have hrf := hR
    have hh1 := h.hi.1
    have hh2 := h.hi.2.1
    show abW d (0, 0) 119 0 [some (vr (some 0)), some (vi l), none] [] (0, 0) (A0 L) M (qI (A0 L) (fun x N => (0 ≤ l ∧ l < gI M 568 1) ∧ ((plc (fun p => gI M 569 (576 + p)) l) = gI M 568 1 - 1 ∧ x = -3 ∧ N = M ∨ (plc (fun p => gI M 569 (576 + p)) l) < gI M 568 1 - 1 ∧ x = (plc (fun p => gI M 569 (576 + p)) l) + 1 ∧ actD M (fun j => rsP (gI M 569) (plc (fun p => gI M 569 (576 + p)) l) l (582 + j)) N) ∨ ¬ (0 ≤ l ∧ l < gI M 568 1) ∧ x = -2 ∧ N = M))
    refine bw_aload rfl rfl ?_
    refine bw_getr rfl rfl (cur_r hR hc) ?_
    refine bw_iload rfl rfl ?_
    refine bw_callVNj (e := d - 1) (as := [_]) rfl (by omega) rfl rfl (Nat.le_of_ble_eq_true rfl) (Nat.le_of_ble_eq_true rfl) rfl (c_hasLayer hR (by first | exact Or.inl rfl | exact Or.inr rfl) hS) (fun r5 hr5 => ?_)
    refine bw_ifne rfl (fun c8 => ?_) (fun c8 => ?_)
    · skip
      refine bw_aload rfl rfl ?_
      refine bw_getr rfl rfl (hR _ _) ?_
      refine bw_iload rfl rfl ?_
      refine bw_callVNe (e := d - 1) (as := [_]) rfl (by omega) rfl rfl (Nat.le_of_ble_eq_true rfl) (Nat.le_of_ble_eq_true rfl) rfl (c_placeOf hR) ?_
      rw [plc_cg (g' := fun p => gI M 569 (576 + p)) (fun p p0 p1 => h.sh.2.1 p p0 p1)]
      have pi := plc_in (g := fun p => gI M 569 (576 + p)) (l := l) (n := gI M 568 1) (by omega) (h.hp2 (by omega) (by omega))
      obtain ⟨p, ep⟩ : ∃ p, p = plc (fun p => gI M 569 (576 + p)) l := ⟨_, rfl⟩
      rw [← ep] at pi ⊢
      have pi2 : gI M 569 (576 + p) = l := pi.2
      have pi1 := pi.1
      clear pi
      refine bw_istore (ls2 := [_, _, _]) rfl rfl (Nat.le_of_ble_eq_true rfl) rfl ?_
      refine bw_iload rfl rfl ?_
      refine bw_iflt rfl (fun c24 => ?_) (fun c24 => ?_)
      · skip
        refine bw_push rfl ?_
        refine bw_ret rfl rfl ?_
        first
        | exact ⟨rfl, _, rfl, Or.inr ⟨by omega, rfl, rfl⟩⟩
        | exact ⟨rfl, _, rfl, Or.inl ⟨by omega, Or.inl ⟨by omega, rfl, rfl⟩⟩⟩
        | (refine ⟨rfl, _, rfl, Or.inl ⟨by omega, Or.inr ⟨by omega, by omega, ?_⟩⟩⟩
           have n19 : ∀ x : Nat, 19 ≤ x → x < 201 → gI (sI (sI (sI M51 18 p (gI M 569 (576 + p + 1))) 18 (p + 1) l) 0 14 0) x = gI M51 x := fun x x0 x1 => by rw [gI_sI_ne (by omega), gI_sI_ne (by omega), gI_sI_ne (by omega)]
           refine ⟨(((u51.mono (fun a z => by omega)).sI _ _ (Or.inr (Or.inl ⟨by omega, by omega⟩))).sI _ _ (Or.inr (Or.inl ⟨by omega, by omega⟩))).sI _ _ (Or.inl rfl), ⟨⟨fun i f i0 i1 f0 f1 => ?_, fun q q0 q1 => ?_⟩, by rw [n19 19 (by decide) (by decide)]; exact v51.2.1, by rw [n19 19 (by decide) (by decide)]; exact v51.2.2, fun x x0 x1 hx => by rw [n19 x (by omega) (by omega)]; exact u51.at x (fun z => z.elim (fun q => by omega) hx)⟩, gI_sI_eq, fun i i0 i1 => Or.inr ⟨by rw [gI_sI_ne (by decide), gI_sI_ne (by decide), gI_sI_ne (by decide), u51.at 547 (fun z => by omega)], fun f f0 f1 => rs_row (by omega) (by omega)⟩, fun i f i0 i1 f0 f1 => ?_, fun q q0 q1 => ?_, fun q q0 q1 => ?_, fun i i0 i1 => ?_⟩
           · rw [n19 _ (by omega) (by omega)]; exact v51.1.1 i f i0 i1 f0 f1
           · rw [n19 _ (by omega) (by omega)]; exact v51.1.2 q q0 q1
           · show _ = rsP (gI M 569) p l (582 + (96 * i + f))
             rw [rs_row (by omega) (by omega), gI_sI_ne (by omega), gI_sI_ne (by omega), gI_sI_ne (by omega), u51.at _ (fun z => by omega), h.row ⟨i0, i1⟩ ⟨f0, f1⟩, mR0]
           · show _ = rsP (gI M 569) p l (582 + (576 + q))
             rw [rs_st (by omega) ⟨q0, q1⟩, gI_sI_ne (by decide)]
             by_cases z : q = p + 1
             · rw [if_pos z, z, gI_sI_eq]
             · rw [if_neg z, gI_sI_nj z]
               by_cases z2 : q = p
               · rw [if_pos z2, z2, gI_sI_eq]
               · rw [if_neg z2, gI_sI_nj z2, u51.at 18 (fun z => by omega)]
                 exact (h.sh.2.1 q q0 q1).trans (by first | rfl | (congr 1; omega))
           · show 0 ≤ rsP (gI M 569) p l (582 + (576 + q)) ∧ rsP (gI M 569) p l (582 + (576 + q)) < gI M 568 1
             rw [rs_st (by omega) ⟨q0, by omega⟩]
             have s1 := h.sh.2.2.1 (p + 1) (by omega) (by omega)
             have s2 := h.sh.2.2.1 q q0 q1
             rw [show (0 : Int) + 576 + (p + 1) = 576 + p + 1 by omega] at s1
             rw [show (0 : Int) + 576 + q = 576 + q by omega] at s2
             split
             · omega
             · split
               · exact s1
               · exact s2
           · obtain ⟨q, q0, q1, q2⟩ := h.hp2 (l := i) i0 i1
             by_cases z : q = p
             · refine ⟨p + 1, by omega, by omega, ?_⟩
               show rsP (gI M 569) p l (582 + (576 + (p + 1))) = i
               rw [rs_st (by omega) (by omega), if_pos rfl, ← pi2, ← q2, z]
             · by_cases z2 : q = p + 1
               · refine ⟨p, by omega, by omega, ?_⟩
                 show rsP (gI M 569) p l (582 + (576 + p)) = i
                 rw [rs_st (by omega) (by omega), if_neg (by omega), if_pos rfl, ← q2, z2]; congr 1; omega
               · refine ⟨q, q0, q1, ?_⟩
                 show rsP (gI M 569) p l (582 + (576 + q)) = i
                 rw [rs_st (by omega) (by omega), if_neg z2, if_neg z, q2])
      · skip
        refine bw_iload rfl rfl ?_
        refine bw_push rfl ?_
        refine bw_iadd rfl ⟨by omega, by omega⟩ ?_
        refine bw_aload rfl rfl ?_
        refine bw_getr rfl rfl (cur_r hR hc) ?_
        refine bw_getI rfl rfl ?_
        rw [show gI M 372 2 = gI M 568 1 from hS.c2]
        refine bw_iclt rfl (fun c37 => ?_) (fun c37 => ?_)
        · skip
          refine bw_aload rfl rfl ?_
          refine bw_getr rfl rfl (hR _ _) ?_
          refine bw_aload rfl rfl ?_
          refine bw_getr rfl rfl (hR _ _) ?_
          refine bw_callVNv (e := d - 1) (as := [_]) rfl (by omega) rfl rfl (Nat.le_of_ble_eq_true rfl) (Nat.le_of_ble_eq_true rfl) rfl (c_remember (n := gI M 19 1) (k := gI M 19 2) hR ⟨rfl, by omega, by omega⟩ ⟨rfl, by omega, by omega⟩ (by omega)) (fun M51 hM51 => ?_)
          obtain ⟨u51, v51⟩ := hM51
          have hR := u51.RF hR
          refine bw_aload rfl rfl ?_
          refine bw_getr rfl rfl (hR _ _) ?_
          refine bw_getr rfl rfl (hR _ _) ?_
          refine bw_iload rfl rfl ?_
          refine bw_aload rfl rfl ?_
          refine bw_getr rfl rfl (hR _ _) ?_
          refine bw_getr rfl rfl (hR _ _) ?_
          refine bw_iload rfl rfl ?_
          refine bw_push rfl ?_
          refine bw_iadd rfl ⟨by omega, by omega⟩ ?_
          refine bw_aldi rfl (by first | rfl | assumption) (by omega) (by omega) ?_
          rw [show gI M51 18 (p + 1) = gI M 569 (576 + p + 1) from by rw [u51.at 18 (fun z => by omega), show 576 + p + 1 = 0 + 576 + (p + 1) by omega]; exact h.sh.2.1 (p + 1) (by omega) (by omega)]
          refine bw_asti rfl (by first | rfl | assumption) (by omega) (by omega) ?_
          refine bw_aload rfl rfl ?_
          refine bw_getr rfl rfl (hR _ _) ?_
          refine bw_getr rfl rfl (hR _ _) ?_
          refine bw_iload rfl rfl ?_
          refine bw_push rfl ?_
          refine bw_iadd rfl ⟨by omega, by omega⟩ ?_
          refine bw_iload rfl rfl ?_
          refine bw_asti rfl (by first | rfl | assumption) (by omega) (by omega) ?_
          refine bw_aload rfl rfl ?_
          refine bw_push rfl ?_
          refine bw_putZ rfl rfl (by omega) ?_
          refine bw_iload rfl rfl ?_
          refine bw_push rfl ?_
          refine bw_iadd rfl ⟨by omega, by omega⟩ ?_
          refine bw_ret rfl rfl ?_
          first
          | exact ⟨rfl, _, rfl, Or.inr ⟨by omega, rfl, rfl⟩⟩
          | exact ⟨rfl, _, rfl, Or.inl ⟨by omega, Or.inl ⟨by omega, rfl, rfl⟩⟩⟩
          | (refine ⟨rfl, _, rfl, Or.inl ⟨by omega, Or.inr ⟨by omega, by omega, ?_⟩⟩⟩
             have n19 : ∀ x : Nat, 19 ≤ x → x < 201 → gI (sI (sI (sI M51 18 p (gI M 569 (576 + p + 1))) 18 (p + 1) l) 0 14 0) x = gI M51 x := fun x x0 x1 => by rw [gI_sI_ne (by omega), gI_sI_ne (by omega), gI_sI_ne (by omega)]
             refine ⟨(((u51.mono (fun a z => by omega)).sI _ _ (Or.inr (Or.inl ⟨by omega, by omega⟩))).sI _ _ (Or.inr (Or.inl ⟨by omega, by omega⟩))).sI _ _ (Or.inl rfl), ⟨⟨fun i f i0 i1 f0 f1 => ?_, fun q q0 q1 => ?_⟩, by rw [n19 19 (by decide) (by decide)]; exact v51.2.1, by rw [n19 19 (by decide) (by decide)]; exact v51.2.2, fun x x0 x1 hx => by rw [n19 x (by omega) (by omega)]; exact u51.at x (fun z => z.elim (fun q => by omega) hx)⟩, gI_sI_eq, fun i i0 i1 => Or.inr ⟨by rw [gI_sI_ne (by decide), gI_sI_ne (by decide), gI_sI_ne (by decide), u51.at 547 (fun z => by omega)], fun f f0 f1 => rs_row (by omega) (by omega)⟩, fun i f i0 i1 f0 f1 => ?_, fun q q0 q1 => ?_, fun q q0 q1 => ?_, fun i i0 i1 => ?_⟩
             · rw [n19 _ (by omega) (by omega)]; exact v51.1.1 i f i0 i1 f0 f1
             · rw [n19 _ (by omega) (by omega)]; exact v51.1.2 q q0 q1
             · show _ = rsP (gI M 569) p l (582 + (96 * i + f))
               rw [rs_row (by omega) (by omega), gI_sI_ne (by omega), gI_sI_ne (by omega), gI_sI_ne (by omega), u51.at _ (fun z => by omega), h.row ⟨i0, i1⟩ ⟨f0, f1⟩, mR0]
             · show _ = rsP (gI M 569) p l (582 + (576 + q))
               rw [rs_st (by omega) ⟨q0, q1⟩, gI_sI_ne (by decide)]
               by_cases z : q = p + 1
               · rw [if_pos z, z, gI_sI_eq]
               · rw [if_neg z, gI_sI_nj z]
                 by_cases z2 : q = p
                 · rw [if_pos z2, z2, gI_sI_eq]
                 · rw [if_neg z2, gI_sI_nj z2, u51.at 18 (fun z => by omega)]
                   exact (h.sh.2.1 q q0 q1).trans (by first | rfl | (congr 1; omega))
             · show 0 ≤ rsP (gI M 569) p l (582 + (576 + q)) ∧ rsP (gI M 569) p l (582 + (576 + q)) < gI M 568 1
               rw [rs_st (by omega) ⟨q0, by omega⟩]
               have s1 := h.sh.2.2.1 (p + 1) (by omega) (by omega)
               have s2 := h.sh.2.2.1 q q0 q1
               rw [show (0 : Int) + 576 + (p + 1) = 576 + p + 1 by omega] at s1
               rw [show (0 : Int) + 576 + q = 576 + q by omega] at s2
               split
               · omega
               · split
                 · exact s1
                 · exact s2
             · obtain ⟨q, q0, q1, q2⟩ := h.hp2 (l := i) i0 i1
               by_cases z : q = p
               · refine ⟨p + 1, by omega, by omega, ?_⟩
                 show rsP (gI M 569) p l (582 + (576 + (p + 1))) = i
                 rw [rs_st (by omega) (by omega), if_pos rfl, ← pi2, ← q2, z]
               · by_cases z2 : q = p + 1
                 · refine ⟨p, by omega, by omega, ?_⟩
                   show rsP (gI M 569) p l (582 + (576 + p)) = i
                   rw [rs_st (by omega) (by omega), if_neg (by omega), if_pos rfl, ← q2, z2]; congr 1; omega
                 · refine ⟨q, q0, q1, ?_⟩
                   show rsP (gI M 569) p l (582 + (576 + q)) = i
                   rw [rs_st (by omega) (by omega), if_neg z2, if_neg z, q2])
        · skip
          refine bw_push rfl ?_
          refine bw_ret rfl rfl ?_
          first
          | exact ⟨rfl, _, rfl, Or.inr ⟨by omega, rfl, rfl⟩⟩
          | exact ⟨rfl, _, rfl, Or.inl ⟨by omega, Or.inl ⟨by omega, rfl, rfl⟩⟩⟩
          | (refine ⟨rfl, _, rfl, Or.inl ⟨by omega, Or.inr ⟨by omega, by omega, ?_⟩⟩⟩
             have n19 : ∀ x : Nat, 19 ≤ x → x < 201 → gI (sI (sI (sI M51 18 p (gI M 569 (576 + p + 1))) 18 (p + 1) l) 0 14 0) x = gI M51 x := fun x x0 x1 => by rw [gI_sI_ne (by omega), gI_sI_ne (by omega), gI_sI_ne (by omega)]
             refine ⟨(((u51.mono (fun a z => by omega)).sI _ _ (Or.inr (Or.inl ⟨by omega, by omega⟩))).sI _ _ (Or.inr (Or.inl ⟨by omega, by omega⟩))).sI _ _ (Or.inl rfl), ⟨⟨fun i f i0 i1 f0 f1 => ?_, fun q q0 q1 => ?_⟩, by rw [n19 19 (by decide) (by decide)]; exact v51.2.1, by rw [n19 19 (by decide) (by decide)]; exact v51.2.2, fun x x0 x1 hx => by rw [n19 x (by omega) (by omega)]; exact u51.at x (fun z => z.elim (fun q => by omega) hx)⟩, gI_sI_eq, fun i i0 i1 => Or.inr ⟨by rw [gI_sI_ne (by decide), gI_sI_ne (by decide), gI_sI_ne (by decide), u51.at 547 (fun z => by omega)], fun f f0 f1 => rs_row (by omega) (by omega)⟩, fun i f i0 i1 f0 f1 => ?_, fun q q0 q1 => ?_, fun q q0 q1 => ?_, fun i i0 i1 => ?_⟩
             · rw [n19 _ (by omega) (by omega)]; exact v51.1.1 i f i0 i1 f0 f1
             · rw [n19 _ (by omega) (by omega)]; exact v51.1.2 q q0 q1
             · show _ = rsP (gI M 569) p l (582 + (96 * i + f))
               rw [rs_row (by omega) (by omega), gI_sI_ne (by omega), gI_sI_ne (by omega), gI_sI_ne (by omega), u51.at _ (fun z => by omega), h.row ⟨i0, i1⟩ ⟨f0, f1⟩, mR0]
             · show _ = rsP (gI M 569) p l (582 + (576 + q))
               rw [rs_st (by omega) ⟨q0, q1⟩, gI_sI_ne (by decide)]
               by_cases z : q = p + 1
               · rw [if_pos z, z, gI_sI_eq]
               · rw [if_neg z, gI_sI_nj z]
                 by_cases z2 : q = p
                 · rw [if_pos z2, z2, gI_sI_eq]
                 · rw [if_neg z2, gI_sI_nj z2, u51.at 18 (fun z => by omega)]
                   exact (h.sh.2.1 q q0 q1).trans (by first | rfl | (congr 1; omega))
             · show 0 ≤ rsP (gI M 569) p l (582 + (576 + q)) ∧ rsP (gI M 569) p l (582 + (576 + q)) < gI M 568 1
               rw [rs_st (by omega) ⟨q0, by omega⟩]
               have s1 := h.sh.2.2.1 (p + 1) (by omega) (by omega)
               have s2 := h.sh.2.2.1 q q0 q1
               rw [show (0 : Int) + 576 + (p + 1) = 576 + p + 1 by omega] at s1
               rw [show (0 : Int) + 576 + q = 576 + q by omega] at s2
               split
               · omega
               · split
                 · exact s1
                 · exact s2
             · obtain ⟨q, q0, q1, q2⟩ := h.hp2 (l := i) i0 i1
               by_cases z : q = p
               · refine ⟨p + 1, by omega, by omega, ?_⟩
                 show rsP (gI M 569) p l (582 + (576 + (p + 1))) = i
                 rw [rs_st (by omega) (by omega), if_pos rfl, ← pi2, ← q2, z]
               · by_cases z2 : q = p + 1
                 · refine ⟨p, by omega, by omega, ?_⟩
                   show rsP (gI M 569) p l (582 + (576 + p)) = i
                   rw [rs_st (by omega) (by omega), if_neg (by omega), if_pos rfl, ← q2, z2]; congr 1; omega
                 · refine ⟨q, q0, q1, ?_⟩
                   show rsP (gI M 569) p l (582 + (576 + q)) = i
                   rw [rs_st (by omega) (by omega), if_neg z2, if_neg z, q2])
    · skip
      refine bw_push rfl ?_
      refine bw_ret rfl rfl ?_
      first
      | exact ⟨rfl, _, rfl, Or.inr ⟨by omega, rfl, rfl⟩⟩
      | exact ⟨rfl, _, rfl, Or.inl ⟨by omega, Or.inl ⟨by omega, rfl, rfl⟩⟩⟩
      | (refine ⟨rfl, _, rfl, Or.inl ⟨by omega, Or.inr ⟨by omega, by omega, ?_⟩⟩⟩
         have n19 : ∀ x : Nat, 19 ≤ x → x < 201 → gI (sI (sI (sI M51 18 p (gI M 569 (576 + p + 1))) 18 (p + 1) l) 0 14 0) x = gI M51 x := fun x x0 x1 => by rw [gI_sI_ne (by omega), gI_sI_ne (by omega), gI_sI_ne (by omega)]
         refine ⟨(((u51.mono (fun a z => by omega)).sI _ _ (Or.inr (Or.inl ⟨by omega, by omega⟩))).sI _ _ (Or.inr (Or.inl ⟨by omega, by omega⟩))).sI _ _ (Or.inl rfl), ⟨⟨fun i f i0 i1 f0 f1 => ?_, fun q q0 q1 => ?_⟩, by rw [n19 19 (by decide) (by decide)]; exact v51.2.1, by rw [n19 19 (by decide) (by decide)]; exact v51.2.2, fun x x0 x1 hx => by rw [n19 x (by omega) (by omega)]; exact u51.at x (fun z => z.elim (fun q => by omega) hx)⟩, gI_sI_eq, fun i i0 i1 => Or.inr ⟨by rw [gI_sI_ne (by decide), gI_sI_ne (by decide), gI_sI_ne (by decide), u51.at 547 (fun z => by omega)], fun f f0 f1 => rs_row (by omega) (by omega)⟩, fun i f i0 i1 f0 f1 => ?_, fun q q0 q1 => ?_, fun q q0 q1 => ?_, fun i i0 i1 => ?_⟩
         · rw [n19 _ (by omega) (by omega)]; exact v51.1.1 i f i0 i1 f0 f1
         · rw [n19 _ (by omega) (by omega)]; exact v51.1.2 q q0 q1
         · show _ = rsP (gI M 569) p l (582 + (96 * i + f))
           rw [rs_row (by omega) (by omega), gI_sI_ne (by omega), gI_sI_ne (by omega), gI_sI_ne (by omega), u51.at _ (fun z => by omega), h.row ⟨i0, i1⟩ ⟨f0, f1⟩, mR0]
         · show _ = rsP (gI M 569) p l (582 + (576 + q))
           rw [rs_st (by omega) ⟨q0, q1⟩, gI_sI_ne (by decide)]
           by_cases z : q = p + 1
           · rw [if_pos z, z, gI_sI_eq]
           · rw [if_neg z, gI_sI_nj z]
             by_cases z2 : q = p
             · rw [if_pos z2, z2, gI_sI_eq]
             · rw [if_neg z2, gI_sI_nj z2, u51.at 18 (fun z => by omega)]
               exact (h.sh.2.1 q q0 q1).trans (by first | rfl | (congr 1; omega))
         · show 0 ≤ rsP (gI M 569) p l (582 + (576 + q)) ∧ rsP (gI M 569) p l (582 + (576 + q)) < gI M 568 1
           rw [rs_st (by omega) ⟨q0, by omega⟩]
           have s1 := h.sh.2.2.1 (p + 1) (by omega) (by omega)
           have s2 := h.sh.2.2.1 q q0 q1
           rw [show (0 : Int) + 576 + (p + 1) = 576 + p + 1 by omega] at s1
           rw [show (0 : Int) + 576 + q = 576 + q by omega] at s2
           split
           · omega
           · split
             · exact s1
             · exact s2
         · obtain ⟨q, q0, q1, q2⟩ := h.hp2 (l := i) i0 i1
           by_cases z : q = p
           · refine ⟨p + 1, by omega, by omega, ?_⟩
             show rsP (gI M 569) p l (582 + (576 + (p + 1))) = i
             rw [rs_st (by omega) (by omega), if_pos rfl, ← pi2, ← q2, z]
           · by_cases z2 : q = p + 1
             · refine ⟨p, by omega, by omega, ?_⟩
               show rsP (gI M 569) p l (582 + (576 + p)) = i
               rw [rs_st (by omega) (by omega), if_neg (by omega), if_pos rfl, ← q2, z2]; congr 1; omega
             · refine ⟨q, q0, q1, ?_⟩
               show rsP (gI M 569) p l (582 + (576 + q)) = i
               rw [rs_st (by omega) (by omega), if_neg z2, if_neg z, q2])
  · have hS : SR M 459 (gI M 568) := by have q := h.sr; rw [hc] at q; exact q
    have b1 := h.fr
    have b2 := h.la
    have hrf := hR
    have hh1 := h.hi.1
    have hh2 := h.hi.2.1
    show abW d (0, 0) 119 0 [some (vr (some 0)), some (vi l), none] [] (0, 0) (A0 L) M (qI (A0 L) (fun x N => (0 ≤ l ∧ l < gI M 568 1) ∧ ((plc (fun p => gI M 569 (576 + p)) l) = gI M 568 1 - 1 ∧ x = -3 ∧ N = M ∨ (plc (fun p => gI M 569 (576 + p)) l) < gI M 568 1 - 1 ∧ x = (plc (fun p => gI M 569 (576 + p)) l) + 1 ∧ actD M (fun j => rsP (gI M 569) (plc (fun p => gI M 569 (576 + p)) l) l (582 + j)) N) ∨ ¬ (0 ≤ l ∧ l < gI M 568 1) ∧ x = -2 ∧ N = M))
    refine bw_aload rfl rfl ?_
    refine bw_getr rfl rfl (cur_r hR hc) ?_
    refine bw_iload rfl rfl ?_
    refine bw_callVNj (e := d - 1) (as := [_]) rfl (by omega) rfl rfl (Nat.le_of_ble_eq_true rfl) (Nat.le_of_ble_eq_true rfl) rfl (c_hasLayer hR (by first | exact Or.inl rfl | exact Or.inr rfl) hS) (fun r5 hr5 => ?_)
    refine bw_ifne rfl (fun c8 => ?_) (fun c8 => ?_)
    · skip
      refine bw_aload rfl rfl ?_
      refine bw_getr rfl rfl (hR _ _) ?_
      refine bw_iload rfl rfl ?_
      refine bw_callVNe (e := d - 1) (as := [_]) rfl (by omega) rfl rfl (Nat.le_of_ble_eq_true rfl) (Nat.le_of_ble_eq_true rfl) rfl (c_placeOf hR) ?_
      rw [plc_cg (g' := fun p => gI M 569 (576 + p)) (fun p p0 p1 => h.sh.2.1 p p0 p1)]
      have pi := plc_in (g := fun p => gI M 569 (576 + p)) (l := l) (n := gI M 568 1) (by omega) (h.hp2 (by omega) (by omega))
      obtain ⟨p, ep⟩ : ∃ p, p = plc (fun p => gI M 569 (576 + p)) l := ⟨_, rfl⟩
      rw [← ep] at pi ⊢
      have pi2 : gI M 569 (576 + p) = l := pi.2
      have pi1 := pi.1
      clear pi
      refine bw_istore (ls2 := [_, _, _]) rfl rfl (Nat.le_of_ble_eq_true rfl) rfl ?_
      refine bw_iload rfl rfl ?_
      refine bw_iflt rfl (fun c24 => ?_) (fun c24 => ?_)
      · skip
        refine bw_push rfl ?_
        refine bw_ret rfl rfl ?_
        first
        | exact ⟨rfl, _, rfl, Or.inr ⟨by omega, rfl, rfl⟩⟩
        | exact ⟨rfl, _, rfl, Or.inl ⟨by omega, Or.inl ⟨by omega, rfl, rfl⟩⟩⟩
        | (refine ⟨rfl, _, rfl, Or.inl ⟨by omega, Or.inr ⟨by omega, by omega, ?_⟩⟩⟩
           have n19 : ∀ x : Nat, 19 ≤ x → x < 201 → gI (sI (sI (sI M51 18 p (gI M 569 (576 + p + 1))) 18 (p + 1) l) 0 14 0) x = gI M51 x := fun x x0 x1 => by rw [gI_sI_ne (by omega), gI_sI_ne (by omega), gI_sI_ne (by omega)]
           refine ⟨(((u51.mono (fun a z => by omega)).sI _ _ (Or.inr (Or.inl ⟨by omega, by omega⟩))).sI _ _ (Or.inr (Or.inl ⟨by omega, by omega⟩))).sI _ _ (Or.inl rfl), ⟨⟨fun i f i0 i1 f0 f1 => ?_, fun q q0 q1 => ?_⟩, by rw [n19 19 (by decide) (by decide)]; exact v51.2.1, by rw [n19 19 (by decide) (by decide)]; exact v51.2.2, fun x x0 x1 hx => by rw [n19 x (by omega) (by omega)]; exact u51.at x (fun z => z.elim (fun q => by omega) hx)⟩, gI_sI_eq, fun i i0 i1 => Or.inr ⟨by rw [gI_sI_ne (by decide), gI_sI_ne (by decide), gI_sI_ne (by decide), u51.at 547 (fun z => by omega)], fun f f0 f1 => rs_row (by omega) (by omega)⟩, fun i f i0 i1 f0 f1 => ?_, fun q q0 q1 => ?_, fun q q0 q1 => ?_, fun i i0 i1 => ?_⟩
           · rw [n19 _ (by omega) (by omega)]; exact v51.1.1 i f i0 i1 f0 f1
           · rw [n19 _ (by omega) (by omega)]; exact v51.1.2 q q0 q1
           · show _ = rsP (gI M 569) p l (582 + (96 * i + f))
             rw [rs_row (by omega) (by omega), gI_sI_ne (by omega), gI_sI_ne (by omega), gI_sI_ne (by omega), u51.at _ (fun z => by omega), h.row ⟨i0, i1⟩ ⟨f0, f1⟩, mR0]
           · show _ = rsP (gI M 569) p l (582 + (576 + q))
             rw [rs_st (by omega) ⟨q0, q1⟩, gI_sI_ne (by decide)]
             by_cases z : q = p + 1
             · rw [if_pos z, z, gI_sI_eq]
             · rw [if_neg z, gI_sI_nj z]
               by_cases z2 : q = p
               · rw [if_pos z2, z2, gI_sI_eq]
               · rw [if_neg z2, gI_sI_nj z2, u51.at 18 (fun z => by omega)]
                 exact (h.sh.2.1 q q0 q1).trans (by first | rfl | (congr 1; omega))
           · show 0 ≤ rsP (gI M 569) p l (582 + (576 + q)) ∧ rsP (gI M 569) p l (582 + (576 + q)) < gI M 568 1
             rw [rs_st (by omega) ⟨q0, by omega⟩]
             have s1 := h.sh.2.2.1 (p + 1) (by omega) (by omega)
             have s2 := h.sh.2.2.1 q q0 q1
             rw [show (0 : Int) + 576 + (p + 1) = 576 + p + 1 by omega] at s1
             rw [show (0 : Int) + 576 + q = 576 + q by omega] at s2
             split
             · omega
             · split
               · exact s1
               · exact s2
           · obtain ⟨q, q0, q1, q2⟩ := h.hp2 (l := i) i0 i1
             by_cases z : q = p
             · refine ⟨p + 1, by omega, by omega, ?_⟩
               show rsP (gI M 569) p l (582 + (576 + (p + 1))) = i
               rw [rs_st (by omega) (by omega), if_pos rfl, ← pi2, ← q2, z]
             · by_cases z2 : q = p + 1
               · refine ⟨p, by omega, by omega, ?_⟩
                 show rsP (gI M 569) p l (582 + (576 + p)) = i
                 rw [rs_st (by omega) (by omega), if_neg (by omega), if_pos rfl, ← q2, z2]; congr 1; omega
               · refine ⟨q, q0, q1, ?_⟩
                 show rsP (gI M 569) p l (582 + (576 + q)) = i
                 rw [rs_st (by omega) (by omega), if_neg z2, if_neg z, q2])
      · skip
        refine bw_iload rfl rfl ?_
        refine bw_push rfl ?_
        refine bw_iadd rfl ⟨by omega, by omega⟩ ?_
        refine bw_aload rfl rfl ?_
        refine bw_getr rfl rfl (cur_r hR hc) ?_
        refine bw_getI rfl rfl ?_
        rw [show gI M 459 2 = gI M 568 1 from hS.c2]
        refine bw_iclt rfl (fun c37 => ?_) (fun c37 => ?_)
        · skip
          refine bw_aload rfl rfl ?_
          refine bw_getr rfl rfl (hR _ _) ?_
          refine bw_aload rfl rfl ?_
          refine bw_getr rfl rfl (hR _ _) ?_
          refine bw_callVNv (e := d - 1) (as := [_]) rfl (by omega) rfl rfl (Nat.le_of_ble_eq_true rfl) (Nat.le_of_ble_eq_true rfl) rfl (c_remember (n := gI M 19 1) (k := gI M 19 2) hR ⟨rfl, by omega, by omega⟩ ⟨rfl, by omega, by omega⟩ (by omega)) (fun M51 hM51 => ?_)
          obtain ⟨u51, v51⟩ := hM51
          have hR := u51.RF hR
          refine bw_aload rfl rfl ?_
          refine bw_getr rfl rfl (hR _ _) ?_
          refine bw_getr rfl rfl (hR _ _) ?_
          refine bw_iload rfl rfl ?_
          refine bw_aload rfl rfl ?_
          refine bw_getr rfl rfl (hR _ _) ?_
          refine bw_getr rfl rfl (hR _ _) ?_
          refine bw_iload rfl rfl ?_
          refine bw_push rfl ?_
          refine bw_iadd rfl ⟨by omega, by omega⟩ ?_
          refine bw_aldi rfl (by first | rfl | assumption) (by omega) (by omega) ?_
          rw [show gI M51 18 (p + 1) = gI M 569 (576 + p + 1) from by rw [u51.at 18 (fun z => by omega), show 576 + p + 1 = 0 + 576 + (p + 1) by omega]; exact h.sh.2.1 (p + 1) (by omega) (by omega)]
          refine bw_asti rfl (by first | rfl | assumption) (by omega) (by omega) ?_
          refine bw_aload rfl rfl ?_
          refine bw_getr rfl rfl (hR _ _) ?_
          refine bw_getr rfl rfl (hR _ _) ?_
          refine bw_iload rfl rfl ?_
          refine bw_push rfl ?_
          refine bw_iadd rfl ⟨by omega, by omega⟩ ?_
          refine bw_iload rfl rfl ?_
          refine bw_asti rfl (by first | rfl | assumption) (by omega) (by omega) ?_
          refine bw_aload rfl rfl ?_
          refine bw_push rfl ?_
          refine bw_putZ rfl rfl (by omega) ?_
          refine bw_iload rfl rfl ?_
          refine bw_push rfl ?_
          refine bw_iadd rfl ⟨by omega, by omega⟩ ?_
          refine bw_ret rfl rfl ?_
          first
          | exact ⟨rfl, _, rfl, Or.inr ⟨by omega, rfl, rfl⟩⟩
          | exact ⟨rfl, _, rfl, Or.inl ⟨by omega, Or.inl ⟨by omega, rfl, rfl⟩⟩⟩
          | (refine ⟨rfl, _, rfl, Or.inl ⟨by omega, Or.inr ⟨by omega, by omega, ?_⟩⟩⟩
             have n19 : ∀ x : Nat, 19 ≤ x → x < 201 → gI (sI (sI (sI M51 18 p (gI M 569 (576 + p + 1))) 18 (p + 1) l) 0 14 0) x = gI M51 x := fun x x0 x1 => by rw [gI_sI_ne (by omega), gI_sI_ne (by omega), gI_sI_ne (by omega)]
             refine ⟨(((u51.mono (fun a z => by omega)).sI _ _ (Or.inr (Or.inl ⟨by omega, by omega⟩))).sI _ _ (Or.inr (Or.inl ⟨by omega, by omega⟩))).sI _ _ (Or.inl rfl), ⟨⟨fun i f i0 i1 f0 f1 => ?_, fun q q0 q1 => ?_⟩, by rw [n19 19 (by decide) (by decide)]; exact v51.2.1, by rw [n19 19 (by decide) (by decide)]; exact v51.2.2, fun x x0 x1 hx => by rw [n19 x (by omega) (by omega)]; exact u51.at x (fun z => z.elim (fun q => by omega) hx)⟩, gI_sI_eq, fun i i0 i1 => Or.inr ⟨by rw [gI_sI_ne (by decide), gI_sI_ne (by decide), gI_sI_ne (by decide), u51.at 547 (fun z => by omega)], fun f f0 f1 => rs_row (by omega) (by omega)⟩, fun i f i0 i1 f0 f1 => ?_, fun q q0 q1 => ?_, fun q q0 q1 => ?_, fun i i0 i1 => ?_⟩
             · rw [n19 _ (by omega) (by omega)]; exact v51.1.1 i f i0 i1 f0 f1
             · rw [n19 _ (by omega) (by omega)]; exact v51.1.2 q q0 q1
             · show _ = rsP (gI M 569) p l (582 + (96 * i + f))
               rw [rs_row (by omega) (by omega), gI_sI_ne (by omega), gI_sI_ne (by omega), gI_sI_ne (by omega), u51.at _ (fun z => by omega), h.row ⟨i0, i1⟩ ⟨f0, f1⟩, mR0]
             · show _ = rsP (gI M 569) p l (582 + (576 + q))
               rw [rs_st (by omega) ⟨q0, q1⟩, gI_sI_ne (by decide)]
               by_cases z : q = p + 1
               · rw [if_pos z, z, gI_sI_eq]
               · rw [if_neg z, gI_sI_nj z]
                 by_cases z2 : q = p
                 · rw [if_pos z2, z2, gI_sI_eq]
                 · rw [if_neg z2, gI_sI_nj z2, u51.at 18 (fun z => by omega)]
                   exact (h.sh.2.1 q q0 q1).trans (by first | rfl | (congr 1; omega))
             · show 0 ≤ rsP (gI M 569) p l (582 + (576 + q)) ∧ rsP (gI M 569) p l (582 + (576 + q)) < gI M 568 1
               rw [rs_st (by omega) ⟨q0, by omega⟩]
               have s1 := h.sh.2.2.1 (p + 1) (by omega) (by omega)
               have s2 := h.sh.2.2.1 q q0 q1
               rw [show (0 : Int) + 576 + (p + 1) = 576 + p + 1 by omega] at s1
               rw [show (0 : Int) + 576 + q = 576 + q by omega] at s2
               split
               · omega
               · split
                 · exact s1
                 · exact s2
             · obtain ⟨q, q0, q1, q2⟩ := h.hp2 (l := i) i0 i1
               by_cases z : q = p
               · refine ⟨p + 1, by omega, by omega, ?_⟩
                 show rsP (gI M 569) p l (582 + (576 + (p + 1))) = i
                 rw [rs_st (by omega) (by omega), if_pos rfl, ← pi2, ← q2, z]
               · by_cases z2 : q = p + 1
                 · refine ⟨p, by omega, by omega, ?_⟩
                   show rsP (gI M 569) p l (582 + (576 + p)) = i
                   rw [rs_st (by omega) (by omega), if_neg (by omega), if_pos rfl, ← q2, z2]; congr 1; omega
                 · refine ⟨q, q0, q1, ?_⟩
                   show rsP (gI M 569) p l (582 + (576 + q)) = i
                   rw [rs_st (by omega) (by omega), if_neg z2, if_neg z, q2])
        · skip
          refine bw_push rfl ?_
          refine bw_ret rfl rfl ?_
          first
          | exact ⟨rfl, _, rfl, Or.inr ⟨by omega, rfl, rfl⟩⟩
          | exact ⟨rfl, _, rfl, Or.inl ⟨by omega, Or.inl ⟨by omega, rfl, rfl⟩⟩⟩
          | (refine ⟨rfl, _, rfl, Or.inl ⟨by omega, Or.inr ⟨by omega, by omega, ?_⟩⟩⟩
             have n19 : ∀ x : Nat, 19 ≤ x → x < 201 → gI (sI (sI (sI M51 18 p (gI M 569 (576 + p + 1))) 18 (p + 1) l) 0 14 0) x = gI M51 x := fun x x0 x1 => by rw [gI_sI_ne (by omega), gI_sI_ne (by omega), gI_sI_ne (by omega)]
             refine ⟨(((u51.mono (fun a z => by omega)).sI _ _ (Or.inr (Or.inl ⟨by omega, by omega⟩))).sI _ _ (Or.inr (Or.inl ⟨by omega, by omega⟩))).sI _ _ (Or.inl rfl), ⟨⟨fun i f i0 i1 f0 f1 => ?_, fun q q0 q1 => ?_⟩, by rw [n19 19 (by decide) (by decide)]; exact v51.2.1, by rw [n19 19 (by decide) (by decide)]; exact v51.2.2, fun x x0 x1 hx => by rw [n19 x (by omega) (by omega)]; exact u51.at x (fun z => z.elim (fun q => by omega) hx)⟩, gI_sI_eq, fun i i0 i1 => Or.inr ⟨by rw [gI_sI_ne (by decide), gI_sI_ne (by decide), gI_sI_ne (by decide), u51.at 547 (fun z => by omega)], fun f f0 f1 => rs_row (by omega) (by omega)⟩, fun i f i0 i1 f0 f1 => ?_, fun q q0 q1 => ?_, fun q q0 q1 => ?_, fun i i0 i1 => ?_⟩
             · rw [n19 _ (by omega) (by omega)]; exact v51.1.1 i f i0 i1 f0 f1
             · rw [n19 _ (by omega) (by omega)]; exact v51.1.2 q q0 q1
             · show _ = rsP (gI M 569) p l (582 + (96 * i + f))
               rw [rs_row (by omega) (by omega), gI_sI_ne (by omega), gI_sI_ne (by omega), gI_sI_ne (by omega), u51.at _ (fun z => by omega), h.row ⟨i0, i1⟩ ⟨f0, f1⟩, mR0]
             · show _ = rsP (gI M 569) p l (582 + (576 + q))
               rw [rs_st (by omega) ⟨q0, q1⟩, gI_sI_ne (by decide)]
               by_cases z : q = p + 1
               · rw [if_pos z, z, gI_sI_eq]
               · rw [if_neg z, gI_sI_nj z]
                 by_cases z2 : q = p
                 · rw [if_pos z2, z2, gI_sI_eq]
                 · rw [if_neg z2, gI_sI_nj z2, u51.at 18 (fun z => by omega)]
                   exact (h.sh.2.1 q q0 q1).trans (by first | rfl | (congr 1; omega))
             · show 0 ≤ rsP (gI M 569) p l (582 + (576 + q)) ∧ rsP (gI M 569) p l (582 + (576 + q)) < gI M 568 1
               rw [rs_st (by omega) ⟨q0, by omega⟩]
               have s1 := h.sh.2.2.1 (p + 1) (by omega) (by omega)
               have s2 := h.sh.2.2.1 q q0 q1
               rw [show (0 : Int) + 576 + (p + 1) = 576 + p + 1 by omega] at s1
               rw [show (0 : Int) + 576 + q = 576 + q by omega] at s2
               split
               · omega
               · split
                 · exact s1
                 · exact s2
             · obtain ⟨q, q0, q1, q2⟩ := h.hp2 (l := i) i0 i1
               by_cases z : q = p
               · refine ⟨p + 1, by omega, by omega, ?_⟩
                 show rsP (gI M 569) p l (582 + (576 + (p + 1))) = i
                 rw [rs_st (by omega) (by omega), if_pos rfl, ← pi2, ← q2, z]
               · by_cases z2 : q = p + 1
                 · refine ⟨p, by omega, by omega, ?_⟩
                   show rsP (gI M 569) p l (582 + (576 + p)) = i
                   rw [rs_st (by omega) (by omega), if_neg (by omega), if_pos rfl, ← q2, z2]; congr 1; omega
                 · refine ⟨q, q0, q1, ?_⟩
                   show rsP (gI M 569) p l (582 + (576 + q)) = i
                   rw [rs_st (by omega) (by omega), if_neg z2, if_neg z, q2])
    · skip
      refine bw_push rfl ?_
      refine bw_ret rfl rfl ?_
      first
      | exact ⟨rfl, _, rfl, Or.inr ⟨by omega, rfl, rfl⟩⟩
      | exact ⟨rfl, _, rfl, Or.inl ⟨by omega, Or.inl ⟨by omega, rfl, rfl⟩⟩⟩
      | (refine ⟨rfl, _, rfl, Or.inl ⟨by omega, Or.inr ⟨by omega, by omega, ?_⟩⟩⟩
         have n19 : ∀ x : Nat, 19 ≤ x → x < 201 → gI (sI (sI (sI M51 18 p (gI M 569 (576 + p + 1))) 18 (p + 1) l) 0 14 0) x = gI M51 x := fun x x0 x1 => by rw [gI_sI_ne (by omega), gI_sI_ne (by omega), gI_sI_ne (by omega)]
         refine ⟨(((u51.mono (fun a z => by omega)).sI _ _ (Or.inr (Or.inl ⟨by omega, by omega⟩))).sI _ _ (Or.inr (Or.inl ⟨by omega, by omega⟩))).sI _ _ (Or.inl rfl), ⟨⟨fun i f i0 i1 f0 f1 => ?_, fun q q0 q1 => ?_⟩, by rw [n19 19 (by decide) (by decide)]; exact v51.2.1, by rw [n19 19 (by decide) (by decide)]; exact v51.2.2, fun x x0 x1 hx => by rw [n19 x (by omega) (by omega)]; exact u51.at x (fun z => z.elim (fun q => by omega) hx)⟩, gI_sI_eq, fun i i0 i1 => Or.inr ⟨by rw [gI_sI_ne (by decide), gI_sI_ne (by decide), gI_sI_ne (by decide), u51.at 547 (fun z => by omega)], fun f f0 f1 => rs_row (by omega) (by omega)⟩, fun i f i0 i1 f0 f1 => ?_, fun q q0 q1 => ?_, fun q q0 q1 => ?_, fun i i0 i1 => ?_⟩
         · rw [n19 _ (by omega) (by omega)]; exact v51.1.1 i f i0 i1 f0 f1
         · rw [n19 _ (by omega) (by omega)]; exact v51.1.2 q q0 q1
         · show _ = rsP (gI M 569) p l (582 + (96 * i + f))
           rw [rs_row (by omega) (by omega), gI_sI_ne (by omega), gI_sI_ne (by omega), gI_sI_ne (by omega), u51.at _ (fun z => by omega), h.row ⟨i0, i1⟩ ⟨f0, f1⟩, mR0]
         · show _ = rsP (gI M 569) p l (582 + (576 + q))
           rw [rs_st (by omega) ⟨q0, q1⟩, gI_sI_ne (by decide)]
           by_cases z : q = p + 1
           · rw [if_pos z, z, gI_sI_eq]
           · rw [if_neg z, gI_sI_nj z]
             by_cases z2 : q = p
             · rw [if_pos z2, z2, gI_sI_eq]
             · rw [if_neg z2, gI_sI_nj z2, u51.at 18 (fun z => by omega)]
               exact (h.sh.2.1 q q0 q1).trans (by first | rfl | (congr 1; omega))
         · show 0 ≤ rsP (gI M 569) p l (582 + (576 + q)) ∧ rsP (gI M 569) p l (582 + (576 + q)) < gI M 568 1
           rw [rs_st (by omega) ⟨q0, by omega⟩]
           have s1 := h.sh.2.2.1 (p + 1) (by omega) (by omega)
           have s2 := h.sh.2.2.1 q q0 q1
           rw [show (0 : Int) + 576 + (p + 1) = 576 + p + 1 by omega] at s1
           rw [show (0 : Int) + 576 + q = 576 + q by omega] at s2
           split
           · omega
           · split
             · exact s1
             · exact s2
         · obtain ⟨q, q0, q1, q2⟩ := h.hp2 (l := i) i0 i1
           by_cases z : q = p
           · refine ⟨p + 1, by omega, by omega, ?_⟩
             show rsP (gI M 569) p l (582 + (576 + (p + 1))) = i
             rw [rs_st (by omega) (by omega), if_pos rfl, ← pi2, ← q2, z]
           · by_cases z2 : q = p + 1
             · refine ⟨p, by omega, by omega, ?_⟩
               show rsP (gI M 569) p l (582 + (576 + p)) = i
               rw [rs_st (by omega) (by omega), if_neg (by omega), if_pos rfl, ← q2, z2]; congr 1; omega
             · refine ⟨q, q0, q1, ?_⟩
               show rsP (gI M 569) p l (582 + (576 + q)) = i
               rw [rs_st (by omega) (by omega), if_neg z2, if_neg z, q2])
/-- sheets have been moved -/
abbrev pMv (a : Nat) : Prop := a = 0 ∨ pSh 10 a ∨ (19 ≤ a ∧ a < 203) ∨ a = 547 ∨ (549 ≤ a ∧ a < 567)
theorem INV_mv {r : abRf} {M N : abMem} {k : Int} (h : INV r M k) (hR : RF r N) (c : ∀ a : Nat, ¬ pMv a → a ≠ 567 → a ≠ 569 → a ≠ 570 → gI N a = gI M a) (e7 : ∀ j : Int, j ≠ 3 → gI N 567 j = gI M 567 j) (tb : bdS (gI N 569)) (h1 : shP N 10 0) (h2 : hisO N) (h3 : kepO N) (h4 : mkcO N) (h5 : pctO N) : INV r N k := by
  have e8 : gI N 568 = gI M 568 := c 568 (fun z => by omega) (by decide) (by decide) (by decide)
  refine ⟨hR, ⟨by rw [e8]; exact h.rb.sw, tb⟩, ?_, h1, h2, h3, ?_, ?_, ?_, h4, h5, ?_, ?_⟩
  · rw [e8]
    exact SR_sm (M := M) (N := (N.1, M.2)) (p := fun x => pMv x ∨ x = 567 ∨ x = 569 ∨ x = 570) h.sr ⟨rfl, fun x hx => c x (fun z => hx (Or.inl z)) (fun z => hx (Or.inr (Or.inl z))) (fun z => hx (Or.inr (Or.inr (Or.inl z)))) (fun z => hx (Or.inr (Or.inr (Or.inr z))))⟩ (fun x x0 x1 z => by have := cur_in r; omega)
  · have i := h.ta
    unfold tapO at i ⊢
    rw [c 1 (fun z => by omega) (by decide) (by decide) (by decide), c 2 (fun z => by omega) (by decide) (by decide) (by decide), e7 5 (by decide), c 571 (fun z => by omega) (by decide) (by decide) (by decide)]
    exact i
  · have i := h.ow
    unfold ownO at i ⊢
    rw [c 572 (fun z => by omega) (by decide) (by decide) (by decide)]
    exact i
  · rw [c 3 (fun z => by omega) (by decide) (by decide) (by decide), e7 6 (by decide), e7 7 (by decide)]; exact h.fa
  · exact cmrO_e h.cm (by rw [c 203 (fun z => by omega) (by decide) (by decide) (by decide)]) (c 218 (fun z => by omega) (by decide) (by decide) (by decide))
  · have i := h.ly
    unfold layO at i ⊢
    rw [e8]; exact i
theorem bd_cp {S : Int → Int} {a b : Int} (h : bdS S) (ha : 0 ≤ a ∧ a + 582 ≤ 13968) : bdS (cpF S a b 582) := fun j j0 j1 => by
  unfold cpF
  split
  · exact h _ (by omega) (by omega)
  · exact h j j0 j1
theorem cp_in {S : Int → Int} {a b j : Int} (h : 0 ≤ j ∧ j < 582) : cpF S a b 582 (b + j) = S (a + j) := by
  unfold cpF
  rw [if_pos (by omega)]; congr 1; omega
theorem cp_out {S : Int → Int} {a b j : Int} (h : j < b ∨ b + 582 ≤ j) : cpF S a b 582 j = S j := by
  unfold cpF
  rw [if_neg (by omega)]
theorem hix_dn {n a : Int} (hn : 0 ≤ n ∧ n < 20) : hix n a (a - 1) = nxD n := by
  unfold hix nxD
  (repeat' split) <;> omega
theorem hix_dj {n a j : Int} (hn : 0 ≤ n ∧ n < 20) (hj : 0 ≤ j ∧ j < a - 1 ∧ a ≤ 20) : hix (nxD n) (a - 1) j = hix n a j := by
  unfold hix nxD
  (repeat' split) <;> omega
/-- the class has gone back by one -/
def undD (M N : abMem) : Prop := sm (fun a => a = 0 ∨ a = 19 ∨ pSh 10 a ∨ a = 547) M N ∧ shE M N 10 (21 + 9 * (nxD (gI M 19 1)).toNat) ∧ gI N 19 1 = nxD (gI M 19 1) ∧ gI N 19 2 = gI M 19 2 - 1 ∧ (∀ l : Int, 0 ≤ l → l < 6 → gI N 547 l = -1) ∧ gI N 0 14 = 0
theorem und_inv {r : abRf} {M N N2 : abMem} {k : Int} (h : INV r M k) (a : undD M N) (h0 : gI M 567 3 ≠ 0) (F : N2 = wI (sI N 567 3 (gI N 567 3 - 1)) 569 (cpF (gI N 569) (2328 + 582 * (gI N 567 3 - 1)) 0 582)) : INV r N2 k := by
  obtain ⟨a1, a2, a3, a4, a5, a6⟩ := a
  have g9 : gI N 569 = gI M 569 := a1.at 569 (fun z => by omega)
  have g7 : gI N 567 = gI M 567 := a1.at 567 (fun z => by omega)
  rw [g9, g7] at F
  obtain ⟨i1, i2, i3⟩ := h.hi
  have la := h.la
  have fr := h.fr
  have cN2 : ∀ c : Nat, c ≠ 567 → c ≠ 569 → gI N2 c = gI N c := fun c c1 c2 => by rw [F, gI_wI_ne c2, gI_sI_ne c1]
  have cM : ∀ c : Nat, c ≠ 567 → c ≠ 569 → ¬ (c = 0 ∨ c = 19 ∨ pSh 10 c ∨ c = 547) → gI N2 c = gI M c := fun c c1 c2 c3 => (cN2 c c1 c2).trans (a1.at c c3)
  have e9 : gI N2 569 = cpF (gI M 569) (2328 + 582 * (gI M 567 3 - 1)) 0 582 := by rw [F, gI_wI_eq]
  have e8 : gI N2 568 = gI M 568 := cM 568 (by decide) (by decide) (fun z => by omega)
  have e3 : gI N2 567 3 = gI M 567 3 - 1 := by rw [F, gI_wI_ne (by decide), gI_sI_eq]
  have x19 : gI N2 19 = gI N 19 := cN2 19 (by decide) (by decide)
  have nd : 0 ≤ nxD (gI M 19 1) ∧ nxD (gI M 19 1) < 20 := by unfold nxD; split <;> omega
  refine INV_mv h ?_ (fun c c1 c2 c3 c4 => cM c c2 c3 (fun z => by omega)) (fun j hj => by rw [F, gI_wI_ne (by decide), gI_sI_nj hj, g7]) (by rw [e9]; exact bd_cp h.rb.sh (by omega)) ?_ ⟨⟨by rw [x19, a4, e3, i1.1], by omega, by omega⟩, by rw [x19, a3]; exact nd, fun j j0 j1 => ?_⟩ (fun q q0 q1 => ?_) (fun l l0 l1 => Or.inl (by rw [cN2 547 (by decide) (by decide)]; rw [e8] at l1; exact a5 l l0 (by omega))) (Or.inl (by rw [cN2 0 (by decide) (by decide)]; exact a6))
  · intro c j
    have q := a1.RF h.rf c j
    rw [← q, F]; rfl
  · have b := i3 (gI M 567 3 - 1) (by omega) (by omega)
    rw [hix_dn i2] at b
    refine shP_mv b la.2 fr.2 e8 (fun l f l0 l1 f0 f1 => ?_) (fun p p0 p1 => ?_) (fun j j0 j1 => by rw [e9, cp_in ⟨j0, j1⟩])
    · rw [cN2 _ (by omega) (by omega)]; exact a2.1 l f l0 (by omega) f0 (by omega)
    · rw [cN2 _ (by omega) (by omega)]; exact a2.2 p p0 p1
  · rw [e3] at j1
    rw [x19, a3, e3, hix_dj i2 ⟨j0, j1, by omega⟩]
    have hi := hix_in i2 i1.2 (j := j) ⟨j0, by omega⟩
    refine shP_mv (i3 j j0 (by omega)) la.2 fr.2 e8 (fun l f l0 l1 f0 f1 => ?_) (fun p p0 p1 => ?_) (fun y y0 y1 => by rw [e9, cp_out (by omega)])
    · rw [cM _ (by omega) (by omega) (fun z => by omega)]
    · rw [cM _ (by omega) (by omega) (fun z => by omega)]
  · obtain ⟨k1, k2⟩ := h.ke q q0 q1
    rw [cM 202 (by decide) (by decide) (fun z => by omega), cM 570 (by decide) (by decide) (fun z => by omega)]
    refine ⟨k1, k2.elim Or.inl (fun z => Or.inr ⟨z.1, shP_mv z.2 la.2 fr.2 e8 (fun l f l0 l1 f0 f1 => ?_) (fun p p0 p1 => ?_) (fun y y0 y1 => by rw [e9, cp_out (by omega)])⟩)⟩
    · rw [cM _ (by omega) (by omega) (fun z => by omega)]
    · rw [cM _ (by omega) (by omega) (fun z => by omega)]
set_option maxRecDepth 20000 in
set_option maxHeartbeats 4000000 in
theorem x_undo {d L : Nat} {M : abMem} {r : abRf} (hR : RF r M) {s : Nat} (hs : s = 372 ∨ s = 459) (hc : cur r = s) {k : Int} (h : INV r M k) (hd : 3 ≤ d) : abW d (0, 0) 121 0 (abEnt (abL 121) [vr (some 0)]) [] (0, 0) (A0 L) M (qI (A0 L) (fun x N => gI M 567 3 = 0 ∧ x = -3 ∧ N = M ∨ gI M 567 3 ≠ 0 ∧ x = gI M 567 3 - 1 ∧ undD M N)) := by
  rcases hs with rfl | rfl
  · have hS : SR M 372 (gI M 568) := by have q := h.sr; rw [hc] at q; exact q
    have b1 := h.fr
    have b2 := h.la
    have hrf := hR
    have hh1 := h.hi.1
    have hh2 := h.hi.2.1
    show abW d (0, 0) 121 0 [some (vr (some 0))] [] (0, 0) (A0 L) M (qI (A0 L) (fun x N => gI M 567 3 = 0 ∧ x = -3 ∧ N = M ∨ gI M 567 3 ≠ 0 ∧ x = gI M 567 3 - 1 ∧ undD M N))
    refine bw_aload rfl rfl ?_
    refine bw_getr rfl rfl (hR _ _) ?_
    refine bw_getI rfl rfl ?_
    refine bw_ifne rfl (fun c7 => ?_) (fun c7 => ?_)
    · skip
      refine bw_aload rfl rfl ?_
      refine bw_getr rfl rfl (hR _ _) ?_
      refine bw_aload rfl rfl ?_
      refine bw_getr rfl rfl (hR _ _) ?_
      refine bw_callVNv (e := d - 1) (as := [_]) rfl (by omega) rfl rfl (Nat.le_of_ble_eq_true rfl) (Nat.le_of_ble_eq_true rfl) rfl (c_takeBack (n := gI M 19 1) (k := gI M 19 2) hR ⟨rfl, by omega, by omega⟩ ⟨rfl, by omega, by omega⟩ (by omega) (by omega)) (fun M21 hM21 => ?_)
      obtain ⟨u21, v21⟩ := hM21
      have hR := u21.RF hR
      refine bw_aload rfl rfl ?_
      refine bw_callVv (e := d - 1) (as := []) rfl (by omega) rfl rfl (Nat.le_of_ble_eq_true rfl) (Nat.le_of_ble_eq_true rfl) rfl (c_forgetAll hR (by omega)) (fun M25 hM25 => ?_)
      obtain ⟨u25, v25⟩ := hM25
      have hR := u25.RF hR
      have w19 : gI M25 19 = gI M21 19 := u25.at 19 (by decide)
      refine bw_aload rfl rfl ?_
      refine bw_getr rfl rfl (hR _ _) ?_
      refine bw_getI rfl rfl ?_
      rw [w19, v21.2.2]
      refine bw_ret rfl rfl ?_
      refine ⟨rfl, _, rfl, Or.inr ⟨by omega, by omega, (u21.mono (fun a z => by omega)).trans (u25.mono (fun a z => by omega)), ⟨fun l f l0 l1 f0 f1 => ?_, fun p p0 p1 => ?_⟩, by rw [w19]; exact v21.2.1, by rw [w19]; exact v21.2.2, v25.1, v25.2.1⟩⟩
      · rw [u25.at _ (fun z => by omega)]; exact v21.1.1 l f l0 l1 f0 f1
      · rw [u25.at _ (fun z => by omega)]; exact v21.1.2 p p0 p1
    · skip
      refine bw_push rfl ?_
      refine bw_ret rfl rfl ?_
      exact ⟨rfl, _, rfl, Or.inl ⟨by omega, rfl, rfl⟩⟩
  · have hS : SR M 459 (gI M 568) := by have q := h.sr; rw [hc] at q; exact q
    have b1 := h.fr
    have b2 := h.la
    have hrf := hR
    have hh1 := h.hi.1
    have hh2 := h.hi.2.1
    show abW d (0, 0) 121 0 [some (vr (some 0))] [] (0, 0) (A0 L) M (qI (A0 L) (fun x N => gI M 567 3 = 0 ∧ x = -3 ∧ N = M ∨ gI M 567 3 ≠ 0 ∧ x = gI M 567 3 - 1 ∧ undD M N))
    refine bw_aload rfl rfl ?_
    refine bw_getr rfl rfl (hR _ _) ?_
    refine bw_getI rfl rfl ?_
    refine bw_ifne rfl (fun c7 => ?_) (fun c7 => ?_)
    · skip
      refine bw_aload rfl rfl ?_
      refine bw_getr rfl rfl (hR _ _) ?_
      refine bw_aload rfl rfl ?_
      refine bw_getr rfl rfl (hR _ _) ?_
      refine bw_callVNv (e := d - 1) (as := [_]) rfl (by omega) rfl rfl (Nat.le_of_ble_eq_true rfl) (Nat.le_of_ble_eq_true rfl) rfl (c_takeBack (n := gI M 19 1) (k := gI M 19 2) hR ⟨rfl, by omega, by omega⟩ ⟨rfl, by omega, by omega⟩ (by omega) (by omega)) (fun M21 hM21 => ?_)
      obtain ⟨u21, v21⟩ := hM21
      have hR := u21.RF hR
      refine bw_aload rfl rfl ?_
      refine bw_callVv (e := d - 1) (as := []) rfl (by omega) rfl rfl (Nat.le_of_ble_eq_true rfl) (Nat.le_of_ble_eq_true rfl) rfl (c_forgetAll hR (by omega)) (fun M25 hM25 => ?_)
      obtain ⟨u25, v25⟩ := hM25
      have hR := u25.RF hR
      have w19 : gI M25 19 = gI M21 19 := u25.at 19 (by decide)
      refine bw_aload rfl rfl ?_
      refine bw_getr rfl rfl (hR _ _) ?_
      refine bw_getI rfl rfl ?_
      rw [w19, v21.2.2]
      refine bw_ret rfl rfl ?_
      refine ⟨rfl, _, rfl, Or.inr ⟨by omega, by omega, (u21.mono (fun a z => by omega)).trans (u25.mono (fun a z => by omega)), ⟨fun l f l0 l1 f0 f1 => ?_, fun p p0 p1 => ?_⟩, by rw [w19]; exact v21.2.1, by rw [w19]; exact v21.2.2, v25.1, v25.2.1⟩⟩
      · rw [u25.at _ (fun z => by omega)]; exact v21.1.1 l f l0 l1 f0 f1
      · rw [u25.at _ (fun z => by omega)]; exact v21.1.2 p p0 p1
    · skip
      refine bw_push rfl ?_
      refine bw_ret rfl rfl ?_
      exact ⟨rfl, _, rfl, Or.inl ⟨by omega, rfl, rfl⟩⟩
/-- the class has kept its sheet -/
def kepD (M : abMem) (z : Int) (N : abMem) : Prop := sm (fun a => a = 202 ∨ pSh (549 + 9 * z.toNat) a) M N ∧ shE M N (549 + 9 * z.toNat) 10 ∧ gI N 202 z = 1 ∧ ∀ j : Int, j ≠ z → gI N 202 j = gI M 202 j
theorem kep_inv {r : abRf} {M N N2 : abMem} {k z : Int} (h : INV r M k) (hz : 0 ≤ z ∧ z ≤ 1) (a : kepD M z N) (F : N2 = sI (wI N 569 (cpF (gI N 569) 0 (1164 + 582 * z) 582)) 570 z 1) : INV r N2 k := by
  obtain ⟨a1, a2, a3, a4⟩ := a
  have g9 : gI N 569 = gI M 569 := a1.at 569 (fun z => by omega)
  rw [g9] at F
  obtain ⟨i1, i2, i3⟩ := h.hi
  have la := h.la
  have fr := h.fr
  have cN2 : ∀ c : Nat, c ≠ 569 → c ≠ 570 → gI N2 c = gI N c := fun c c1 c2 => by rw [F, gI_sI_ne c2, gI_wI_ne c1]
  have cM : ∀ c : Nat, c ≠ 569 → c ≠ 570 → ¬ (c = 202 ∨ pSh (549 + 9 * z.toNat) c) → gI N2 c = gI M c := fun c c1 c2 c3 => (cN2 c c1 c2).trans (a1.at c c3)
  have e9 : gI N2 569 = cpF (gI M 569) 0 (1164 + 582 * z) 582 := by rw [F, gI_sI_ne (by decide), gI_wI_eq]
  have e8 : gI N2 568 = gI M 568 := cM 568 (by decide) (by decide) (fun z => by omega)
  have e7 : gI N2 567 = gI M 567 := cM 567 (by decide) (by decide) (fun z => by omega)
  have e70 : ∀ q : Int, gI N2 570 q = if q = z then 1 else gI M 570 q := fun q => by
    rw [F]
    by_cases y : q = z
    · rw [if_pos y, y, gI_sI_eq]
    · rw [if_neg y, gI_sI_nj y, gI_wI_ne (by decide), a1.at 570 (fun z => by omega)]
  have row : ∀ l f : Int, 0 ≤ l → l < gI M 568 1 → 0 ≤ f → f < gI M 568 0 → mR N2 0 l f = mR M 0 l f := fun l f l0 l1 f0 f1 => by
    rw [mR0, mR0, e9, cp_out (by omega)]
  refine INV_mv h ?_ (fun c c1 c2 c3 c4 => cM c c3 c4 (fun z => by omega)) (fun j _ => by rw [e7]) (by rw [e9]; exact bd_cp h.rb.sh (by omega)) ?_ ⟨by rw [cM 19 (by decide) (by decide) (fun z => by omega), e7]; exact i1, by rw [cM 19 (by decide) (by decide) (fun z => by omega)]; exact i2, fun j j0 j1 => ?_⟩ (fun q q0 q1 => ?_) (fun l l0 l1 => ?_) ?_
  · intro c j
    have q := a1.RF h.rf c j
    rw [← q, F]; rfl
  · refine shP_mv h.sh la.2 fr.2 e8 (fun l f l0 l1 f0 f1 => ?_) (fun p p0 p1 => ?_) (fun y y0 y1 => by rw [e9, cp_out (by omega)])
    · rw [cM _ (by omega) (by omega) (fun z => by omega)]
    · rw [cM _ (by omega) (by omega) (fun z => by omega)]
  · rw [e7] at j1 ⊢
    rw [cM 19 (by decide) (by decide) (fun z => by omega)]
    have hi := hix_in i2 i1.2 (j := j) ⟨j0, j1⟩
    refine shP_mv (i3 j j0 j1) la.2 fr.2 e8 (fun l f l0 l1 f0 f1 => ?_) (fun p p0 p1 => ?_) (fun y y0 y1 => by rw [e9, cp_out (by omega)])
    · rw [cM _ (by omega) (by omega) (fun z => by omega)]
    · rw [cM _ (by omega) (by omega) (fun z => by omega)]
  · rw [cN2 202 (by decide) (by decide), e70]
    by_cases y : q = z
    · rw [if_pos y, y]
      refine ⟨a3, Or.inr ⟨rfl, shP_mv h.sh la.2 fr.2 e8 (fun l f l0 l1 f0 f1 => ?_) (fun p p0 p1 => ?_) (fun w w0 w1 => by rw [e9, cp_in ⟨w0, w1⟩])⟩⟩
      · rw [cN2 _ (by omega) (by omega)]; exact a2.1 l f l0 (by omega) f0 (by omega)
      · rw [cN2 _ (by omega) (by omega)]; exact a2.2 p p0 p1
    · rw [if_neg y, a4 q y]
      obtain ⟨k1, k2⟩ := h.ke q q0 q1
      refine ⟨k1, k2.elim Or.inl (fun w => Or.inr ⟨w.1, shP_mv w.2 la.2 fr.2 e8 (fun l f l0 l1 f0 f1 => ?_) (fun p p0 p1 => ?_) (fun w w0 w1 => by rw [e9, cp_out (by omega)])⟩)⟩
      · rw [cM _ (by omega) (by omega) (fun z => by omega)]
      · rw [cM _ (by omega) (by omega) (fun z => by omega)]
  · rw [e8] at l1 ⊢
    rw [cM 547 (by decide) (by decide) (fun z => by omega)]
    exact (h.mk l l0 l1).elim Or.inl (fun w => Or.inr (isMk_cg w (fun j j0 j1 => (row l j l0 l1 j0 j1).symm)))
  · have b := h.pc
    unfold pctO at b ⊢
    rw [cM 0 (by decide) (by decide) (fun z => by omega)]
    refine b.elim Or.inl (fun w => Or.inr ⟨w.1, ?_⟩)
    have key : ∀ f : Int, 0 ≤ f → f < gI M 568 0 → ∀ q : Int, pcI N2 0 f q = pcI M 0 f q := fun f f0 f1 q => by
      unfold pcI
      rw [e8]
      refine cB_congr _ (fun p p0 p1 => ?_) q
      have t : gI N2 569 (0 + 576 + p) = gI M 569 (0 + 576 + p) := by rw [e9, cp_out (by omega)]
      have s := h.sh.2.2.1 p p0 (by omega)
      exact ⟨t, by rw [t]; exact row _ f s.1 s.2 f0 f1⟩
    have ek : ∀ i j : Int, 0 ≤ i → i < gI M 568 0 → 0 ≤ j → j < gI M 568 0 → (alk N2 0 i j ↔ alk M 0 i j) := fun i j i0 i1 j0 j1 => ⟨fun y q q0 q1 => by rw [← key i i0 i1 q, ← key j j0 j1 q]; exact y q q0 q1, fun y q q0 q1 => by rw [key i i0 i1 q, key j j0 j1 q]; exact y q q0 q1⟩
    obtain ⟨w1, w2⟩ := w.2
    unfold picO
    rw [cM 0 (by decide) (by decide) (fun z => by omega), cM 548 (by decide) (by decide) (fun z => by omega), e8]
    refine ⟨?_, fun f f0 f1 => ?_⟩
    · rw [w1]
      unfold tk
      rw [e8]
      exact (tk_cg (Int.le_refl _) ek).symm
    · obtain ⟨x, x1, x2⟩ := w2 f f0 f1
      refine ⟨x, isFL_congr x1 f1 (fun j j0 j1 => (ek j f j0 j1 f0 f1).symm), ?_⟩
      rw [x2]
      exact (tk_cg (n := gI M 568 0) (by have := x1.2.1; omega) ek).symm
set_option maxRecDepth 20000 in
set_option maxHeartbeats 4000000 in
theorem x_keep {d L : Nat} {M : abMem} {r : abRf} (hR : RF r M) {s : Nat} (hs : s = 372 ∨ s = 459) (hc : cur r = s) {k : Int} (h : INV r M k) {z : Int} (hd : 2 ≤ d) : abW d (0, 0) 122 0 (abEnt (abL 122) [vr (some 0), vi z]) [] (0, 0) (A0 L) M (qI (A0 L) (fun x N => ¬ (0 ≤ z ∧ z ≤ 1) ∧ x = -2 ∧ N = M ∨ (0 ≤ z ∧ z ≤ 1) ∧ gI M 568 0 = 0 ∧ x = -3 ∧ N = M ∨ (0 ≤ z ∧ z ≤ 1) ∧ gI M 568 0 ≠ 0 ∧ x = gI M 568 0 ∧ kepD M z N)) := by
  rcases hs with rfl | rfl
  · have hS : SR M 372 (gI M 568) := by have q := h.sr; rw [hc] at q; exact q
    have b1 := h.fr
    have b2 := h.la
    have hrf := hR
    show abW d (0, 0) 122 0 [some (vr (some 0)), some (vi z)] [] (0, 0) (A0 L) M (qI (A0 L) (fun x N => ¬ (0 ≤ z ∧ z ≤ 1) ∧ x = -2 ∧ N = M ∨ (0 ≤ z ∧ z ≤ 1) ∧ gI M 568 0 = 0 ∧ x = -3 ∧ N = M ∨ (0 ≤ z ∧ z ≤ 1) ∧ gI M 568 0 ≠ 0 ∧ x = gI M 568 0 ∧ kepD M z N))
    refine bw_iload rfl rfl ?_
    refine bw_iflt rfl (fun c1 => ?_) (fun c1 => ?_)
    · skip
      refine bw_push rfl ?_
      refine bw_ret rfl rfl ?_
      exact ⟨rfl, _, rfl, Or.inl ⟨by omega, rfl, rfl⟩⟩
    · skip
      refine bw_iload rfl rfl ?_
      refine bw_push rfl ?_
      refine bw_iclt rfl (fun c6 => ?_) (fun c6 => ?_)
      · skip
        refine bw_aload rfl rfl ?_
        refine bw_getr rfl rfl (cur_r hR hc) ?_
        refine bw_getI rfl rfl ?_
        rw [show gI M 372 0 = gI M 568 0 from hS.c0]
        refine bw_ifne rfl (fun c19 => ?_) (fun c19 => ?_)
        · skip
          refine bw_aload rfl rfl ?_
          refine bw_getr rfl rfl (hR _ _) ?_
          refine bw_iload rfl rfl ?_
          refine bw_aldr rfl (by first | rfl | assumption) (by decide) (by omega) (by omega) (ke_r hR ⟨by omega, by omega⟩) ?_
          refine bw_aload rfl rfl ?_
          refine bw_getr rfl rfl (hR _ _) ?_
          refine bw_callVNv (e := d - 1) (as := [_]) rfl (by omega) rfl rfl (Nat.le_of_ble_eq_true rfl) (Nat.le_of_ble_eq_true rfl) ((sh_k (n := z) ⟨by omega, by omega⟩).k) (c_copyFrom hR (sh_k ⟨by omega, by omega⟩) sh_10 (by omega) (by omega)) (fun M35 hM35 => ?_)
          obtain ⟨u35, v35⟩ := hM35
          have hR := u35.RF hR
          have hS := SR_sm hS u35 (fun a a0 a1 z => by have := z.1; have := z.2; omega)
          refine bw_aload rfl rfl ?_
          refine bw_getr rfl rfl (hR _ _) ?_
          refine bw_iload rfl rfl ?_
          refine bw_push rfl ?_
          refine bw_astz rfl rfl (by omega) (by omega) (Or.inr rfl) ?_
          refine bw_aload rfl rfl ?_
          refine bw_getr rfl rfl (cur_r hR hc) ?_
          refine bw_getI rfl rfl ?_
          rw [show gI (sI M35 202 z 1) 372 0 = gI M 568 0 from by rw [gI_sI_ne (by decide)]; exact hS.c0]
          refine bw_ret rfl rfl ?_
          refine ⟨rfl, _, rfl, Or.inr (Or.inr ⟨by omega, by omega, rfl, (u35.mono (fun a z => Or.inr z)).sI _ _ (Or.inl rfl), ⟨fun l f l0 l1 f0 f1 => ?_, fun p p0 p1 => ?_⟩, gI_sI_eq, fun j hj => ?_⟩)⟩
          · rw [gI_sI_ne (by omega)]; exact v35.1 l f l0 l1 f0 f1
          · rw [gI_sI_ne (by omega)]; exact v35.2 p p0 p1
          · rw [gI_sI_nj hj, u35.at 202 (fun z => by have := z.1; omega)]
        · skip
          refine bw_push rfl ?_
          refine bw_ret rfl rfl ?_
          exact ⟨rfl, _, rfl, Or.inr (Or.inl ⟨by omega, by omega, rfl, rfl⟩)⟩
      · skip
        refine bw_push rfl ?_
        refine bw_ret rfl rfl ?_
        exact ⟨rfl, _, rfl, Or.inl ⟨by omega, rfl, rfl⟩⟩
  · have hS : SR M 459 (gI M 568) := by have q := h.sr; rw [hc] at q; exact q
    have b1 := h.fr
    have b2 := h.la
    have hrf := hR
    show abW d (0, 0) 122 0 [some (vr (some 0)), some (vi z)] [] (0, 0) (A0 L) M (qI (A0 L) (fun x N => ¬ (0 ≤ z ∧ z ≤ 1) ∧ x = -2 ∧ N = M ∨ (0 ≤ z ∧ z ≤ 1) ∧ gI M 568 0 = 0 ∧ x = -3 ∧ N = M ∨ (0 ≤ z ∧ z ≤ 1) ∧ gI M 568 0 ≠ 0 ∧ x = gI M 568 0 ∧ kepD M z N))
    refine bw_iload rfl rfl ?_
    refine bw_iflt rfl (fun c1 => ?_) (fun c1 => ?_)
    · skip
      refine bw_push rfl ?_
      refine bw_ret rfl rfl ?_
      exact ⟨rfl, _, rfl, Or.inl ⟨by omega, rfl, rfl⟩⟩
    · skip
      refine bw_iload rfl rfl ?_
      refine bw_push rfl ?_
      refine bw_iclt rfl (fun c6 => ?_) (fun c6 => ?_)
      · skip
        refine bw_aload rfl rfl ?_
        refine bw_getr rfl rfl (cur_r hR hc) ?_
        refine bw_getI rfl rfl ?_
        rw [show gI M 459 0 = gI M 568 0 from hS.c0]
        refine bw_ifne rfl (fun c19 => ?_) (fun c19 => ?_)
        · skip
          refine bw_aload rfl rfl ?_
          refine bw_getr rfl rfl (hR _ _) ?_
          refine bw_iload rfl rfl ?_
          refine bw_aldr rfl (by first | rfl | assumption) (by decide) (by omega) (by omega) (ke_r hR ⟨by omega, by omega⟩) ?_
          refine bw_aload rfl rfl ?_
          refine bw_getr rfl rfl (hR _ _) ?_
          refine bw_callVNv (e := d - 1) (as := [_]) rfl (by omega) rfl rfl (Nat.le_of_ble_eq_true rfl) (Nat.le_of_ble_eq_true rfl) ((sh_k (n := z) ⟨by omega, by omega⟩).k) (c_copyFrom hR (sh_k ⟨by omega, by omega⟩) sh_10 (by omega) (by omega)) (fun M35 hM35 => ?_)
          obtain ⟨u35, v35⟩ := hM35
          have hR := u35.RF hR
          have hS := SR_sm hS u35 (fun a a0 a1 z => by have := z.1; have := z.2; omega)
          refine bw_aload rfl rfl ?_
          refine bw_getr rfl rfl (hR _ _) ?_
          refine bw_iload rfl rfl ?_
          refine bw_push rfl ?_
          refine bw_astz rfl rfl (by omega) (by omega) (Or.inr rfl) ?_
          refine bw_aload rfl rfl ?_
          refine bw_getr rfl rfl (cur_r hR hc) ?_
          refine bw_getI rfl rfl ?_
          rw [show gI (sI M35 202 z 1) 459 0 = gI M 568 0 from by rw [gI_sI_ne (by decide)]; exact hS.c0]
          refine bw_ret rfl rfl ?_
          refine ⟨rfl, _, rfl, Or.inr (Or.inr ⟨by omega, by omega, rfl, (u35.mono (fun a z => Or.inr z)).sI _ _ (Or.inl rfl), ⟨fun l f l0 l1 f0 f1 => ?_, fun p p0 p1 => ?_⟩, gI_sI_eq, fun j hj => ?_⟩)⟩
          · rw [gI_sI_ne (by omega)]; exact v35.1 l f l0 l1 f0 f1
          · rw [gI_sI_ne (by omega)]; exact v35.2 p p0 p1
          · rw [gI_sI_nj hj, u35.at 202 (fun z => by have := z.1; omega)]
        · skip
          refine bw_push rfl ?_
          refine bw_ret rfl rfl ?_
          exact ⟨rfl, _, rfl, Or.inr (Or.inl ⟨by omega, by omega, rfl, rfl⟩)⟩
      · skip
        refine bw_push rfl ?_
        refine bw_ret rfl rfl ?_
        exact ⟨rfl, _, rfl, Or.inl ⟨by omega, rfl, rfl⟩⟩
/-- the class has gone back to what was kept -/
def bacD (M : abMem) (z : Int) (N : abMem) : Prop := sm (fun a => a = 0 ∨ a = 19 ∨ pSh 10 a ∨ a = 547) M N ∧ shE M N 10 (549 + 9 * z.toNat) ∧ gI N 19 2 = 0 ∧ gI N 19 1 = gI M 19 1 ∧ (∀ l : Int, 0 ≤ l → l < 6 → gI N 547 l = -1) ∧ gI N 0 14 = 0
theorem bac_inv {r : abRf} {M N N2 : abMem} {k z : Int} (h : INV r M k) (hz : 0 ≤ z ∧ z ≤ 1) (hk : gI M 570 z ≠ 0) (a : bacD M z N) (F : N2 = sI (wI N 569 (cpF (gI N 569) (1164 + 582 * z) 0 582)) 567 3 0) : INV r N2 k := by
  obtain ⟨a1, a2, a3, a4, a5, a6⟩ := a
  have g9 : gI N 569 = gI M 569 := a1.at 569 (fun z => by omega)
  have g7 : gI N 567 = gI M 567 := a1.at 567 (fun z => by omega)
  rw [g9] at F
  obtain ⟨i1, i2, i3⟩ := h.hi
  have la := h.la
  have fr := h.fr
  have cN2 : ∀ c : Nat, c ≠ 567 → c ≠ 569 → gI N2 c = gI N c := fun c c1 c2 => by rw [F, gI_sI_ne c1, gI_wI_ne c2]
  have cM : ∀ c : Nat, c ≠ 567 → c ≠ 569 → ¬ (c = 0 ∨ c = 19 ∨ pSh 10 c ∨ c = 547) → gI N2 c = gI M c := fun c c1 c2 c3 => (cN2 c c1 c2).trans (a1.at c c3)
  have e9 : gI N2 569 = cpF (gI M 569) (1164 + 582 * z) 0 582 := by rw [F, gI_sI_ne (by decide), gI_wI_eq]
  have e8 : gI N2 568 = gI M 568 := cM 568 (by decide) (by decide) (fun z => by omega)
  have e3 : gI N2 567 3 = 0 := by rw [F, gI_sI_eq]
  have x19 : gI N2 19 = gI N 19 := cN2 19 (by decide) (by decide)
  have kz := ((h.ke z hz.1 hz.2).2.resolve_left hk).2
  refine INV_mv h ?_ (fun c c1 c2 c3 c4 => cM c c2 c3 (fun z => by omega)) (fun j hj => by rw [F, gI_sI_nj hj, gI_wI_ne (by decide), g7]) (by rw [e9]; exact bd_cp h.rb.sh (by omega)) ?_ ⟨by rw [x19, a3, e3]; decide, by rw [x19, a4]; exact i2, fun j j0 j1 => by rw [e3] at j1; omega⟩ (fun q q0 q1 => ?_) (fun l l0 l1 => Or.inl (by rw [cN2 547 (by decide) (by decide)]; rw [e8] at l1; exact a5 l l0 (by omega))) (Or.inl (by rw [cN2 0 (by decide) (by decide)]; exact a6))
  · intro c j
    have q := a1.RF h.rf c j
    rw [← q, F]; rfl
  · refine shP_mv kz la.2 fr.2 e8 (fun l f l0 l1 f0 f1 => ?_) (fun p p0 p1 => ?_) (fun j j0 j1 => by rw [e9, cp_in ⟨j0, j1⟩])
    · rw [cN2 _ (by omega) (by omega)]; exact a2.1 l f l0 (by omega) f0 (by omega)
    · rw [cN2 _ (by omega) (by omega)]; exact a2.2 p p0 p1
  · obtain ⟨k1, k2⟩ := h.ke q q0 q1
    rw [cM 202 (by decide) (by decide) (fun z => by omega), cM 570 (by decide) (by decide) (fun z => by omega)]
    refine ⟨k1, k2.elim Or.inl (fun w => Or.inr ⟨w.1, shP_mv w.2 la.2 fr.2 e8 (fun l f l0 l1 f0 f1 => ?_) (fun p p0 p1 => ?_) (fun y y0 y1 => by rw [e9, cp_out (by omega)])⟩)⟩
    · rw [cM _ (by omega) (by omega) (fun z => by omega)]
    · rw [cM _ (by omega) (by omega) (fun z => by omega)]
set_option maxRecDepth 20000 in
set_option maxHeartbeats 4000000 in
theorem x_back {d L : Nat} {M : abMem} {r : abRf} (hR : RF r M) {s : Nat} (hs : s = 372 ∨ s = 459) (hc : cur r = s) {k : Int} (h : INV r M k) {z : Int} (hd : 2 ≤ d) : abW d (0, 0) 123 0 (abEnt (abL 123) [vr (some 0), vi z]) [] (0, 0) (A0 L) M (qI (A0 L) (fun x N => ¬ (0 ≤ z ∧ z ≤ 1) ∧ x = -2 ∧ N = M ∨ (0 ≤ z ∧ z ≤ 1) ∧ gI M 570 z = 0 ∧ x = -3 ∧ N = M ∨ (0 ≤ z ∧ z ≤ 1) ∧ gI M 570 z ≠ 0 ∧ x = gI M 568 0 ∧ bacD M z N)) := by
  rcases hs with rfl | rfl
  · have hS : SR M 372 (gI M 568) := by have q := h.sr; rw [hc] at q; exact q
    have b1 := h.fr
    have b2 := h.la
    have hrf := hR
    show abW d (0, 0) 123 0 [some (vr (some 0)), some (vi z)] [] (0, 0) (A0 L) M (qI (A0 L) (fun x N => ¬ (0 ≤ z ∧ z ≤ 1) ∧ x = -2 ∧ N = M ∨ (0 ≤ z ∧ z ≤ 1) ∧ gI M 570 z = 0 ∧ x = -3 ∧ N = M ∨ (0 ≤ z ∧ z ≤ 1) ∧ gI M 570 z ≠ 0 ∧ x = gI M 568 0 ∧ bacD M z N))
    refine bw_iload rfl rfl ?_
    refine bw_iflt rfl (fun c1 => ?_) (fun c1 => ?_)
    · skip
      refine bw_push rfl ?_
      refine bw_ret rfl rfl ?_
      exact ⟨rfl, _, rfl, Or.inl ⟨by omega, rfl, rfl⟩⟩
    · skip
      refine bw_iload rfl rfl ?_
      refine bw_push rfl ?_
      refine bw_iclt rfl (fun c6 => ?_) (fun c6 => ?_)
      · skip
        refine bw_aload rfl rfl ?_
        refine bw_getr rfl rfl (hR _ _) ?_
        refine bw_iload rfl rfl ?_
        refine bw_aldb rfl rfl (by decide) (by omega) (by omega) ?_
        rw [(h.ke z (by omega) (by omega)).1]
        refine bw_ifne rfl (fun c18 => ?_) (fun c18 => ?_)
        · skip
          refine bw_aload rfl rfl ?_
          refine bw_getr rfl rfl (hR _ _) ?_
          refine bw_aload rfl rfl ?_
          refine bw_getr rfl rfl (hR _ _) ?_
          refine bw_iload rfl rfl ?_
          refine bw_aldr rfl (by first | rfl | assumption) (by decide) (by omega) (by omega) (ke_r hR ⟨by omega, by omega⟩) ?_
          refine bw_callVNv (e := d - 1) (as := [_]) rfl (by omega) rfl rfl (Nat.le_of_ble_eq_true rfl) (Nat.le_of_ble_eq_true rfl) (rfl) (c_copyFrom hR sh_10 (sh_k ⟨by omega, by omega⟩) (by omega) (by omega)) (fun M34 hM34 => ?_)
          obtain ⟨u34, v34⟩ := hM34
          have hR := u34.RF hR
          have hS := SR_sm hS u34 (fun a a0 a1 z => by have := z.1; have := z.2; omega)
          refine bw_aload rfl rfl ?_
          refine bw_getr rfl rfl (hR _ _) ?_
          refine bw_callVNn (e := d - 1) (as := []) rfl (by omega) rfl rfl (Nat.le_of_ble_eq_true rfl) (Nat.le_of_ble_eq_true rfl) rfl (c_hclear hR) ?_
          refine bw_aload rfl rfl ?_
          refine bw_callVv (e := d - 1) (as := []) rfl (by omega) rfl rfl (Nat.le_of_ble_eq_true rfl) (Nat.le_of_ble_eq_true rfl) rfl (c_forgetAll (M := sI M34 19 2 0) hR (by omega)) (fun M45 hM45 => ?_)
          obtain ⟨u45, v45⟩ := hM45
          have hR := u45.RF hR
          refine bw_aload rfl rfl ?_
          refine bw_getr rfl rfl (cur_r hR hc) ?_
          refine bw_getI rfl rfl ?_
          rw [show gI M45 372 0 = gI M 568 0 from by rw [u45.at 372 (by decide), gI_sI_ne (by decide)]; exact hS.c0]
          refine bw_ret rfl rfl ?_
          have g19 : sm (fun a => a = 0 ∨ a = 19 ∨ pSh 10 a ∨ a = 547) M34 (sI M34 19 2 0) := (sm_refl _ _).sI _ _ (Or.inr (Or.inl rfl))
          refine ⟨rfl, _, rfl, Or.inr (Or.inr ⟨by omega, by omega, rfl, ((u34.mono (fun a z => Or.inr (Or.inr (Or.inl z)))).trans g19).trans (u45.mono (fun a z => by omega)), ⟨fun l f l0 l1 f0 f1 => ?_, fun p p0 p1 => ?_⟩, ?_, ?_, v45.1, v45.2.1⟩)⟩
          · rw [u45.at _ (fun z => by omega), gI_sI_ne (by omega)]; exact v34.1 l f l0 l1 f0 f1
          · rw [u45.at _ (fun z => by omega), gI_sI_ne (by omega)]; exact v34.2 p p0 p1
          · rw [u45.at 19 (by decide), gI_sI_eq]
          · rw [u45.at 19 (by decide), gI_sI_nj (by decide), u34.at 19 (fun z => by have := z.1; omega)]
        · skip
          refine bw_push rfl ?_
          refine bw_ret rfl rfl ?_
          exact ⟨rfl, _, rfl, Or.inr (Or.inl ⟨by omega, by omega, rfl, rfl⟩)⟩
      · skip
        refine bw_push rfl ?_
        refine bw_ret rfl rfl ?_
        exact ⟨rfl, _, rfl, Or.inl ⟨by omega, rfl, rfl⟩⟩
  · have hS : SR M 459 (gI M 568) := by have q := h.sr; rw [hc] at q; exact q
    have b1 := h.fr
    have b2 := h.la
    have hrf := hR
    show abW d (0, 0) 123 0 [some (vr (some 0)), some (vi z)] [] (0, 0) (A0 L) M (qI (A0 L) (fun x N => ¬ (0 ≤ z ∧ z ≤ 1) ∧ x = -2 ∧ N = M ∨ (0 ≤ z ∧ z ≤ 1) ∧ gI M 570 z = 0 ∧ x = -3 ∧ N = M ∨ (0 ≤ z ∧ z ≤ 1) ∧ gI M 570 z ≠ 0 ∧ x = gI M 568 0 ∧ bacD M z N))
    refine bw_iload rfl rfl ?_
    refine bw_iflt rfl (fun c1 => ?_) (fun c1 => ?_)
    · skip
      refine bw_push rfl ?_
      refine bw_ret rfl rfl ?_
      exact ⟨rfl, _, rfl, Or.inl ⟨by omega, rfl, rfl⟩⟩
    · skip
      refine bw_iload rfl rfl ?_
      refine bw_push rfl ?_
      refine bw_iclt rfl (fun c6 => ?_) (fun c6 => ?_)
      · skip
        refine bw_aload rfl rfl ?_
        refine bw_getr rfl rfl (hR _ _) ?_
        refine bw_iload rfl rfl ?_
        refine bw_aldb rfl rfl (by decide) (by omega) (by omega) ?_
        rw [(h.ke z (by omega) (by omega)).1]
        refine bw_ifne rfl (fun c18 => ?_) (fun c18 => ?_)
        · skip
          refine bw_aload rfl rfl ?_
          refine bw_getr rfl rfl (hR _ _) ?_
          refine bw_aload rfl rfl ?_
          refine bw_getr rfl rfl (hR _ _) ?_
          refine bw_iload rfl rfl ?_
          refine bw_aldr rfl (by first | rfl | assumption) (by decide) (by omega) (by omega) (ke_r hR ⟨by omega, by omega⟩) ?_
          refine bw_callVNv (e := d - 1) (as := [_]) rfl (by omega) rfl rfl (Nat.le_of_ble_eq_true rfl) (Nat.le_of_ble_eq_true rfl) (rfl) (c_copyFrom hR sh_10 (sh_k ⟨by omega, by omega⟩) (by omega) (by omega)) (fun M34 hM34 => ?_)
          obtain ⟨u34, v34⟩ := hM34
          have hR := u34.RF hR
          have hS := SR_sm hS u34 (fun a a0 a1 z => by have := z.1; have := z.2; omega)
          refine bw_aload rfl rfl ?_
          refine bw_getr rfl rfl (hR _ _) ?_
          refine bw_callVNn (e := d - 1) (as := []) rfl (by omega) rfl rfl (Nat.le_of_ble_eq_true rfl) (Nat.le_of_ble_eq_true rfl) rfl (c_hclear hR) ?_
          refine bw_aload rfl rfl ?_
          refine bw_callVv (e := d - 1) (as := []) rfl (by omega) rfl rfl (Nat.le_of_ble_eq_true rfl) (Nat.le_of_ble_eq_true rfl) rfl (c_forgetAll (M := sI M34 19 2 0) hR (by omega)) (fun M45 hM45 => ?_)
          obtain ⟨u45, v45⟩ := hM45
          have hR := u45.RF hR
          refine bw_aload rfl rfl ?_
          refine bw_getr rfl rfl (cur_r hR hc) ?_
          refine bw_getI rfl rfl ?_
          rw [show gI M45 459 0 = gI M 568 0 from by rw [u45.at 459 (by decide), gI_sI_ne (by decide)]; exact hS.c0]
          refine bw_ret rfl rfl ?_
          have g19 : sm (fun a => a = 0 ∨ a = 19 ∨ pSh 10 a ∨ a = 547) M34 (sI M34 19 2 0) := (sm_refl _ _).sI _ _ (Or.inr (Or.inl rfl))
          refine ⟨rfl, _, rfl, Or.inr (Or.inr ⟨by omega, by omega, rfl, ((u34.mono (fun a z => Or.inr (Or.inr (Or.inl z)))).trans g19).trans (u45.mono (fun a z => by omega)), ⟨fun l f l0 l1 f0 f1 => ?_, fun p p0 p1 => ?_⟩, ?_, ?_, v45.1, v45.2.1⟩)⟩
          · rw [u45.at _ (fun z => by omega), gI_sI_ne (by omega)]; exact v34.1 l f l0 l1 f0 f1
          · rw [u45.at _ (fun z => by omega), gI_sI_ne (by omega)]; exact v34.2 p p0 p1
          · rw [u45.at 19 (by decide), gI_sI_eq]
          · rw [u45.at 19 (by decide), gI_sI_nj (by decide), u34.at 19 (fun z => by have := z.1; omega)]
        · skip
          refine bw_push rfl ?_
          refine bw_ret rfl rfl ?_
          exact ⟨rfl, _, rfl, Or.inr (Or.inl ⟨by omega, by omega, rfl, rfl⟩)⟩
      · skip
        refine bw_push rfl ?_
        refine bw_ret rfl rfl ?_
        exact ⟨rfl, _, rfl, Or.inl ⟨by omega, rfl, rfl⟩⟩
set_option maxRecDepth 20000 in
set_option maxHeartbeats 4000000 in
theorem x_apart {d L : Nat} {M : abMem} {r : abRf} (hR : RF r M) {s : Nat} (hs : s = 372 ∨ s = 459) (hc : cur r = s) {k : Int} (h : INV r M k) {z : Int} (hd : 1 ≤ d) : abW d (0, 0) 124 0 (abEnt (abL 124) [vr (some 0), vi z]) [] (0, 0) (A0 L) M (qJ (A0 L) M (fun x => ¬ (0 ≤ z ∧ z ≤ 1) ∧ x = -2 ∨ (0 ≤ z ∧ z ≤ 1) ∧ gI M 570 z = 0 ∧ x = -3 ∨ (0 ≤ z ∧ z ≤ 1) ∧ gI M 570 z ≠ 0 ∧ x = sN (fun l => cN (pD (mR M (1164 + 582 * z) l) (mR M 0 l)) (gI M 568 0).toNat) (gI M 568 1).toNat)) := by
  rcases hs with rfl | rfl
  · have hS : SR M 372 (gI M 568) := by have q := h.sr; rw [hc] at q; exact q
    have b1 := h.fr
    have b2 := h.la
    have hrf := hR
    have L28 : ∀ (kf : Nat) (c l : Int), (c = sN (fun l => cN (pD (mR M (1164 + 582 * z) l) (mR M 0 l)) (gI M 568 0).toNat) l.toNat ∧ 0 ≤ c ∧ c ≤ 96 * l) → (0 ≤ l ∧ l ≤ gI M 568 1) → ((0 ≤ z ∧ z ≤ 1) ∧ gI M 570 z ≠ 0) → ((gI M 568 1 - l).toNat) < kf → abW d (0, 0) 124 28 [some (vr (some 0)), some (vi z), some (vi c), some (vi l)] [] (0, 0) (A0 L) (M) (qJ (A0 L) M (fun x => ¬ (0 ≤ z ∧ z ≤ 1) ∧ x = -2 ∨ (0 ≤ z ∧ z ≤ 1) ∧ gI M 570 z = 0 ∧ x = -3 ∨ (0 ≤ z ∧ z ≤ 1) ∧ gI M 570 z ≠ 0 ∧ x = sN (fun l => cN (pD (mR M (1164 + 582 * z) l) (mR M 0 l)) (gI M 568 0).toNat) (gI M 568 1).toNat)) := by
      intro kf
      induction kf with
      | zero => intro c l  g1 g2 g3 hm9; exact absurd hm9 (Nat.not_lt_zero _)
      | succ kf ih28 =>
        intro c l  g1 g2 g3 hm28
        have ih := ih28
        have kz := ((h.ke z (by omega) (by omega)).2.resolve_left g3.2).2
        have hk := sh_k (n := z) ⟨by omega, by omega⟩
        refine bw_iload rfl rfl ?_
        refine bw_aload rfl rfl ?_
        refine bw_getr rfl rfl (cur_r hR hc) ?_
        refine bw_getI rfl rfl ?_
        rw [show gI M 372 2 = gI M 568 1 from hS.c2]
        refine bw_icge rfl (fun c36 => ?_) (fun c36 => ?_)
        · skip
          refine bw_iload rfl rfl ?_
          refine bw_ret rfl rfl ?_
          obtain rfl : l = gI M 568 1 := by omega
          exact ⟨rfl, rfl, _, rfl, Or.inr (Or.inr ⟨g3.1, g3.2, g1.1⟩)⟩
        · skip
          refine bw_iload rfl rfl ?_
          refine bw_aload rfl rfl ?_
          refine bw_getr rfl rfl (hR _ _) ?_
          refine bw_getr rfl rfl (hR _ _) ?_
          refine bw_iload rfl rfl ?_
          refine bw_aldr rfl (by first | rfl | assumption) (by decide) (by omega) (by omega) ((hR _ _).trans (rr_row (fun _ => rfl) (by omega) (by omega) (by omega))) ?_
          refine bw_aload rfl rfl ?_
          refine bw_getr rfl rfl (hR _ _) ?_
          refine bw_iload rfl rfl ?_
          refine bw_aldr rfl (by first | rfl | assumption) (by decide) (by omega) (by omega) (ke_r hR ⟨by omega, by omega⟩) ?_
          refine bw_getr rfl hk.k (hk.r0 hR) ?_
          refine bw_iload rfl rfl ?_
          refine bw_aldr rfl hk.k1 (by decide) (by omega) (by omega) (hk.rw hR ⟨by omega, by omega⟩) ?_
          refine bw_aload rfl rfl ?_
          refine bw_getr rfl rfl (cur_r hR hc) ?_
          refine bw_getI rfl rfl ?_
          rw [show gI M 372 0 = gI M 568 0 from hS.c0]
          refine bw_callSNe (e := d - 1) (as := [_, _, _]) rfl (by omega) rfl rfl (Nat.le_of_ble_eq_true rfl) (Nat.le_of_ble_eq_true rfl) (c_differences (z := 96) (y := 96) (by decide) (kfa (L := L) (b := 12) (n := 6) (v := (20, 96)) (by decide) (by decide) ⟨by omega, by omega⟩) (hk.kr ⟨by omega, by omega⟩) (by omega)) ?_
          rw [pD_symm, pD_cg (f' := mR M (1164 + 582 * z) l) (g' := mR M 0 l) (fun j j0 j1 => ⟨kz.1 l j (by omega) (by omega) j0 j1, h.row ⟨by omega, by omega⟩ ⟨j0, j1⟩⟩)]
          have b9 := cN_z (pD (mR M (1164 + 582 * z) l) (mR M 0 l)) (k := gI M 568 0) (by omega)
          refine bw_iadd rfl ⟨by omega, by omega⟩ ?_
          refine bw_istore (ls2 := [_, _, _, _]) rfl rfl (Nat.le_of_ble_eq_true rfl) rfl ?_
          refine bw_iinc (ls2 := [_, _, _, _]) rfl rfl rfl ⟨by omega, by omega⟩ rfl ?_
          refine bw_goto rfl ?_
          exact ih _ _ ⟨by rw [sN_s _ (by omega), ← g1.1], by omega, by omega⟩ (by omega) g3 (by omega)
    show abW d (0, 0) 124 0 [some (vr (some 0)), some (vi z), none, none] [] (0, 0) (A0 L) M (qJ (A0 L) M (fun x => ¬ (0 ≤ z ∧ z ≤ 1) ∧ x = -2 ∨ (0 ≤ z ∧ z ≤ 1) ∧ gI M 570 z = 0 ∧ x = -3 ∨ (0 ≤ z ∧ z ≤ 1) ∧ gI M 570 z ≠ 0 ∧ x = sN (fun l => cN (pD (mR M (1164 + 582 * z) l) (mR M 0 l)) (gI M 568 0).toNat) (gI M 568 1).toNat))
    refine bw_iload rfl rfl ?_
    refine bw_iflt rfl (fun c1 => ?_) (fun c1 => ?_)
    · skip
      refine bw_push rfl ?_
      refine bw_ret rfl rfl ?_
      exact ⟨rfl, rfl, _, rfl, Or.inl ⟨by omega, rfl⟩⟩
    · skip
      refine bw_iload rfl rfl ?_
      refine bw_push rfl ?_
      refine bw_iclt rfl (fun c6 => ?_) (fun c6 => ?_)
      · skip
        refine bw_aload rfl rfl ?_
        refine bw_getr rfl rfl (hR _ _) ?_
        refine bw_iload rfl rfl ?_
        refine bw_aldb rfl rfl (by decide) (by omega) (by omega) ?_
        rw [(h.ke z (by omega) (by omega)).1]
        refine bw_ifne rfl (fun c18 => ?_) (fun c18 => ?_)
        · skip
          refine bw_push rfl ?_
          refine bw_istore (ls2 := [_, _, _, _]) rfl rfl (Nat.le_of_ble_eq_true rfl) rfl ?_
          refine bw_push rfl ?_
          refine bw_istore (ls2 := [_, _, _, _]) rfl rfl (Nat.le_of_ble_eq_true rfl) rfl ?_
          exact L28 8 0 0 ⟨rfl, by decide, by decide⟩ (by omega) (by omega) (by omega)
        · skip
          refine bw_push rfl ?_
          refine bw_ret rfl rfl ?_
          exact ⟨rfl, rfl, _, rfl, Or.inr (Or.inl ⟨by omega, by omega, rfl⟩)⟩
      · skip
        refine bw_push rfl ?_
        refine bw_ret rfl rfl ?_
        exact ⟨rfl, rfl, _, rfl, Or.inl ⟨by omega, rfl⟩⟩
  · have hS : SR M 459 (gI M 568) := by have q := h.sr; rw [hc] at q; exact q
    have b1 := h.fr
    have b2 := h.la
    have hrf := hR
    have L28 : ∀ (kf : Nat) (c l : Int), (c = sN (fun l => cN (pD (mR M (1164 + 582 * z) l) (mR M 0 l)) (gI M 568 0).toNat) l.toNat ∧ 0 ≤ c ∧ c ≤ 96 * l) → (0 ≤ l ∧ l ≤ gI M 568 1) → ((0 ≤ z ∧ z ≤ 1) ∧ gI M 570 z ≠ 0) → ((gI M 568 1 - l).toNat) < kf → abW d (0, 0) 124 28 [some (vr (some 0)), some (vi z), some (vi c), some (vi l)] [] (0, 0) (A0 L) (M) (qJ (A0 L) M (fun x => ¬ (0 ≤ z ∧ z ≤ 1) ∧ x = -2 ∨ (0 ≤ z ∧ z ≤ 1) ∧ gI M 570 z = 0 ∧ x = -3 ∨ (0 ≤ z ∧ z ≤ 1) ∧ gI M 570 z ≠ 0 ∧ x = sN (fun l => cN (pD (mR M (1164 + 582 * z) l) (mR M 0 l)) (gI M 568 0).toNat) (gI M 568 1).toNat)) := by
      intro kf
      induction kf with
      | zero => intro c l  g1 g2 g3 hm9; exact absurd hm9 (Nat.not_lt_zero _)
      | succ kf ih28 =>
        intro c l  g1 g2 g3 hm28
        have ih := ih28
        have kz := ((h.ke z (by omega) (by omega)).2.resolve_left g3.2).2
        have hk := sh_k (n := z) ⟨by omega, by omega⟩
        refine bw_iload rfl rfl ?_
        refine bw_aload rfl rfl ?_
        refine bw_getr rfl rfl (cur_r hR hc) ?_
        refine bw_getI rfl rfl ?_
        rw [show gI M 459 2 = gI M 568 1 from hS.c2]
        refine bw_icge rfl (fun c36 => ?_) (fun c36 => ?_)
        · skip
          refine bw_iload rfl rfl ?_
          refine bw_ret rfl rfl ?_
          obtain rfl : l = gI M 568 1 := by omega
          exact ⟨rfl, rfl, _, rfl, Or.inr (Or.inr ⟨g3.1, g3.2, g1.1⟩)⟩
        · skip
          refine bw_iload rfl rfl ?_
          refine bw_aload rfl rfl ?_
          refine bw_getr rfl rfl (hR _ _) ?_
          refine bw_getr rfl rfl (hR _ _) ?_
          refine bw_iload rfl rfl ?_
          refine bw_aldr rfl (by first | rfl | assumption) (by decide) (by omega) (by omega) ((hR _ _).trans (rr_row (fun _ => rfl) (by omega) (by omega) (by omega))) ?_
          refine bw_aload rfl rfl ?_
          refine bw_getr rfl rfl (hR _ _) ?_
          refine bw_iload rfl rfl ?_
          refine bw_aldr rfl (by first | rfl | assumption) (by decide) (by omega) (by omega) (ke_r hR ⟨by omega, by omega⟩) ?_
          refine bw_getr rfl hk.k (hk.r0 hR) ?_
          refine bw_iload rfl rfl ?_
          refine bw_aldr rfl hk.k1 (by decide) (by omega) (by omega) (hk.rw hR ⟨by omega, by omega⟩) ?_
          refine bw_aload rfl rfl ?_
          refine bw_getr rfl rfl (cur_r hR hc) ?_
          refine bw_getI rfl rfl ?_
          rw [show gI M 459 0 = gI M 568 0 from hS.c0]
          refine bw_callSNe (e := d - 1) (as := [_, _, _]) rfl (by omega) rfl rfl (Nat.le_of_ble_eq_true rfl) (Nat.le_of_ble_eq_true rfl) (c_differences (z := 96) (y := 96) (by decide) (kfa (L := L) (b := 12) (n := 6) (v := (20, 96)) (by decide) (by decide) ⟨by omega, by omega⟩) (hk.kr ⟨by omega, by omega⟩) (by omega)) ?_
          rw [pD_symm, pD_cg (f' := mR M (1164 + 582 * z) l) (g' := mR M 0 l) (fun j j0 j1 => ⟨kz.1 l j (by omega) (by omega) j0 j1, h.row ⟨by omega, by omega⟩ ⟨j0, j1⟩⟩)]
          have b9 := cN_z (pD (mR M (1164 + 582 * z) l) (mR M 0 l)) (k := gI M 568 0) (by omega)
          refine bw_iadd rfl ⟨by omega, by omega⟩ ?_
          refine bw_istore (ls2 := [_, _, _, _]) rfl rfl (Nat.le_of_ble_eq_true rfl) rfl ?_
          refine bw_iinc (ls2 := [_, _, _, _]) rfl rfl rfl ⟨by omega, by omega⟩ rfl ?_
          refine bw_goto rfl ?_
          exact ih _ _ ⟨by rw [sN_s _ (by omega), ← g1.1], by omega, by omega⟩ (by omega) g3 (by omega)
    show abW d (0, 0) 124 0 [some (vr (some 0)), some (vi z), none, none] [] (0, 0) (A0 L) M (qJ (A0 L) M (fun x => ¬ (0 ≤ z ∧ z ≤ 1) ∧ x = -2 ∨ (0 ≤ z ∧ z ≤ 1) ∧ gI M 570 z = 0 ∧ x = -3 ∨ (0 ≤ z ∧ z ≤ 1) ∧ gI M 570 z ≠ 0 ∧ x = sN (fun l => cN (pD (mR M (1164 + 582 * z) l) (mR M 0 l)) (gI M 568 0).toNat) (gI M 568 1).toNat))
    refine bw_iload rfl rfl ?_
    refine bw_iflt rfl (fun c1 => ?_) (fun c1 => ?_)
    · skip
      refine bw_push rfl ?_
      refine bw_ret rfl rfl ?_
      exact ⟨rfl, rfl, _, rfl, Or.inl ⟨by omega, rfl⟩⟩
    · skip
      refine bw_iload rfl rfl ?_
      refine bw_push rfl ?_
      refine bw_iclt rfl (fun c6 => ?_) (fun c6 => ?_)
      · skip
        refine bw_aload rfl rfl ?_
        refine bw_getr rfl rfl (hR _ _) ?_
        refine bw_iload rfl rfl ?_
        refine bw_aldb rfl rfl (by decide) (by omega) (by omega) ?_
        rw [(h.ke z (by omega) (by omega)).1]
        refine bw_ifne rfl (fun c18 => ?_) (fun c18 => ?_)
        · skip
          refine bw_push rfl ?_
          refine bw_istore (ls2 := [_, _, _, _]) rfl rfl (Nat.le_of_ble_eq_true rfl) rfl ?_
          refine bw_push rfl ?_
          refine bw_istore (ls2 := [_, _, _, _]) rfl rfl (Nat.le_of_ble_eq_true rfl) rfl ?_
          exact L28 8 0 0 ⟨rfl, by decide, by decide⟩ (by omega) (by omega) (by omega)
        · skip
          refine bw_push rfl ?_
          refine bw_ret rfl rfl ?_
          exact ⟨rfl, rfl, _, rfl, Or.inr (Or.inl ⟨by omega, by omega, rfl⟩)⟩
      · skip
        refine bw_push rfl ?_
        refine bw_ret rfl rfl ?_
        exact ⟨rfl, rfl, _, rfl, Or.inl ⟨by omega, rfl⟩⟩
