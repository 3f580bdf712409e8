theorem op_mem {N : abMem} {s : LnS} {x w q : Int} (H : LQ N s) (hN : gI N 567 20 = lsN s + 1) (hK : 0 ≤ lsK s ∧ lsK s ≤ 4) : LR (sI (sI (sI (sI N 567 9 x) 575 (lsK s) (min (lsH s).1 600)) 576 (lsK s) w) 567 19 (lsK s + 1)) (lsM q (lsH s) (lsK s + 1) (up (lsF s) (lsK s) (lsH s).1) (up (lsW s) (lsK s) w) (lsN s + 1) 0) := by
  refine ⟨⟨⟨?_, H.1.2.1, fun j h1 h2 h3 => ?_⟩, ?_, fun j h1 h2 => ?_⟩, ?_⟩
  · rw [gI_sI_nj (by decide), gI_sI_ne (by decide), gI_sI_ne (by decide), gI_sI_nj (by decide)]; exact H.1.1
  · rw [gI_sI_ne (show 573 ≠ 567 by decide), gI_sI_ne (show 573 ≠ 576 by decide), gI_sI_ne (show 573 ≠ 575 by decide), gI_sI_ne (show 573 ≠ 567 by decide), gI_sI_ne (show 574 ≠ 567 by decide), gI_sI_ne (show 574 ≠ 576 by decide), gI_sI_ne (show 574 ≠ 575 by decide), gI_sI_ne (show 574 ≠ 567 by decide)]
    exact H.1.2.2 j h1 h2 h3
  · rw [gI_sI_eq]
  · have h2 : j < lsK s + 1 := h2
    rw [gI_sI_ne (show 575 ≠ 567 by decide), gI_sI_ne (show 575 ≠ 576 by decide), gI_sI_ne (show 576 ≠ 567 by decide)]
    show _ = min (up (lsF s) (lsK s) (lsH s).1 j) 600 ∧ _ = up (lsW s) (lsK s) w j
    by_cases q : j = lsK s
    · rw [up_eq q, up_eq q, q, gI_sI_eq, gI_sI_eq]; exact ⟨rfl, rfl⟩
    · rw [up_ne q, up_ne q, gI_sI_nj q, gI_sI_nj q, gI_sI_ne (show 575 ≠ 567 by decide), gI_sI_ne (show 576 ≠ 575 by decide), gI_sI_ne (show 576 ≠ 567 by decide)]
      exact H.2.2 j h1 (by omega)
  · rw [gI_sI_nj (by decide), gI_sI_ne (by decide), gI_sI_ne (by decide), gI_sI_nj (by decide)]; exact hN
set_option maxRecDepth 20000 in
set_option maxHeartbeats 4000000 in
theorem m_opens {d L : Nat} {M : abMem} {r : abRf} (hR : RF r M) {a : Int → Int} {n : Int} {s : LnS} (hP : PS M a n) (hz : rs M a n (.inr (lsP s))) (H : LQ M s) (hN : gI M 567 20 = lsN s + 1) (hK : 0 ≤ lsK s ∧ lsK s ≤ 5) (hd : 5 ≤ d) : abW d (0, 0) 171 0 (abEnt (abL 171) [vr (some 567)]) [] (0, 0) (A0 L) M (qV (A0 L) (fun N => s5 pL qR M N ∧ PS N a n ∧ (∀ e : Int × Int, opS a n s = .inl e → rs N a n (.inl e)) ∧ (∀ (t : LnS) (w : Int), opS a n s = .inr (t, w) → rs N a n (.inr (lsP t)) ∧ LR N t ∧ w = 0))) := by
  have p1 := hP.sz
  have p2 := hP.ok.1
  have p3 := hP.he
  show abW d (0, 0) 171 0 [some (vr (some 567)), none] [] (0, 0) (A0 L) M (qV (A0 L) (fun N => s5 pL qR M N ∧ PS N a n ∧ (∀ e : Int × Int, opS a n s = .inl e → rs N a n (.inl e)) ∧ (∀ (t : LnS) (w : Int), opS a n s = .inr (t, w) → rs N a n (.inr (lsP t)) ∧ LR N t ∧ w = 0)))
  refine bw_aload rfl rfl ?_
  refine bw_push rfl ?_
  refine bw_callVi (e := d - 1) (as := [_]) rfl (by omega) rfl rfl (Nat.le_of_ble_eq_true rfl) (Nat.le_of_ble_eq_true rfl) rfl (m_takes hR hP hz (by omega)) (fun r3 M3 hM3 => ?_)
  obtain ⟨u3, v3, w3, x3, y3⟩ := hM3
  have hR := u3.RF hR
  have t3 : (takS a n 18 (.inr (lsP s))).1 = .inr (opQ a n s) ∧ (takS a n 18 (.inr (lsP s))).2 = if wo a n (lsP s) = 18 then 1 else 0 := by
    unfold opQ
    by_cases q : wo a n (lsP s) = 18
    · rw [tak_y q, if_pos q, if_pos q]; exact ⟨rfl, rfl⟩
    · rw [tak_n q, if_neg q, if_neg q]; exact ⟨rfl, rfl⟩
  rw [t3.1] at v3
  rw [t3.2] at w3
  have z3 : gI M3 567 11 = 0 := v3.2.1
  have H3 := H.P u3.P10
  have n3 : gI M3 567 20 = lsN s + 1 := (u3.P10.sl 20 (qP_no (by omega))).trans hN
  refine bw_istore (ls2 := [_, _]) rfl rfl (Nat.le_of_ble_eq_true rfl) rfl ?_
  refine bw_aload rfl rfl ?_
  refine bw_callVj (e := d - 1) (as := []) rfl (by omega) rfl rfl (Nat.le_of_ble_eq_true rfl) (Nat.le_of_ble_eq_true rfl) rfl (m_goesWell hR) (fun r8 hr8 => ?_)
  refine bw_ifeq rfl (fun c11 => ?_) (fun c11 => ?_)
  · first
    | (exfalso; omega)
    | (refine bw_aload rfl rfl ?_
       refine bw_getI rfl rfl ?_
       refine bw_push rfl ?_
       refine bw_icne rfl (fun c37 => ?_) (fun c37 => ?_)
       · skip
         refine bw_aload rfl rfl ?_
         refine bw_callVj (e := d - 1) (as := []) rfl (by omega) rfl rfl (Nat.le_of_ble_eq_true rfl) (Nat.le_of_ble_eq_true rfl) rfl (m_goesWell hR) (fun r50 hr50 => ?_)
         refine bw_ifne rfl (fun c53 => ?_) (fun c53 => ?_)
         · first
           | (exfalso; omega)
           | (refine bw_aload rfl rfl ?_
              first | refine bw_dup rfl ?_ | refine bw_dupi rfl ?_
              refine bw_getI rfl rfl ?_
              refine bw_push rfl ?_
              refine bw_iadd rfl ⟨by omega, by omega⟩ ?_
              have k64 := in_of hP.ok (k := opQ a n s) (by omega)
              refine bw_putI rfl rfl ?_
              refine bw_aload rfl rfl ?_
              refine bw_getr rfl rfl (hR _ _) ?_
              refine bw_aload rfl rfl ?_
              refine bw_getI rfl rfl ?_
              rw [gI_sI_nj (show (19 : Int) ≠ 9 by decide), k15]
              refine bw_aload rfl rfl ?_
              refine bw_getI rfl rfl ?_
              rw [gI_sI_nj (show (16 : Int) ≠ 9 by decide), h15]
              refine bw_asti rfl (by first | rfl | assumption) (by omega) (by omega) ?_
              refine bw_aload rfl rfl ?_
              refine bw_getr rfl rfl (hR _ _) ?_
              refine bw_aload rfl rfl ?_
              refine bw_getI rfl rfl ?_
              rw [gI_sI_ne (show 567 ≠ 575 by decide), gI_sI_nj (show (19 : Int) ≠ 9 by decide), k15]
              refine bw_iload rfl rfl ?_
              refine bw_astz rfl (by first | rfl | assumption) (by omega) (by omega) (by omega) ?_
              refine bw_aload rfl rfl ?_
              first | refine bw_dup rfl ?_ | refine bw_dupi rfl ?_
              refine bw_getI rfl rfl ?_
              rw [gI_sI_ne (show 567 ≠ 576 by decide), gI_sI_ne (show 567 ≠ 575 by decide), gI_sI_nj (show (19 : Int) ≠ 9 by decide), k15]
              refine bw_push rfl ?_
              refine bw_iadd rfl ⟨by omega, by omega⟩ ?_
              refine bw_putI rfl rfl ?_
              refine bw_retv rfl rfl ?_
              have g9 : s5 pL qR M15 (sI (sI (sI (sI M15 567 9 (gI M15 567 9 + 1)) 575 (lsK s) (min (lsH s).1 600)) 576 (lsK s) r3) 567 19 (lsK s + 1)) := ((((s5_refl _ _ _).sI7 9 _ (Or.inl rfl)).wr _ _ (Or.inr (Or.inr (Or.inl rfl))) (by decide)).wr _ _ (Or.inr (Or.inr (Or.inr rfl))) (by decide)).sI7 19 _ (Or.inr (Or.inr (Or.inr (Or.inr (Or.inr (Or.inl rfl))))))
              have x9 : gI (sI (sI (sI (sI M15 567 9 (gI M15 567 9 + 1)) 575 (lsK s) (min (lsH s).1 600)) 576 (lsK s) r3) 567 19 (lsK s + 1)) 567 9 = opQ a n s + 1 := by rw [gI_sI_nj (by decide), gI_sI_ne (by decide), gI_sI_ne (by decide), gI_sI_eq, v15]
              refine ⟨rfl, rfl, (u3.P10.trans u15.toP).toL.trans g9, hP15.fr5 g9 (pL_no (by decide)) (pL_no (by decide)) (qR_no (by omega)) (by rw [x9]; omega), fun e he => ?_, fun t w ht => ?_⟩
              · rw [op_g (by omega) (by omega)] at he
                cases he
              · rw [op_g (by omega) (by omega), ← w3] at ht
                cases ht
                exact ⟨⟨by rw [gI_sI_nj (by decide), gI_sI_ne (by decide), gI_sI_ne (by decide), gI_sI_nj (by decide)]; omega, by rw [x9]⟩, op_mem H15 n15 (by omega), rfl⟩)
         · first
           | (exfalso; omega)
           | (refine bw_retv rfl rfl ?_
              first
              | (refine ⟨rfl, rfl, ((u3.P10.trans u15.toP).trans (hM29.f5.trans hM46.f5)).toL, hM46.ps f29.1, fun e he => ?_, fun t w ht => ?_⟩
                 · rw [op_1 (by omega)] at he
                   cases he
                   rw [v15] at f29
                   exact hM46.old f29.2
                 · rw [op_1 (by omega)] at ht
                   cases ht)
              | (refine ⟨rfl, rfl, ((u3.P10.trans u15.toP).trans hM29.f5).toL, f29.1, fun e he => ?_, fun t w ht => ?_⟩
                 · rw [op_1 (by omega)] at he
                   cases he
                   rw [v15] at f29
                   exact f29.2
                 · rw [op_1 (by omega)] at ht
                   cases ht)
              | (have f46 := hM46.RSn hP15 (by omega) (by decide)
                 refine ⟨rfl, rfl, ((u3.P10.trans u15.toP).trans hM46.f5).toL, f46.1, fun e he => ?_, fun t w ht => ?_⟩
                 · rw [op_4 (by omega) (by omega)] at he
                   cases he
                   rw [v15] at f46
                   exact f46.2
                 · rw [op_4 (by omega) (by omega)] at ht
                   cases ht))
       · skip
         refine bw_aload rfl rfl ?_
         refine bw_push rfl ?_
         refine bw_aload rfl rfl ?_
         refine bw_getI rfl rfl ?_
         refine bw_callVv (e := d - 1) (as := [_, _]) rfl (by omega) rfl rfl (Nat.le_of_ble_eq_true rfl) (Nat.le_of_ble_eq_true rfl) rfl (m_faults hR) (fun M46 hM46 => ?_)
         have hR := hM46.f5.RF hR
         have g46 := fal_ne hM46 (by decide)
         refine bw_aload rfl rfl ?_
         refine bw_callVj (e := d - 1) (as := []) rfl (by omega) rfl rfl (Nat.le_of_ble_eq_true rfl) (Nat.le_of_ble_eq_true rfl) rfl (m_goesWell hR) (fun r50 hr50 => ?_)
         refine bw_ifne rfl (fun c53 => ?_) (fun c53 => ?_)
         · first
           | (exfalso; omega)
           | (refine bw_aload rfl rfl ?_
              first | refine bw_dup rfl ?_ | refine bw_dupi rfl ?_
              refine bw_getI rfl rfl ?_
              refine bw_push rfl ?_
              refine bw_iadd rfl ⟨by omega, by omega⟩ ?_
              have k64 := in_of hP.ok (k := opQ a n s) (by omega)
              refine bw_putI rfl rfl ?_
              refine bw_aload rfl rfl ?_
              refine bw_getr rfl rfl (hR _ _) ?_
              refine bw_aload rfl rfl ?_
              refine bw_getI rfl rfl ?_
              rw [gI_sI_nj (show (19 : Int) ≠ 9 by decide), k15]
              refine bw_aload rfl rfl ?_
              refine bw_getI rfl rfl ?_
              rw [gI_sI_nj (show (16 : Int) ≠ 9 by decide), h15]
              refine bw_asti rfl (by first | rfl | assumption) (by omega) (by omega) ?_
              refine bw_aload rfl rfl ?_
              refine bw_getr rfl rfl (hR _ _) ?_
              refine bw_aload rfl rfl ?_
              refine bw_getI rfl rfl ?_
              rw [gI_sI_ne (show 567 ≠ 575 by decide), gI_sI_nj (show (19 : Int) ≠ 9 by decide), k15]
              refine bw_iload rfl rfl ?_
              refine bw_astz rfl (by first | rfl | assumption) (by omega) (by omega) (by omega) ?_
              refine bw_aload rfl rfl ?_
              first | refine bw_dup rfl ?_ | refine bw_dupi rfl ?_
              refine bw_getI rfl rfl ?_
              rw [gI_sI_ne (show 567 ≠ 576 by decide), gI_sI_ne (show 567 ≠ 575 by decide), gI_sI_nj (show (19 : Int) ≠ 9 by decide), k15]
              refine bw_push rfl ?_
              refine bw_iadd rfl ⟨by omega, by omega⟩ ?_
              refine bw_putI rfl rfl ?_
              refine bw_retv rfl rfl ?_
              have g9 : s5 pL qR M15 (sI (sI (sI (sI M15 567 9 (gI M15 567 9 + 1)) 575 (lsK s) (min (lsH s).1 600)) 576 (lsK s) r3) 567 19 (lsK s + 1)) := ((((s5_refl _ _ _).sI7 9 _ (Or.inl rfl)).wr _ _ (Or.inr (Or.inr (Or.inl rfl))) (by decide)).wr _ _ (Or.inr (Or.inr (Or.inr rfl))) (by decide)).sI7 19 _ (Or.inr (Or.inr (Or.inr (Or.inr (Or.inr (Or.inl rfl))))))
              have x9 : gI (sI (sI (sI (sI M15 567 9 (gI M15 567 9 + 1)) 575 (lsK s) (min (lsH s).1 600)) 576 (lsK s) r3) 567 19 (lsK s + 1)) 567 9 = opQ a n s + 1 := by rw [gI_sI_nj (by decide), gI_sI_ne (by decide), gI_sI_ne (by decide), gI_sI_eq, v15]
              refine ⟨rfl, rfl, (u3.P10.trans u15.toP).toL.trans g9, hP15.fr5 g9 (pL_no (by decide)) (pL_no (by decide)) (qR_no (by omega)) (by rw [x9]; omega), fun e he => ?_, fun t w ht => ?_⟩
              · rw [op_g (by omega) (by omega)] at he
                cases he
              · rw [op_g (by omega) (by omega), ← w3] at ht
                cases ht
                exact ⟨⟨by rw [gI_sI_nj (by decide), gI_sI_ne (by decide), gI_sI_ne (by decide), gI_sI_nj (by decide)]; omega, by rw [x9]⟩, op_mem H15 n15 (by omega), rfl⟩)
         · first
           | (exfalso; omega)
           | (refine bw_retv rfl rfl ?_
              first
              | (refine ⟨rfl, rfl, ((u3.P10.trans u15.toP).trans (hM29.f5.trans hM46.f5)).toL, hM46.ps f29.1, fun e he => ?_, fun t w ht => ?_⟩
                 · rw [op_1 (by omega)] at he
                   cases he
                   rw [v15] at f29
                   exact hM46.old f29.2
                 · rw [op_1 (by omega)] at ht
                   cases ht)
              | (refine ⟨rfl, rfl, ((u3.P10.trans u15.toP).trans hM29.f5).toL, f29.1, fun e he => ?_, fun t w ht => ?_⟩
                 · rw [op_1 (by omega)] at he
                   cases he
                   rw [v15] at f29
                   exact f29.2
                 · rw [op_1 (by omega)] at ht
                   cases ht)
              | (have f46 := hM46.RSn hP15 (by omega) (by decide)
                 refine ⟨rfl, rfl, ((u3.P10.trans u15.toP).trans hM46.f5).toL, f46.1, fun e he => ?_, fun t w ht => ?_⟩
                 · rw [op_4 (by omega) (by omega)] at he
                   cases he
                   rw [v15] at f46
                   exact f46.2
                 · rw [op_4 (by omega) (by omega)] at ht
                   cases ht)))
  · first
    | (exfalso; omega)
    | (refine bw_aload rfl rfl ?_
       refine bw_callVi (e := d - 1) (as := []) rfl (by omega) rfl rfl (Nat.le_of_ble_eq_true rfl) (Nat.le_of_ble_eq_true rfl) rfl (m_sees hR v3.1 (by omega)) (fun r15 M15 hM15 => ?_)
       obtain ⟨u15, v15, w15⟩ := hM15
       have hR := u15.RF hR
       have s15 : skM M3 a n = opQ a n s := v3.2.2
       have s8 := skM_in v3.1
       rw [s15] at s8
       rw [show sk a n (gI M3 567 9) = opQ a n s from s15] at v15 w15
       have hP15 := v3.1.to9 u15 (by omega)
       have t15 := s59_11 u15
       have H15 := H3.P u15.toP
       have k15 := H15.2.1
       have h15 := H15.1.1
       have n15 : gI M15 567 20 = lsN s + 1 := (u15.toP.sl 20 (qP_no (by omega))).trans n3
       refine bw_push rfl ?_
       refine bw_iceq rfl (fun c20 => ?_) (fun c20 => ?_)
       · skip
         refine bw_aload rfl rfl ?_
         refine bw_getI rfl rfl ?_
         refine bw_push rfl ?_
         refine bw_icne rfl (fun c37 => ?_) (fun c37 => ?_)
         · skip
           refine bw_aload rfl rfl ?_
           refine bw_callVj (e := d - 1) (as := []) rfl (by omega) rfl rfl (Nat.le_of_ble_eq_true rfl) (Nat.le_of_ble_eq_true rfl) rfl (m_goesWell hR) (fun r50 hr50 => ?_)
           refine bw_ifne rfl (fun c53 => ?_) (fun c53 => ?_)
           · first
             | (exfalso; omega)
             | (refine bw_aload rfl rfl ?_
                first | refine bw_dup rfl ?_ | refine bw_dupi rfl ?_
                refine bw_getI rfl rfl ?_
                refine bw_push rfl ?_
                refine bw_iadd rfl ⟨by omega, by omega⟩ ?_
                have k64 := in_of hP.ok (k := opQ a n s) (by omega)
                refine bw_putI rfl rfl ?_
                refine bw_aload rfl rfl ?_
                refine bw_getr rfl rfl (hR _ _) ?_
                refine bw_aload rfl rfl ?_
                refine bw_getI rfl rfl ?_
                rw [gI_sI_nj (show (19 : Int) ≠ 9 by decide), k15]
                refine bw_aload rfl rfl ?_
                refine bw_getI rfl rfl ?_
                rw [gI_sI_nj (show (16 : Int) ≠ 9 by decide), h15]
                refine bw_asti rfl (by first | rfl | assumption) (by omega) (by omega) ?_
                refine bw_aload rfl rfl ?_
                refine bw_getr rfl rfl (hR _ _) ?_
                refine bw_aload rfl rfl ?_
                refine bw_getI rfl rfl ?_
                rw [gI_sI_ne (show 567 ≠ 575 by decide), gI_sI_nj (show (19 : Int) ≠ 9 by decide), k15]
                refine bw_iload rfl rfl ?_
                refine bw_astz rfl (by first | rfl | assumption) (by omega) (by omega) (by omega) ?_
                refine bw_aload rfl rfl ?_
                first | refine bw_dup rfl ?_ | refine bw_dupi rfl ?_
                refine bw_getI rfl rfl ?_
                rw [gI_sI_ne (show 567 ≠ 576 by decide), gI_sI_ne (show 567 ≠ 575 by decide), gI_sI_nj (show (19 : Int) ≠ 9 by decide), k15]
                refine bw_push rfl ?_
                refine bw_iadd rfl ⟨by omega, by omega⟩ ?_
                refine bw_putI rfl rfl ?_
                refine bw_retv rfl rfl ?_
                have g9 : s5 pL qR M15 (sI (sI (sI (sI M15 567 9 (gI M15 567 9 + 1)) 575 (lsK s) (min (lsH s).1 600)) 576 (lsK s) r3) 567 19 (lsK s + 1)) := ((((s5_refl _ _ _).sI7 9 _ (Or.inl rfl)).wr _ _ (Or.inr (Or.inr (Or.inl rfl))) (by decide)).wr _ _ (Or.inr (Or.inr (Or.inr rfl))) (by decide)).sI7 19 _ (Or.inr (Or.inr (Or.inr (Or.inr (Or.inr (Or.inl rfl))))))
                have x9 : gI (sI (sI (sI (sI M15 567 9 (gI M15 567 9 + 1)) 575 (lsK s) (min (lsH s).1 600)) 576 (lsK s) r3) 567 19 (lsK s + 1)) 567 9 = opQ a n s + 1 := by rw [gI_sI_nj (by decide), gI_sI_ne (by decide), gI_sI_ne (by decide), gI_sI_eq, v15]
                refine ⟨rfl, rfl, (u3.P10.trans u15.toP).toL.trans g9, hP15.fr5 g9 (pL_no (by decide)) (pL_no (by decide)) (qR_no (by omega)) (by rw [x9]; omega), fun e he => ?_, fun t w ht => ?_⟩
                · rw [op_g (by omega) (by omega)] at he
                  cases he
                · rw [op_g (by omega) (by omega), ← w3] at ht
                  cases ht
                  exact ⟨⟨by rw [gI_sI_nj (by decide), gI_sI_ne (by decide), gI_sI_ne (by decide), gI_sI_nj (by decide)]; omega, by rw [x9]⟩, op_mem H15 n15 (by omega), rfl⟩)
           · first
             | (exfalso; omega)
             | (refine bw_retv rfl rfl ?_
                first
                | (refine ⟨rfl, rfl, ((u3.P10.trans u15.toP).trans (hM29.f5.trans hM46.f5)).toL, hM46.ps f29.1, fun e he => ?_, fun t w ht => ?_⟩
                   · rw [op_1 (by omega)] at he
                     cases he
                     rw [v15] at f29
                     exact hM46.old f29.2
                   · rw [op_1 (by omega)] at ht
                     cases ht)
                | (refine ⟨rfl, rfl, ((u3.P10.trans u15.toP).trans hM29.f5).toL, f29.1, fun e he => ?_, fun t w ht => ?_⟩
                   · rw [op_1 (by omega)] at he
                     cases he
                     rw [v15] at f29
                     exact f29.2
                   · rw [op_1 (by omega)] at ht
                     cases ht)
                | (have f46 := hM46.RSn hP15 (by omega) (by decide)
                   refine ⟨rfl, rfl, ((u3.P10.trans u15.toP).trans hM46.f5).toL, f46.1, fun e he => ?_, fun t w ht => ?_⟩
                   · rw [op_4 (by omega) (by omega)] at he
                     cases he
                     rw [v15] at f46
                     exact f46.2
                   · rw [op_4 (by omega) (by omega)] at ht
                     cases ht))
         · skip
           refine bw_aload rfl rfl ?_
           refine bw_push rfl ?_
           refine bw_aload rfl rfl ?_
           refine bw_getI rfl rfl ?_
           refine bw_callVv (e := d - 1) (as := [_, _]) rfl (by omega) rfl rfl (Nat.le_of_ble_eq_true rfl) (Nat.le_of_ble_eq_true rfl) rfl (m_faults hR) (fun M46 hM46 => ?_)
           have hR := hM46.f5.RF hR
           have g46 := fal_ne hM46 (by decide)
           refine bw_aload rfl rfl ?_
           refine bw_callVj (e := d - 1) (as := []) rfl (by omega) rfl rfl (Nat.le_of_ble_eq_true rfl) (Nat.le_of_ble_eq_true rfl) rfl (m_goesWell hR) (fun r50 hr50 => ?_)
           refine bw_ifne rfl (fun c53 => ?_) (fun c53 => ?_)
           · first
             | (exfalso; omega)
             | (refine bw_aload rfl rfl ?_
                first | refine bw_dup rfl ?_ | refine bw_dupi rfl ?_
                refine bw_getI rfl rfl ?_
                refine bw_push rfl ?_
                refine bw_iadd rfl ⟨by omega, by omega⟩ ?_
                have k64 := in_of hP.ok (k := opQ a n s) (by omega)
                refine bw_putI rfl rfl ?_
                refine bw_aload rfl rfl ?_
                refine bw_getr rfl rfl (hR _ _) ?_
                refine bw_aload rfl rfl ?_
                refine bw_getI rfl rfl ?_
                rw [gI_sI_nj (show (19 : Int) ≠ 9 by decide), k15]
                refine bw_aload rfl rfl ?_
                refine bw_getI rfl rfl ?_
                rw [gI_sI_nj (show (16 : Int) ≠ 9 by decide), h15]
                refine bw_asti rfl (by first | rfl | assumption) (by omega) (by omega) ?_
                refine bw_aload rfl rfl ?_
                refine bw_getr rfl rfl (hR _ _) ?_
                refine bw_aload rfl rfl ?_
                refine bw_getI rfl rfl ?_
                rw [gI_sI_ne (show 567 ≠ 575 by decide), gI_sI_nj (show (19 : Int) ≠ 9 by decide), k15]
                refine bw_iload rfl rfl ?_
                refine bw_astz rfl (by first | rfl | assumption) (by omega) (by omega) (by omega) ?_
                refine bw_aload rfl rfl ?_
                first | refine bw_dup rfl ?_ | refine bw_dupi rfl ?_
                refine bw_getI rfl rfl ?_
                rw [gI_sI_ne (show 567 ≠ 576 by decide), gI_sI_ne (show 567 ≠ 575 by decide), gI_sI_nj (show (19 : Int) ≠ 9 by decide), k15]
                refine bw_push rfl ?_
                refine bw_iadd rfl ⟨by omega, by omega⟩ ?_
                refine bw_putI rfl rfl ?_
                refine bw_retv rfl rfl ?_
                have g9 : s5 pL qR M15 (sI (sI (sI (sI M15 567 9 (gI M15 567 9 + 1)) 575 (lsK s) (min (lsH s).1 600)) 576 (lsK s) r3) 567 19 (lsK s + 1)) := ((((s5_refl _ _ _).sI7 9 _ (Or.inl rfl)).wr _ _ (Or.inr (Or.inr (Or.inl rfl))) (by decide)).wr _ _ (Or.inr (Or.inr (Or.inr rfl))) (by decide)).sI7 19 _ (Or.inr (Or.inr (Or.inr (Or.inr (Or.inr (Or.inl rfl))))))
                have x9 : gI (sI (sI (sI (sI M15 567 9 (gI M15 567 9 + 1)) 575 (lsK s) (min (lsH s).1 600)) 576 (lsK s) r3) 567 19 (lsK s + 1)) 567 9 = opQ a n s + 1 := by rw [gI_sI_nj (by decide), gI_sI_ne (by decide), gI_sI_ne (by decide), gI_sI_eq, v15]
                refine ⟨rfl, rfl, (u3.P10.trans u15.toP).toL.trans g9, hP15.fr5 g9 (pL_no (by decide)) (pL_no (by decide)) (qR_no (by omega)) (by rw [x9]; omega), fun e he => ?_, fun t w ht => ?_⟩
                · rw [op_g (by omega) (by omega)] at he
                  cases he
                · rw [op_g (by omega) (by omega), ← w3] at ht
                  cases ht
                  exact ⟨⟨by rw [gI_sI_nj (by decide), gI_sI_ne (by decide), gI_sI_ne (by decide), gI_sI_nj (by decide)]; omega, by rw [x9]⟩, op_mem H15 n15 (by omega), rfl⟩)
           · first
             | (exfalso; omega)
             | (refine bw_retv rfl rfl ?_
                first
                | (refine ⟨rfl, rfl, ((u3.P10.trans u15.toP).trans (hM29.f5.trans hM46.f5)).toL, hM46.ps f29.1, fun e he => ?_, fun t w ht => ?_⟩
                   · rw [op_1 (by omega)] at he
                     cases he
                     rw [v15] at f29
                     exact hM46.old f29.2
                   · rw [op_1 (by omega)] at ht
                     cases ht)
                | (refine ⟨rfl, rfl, ((u3.P10.trans u15.toP).trans hM29.f5).toL, f29.1, fun e he => ?_, fun t w ht => ?_⟩
                   · rw [op_1 (by omega)] at he
                     cases he
                     rw [v15] at f29
                     exact f29.2
                   · rw [op_1 (by omega)] at ht
                     cases ht)
                | (have f46 := hM46.RSn hP15 (by omega) (by decide)
                   refine ⟨rfl, rfl, ((u3.P10.trans u15.toP).trans hM46.f5).toL, f46.1, fun e he => ?_, fun t w ht => ?_⟩
                   · rw [op_4 (by omega) (by omega)] at he
                     cases he
                     rw [v15] at f46
                     exact f46.2
                   · rw [op_4 (by omega) (by omega)] at ht
                     cases ht))
       · skip
         refine bw_aload rfl rfl ?_
         refine bw_push rfl ?_
         refine bw_aload rfl rfl ?_
         refine bw_getI rfl rfl ?_
         refine bw_callVv (e := d - 1) (as := [_, _]) rfl (by omega) rfl rfl (Nat.le_of_ble_eq_true rfl) (Nat.le_of_ble_eq_true rfl) rfl (m_faults hR) (fun M29 hM29 => ?_)
         have hR := hM29.f5.RF hR
         have g29 := fal_ne hM29 (by decide)
         have f29 := hM29.RSn hP15 (by omega) (by decide)
         have k29 : gI M29 567 19 = lsK s := (hM29.f5.sl 19 (qP_no (by omega))).trans k15
         refine bw_aload rfl rfl ?_
         refine bw_getI rfl rfl ?_
         refine bw_push rfl ?_
         refine bw_icne rfl (fun c37 => ?_) (fun c37 => ?_)
         · skip
           refine bw_aload rfl rfl ?_
           refine bw_callVj (e := d - 1) (as := []) rfl (by omega) rfl rfl (Nat.le_of_ble_eq_true rfl) (Nat.le_of_ble_eq_true rfl) rfl (m_goesWell hR) (fun r50 hr50 => ?_)
           refine bw_ifne rfl (fun c53 => ?_) (fun c53 => ?_)
           · first
             | (exfalso; omega)
             | (refine bw_aload rfl rfl ?_
                first | refine bw_dup rfl ?_ | refine bw_dupi rfl ?_
                refine bw_getI rfl rfl ?_
                refine bw_push rfl ?_
                refine bw_iadd rfl ⟨by omega, by omega⟩ ?_
                have k64 := in_of hP.ok (k := opQ a n s) (by omega)
                refine bw_putI rfl rfl ?_
                refine bw_aload rfl rfl ?_
                refine bw_getr rfl rfl (hR _ _) ?_
                refine bw_aload rfl rfl ?_
                refine bw_getI rfl rfl ?_
                rw [gI_sI_nj (show (19 : Int) ≠ 9 by decide), k15]
                refine bw_aload rfl rfl ?_
                refine bw_getI rfl rfl ?_
                rw [gI_sI_nj (show (16 : Int) ≠ 9 by decide), h15]
                refine bw_asti rfl (by first | rfl | assumption) (by omega) (by omega) ?_
                refine bw_aload rfl rfl ?_
                refine bw_getr rfl rfl (hR _ _) ?_
                refine bw_aload rfl rfl ?_
                refine bw_getI rfl rfl ?_
                rw [gI_sI_ne (show 567 ≠ 575 by decide), gI_sI_nj (show (19 : Int) ≠ 9 by decide), k15]
                refine bw_iload rfl rfl ?_
                refine bw_astz rfl (by first | rfl | assumption) (by omega) (by omega) (by omega) ?_
                refine bw_aload rfl rfl ?_
                first | refine bw_dup rfl ?_ | refine bw_dupi rfl ?_
                refine bw_getI rfl rfl ?_
                rw [gI_sI_ne (show 567 ≠ 576 by decide), gI_sI_ne (show 567 ≠ 575 by decide), gI_sI_nj (show (19 : Int) ≠ 9 by decide), k15]
                refine bw_push rfl ?_
                refine bw_iadd rfl ⟨by omega, by omega⟩ ?_
                refine bw_putI rfl rfl ?_
                refine bw_retv rfl rfl ?_
                have g9 : s5 pL qR M15 (sI (sI (sI (sI M15 567 9 (gI M15 567 9 + 1)) 575 (lsK s) (min (lsH s).1 600)) 576 (lsK s) r3) 567 19 (lsK s + 1)) := ((((s5_refl _ _ _).sI7 9 _ (Or.inl rfl)).wr _ _ (Or.inr (Or.inr (Or.inl rfl))) (by decide)).wr _ _ (Or.inr (Or.inr (Or.inr rfl))) (by decide)).sI7 19 _ (Or.inr (Or.inr (Or.inr (Or.inr (Or.inr (Or.inl rfl))))))
                have x9 : gI (sI (sI (sI (sI M15 567 9 (gI M15 567 9 + 1)) 575 (lsK s) (min (lsH s).1 600)) 576 (lsK s) r3) 567 19 (lsK s + 1)) 567 9 = opQ a n s + 1 := by rw [gI_sI_nj (by decide), gI_sI_ne (by decide), gI_sI_ne (by decide), gI_sI_eq, v15]
                refine ⟨rfl, rfl, (u3.P10.trans u15.toP).toL.trans g9, hP15.fr5 g9 (pL_no (by decide)) (pL_no (by decide)) (qR_no (by omega)) (by rw [x9]; omega), fun e he => ?_, fun t w ht => ?_⟩
                · rw [op_g (by omega) (by omega)] at he
                  cases he
                · rw [op_g (by omega) (by omega), ← w3] at ht
                  cases ht
                  exact ⟨⟨by rw [gI_sI_nj (by decide), gI_sI_ne (by decide), gI_sI_ne (by decide), gI_sI_nj (by decide)]; omega, by rw [x9]⟩, op_mem H15 n15 (by omega), rfl⟩)
           · first
             | (exfalso; omega)
             | (refine bw_retv rfl rfl ?_
                first
                | (refine ⟨rfl, rfl, ((u3.P10.trans u15.toP).trans (hM29.f5.trans hM46.f5)).toL, hM46.ps f29.1, fun e he => ?_, fun t w ht => ?_⟩
                   · rw [op_1 (by omega)] at he
                     cases he
                     rw [v15] at f29
                     exact hM46.old f29.2
                   · rw [op_1 (by omega)] at ht
                     cases ht)
                | (refine ⟨rfl, rfl, ((u3.P10.trans u15.toP).trans hM29.f5).toL, f29.1, fun e he => ?_, fun t w ht => ?_⟩
                   · rw [op_1 (by omega)] at he
                     cases he
                     rw [v15] at f29
                     exact f29.2
                   · rw [op_1 (by omega)] at ht
                     cases ht)
                | (have f46 := hM46.RSn hP15 (by omega) (by decide)
                   refine ⟨rfl, rfl, ((u3.P10.trans u15.toP).trans hM46.f5).toL, f46.1, fun e he => ?_, fun t w ht => ?_⟩
                   · rw [op_4 (by omega) (by omega)] at he
                     cases he
                     rw [v15] at f46
                     exact f46.2
                   · rw [op_4 (by omega) (by omega)] at ht
                     cases ht))
         · skip
           refine bw_aload rfl rfl ?_
           refine bw_push rfl ?_
           refine bw_aload rfl rfl ?_
           refine bw_getI rfl rfl ?_
           refine bw_callVv (e := d - 1) (as := [_, _]) rfl (by omega) rfl rfl (Nat.le_of_ble_eq_true rfl) (Nat.le_of_ble_eq_true rfl) rfl (m_faults hR) (fun M46 hM46 => ?_)
           have hR := hM46.f5.RF hR
           have g46 := fal_ne hM46 (by decide)
           refine bw_aload rfl rfl ?_
           refine bw_callVj (e := d - 1) (as := []) rfl (by omega) rfl rfl (Nat.le_of_ble_eq_true rfl) (Nat.le_of_ble_eq_true rfl) rfl (m_goesWell hR) (fun r50 hr50 => ?_)
           refine bw_ifne rfl (fun c53 => ?_) (fun c53 => ?_)
           · first
             | (exfalso; omega)
             | (refine bw_aload rfl rfl ?_
                first | refine bw_dup rfl ?_ | refine bw_dupi rfl ?_
                refine bw_getI rfl rfl ?_
                refine bw_push rfl ?_
                refine bw_iadd rfl ⟨by omega, by omega⟩ ?_
                have k64 := in_of hP.ok (k := opQ a n s) (by omega)
                refine bw_putI rfl rfl ?_
                refine bw_aload rfl rfl ?_
                refine bw_getr rfl rfl (hR _ _) ?_
                refine bw_aload rfl rfl ?_
                refine bw_getI rfl rfl ?_
                rw [gI_sI_nj (show (19 : Int) ≠ 9 by decide), k15]
                refine bw_aload rfl rfl ?_
                refine bw_getI rfl rfl ?_
                rw [gI_sI_nj (show (16 : Int) ≠ 9 by decide), h15]
                refine bw_asti rfl (by first | rfl | assumption) (by omega) (by omega) ?_
                refine bw_aload rfl rfl ?_
                refine bw_getr rfl rfl (hR _ _) ?_
                refine bw_aload rfl rfl ?_
                refine bw_getI rfl rfl ?_
                rw [gI_sI_ne (show 567 ≠ 575 by decide), gI_sI_nj (show (19 : Int) ≠ 9 by decide), k15]
                refine bw_iload rfl rfl ?_
                refine bw_astz rfl (by first | rfl | assumption) (by omega) (by omega) (by omega) ?_
                refine bw_aload rfl rfl ?_
                first | refine bw_dup rfl ?_ | refine bw_dupi rfl ?_
                refine bw_getI rfl rfl ?_
                rw [gI_sI_ne (show 567 ≠ 576 by decide), gI_sI_ne (show 567 ≠ 575 by decide), gI_sI_nj (show (19 : Int) ≠ 9 by decide), k15]
                refine bw_push rfl ?_
                refine bw_iadd rfl ⟨by omega, by omega⟩ ?_
                refine bw_putI rfl rfl ?_
                refine bw_retv rfl rfl ?_
                have g9 : s5 pL qR M15 (sI (sI (sI (sI M15 567 9 (gI M15 567 9 + 1)) 575 (lsK s) (min (lsH s).1 600)) 576 (lsK s) r3) 567 19 (lsK s + 1)) := ((((s5_refl _ _ _).sI7 9 _ (Or.inl rfl)).wr _ _ (Or.inr (Or.inr (Or.inl rfl))) (by decide)).wr _ _ (Or.inr (Or.inr (Or.inr rfl))) (by decide)).sI7 19 _ (Or.inr (Or.inr (Or.inr (Or.inr (Or.inr (Or.inl rfl))))))
                have x9 : gI (sI (sI (sI (sI M15 567 9 (gI M15 567 9 + 1)) 575 (lsK s) (min (lsH s).1 600)) 576 (lsK s) r3) 567 19 (lsK s + 1)) 567 9 = opQ a n s + 1 := by rw [gI_sI_nj (by decide), gI_sI_ne (by decide), gI_sI_ne (by decide), gI_sI_eq, v15]
                refine ⟨rfl, rfl, (u3.P10.trans u15.toP).toL.trans g9, hP15.fr5 g9 (pL_no (by decide)) (pL_no (by decide)) (qR_no (by omega)) (by rw [x9]; omega), fun e he => ?_, fun t w ht => ?_⟩
                · rw [op_g (by omega) (by omega)] at he
                  cases he
                · rw [op_g (by omega) (by omega), ← w3] at ht
                  cases ht
                  exact ⟨⟨by rw [gI_sI_nj (by decide), gI_sI_ne (by decide), gI_sI_ne (by decide), gI_sI_nj (by decide)]; omega, by rw [x9]⟩, op_mem H15 n15 (by omega), rfl⟩)
           · first
             | (exfalso; omega)
             | (refine bw_retv rfl rfl ?_
                first
                | (refine ⟨rfl, rfl, ((u3.P10.trans u15.toP).trans (hM29.f5.trans hM46.f5)).toL, hM46.ps f29.1, fun e he => ?_, fun t w ht => ?_⟩
                   · rw [op_1 (by omega)] at he
                     cases he
                     rw [v15] at f29
                     exact hM46.old f29.2
                   · rw [op_1 (by omega)] at ht
                     cases ht)
                | (refine ⟨rfl, rfl, ((u3.P10.trans u15.toP).trans hM29.f5).toL, f29.1, fun e he => ?_, fun t w ht => ?_⟩
                   · rw [op_1 (by omega)] at he
                     cases he
                     rw [v15] at f29
                     exact f29.2
                   · rw [op_1 (by omega)] at ht
                     cases ht)
                | (have f46 := hM46.RSn hP15 (by omega) (by decide)
                   refine ⟨rfl, rfl, ((u3.P10.trans u15.toP).trans hM46.f5).toL, f46.1, fun e he => ?_, fun t w ht => ?_⟩
                   · rw [op_4 (by omega) (by omega)] at he
                     cases he
                     rw [v15] at f46
                     exact f46.2
                   · rw [op_4 (by omega) (by omega)] at ht
                     cases ht)))
