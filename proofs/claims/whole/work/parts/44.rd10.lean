theorem LQ_D {M N : abMem} {s t : LnS} (H : LQ M s) (u : s5 pH qD M N) (h : HR N (lsH t)) (hK : lsK t = lsK s) (hF : lsF t = lsF s) (hW : lsW t = lsW s) : LQ N t := by
  refine ⟨h, by rw [u.sl 19 (qD_no (by omega)), hK]; exact H.2.1, fun j h1 h2 => ?_⟩
  rw [u.at 575 (pH_no (by decide)) (by decide), u.at 576 (pH_no (by decide)) (by decide), hF, hW]
  exact H.2.2 j h1 (by omega)
set_option maxRecDepth 20000 in
set_option maxHeartbeats 4000000 in
theorem m_readsPart {d L : Nat} {M : abMem} {r : abRf} (hR : RF r M) {a : Int → Int} {n : Int} {s : LnS} (hP : PS M a n) (hz : rs M a n (.inr (lsP s))) (H : LR M s) (hV : (0 ≤ lsN s ∧ lsN s ≤ 40) ∧ (0 ≤ lsK s ∧ lsK s ≤ 5)) {on : Int} (ho : 1 ≤ on ∧ on ≤ 96) (hd : 7 ≤ d) : abW d (0, 0) 173 0 (abEnt (abL 173) [vr (some 567), vi on]) [] (0, 0) (A0 L) M (qI (A0 L) (fun x N => s5 pL qR M N ∧ (x = 0 ∨ x = 1) ∧ PS N a n ∧ (∀ e : Int × Int, ptS a n on s = .inl e → rs N a n (.inl e)) ∧ (∀ (t : LnS) (w : Int), ptS a n on s = .inr (t, w) → rs N a n (.inr (lsP t)) ∧ LR N t ∧ x = w))) := by
  have p1 := hP.sz
  have p2 := hP.ok.1
  have p3 := hP.he
  show abW d (0, 0) 173 0 [some (vr (some 567)), some (vi on), none] [] (0, 0) (A0 L) M (qI (A0 L) (fun x N => s5 pL qR M N ∧ (x = 0 ∨ x = 1) ∧ PS N a n ∧ (∀ e : Int × Int, ptS a n on s = .inl e → rs N a n (.inl e)) ∧ (∀ (t : LnS) (w : Int), ptS a n on s = .inr (t, w) → rs N a n (.inr (lsP t)) ∧ LR N t ∧ x = w)))
  refine bw_aload rfl rfl ?_
  refine bw_callVi (e := d - 1) (as := []) rfl (by omega) rfl rfl (Nat.le_of_ble_eq_true rfl) (Nat.le_of_ble_eq_true rfl) rfl (m_isPart hR hP (by omega)) (fun r1 M1 hM1 => ?_)
  obtain ⟨u1, v1, w1⟩ := hM1
  have hR := u1.RF hR
  have s1 : skM M a n = lsP s := hz.2
  have s8 := skM_in hP
  rw [s1] at v1 w1 s8
  have ek : sk a n (lsP s) = lsP s := by rw [← hz.2]; exact sk_sk hP.ok hP.he
  have hP := hP.to9 u1 (by omega)
  have t1 := s59_11 u1
  have z1 : gI M1 567 11 = 0 := t1.1.trans hz.1
  have H1 := H.1.P u1.toP
  have n1 : gI M1 567 20 = lsN s := (u1.toP.sl 20 (qP_no (by omega))).trans H.2
  have U := u1.toP.toL
  refine bw_ifne rfl (fun c4 => ?_) (fun c4 => ?_)
  · skip
    refine bw_aload rfl rfl ?_
    refine bw_callVj (e := d - 1) (as := []) rfl (by omega) rfl rfl (Nat.le_of_ble_eq_true rfl) (Nat.le_of_ble_eq_true rfl) rfl (m_goesWell hR) (fun r17 hr17 => ?_)
    refine bw_ifeq rfl (fun c20 => ?_) (fun c20 => ?_)
    · first
      | (exfalso; omega)
      | (refine bw_aload rfl rfl ?_
         refine bw_callVj (e := d - 1) (as := []) rfl (by omega) rfl rfl (Nat.le_of_ble_eq_true rfl) (Nat.le_of_ble_eq_true rfl) rfl (m_goesWell hR) (fun r39 hr39 => ?_)
         refine bw_ifeq rfl (fun c42 => ?_) (fun c42 => ?_)
         · first
           | (exfalso; omega)
           | (refine bw_aload rfl rfl ?_
              refine bw_callVj (e := d - 1) (as := []) rfl (by omega) rfl rfl (Nat.le_of_ble_eq_true rfl) (Nat.le_of_ble_eq_true rfl) rfl (m_goesWell hR) (fun r50 hr50 => ?_)
              refine bw_ifne rfl (fun c53 => ?_) (fun c53 => ?_)
              · first
                | (exfalso; omega)
                | (have hz58 : rs M46 a n (.inr (lsP s)) := ⟨by omega, by rw [v1]; exact ek⟩
                   refine bw_aload rfl rfl ?_
                   refine bw_push rfl ?_
                   refine bw_callVi (e := d - 1) (as := [_]) rfl (by omega) rfl rfl (Nat.le_of_ble_eq_true rfl) (Nat.le_of_ble_eq_true rfl) rfl (m_takes hR hP hz58 (by omega)) (fun r61 M61 hM61 => ?_)
                   obtain ⟨u61, v61, w61, x61, y61⟩ := hM61
                   have hR := u61.RF hR
                   have hw := tak_01 (a := a) (n := n) (w := 17) (p := lsP s)
                   have H61 := H1.P u61.P10
                   have n61 : gI M61 567 20 = lsN s + 1 := (u61.P10.sl 20 (qP_no (by omega))).trans (by omega)
                   have U := U.trans u61.P10.toL
                   refine bw_ifeq rfl (fun c64 => ?_) (fun c64 => ?_)
                   · skip
                     have h17 : wo a n (lsP s) ≠ 17 := hw.2 (by omega)
                     rw [tak_n h17] at v61
                     have v61b : gI M61 567 9 = lsP s := (y61 (by omega) (by omega)).trans hz58.2
                     refine bw_aload rfl rfl ?_
                     refine bw_aload rfl rfl ?_
                     refine bw_getI rfl rfl ?_
                     refine bw_callVj (e := d - 1) (as := [_]) rfl (by omega) rfl rfl (Nat.le_of_ble_eq_true rfl) (Nat.le_of_ble_eq_true rfl) rfl (m_isDigit hR v61.1 (by omega) (by omega)) (fun r93 hr93 => ?_)
                     rw [v61b] at hr93
                     refine bw_ifeq rfl (fun c96 => ?_) (fun c96 => ?_)
                     · skip
                       refine bw_aload rfl rfl ?_
                       refine bw_callVv (e := d - 1) (as := []) rfl (by omega) rfl rfl (Nat.le_of_ble_eq_true rfl) (Nat.le_of_ble_eq_true rfl) rfl (m_opens hR v61.1 v61.2 H61 n61 (by omega) (by omega)) (fun M107 hM107 => ?_)
                       refine bw_push rfl ?_
                       refine bw_retz rfl rfl (by omega) ?_
                       have hpr : prP a n (lsP s) := w1.elim (fun k => k.1) (fun k => absurd k.2 (by omega))
                       have hdg : ¬ (48 ≤ a (lsP s) ∧ a (lsP s) ≤ 57) := by omega
                       have h4 : lsN s ≠ 40 := by omega
                       have hp2 := pt_o (on := on) hpr hdg h4 h17
                       obtain ⟨u107, v107, x107, y107⟩ := hM107
                       refine ⟨rfl, _, rfl, U.trans u107, Or.inl rfl, v107, fun e he => ?_, fun t w ht => ?_⟩
                       · rw [hp2] at he
                         exact x107 e he
                       · rw [hp2] at ht
                         obtain ⟨z1, z2, z3⟩ := y107 t w ht
                         exact ⟨z1, z2, z3.symm⟩
                     · skip
                       refine bw_aload rfl rfl ?_
                       refine bw_iload rfl rfl ?_
                       refine bw_callVv (e := d - 1) (as := [_]) rfl (by omega) rfl rfl (Nat.le_of_ble_eq_true rfl) (Nat.le_of_ble_eq_true rfl) rfl (m_readsDrawings (s := s) hR v61.1 v61.2 H61.1 (by omega) (by omega)) (fun M101 hM101 => ?_)
                       refine bw_push rfl ?_
                       refine bw_retz rfl rfl (by omega) ?_
                       have hpr : prP a n (lsP s) := w1.elim (fun k => k.1) (fun k => absurd k.2 (by omega))
                       have hdg : 48 ≤ a (lsP s) ∧ a (lsP s) ≤ 57 := by omega
                       have h4 : lsN s ≠ 40 := by omega
                       obtain ⟨u101, v101, w101⟩ := hM101
                       first
                       | (exfalso; omega)
                       | (rcases hx : (dr1 a n s).1 with e0 | q0
                          · have hc := (a35 e0 hx).1
                            have hc2 := (a35 e0 hx).2.2
                            exfalso; omega
                          · have hp2 := pt_dr (on := on) hpr hdg hx h4
                            rcases hy : (dr3 a n on s).1 with e1 | q1
                            · refine ⟨rfl, _, rfl, U.trans u101.DtoL, Or.inr rfl, v101.1, fun e he => ?_, fun t w ht => ?_⟩
                              · rw [hp2, dr_f hy] at he
                                cases he
                                have := v101.2
                                rw [hy] at this
                                exact this
                              · rw [hp2, dr_f hy] at ht
                                cases ht
                            · refine ⟨rfl, _, rfl, U.trans u101.DtoL, Or.inr rfl, v101.1, fun e he => ?_, fun t w ht => ?_⟩
                              · rw [hp2, dr_g hy] at he
                                cases he
                              · rw [hp2, dr_g hy] at ht
                                cases ht
                                have h5 := v101.2
                                rw [hy] at h5
                                exact ⟨h5, ⟨LQ_D H61 u101 (w101 q1 hy) rfl rfl rfl, (u101.sl 20 (qD_no (by omega))).trans n61⟩, rfl⟩)
                   · skip
                     have h17 : wo a n (lsP s) = 17 := hw.1 (by omega)
                     rw [tak_y h17] at v61
                     refine bw_aload rfl rfl ?_
                     refine bw_iload rfl rfl ?_
                     refine bw_callVi (e := d - 1) (as := [_]) rfl (by omega) rfl rfl (Nat.le_of_ble_eq_true rfl) (Nat.le_of_ble_eq_true rfl) rfl (m_times hR v61.1 v61.2 (by omega)) (fun r69 M69 hM69 => ?_)
                     obtain ⟨u69, v69, w69⟩ := hM69
                     have hR := u69.RF hR
                     have H69 := H61.P u69
                     have n69 : gI M69 567 20 = lsN s + 1 := (u69.sl 20 (qP_no (by omega))).trans n61
                     subst w69
                     have U := U.trans u69.toL
                     refine bw_istore (ls2 := [_, _, _]) rfl rfl (Nat.le_of_ble_eq_true rfl) rfl ?_
                     refine bw_aload rfl rfl ?_
                     refine bw_callVj (e := d - 1) (as := []) rfl (by omega) rfl rfl (Nat.le_of_ble_eq_true rfl) (Nat.le_of_ble_eq_true rfl) rfl (m_goesWell hR) (fun r74 hr74 => ?_)
                     refine bw_ifeq rfl (fun c77 => ?_) (fun c77 => ?_)
                     · skip
                       refine bw_push rfl ?_
                       refine bw_retz rfl rfl (by omega) ?_
                       have hpr : prP a n (lsP s) := w1.elim (fun k => k.1) (fun k => absurd k.2 (by omega))
                       have hdg : ¬ (48 ≤ a (lsP s) ∧ a (lsP s) ≤ 57) := fun k => by
                         have e : we a n (lsP s) = lsP s := rn_f (pSm_f.mpr (by omega))
                         have w0 : wo a n (lsP s) = -1 := ow_none (by rw [e]; omega)
                         omega
                       have h4 : lsN s ≠ 40 := by omega
                       have hp2 := pt_b (on := on) hpr hdg h4 h17
                       first
                       | (obtain ⟨q, hq⟩ := (rs_0 v69.2).mp (by omega)
                          refine ⟨rfl, _, rfl, U.trans hM83.1.HtoL, Or.inr rfl, v69.1.toH hM83.1, fun e he => ?_, fun t w ht => ?_⟩
                          · rw [hp2, bk_g hq] at he
                            cases he
                          · rw [hp2, bk_g hq] at ht
                            cases ht
                            have hz69 := v69.2
                            rw [hq] at hz69
                            exact ⟨rs_H hz69 hM83.1, ⟨LQ_D H69 hM83.1.HtoD hM83.2 rfl rfl rfl, (hM83.1.sl 20 (fun k => by have : (20 : Int) = 16 := k; omega)).trans n69⟩, rfl⟩)
                       | (obtain ⟨e0, hq, he0⟩ := rs_l v69.2 (by omega)
                          refine ⟨rfl, _, rfl, U, Or.inr rfl, v69.1, fun e he => ?_, fun t w ht => ?_⟩
                          · rw [hp2, bk_f hq] at he
                            cases he
                            exact he0
                          · rw [hp2, bk_f hq] at ht
                            cases ht)
                     · skip
                       refine bw_aload rfl rfl ?_
                       refine bw_push rfl ?_
                       refine bw_iload rfl rfl ?_
                       refine bw_callVv (e := d - 1) (as := [_, _]) rfl (by omega) rfl rfl (Nat.le_of_ble_eq_true rfl) (Nat.le_of_ble_eq_true rfl) rfl (m_holdsOne hR H69.1) (fun M83 hM83 => ?_)
                       refine bw_push rfl ?_
                       refine bw_retz rfl rfl (by omega) ?_
                       have hpr : prP a n (lsP s) := w1.elim (fun k => k.1) (fun k => absurd k.2 (by omega))
                       have hdg : ¬ (48 ≤ a (lsP s) ∧ a (lsP s) ≤ 57) := fun k => by
                         have e : we a n (lsP s) = lsP s := rn_f (pSm_f.mpr (by omega))
                         have w0 : wo a n (lsP s) = -1 := ow_none (by rw [e]; omega)
                         omega
                       have h4 : lsN s ≠ 40 := by omega
                       have hp2 := pt_b (on := on) hpr hdg h4 h17
                       first
                       | (obtain ⟨q, hq⟩ := (rs_0 v69.2).mp (by omega)
                          refine ⟨rfl, _, rfl, U.trans hM83.1.HtoL, Or.inr rfl, v69.1.toH hM83.1, fun e he => ?_, fun t w ht => ?_⟩
                          · rw [hp2, bk_g hq] at he
                            cases he
                          · rw [hp2, bk_g hq] at ht
                            cases ht
                            have hz69 := v69.2
                            rw [hq] at hz69
                            exact ⟨rs_H hz69 hM83.1, ⟨LQ_D H69 hM83.1.HtoD hM83.2 rfl rfl rfl, (hM83.1.sl 20 (fun k => by have : (20 : Int) = 16 := k; omega)).trans n69⟩, rfl⟩)
                       | (obtain ⟨e0, hq, he0⟩ := rs_l v69.2 (by omega)
                          refine ⟨rfl, _, rfl, U, Or.inr rfl, v69.1, fun e he => ?_, fun t w ht => ?_⟩
                          · rw [hp2, bk_f hq] at he
                            cases he
                            exact he0
                          · rw [hp2, bk_f hq] at ht
                            cases ht))
              · first
                | (exfalso; omega)
                | (refine bw_push rfl ?_
                   refine bw_retz rfl rfl (by omega) ?_
                   first
                   | (have hn : ¬ prP a n (lsP s) := w1.elim (fun k => absurd k.2 (by omega)) (fun k => k.1)
                      refine ⟨rfl, _, rfl, U, Or.inl rfl, f13.1, fun e he => ?_, fun t w ht => ?_⟩
                      · rw [pt_n hn] at he
                        cases he
                        rw [← v1]; exact f13.2
                      · rw [pt_n hn] at ht
                        cases ht)
                   | (have hpr : prP a n (lsP s) := w1.elim (fun k => k.1) (fun k => absurd k.2 (by omega))
                      have hdg : 48 ≤ a (lsP s) ∧ a (lsP s) ≤ 57 := by omega
                      rcases hx : (dr1 a n s).1 with e0 | q0
                      · first
                        | (have hc := (a35 e0 hx).1
                           have hc2 := (a35 e0 hx).2.2
                           have := w46
                           exfalso; omega)
                        | (refine ⟨rfl, _, rfl, U, Or.inl rfl, hP, fun e he => ?_, fun t w ht => ?_⟩
                           · rw [pt_d hpr hdg hx] at he
                             cases he
                             exact a35 e0 hx
                           · rw [pt_d hpr hdg hx] at ht
                             cases ht)
                      · have hc := b35 q0 hx
                        first
                        | (exfalso; omega)
                        | (have h4 : lsN s = 40 := by omega
                           refine ⟨rfl, _, rfl, U, Or.inl rfl, hP, fun e he => ?_, fun t w ht => ?_⟩
                           · rw [pt_d4 hpr hdg hx h4] at he
                             cases he
                             exact ⟨by show gI M46 567 11 = 4; omega, by show gI M46 567 12 = lsP s; omega, by show (4 : Int) ≠ 0; decide⟩
                           · rw [pt_d4 hpr hdg hx h4] at ht
                             cases ht))
                   | (have hpr : prP a n (lsP s) := w1.elim (fun k => k.1) (fun k => absurd k.2 (by omega))
                      have hdg : ¬ (48 ≤ a (lsP s) ∧ a (lsP s) ≤ 57) := by omega
                      have h4 : lsN s = 40 := by omega
                      refine ⟨rfl, _, rfl, U, Or.inl rfl, hP, fun e he => ?_, fun t w ht => ?_⟩
                      · rw [pt_4 hpr hdg h4] at he
                        cases he
                        exact ⟨by show gI M46 567 11 = 4; omega, by show gI M46 567 12 = lsP s; omega, by show (4 : Int) ≠ 0; decide⟩
                      · rw [pt_4 hpr hdg h4] at ht
                        cases ht)))
         · first
           | (exfalso; omega)
           | (refine bw_aload rfl rfl ?_
              refine bw_callVv (e := d - 1) (as := []) rfl (by omega) rfl rfl (Nat.le_of_ble_eq_true rfl) (Nat.le_of_ble_eq_true rfl) rfl (m_counts hR (by omega) (by omega) (by omega)) (fun M46 hM46 => ?_)
              obtain ⟨u46, m46, v46, w46⟩ := hM46
              have hR := u46.RF hR
              have hP := hP.fr5 u46 (fun k => k) (fun k => k) (q20_no (by omega)) (by omega)
              have H1 := H1.f5 u46 (q20_no (by omega)) (q20_no (by omega))
              have v0 := v1
              have v1 := v46.trans v1
              have U := U.trans u46.to20
              refine bw_aload rfl rfl ?_
              refine bw_callVj (e := d - 1) (as := []) rfl (by omega) rfl rfl (Nat.le_of_ble_eq_true rfl) (Nat.le_of_ble_eq_true rfl) rfl (m_goesWell hR) (fun r50 hr50 => ?_)
              refine bw_ifne rfl (fun c53 => ?_) (fun c53 => ?_)
              · first
                | (exfalso; omega)
                | (have hz58 : rs M46 a n (.inr (lsP s)) := ⟨by omega, by rw [v1]; exact ek⟩
                   refine bw_aload rfl rfl ?_
                   refine bw_push rfl ?_
                   refine bw_callVi (e := d - 1) (as := [_]) rfl (by omega) rfl rfl (Nat.le_of_ble_eq_true rfl) (Nat.le_of_ble_eq_true rfl) rfl (m_takes hR hP hz58 (by omega)) (fun r61 M61 hM61 => ?_)
                   obtain ⟨u61, v61, w61, x61, y61⟩ := hM61
                   have hR := u61.RF hR
                   have hw := tak_01 (a := a) (n := n) (w := 17) (p := lsP s)
                   have H61 := H1.P u61.P10
                   have n61 : gI M61 567 20 = lsN s + 1 := (u61.P10.sl 20 (qP_no (by omega))).trans (by omega)
                   have U := U.trans u61.P10.toL
                   refine bw_ifeq rfl (fun c64 => ?_) (fun c64 => ?_)
                   · skip
                     have h17 : wo a n (lsP s) ≠ 17 := hw.2 (by omega)
                     rw [tak_n h17] at v61
                     have v61b : gI M61 567 9 = lsP s := (y61 (by omega) (by omega)).trans hz58.2
                     refine bw_aload rfl rfl ?_
                     refine bw_aload rfl rfl ?_
                     refine bw_getI rfl rfl ?_
                     refine bw_callVj (e := d - 1) (as := [_]) rfl (by omega) rfl rfl (Nat.le_of_ble_eq_true rfl) (Nat.le_of_ble_eq_true rfl) rfl (m_isDigit hR v61.1 (by omega) (by omega)) (fun r93 hr93 => ?_)
                     rw [v61b] at hr93
                     refine bw_ifeq rfl (fun c96 => ?_) (fun c96 => ?_)
                     · skip
                       refine bw_aload rfl rfl ?_
                       refine bw_callVv (e := d - 1) (as := []) rfl (by omega) rfl rfl (Nat.le_of_ble_eq_true rfl) (Nat.le_of_ble_eq_true rfl) rfl (m_opens hR v61.1 v61.2 H61 n61 (by omega) (by omega)) (fun M107 hM107 => ?_)
                       refine bw_push rfl ?_
                       refine bw_retz rfl rfl (by omega) ?_
                       have hpr : prP a n (lsP s) := w1.elim (fun k => k.1) (fun k => absurd k.2 (by omega))
                       have hdg : ¬ (48 ≤ a (lsP s) ∧ a (lsP s) ≤ 57) := by omega
                       have h4 : lsN s ≠ 40 := by omega
                       have hp2 := pt_o (on := on) hpr hdg h4 h17
                       obtain ⟨u107, v107, x107, y107⟩ := hM107
                       refine ⟨rfl, _, rfl, U.trans u107, Or.inl rfl, v107, fun e he => ?_, fun t w ht => ?_⟩
                       · rw [hp2] at he
                         exact x107 e he
                       · rw [hp2] at ht
                         obtain ⟨z1, z2, z3⟩ := y107 t w ht
                         exact ⟨z1, z2, z3.symm⟩
                     · skip
                       refine bw_aload rfl rfl ?_
                       refine bw_iload rfl rfl ?_
                       refine bw_callVv (e := d - 1) (as := [_]) rfl (by omega) rfl rfl (Nat.le_of_ble_eq_true rfl) (Nat.le_of_ble_eq_true rfl) rfl (m_readsDrawings (s := s) hR v61.1 v61.2 H61.1 (by omega) (by omega)) (fun M101 hM101 => ?_)
                       refine bw_push rfl ?_
                       refine bw_retz rfl rfl (by omega) ?_
                       have hpr : prP a n (lsP s) := w1.elim (fun k => k.1) (fun k => absurd k.2 (by omega))
                       have hdg : 48 ≤ a (lsP s) ∧ a (lsP s) ≤ 57 := by omega
                       have h4 : lsN s ≠ 40 := by omega
                       obtain ⟨u101, v101, w101⟩ := hM101
                       first
                       | (exfalso; omega)
                       | (rcases hx : (dr1 a n s).1 with e0 | q0
                          · have hc := (a35 e0 hx).1
                            have hc2 := (a35 e0 hx).2.2
                            exfalso; omega
                          · have hp2 := pt_dr (on := on) hpr hdg hx h4
                            rcases hy : (dr3 a n on s).1 with e1 | q1
                            · refine ⟨rfl, _, rfl, U.trans u101.DtoL, Or.inr rfl, v101.1, fun e he => ?_, fun t w ht => ?_⟩
                              · rw [hp2, dr_f hy] at he
                                cases he
                                have := v101.2
                                rw [hy] at this
                                exact this
                              · rw [hp2, dr_f hy] at ht
                                cases ht
                            · refine ⟨rfl, _, rfl, U.trans u101.DtoL, Or.inr rfl, v101.1, fun e he => ?_, fun t w ht => ?_⟩
                              · rw [hp2, dr_g hy] at he
                                cases he
                              · rw [hp2, dr_g hy] at ht
                                cases ht
                                have h5 := v101.2
                                rw [hy] at h5
                                exact ⟨h5, ⟨LQ_D H61 u101 (w101 q1 hy) rfl rfl rfl, (u101.sl 20 (qD_no (by omega))).trans n61⟩, rfl⟩)
                   · skip
                     have h17 : wo a n (lsP s) = 17 := hw.1 (by omega)
                     rw [tak_y h17] at v61
                     refine bw_aload rfl rfl ?_
                     refine bw_iload rfl rfl ?_
                     refine bw_callVi (e := d - 1) (as := [_]) rfl (by omega) rfl rfl (Nat.le_of_ble_eq_true rfl) (Nat.le_of_ble_eq_true rfl) rfl (m_times hR v61.1 v61.2 (by omega)) (fun r69 M69 hM69 => ?_)
                     obtain ⟨u69, v69, w69⟩ := hM69
                     have hR := u69.RF hR
                     have H69 := H61.P u69
                     have n69 : gI M69 567 20 = lsN s + 1 := (u69.sl 20 (qP_no (by omega))).trans n61
                     subst w69
                     have U := U.trans u69.toL
                     refine bw_istore (ls2 := [_, _, _]) rfl rfl (Nat.le_of_ble_eq_true rfl) rfl ?_
                     refine bw_aload rfl rfl ?_
                     refine bw_callVj (e := d - 1) (as := []) rfl (by omega) rfl rfl (Nat.le_of_ble_eq_true rfl) (Nat.le_of_ble_eq_true rfl) rfl (m_goesWell hR) (fun r74 hr74 => ?_)
                     refine bw_ifeq rfl (fun c77 => ?_) (fun c77 => ?_)
                     · skip
                       refine bw_push rfl ?_
                       refine bw_retz rfl rfl (by omega) ?_
                       have hpr : prP a n (lsP s) := w1.elim (fun k => k.1) (fun k => absurd k.2 (by omega))
                       have hdg : ¬ (48 ≤ a (lsP s) ∧ a (lsP s) ≤ 57) := fun k => by
                         have e : we a n (lsP s) = lsP s := rn_f (pSm_f.mpr (by omega))
                         have w0 : wo a n (lsP s) = -1 := ow_none (by rw [e]; omega)
                         omega
                       have h4 : lsN s ≠ 40 := by omega
                       have hp2 := pt_b (on := on) hpr hdg h4 h17
                       first
                       | (obtain ⟨q, hq⟩ := (rs_0 v69.2).mp (by omega)
                          refine ⟨rfl, _, rfl, U.trans hM83.1.HtoL, Or.inr rfl, v69.1.toH hM83.1, fun e he => ?_, fun t w ht => ?_⟩
                          · rw [hp2, bk_g hq] at he
                            cases he
                          · rw [hp2, bk_g hq] at ht
                            cases ht
                            have hz69 := v69.2
                            rw [hq] at hz69
                            exact ⟨rs_H hz69 hM83.1, ⟨LQ_D H69 hM83.1.HtoD hM83.2 rfl rfl rfl, (hM83.1.sl 20 (fun k => by have : (20 : Int) = 16 := k; omega)).trans n69⟩, rfl⟩)
                       | (obtain ⟨e0, hq, he0⟩ := rs_l v69.2 (by omega)
                          refine ⟨rfl, _, rfl, U, Or.inr rfl, v69.1, fun e he => ?_, fun t w ht => ?_⟩
                          · rw [hp2, bk_f hq] at he
                            cases he
                            exact he0
                          · rw [hp2, bk_f hq] at ht
                            cases ht)
                     · skip
                       refine bw_aload rfl rfl ?_
                       refine bw_push rfl ?_
                       refine bw_iload rfl rfl ?_
                       refine bw_callVv (e := d - 1) (as := [_, _]) rfl (by omega) rfl rfl (Nat.le_of_ble_eq_true rfl) (Nat.le_of_ble_eq_true rfl) rfl (m_holdsOne hR H69.1) (fun M83 hM83 => ?_)
                       refine bw_push rfl ?_
                       refine bw_retz rfl rfl (by omega) ?_
                       have hpr : prP a n (lsP s) := w1.elim (fun k => k.1) (fun k => absurd k.2 (by omega))
                       have hdg : ¬ (48 ≤ a (lsP s) ∧ a (lsP s) ≤ 57) := fun k => by
                         have e : we a n (lsP s) = lsP s := rn_f (pSm_f.mpr (by omega))
                         have w0 : wo a n (lsP s) = -1 := ow_none (by rw [e]; omega)
                         omega
                       have h4 : lsN s ≠ 40 := by omega
                       have hp2 := pt_b (on := on) hpr hdg h4 h17
                       first
                       | (obtain ⟨q, hq⟩ := (rs_0 v69.2).mp (by omega)
                          refine ⟨rfl, _, rfl, U.trans hM83.1.HtoL, Or.inr rfl, v69.1.toH hM83.1, fun e he => ?_, fun t w ht => ?_⟩
                          · rw [hp2, bk_g hq] at he
                            cases he
                          · rw [hp2, bk_g hq] at ht
                            cases ht
                            have hz69 := v69.2
                            rw [hq] at hz69
                            exact ⟨rs_H hz69 hM83.1, ⟨LQ_D H69 hM83.1.HtoD hM83.2 rfl rfl rfl, (hM83.1.sl 20 (fun k => by have : (20 : Int) = 16 := k; omega)).trans n69⟩, rfl⟩)
                       | (obtain ⟨e0, hq, he0⟩ := rs_l v69.2 (by omega)
                          refine ⟨rfl, _, rfl, U, Or.inr rfl, v69.1, fun e he => ?_, fun t w ht => ?_⟩
                          · rw [hp2, bk_f hq] at he
                            cases he
                            exact he0
                          · rw [hp2, bk_f hq] at ht
                            cases ht))
              · first
                | (exfalso; omega)
                | (refine bw_push rfl ?_
                   refine bw_retz rfl rfl (by omega) ?_
                   first
                   | (have hn : ¬ prP a n (lsP s) := w1.elim (fun k => absurd k.2 (by omega)) (fun k => k.1)
                      refine ⟨rfl, _, rfl, U, Or.inl rfl, f13.1, fun e he => ?_, fun t w ht => ?_⟩
                      · rw [pt_n hn] at he
                        cases he
                        rw [← v1]; exact f13.2
                      · rw [pt_n hn] at ht
                        cases ht)
                   | (have hpr : prP a n (lsP s) := w1.elim (fun k => k.1) (fun k => absurd k.2 (by omega))
                      have hdg : 48 ≤ a (lsP s) ∧ a (lsP s) ≤ 57 := by omega
                      rcases hx : (dr1 a n s).1 with e0 | q0
                      · first
                        | (have hc := (a35 e0 hx).1
                           have hc2 := (a35 e0 hx).2.2
                           have := w46
                           exfalso; omega)
                        | (refine ⟨rfl, _, rfl, U, Or.inl rfl, hP, fun e he => ?_, fun t w ht => ?_⟩
                           · rw [pt_d hpr hdg hx] at he
                             cases he
                             exact a35 e0 hx
                           · rw [pt_d hpr hdg hx] at ht
                             cases ht)
                      · have hc := b35 q0 hx
                        first
                        | (exfalso; omega)
                        | (have h4 : lsN s = 40 := by omega
                           refine ⟨rfl, _, rfl, U, Or.inl rfl, hP, fun e he => ?_, fun t w ht => ?_⟩
                           · rw [pt_d4 hpr hdg hx h4] at he
                             cases he
                             exact ⟨by show gI M46 567 11 = 4; omega, by show gI M46 567 12 = lsP s; omega, by show (4 : Int) ≠ 0; decide⟩
                           · rw [pt_d4 hpr hdg hx h4] at ht
                             cases ht))
                   | (have hpr : prP a n (lsP s) := w1.elim (fun k => k.1) (fun k => absurd k.2 (by omega))
                      have hdg : ¬ (48 ≤ a (lsP s) ∧ a (lsP s) ≤ 57) := by omega
                      have h4 : lsN s = 40 := by omega
                      refine ⟨rfl, _, rfl, U, Or.inl rfl, hP, fun e he => ?_, fun t w ht => ?_⟩
                      · rw [pt_4 hpr hdg h4] at he
                        cases he
                        exact ⟨by show gI M46 567 11 = 4; omega, by show gI M46 567 12 = lsP s; omega, by show (4 : Int) ≠ 0; decide⟩
                      · rw [pt_4 hpr hdg h4] at ht
                        cases ht))))
    · first
      | (exfalso; omega)
      | (refine bw_aload rfl rfl ?_
         refine bw_aload rfl rfl ?_
         refine bw_getI rfl rfl ?_
         refine bw_callVj (e := d - 1) (as := [_]) rfl (by omega) rfl rfl (Nat.le_of_ble_eq_true rfl) (Nat.le_of_ble_eq_true rfl) rfl (m_isDigit hR hP (by omega) (by omega)) (fun r28 hr28 => ?_)
         rw [v1] at hr28
         refine bw_ifeq rfl (fun c31 => ?_) (fun c31 => ?_)
         · skip
           refine bw_aload rfl rfl ?_
           refine bw_callVj (e := d - 1) (as := []) rfl (by omega) rfl rfl (Nat.le_of_ble_eq_true rfl) (Nat.le_of_ble_eq_true rfl) rfl (m_goesWell hR) (fun r39 hr39 => ?_)
           refine bw_ifeq rfl (fun c42 => ?_) (fun c42 => ?_)
           · first
             | (exfalso; omega)
             | (refine bw_aload rfl rfl ?_
                refine bw_callVj (e := d - 1) (as := []) rfl (by omega) rfl rfl (Nat.le_of_ble_eq_true rfl) (Nat.le_of_ble_eq_true rfl) rfl (m_goesWell hR) (fun r50 hr50 => ?_)
                refine bw_ifne rfl (fun c53 => ?_) (fun c53 => ?_)
                · first
                  | (exfalso; omega)
                  | (have hz58 : rs M46 a n (.inr (lsP s)) := ⟨by omega, by rw [v1]; exact ek⟩
                     refine bw_aload rfl rfl ?_
                     refine bw_push rfl ?_
                     refine bw_callVi (e := d - 1) (as := [_]) rfl (by omega) rfl rfl (Nat.le_of_ble_eq_true rfl) (Nat.le_of_ble_eq_true rfl) rfl (m_takes hR hP hz58 (by omega)) (fun r61 M61 hM61 => ?_)
                     obtain ⟨u61, v61, w61, x61, y61⟩ := hM61
                     have hR := u61.RF hR
                     have hw := tak_01 (a := a) (n := n) (w := 17) (p := lsP s)
                     have H61 := H1.P u61.P10
                     have n61 : gI M61 567 20 = lsN s + 1 := (u61.P10.sl 20 (qP_no (by omega))).trans (by omega)
                     have U := U.trans u61.P10.toL
                     refine bw_ifeq rfl (fun c64 => ?_) (fun c64 => ?_)
                     · skip
                       have h17 : wo a n (lsP s) ≠ 17 := hw.2 (by omega)
                       rw [tak_n h17] at v61
                       have v61b : gI M61 567 9 = lsP s := (y61 (by omega) (by omega)).trans hz58.2
                       refine bw_aload rfl rfl ?_
                       refine bw_aload rfl rfl ?_
                       refine bw_getI rfl rfl ?_
                       refine bw_callVj (e := d - 1) (as := [_]) rfl (by omega) rfl rfl (Nat.le_of_ble_eq_true rfl) (Nat.le_of_ble_eq_true rfl) rfl (m_isDigit hR v61.1 (by omega) (by omega)) (fun r93 hr93 => ?_)
                       rw [v61b] at hr93
                       refine bw_ifeq rfl (fun c96 => ?_) (fun c96 => ?_)
                       · skip
                         refine bw_aload rfl rfl ?_
                         refine bw_callVv (e := d - 1) (as := []) rfl (by omega) rfl rfl (Nat.le_of_ble_eq_true rfl) (Nat.le_of_ble_eq_true rfl) rfl (m_opens hR v61.1 v61.2 H61 n61 (by omega) (by omega)) (fun M107 hM107 => ?_)
                         refine bw_push rfl ?_
                         refine bw_retz rfl rfl (by omega) ?_
                         have hpr : prP a n (lsP s) := w1.elim (fun k => k.1) (fun k => absurd k.2 (by omega))
                         have hdg : ¬ (48 ≤ a (lsP s) ∧ a (lsP s) ≤ 57) := by omega
                         have h4 : lsN s ≠ 40 := by omega
                         have hp2 := pt_o (on := on) hpr hdg h4 h17
                         obtain ⟨u107, v107, x107, y107⟩ := hM107
                         refine ⟨rfl, _, rfl, U.trans u107, Or.inl rfl, v107, fun e he => ?_, fun t w ht => ?_⟩
                         · rw [hp2] at he
                           exact x107 e he
                         · rw [hp2] at ht
                           obtain ⟨z1, z2, z3⟩ := y107 t w ht
                           exact ⟨z1, z2, z3.symm⟩
                       · skip
                         refine bw_aload rfl rfl ?_
                         refine bw_iload rfl rfl ?_
                         refine bw_callVv (e := d - 1) (as := [_]) rfl (by omega) rfl rfl (Nat.le_of_ble_eq_true rfl) (Nat.le_of_ble_eq_true rfl) rfl (m_readsDrawings (s := s) hR v61.1 v61.2 H61.1 (by omega) (by omega)) (fun M101 hM101 => ?_)
                         refine bw_push rfl ?_
                         refine bw_retz rfl rfl (by omega) ?_
                         have hpr : prP a n (lsP s) := w1.elim (fun k => k.1) (fun k => absurd k.2 (by omega))
                         have hdg : 48 ≤ a (lsP s) ∧ a (lsP s) ≤ 57 := by omega
                         have h4 : lsN s ≠ 40 := by omega
                         obtain ⟨u101, v101, w101⟩ := hM101
                         first
                         | (exfalso; omega)
                         | (rcases hx : (dr1 a n s).1 with e0 | q0
                            · have hc := (a35 e0 hx).1
                              have hc2 := (a35 e0 hx).2.2
                              exfalso; omega
                            · have hp2 := pt_dr (on := on) hpr hdg hx h4
                              rcases hy : (dr3 a n on s).1 with e1 | q1
                              · refine ⟨rfl, _, rfl, U.trans u101.DtoL, Or.inr rfl, v101.1, fun e he => ?_, fun t w ht => ?_⟩
                                · rw [hp2, dr_f hy] at he
                                  cases he
                                  have := v101.2
                                  rw [hy] at this
                                  exact this
                                · rw [hp2, dr_f hy] at ht
                                  cases ht
                              · refine ⟨rfl, _, rfl, U.trans u101.DtoL, Or.inr rfl, v101.1, fun e he => ?_, fun t w ht => ?_⟩
                                · rw [hp2, dr_g hy] at he
                                  cases he
                                · rw [hp2, dr_g hy] at ht
                                  cases ht
                                  have h5 := v101.2
                                  rw [hy] at h5
                                  exact ⟨h5, ⟨LQ_D H61 u101 (w101 q1 hy) rfl rfl rfl, (u101.sl 20 (qD_no (by omega))).trans n61⟩, rfl⟩)
                     · skip
                       have h17 : wo a n (lsP s) = 17 := hw.1 (by omega)
                       rw [tak_y h17] at v61
                       refine bw_aload rfl rfl ?_
                       refine bw_iload rfl rfl ?_
                       refine bw_callVi (e := d - 1) (as := [_]) rfl (by omega) rfl rfl (Nat.le_of_ble_eq_true rfl) (Nat.le_of_ble_eq_true rfl) rfl (m_times hR v61.1 v61.2 (by omega)) (fun r69 M69 hM69 => ?_)
                       obtain ⟨u69, v69, w69⟩ := hM69
                       have hR := u69.RF hR
                       have H69 := H61.P u69
                       have n69 : gI M69 567 20 = lsN s + 1 := (u69.sl 20 (qP_no (by omega))).trans n61
                       subst w69
                       have U := U.trans u69.toL
                       refine bw_istore (ls2 := [_, _, _]) rfl rfl (Nat.le_of_ble_eq_true rfl) rfl ?_
                       refine bw_aload rfl rfl ?_
                       refine bw_callVj (e := d - 1) (as := []) rfl (by omega) rfl rfl (Nat.le_of_ble_eq_true rfl) (Nat.le_of_ble_eq_true rfl) rfl (m_goesWell hR) (fun r74 hr74 => ?_)
                       refine bw_ifeq rfl (fun c77 => ?_) (fun c77 => ?_)
                       · skip
                         refine bw_push rfl ?_
                         refine bw_retz rfl rfl (by omega) ?_
                         have hpr : prP a n (lsP s) := w1.elim (fun k => k.1) (fun k => absurd k.2 (by omega))
                         have hdg : ¬ (48 ≤ a (lsP s) ∧ a (lsP s) ≤ 57) := fun k => by
                           have e : we a n (lsP s) = lsP s := rn_f (pSm_f.mpr (by omega))
                           have w0 : wo a n (lsP s) = -1 := ow_none (by rw [e]; omega)
                           omega
                         have h4 : lsN s ≠ 40 := by omega
                         have hp2 := pt_b (on := on) hpr hdg h4 h17
                         first
                         | (obtain ⟨q, hq⟩ := (rs_0 v69.2).mp (by omega)
                            refine ⟨rfl, _, rfl, U.trans hM83.1.HtoL, Or.inr rfl, v69.1.toH hM83.1, fun e he => ?_, fun t w ht => ?_⟩
                            · rw [hp2, bk_g hq] at he
                              cases he
                            · rw [hp2, bk_g hq] at ht
                              cases ht
                              have hz69 := v69.2
                              rw [hq] at hz69
                              exact ⟨rs_H hz69 hM83.1, ⟨LQ_D H69 hM83.1.HtoD hM83.2 rfl rfl rfl, (hM83.1.sl 20 (fun k => by have : (20 : Int) = 16 := k; omega)).trans n69⟩, rfl⟩)
                         | (obtain ⟨e0, hq, he0⟩ := rs_l v69.2 (by omega)
                            refine ⟨rfl, _, rfl, U, Or.inr rfl, v69.1, fun e he => ?_, fun t w ht => ?_⟩
                            · rw [hp2, bk_f hq] at he
                              cases he
                              exact he0
                            · rw [hp2, bk_f hq] at ht
                              cases ht)
                       · skip
                         refine bw_aload rfl rfl ?_
                         refine bw_push rfl ?_
                         refine bw_iload rfl rfl ?_
                         refine bw_callVv (e := d - 1) (as := [_, _]) rfl (by omega) rfl rfl (Nat.le_of_ble_eq_true rfl) (Nat.le_of_ble_eq_true rfl) rfl (m_holdsOne hR H69.1) (fun M83 hM83 => ?_)
                         refine bw_push rfl ?_
                         refine bw_retz rfl rfl (by omega) ?_
                         have hpr : prP a n (lsP s) := w1.elim (fun k => k.1) (fun k => absurd k.2 (by omega))
                         have hdg : ¬ (48 ≤ a (lsP s) ∧ a (lsP s) ≤ 57) := fun k => by
                           have e : we a n (lsP s) = lsP s := rn_f (pSm_f.mpr (by omega))
                           have w0 : wo a n (lsP s) = -1 := ow_none (by rw [e]; omega)
                           omega
                         have h4 : lsN s ≠ 40 := by omega
                         have hp2 := pt_b (on := on) hpr hdg h4 h17
                         first
                         | (obtain ⟨q, hq⟩ := (rs_0 v69.2).mp (by omega)
                            refine ⟨rfl, _, rfl, U.trans hM83.1.HtoL, Or.inr rfl, v69.1.toH hM83.1, fun e he => ?_, fun t w ht => ?_⟩
                            · rw [hp2, bk_g hq] at he
                              cases he
                            · rw [hp2, bk_g hq] at ht
                              cases ht
                              have hz69 := v69.2
                              rw [hq] at hz69
                              exact ⟨rs_H hz69 hM83.1, ⟨LQ_D H69 hM83.1.HtoD hM83.2 rfl rfl rfl, (hM83.1.sl 20 (fun k => by have : (20 : Int) = 16 := k; omega)).trans n69⟩, rfl⟩)
                         | (obtain ⟨e0, hq, he0⟩ := rs_l v69.2 (by omega)
                            refine ⟨rfl, _, rfl, U, Or.inr rfl, v69.1, fun e he => ?_, fun t w ht => ?_⟩
                            · rw [hp2, bk_f hq] at he
                              cases he
                              exact he0
                            · rw [hp2, bk_f hq] at ht
                              cases ht))
                · first
                  | (exfalso; omega)
                  | (refine bw_push rfl ?_
                     refine bw_retz rfl rfl (by omega) ?_
                     first
                     | (have hn : ¬ prP a n (lsP s) := w1.elim (fun k => absurd k.2 (by omega)) (fun k => k.1)
                        refine ⟨rfl, _, rfl, U, Or.inl rfl, f13.1, fun e he => ?_, fun t w ht => ?_⟩
                        · rw [pt_n hn] at he
                          cases he
                          rw [← v1]; exact f13.2
                        · rw [pt_n hn] at ht
                          cases ht)
                     | (have hpr : prP a n (lsP s) := w1.elim (fun k => k.1) (fun k => absurd k.2 (by omega))
                        have hdg : 48 ≤ a (lsP s) ∧ a (lsP s) ≤ 57 := by omega
                        rcases hx : (dr1 a n s).1 with e0 | q0
                        · first
                          | (have hc := (a35 e0 hx).1
                             have hc2 := (a35 e0 hx).2.2
                             have := w46
                             exfalso; omega)
                          | (refine ⟨rfl, _, rfl, U, Or.inl rfl, hP, fun e he => ?_, fun t w ht => ?_⟩
                             · rw [pt_d hpr hdg hx] at he
                               cases he
                               exact a35 e0 hx
                             · rw [pt_d hpr hdg hx] at ht
                               cases ht)
                        · have hc := b35 q0 hx
                          first
                          | (exfalso; omega)
                          | (have h4 : lsN s = 40 := by omega
                             refine ⟨rfl, _, rfl, U, Or.inl rfl, hP, fun e he => ?_, fun t w ht => ?_⟩
                             · rw [pt_d4 hpr hdg hx h4] at he
                               cases he
                               exact ⟨by show gI M46 567 11 = 4; omega, by show gI M46 567 12 = lsP s; omega, by show (4 : Int) ≠ 0; decide⟩
                             · rw [pt_d4 hpr hdg hx h4] at ht
                               cases ht))
                     | (have hpr : prP a n (lsP s) := w1.elim (fun k => k.1) (fun k => absurd k.2 (by omega))
                        have hdg : ¬ (48 ≤ a (lsP s) ∧ a (lsP s) ≤ 57) := by omega
                        have h4 : lsN s = 40 := by omega
                        refine ⟨rfl, _, rfl, U, Or.inl rfl, hP, fun e he => ?_, fun t w ht => ?_⟩
                        · rw [pt_4 hpr hdg h4] at he
                          cases he
                          exact ⟨by show gI M46 567 11 = 4; omega, by show gI M46 567 12 = lsP s; omega, by show (4 : Int) ≠ 0; decide⟩
                        · rw [pt_4 hpr hdg h4] at ht
                          cases ht)))
           · first
             | (exfalso; omega)
             | (refine bw_aload rfl rfl ?_
                refine bw_callVv (e := d - 1) (as := []) rfl (by omega) rfl rfl (Nat.le_of_ble_eq_true rfl) (Nat.le_of_ble_eq_true rfl) rfl (m_counts hR (by omega) (by omega) (by omega)) (fun M46 hM46 => ?_)
                obtain ⟨u46, m46, v46, w46⟩ := hM46
                have hR := u46.RF hR
                have hP := hP.fr5 u46 (fun k => k) (fun k => k) (q20_no (by omega)) (by omega)
                have H1 := H1.f5 u46 (q20_no (by omega)) (q20_no (by omega))
                have v0 := v1
                have v1 := v46.trans v1
                have U := U.trans u46.to20
                refine bw_aload rfl rfl ?_
                refine bw_callVj (e := d - 1) (as := []) rfl (by omega) rfl rfl (Nat.le_of_ble_eq_true rfl) (Nat.le_of_ble_eq_true rfl) rfl (m_goesWell hR) (fun r50 hr50 => ?_)
                refine bw_ifne rfl (fun c53 => ?_) (fun c53 => ?_)
                · first
                  | (exfalso; omega)
                  | (have hz58 : rs M46 a n (.inr (lsP s)) := ⟨by omega, by rw [v1]; exact ek⟩
                     refine bw_aload rfl rfl ?_
                     refine bw_push rfl ?_
                     refine bw_callVi (e := d - 1) (as := [_]) rfl (by omega) rfl rfl (Nat.le_of_ble_eq_true rfl) (Nat.le_of_ble_eq_true rfl) rfl (m_takes hR hP hz58 (by omega)) (fun r61 M61 hM61 => ?_)
                     obtain ⟨u61, v61, w61, x61, y61⟩ := hM61
                     have hR := u61.RF hR
                     have hw := tak_01 (a := a) (n := n) (w := 17) (p := lsP s)
                     have H61 := H1.P u61.P10
                     have n61 : gI M61 567 20 = lsN s + 1 := (u61.P10.sl 20 (qP_no (by omega))).trans (by omega)
                     have U := U.trans u61.P10.toL
                     refine bw_ifeq rfl (fun c64 => ?_) (fun c64 => ?_)
                     · skip
                       have h17 : wo a n (lsP s) ≠ 17 := hw.2 (by omega)
                       rw [tak_n h17] at v61
                       have v61b : gI M61 567 9 = lsP s := (y61 (by omega) (by omega)).trans hz58.2
                       refine bw_aload rfl rfl ?_
                       refine bw_aload rfl rfl ?_
                       refine bw_getI rfl rfl ?_
                       refine bw_callVj (e := d - 1) (as := [_]) rfl (by omega) rfl rfl (Nat.le_of_ble_eq_true rfl) (Nat.le_of_ble_eq_true rfl) rfl (m_isDigit hR v61.1 (by omega) (by omega)) (fun r93 hr93 => ?_)
                       rw [v61b] at hr93
                       refine bw_ifeq rfl (fun c96 => ?_) (fun c96 => ?_)
                       · skip
                         refine bw_aload rfl rfl ?_
                         refine bw_callVv (e := d - 1) (as := []) rfl (by omega) rfl rfl (Nat.le_of_ble_eq_true rfl) (Nat.le_of_ble_eq_true rfl) rfl (m_opens hR v61.1 v61.2 H61 n61 (by omega) (by omega)) (fun M107 hM107 => ?_)
                         refine bw_push rfl ?_
                         refine bw_retz rfl rfl (by omega) ?_
                         have hpr : prP a n (lsP s) := w1.elim (fun k => k.1) (fun k => absurd k.2 (by omega))
                         have hdg : ¬ (48 ≤ a (lsP s) ∧ a (lsP s) ≤ 57) := by omega
                         have h4 : lsN s ≠ 40 := by omega
                         have hp2 := pt_o (on := on) hpr hdg h4 h17
                         obtain ⟨u107, v107, x107, y107⟩ := hM107
                         refine ⟨rfl, _, rfl, U.trans u107, Or.inl rfl, v107, fun e he => ?_, fun t w ht => ?_⟩
                         · rw [hp2] at he
                           exact x107 e he
                         · rw [hp2] at ht
                           obtain ⟨z1, z2, z3⟩ := y107 t w ht
                           exact ⟨z1, z2, z3.symm⟩
                       · skip
                         refine bw_aload rfl rfl ?_
                         refine bw_iload rfl rfl ?_
                         refine bw_callVv (e := d - 1) (as := [_]) rfl (by omega) rfl rfl (Nat.le_of_ble_eq_true rfl) (Nat.le_of_ble_eq_true rfl) rfl (m_readsDrawings (s := s) hR v61.1 v61.2 H61.1 (by omega) (by omega)) (fun M101 hM101 => ?_)
                         refine bw_push rfl ?_
                         refine bw_retz rfl rfl (by omega) ?_
                         have hpr : prP a n (lsP s) := w1.elim (fun k => k.1) (fun k => absurd k.2 (by omega))
                         have hdg : 48 ≤ a (lsP s) ∧ a (lsP s) ≤ 57 := by omega
                         have h4 : lsN s ≠ 40 := by omega
                         obtain ⟨u101, v101, w101⟩ := hM101
                         first
                         | (exfalso; omega)
                         | (rcases hx : (dr1 a n s).1 with e0 | q0
                            · have hc := (a35 e0 hx).1
                              have hc2 := (a35 e0 hx).2.2
                              exfalso; omega
                            · have hp2 := pt_dr (on := on) hpr hdg hx h4
                              rcases hy : (dr3 a n on s).1 with e1 | q1
                              · refine ⟨rfl, _, rfl, U.trans u101.DtoL, Or.inr rfl, v101.1, fun e he => ?_, fun t w ht => ?_⟩
                                · rw [hp2, dr_f hy] at he
                                  cases he
                                  have := v101.2
                                  rw [hy] at this
                                  exact this
                                · rw [hp2, dr_f hy] at ht
                                  cases ht
                              · refine ⟨rfl, _, rfl, U.trans u101.DtoL, Or.inr rfl, v101.1, fun e he => ?_, fun t w ht => ?_⟩
                                · rw [hp2, dr_g hy] at he
                                  cases he
                                · rw [hp2, dr_g hy] at ht
                                  cases ht
                                  have h5 := v101.2
                                  rw [hy] at h5
                                  exact ⟨h5, ⟨LQ_D H61 u101 (w101 q1 hy) rfl rfl rfl, (u101.sl 20 (qD_no (by omega))).trans n61⟩, rfl⟩)
                     · skip
                       have h17 : wo a n (lsP s) = 17 := hw.1 (by omega)
                       rw [tak_y h17] at v61
                       refine bw_aload rfl rfl ?_
                       refine bw_iload rfl rfl ?_
                       refine bw_callVi (e := d - 1) (as := [_]) rfl (by omega) rfl rfl (Nat.le_of_ble_eq_true rfl) (Nat.le_of_ble_eq_true rfl) rfl (m_times hR v61.1 v61.2 (by omega)) (fun r69 M69 hM69 => ?_)
                       obtain ⟨u69, v69, w69⟩ := hM69
                       have hR := u69.RF hR
                       have H69 := H61.P u69
                       have n69 : gI M69 567 20 = lsN s + 1 := (u69.sl 20 (qP_no (by omega))).trans n61
                       subst w69
                       have U := U.trans u69.toL
                       refine bw_istore (ls2 := [_, _, _]) rfl rfl (Nat.le_of_ble_eq_true rfl) rfl ?_
                       refine bw_aload rfl rfl ?_
                       refine bw_callVj (e := d - 1) (as := []) rfl (by omega) rfl rfl (Nat.le_of_ble_eq_true rfl) (Nat.le_of_ble_eq_true rfl) rfl (m_goesWell hR) (fun r74 hr74 => ?_)
                       refine bw_ifeq rfl (fun c77 => ?_) (fun c77 => ?_)
                       · skip
                         refine bw_push rfl ?_
                         refine bw_retz rfl rfl (by omega) ?_
                         have hpr : prP a n (lsP s) := w1.elim (fun k => k.1) (fun k => absurd k.2 (by omega))
                         have hdg : ¬ (48 ≤ a (lsP s) ∧ a (lsP s) ≤ 57) := fun k => by
                           have e : we a n (lsP s) = lsP s := rn_f (pSm_f.mpr (by omega))
                           have w0 : wo a n (lsP s) = -1 := ow_none (by rw [e]; omega)
                           omega
                         have h4 : lsN s ≠ 40 := by omega
                         have hp2 := pt_b (on := on) hpr hdg h4 h17
                         first
                         | (obtain ⟨q, hq⟩ := (rs_0 v69.2).mp (by omega)
                            refine ⟨rfl, _, rfl, U.trans hM83.1.HtoL, Or.inr rfl, v69.1.toH hM83.1, fun e he => ?_, fun t w ht => ?_⟩
                            · rw [hp2, bk_g hq] at he
                              cases he
                            · rw [hp2, bk_g hq] at ht
                              cases ht
                              have hz69 := v69.2
                              rw [hq] at hz69
                              exact ⟨rs_H hz69 hM83.1, ⟨LQ_D H69 hM83.1.HtoD hM83.2 rfl rfl rfl, (hM83.1.sl 20 (fun k => by have : (20 : Int) = 16 := k; omega)).trans n69⟩, rfl⟩)
                         | (obtain ⟨e0, hq, he0⟩ := rs_l v69.2 (by omega)
                            refine ⟨rfl, _, rfl, U, Or.inr rfl, v69.1, fun e he => ?_, fun t w ht => ?_⟩
                            · rw [hp2, bk_f hq] at he
                              cases he
                              exact he0
                            · rw [hp2, bk_f hq] at ht
                              cases ht)
                       · skip
                         refine bw_aload rfl rfl ?_
                         refine bw_push rfl ?_
                         refine bw_iload rfl rfl ?_
                         refine bw_callVv (e := d - 1) (as := [_, _]) rfl (by omega) rfl rfl (Nat.le_of_ble_eq_true rfl) (Nat.le_of_ble_eq_true rfl) rfl (m_holdsOne hR H69.1) (fun M83 hM83 => ?_)
                         refine bw_push rfl ?_
                         refine bw_retz rfl rfl (by omega) ?_
                         have hpr : prP a n (lsP s) := w1.elim (fun k => k.1) (fun k => absurd k.2 (by omega))
                         have hdg : ¬ (48 ≤ a (lsP s) ∧ a (lsP s) ≤ 57) := fun k => by
                           have e : we a n (lsP s) = lsP s := rn_f (pSm_f.mpr (by omega))
                           have w0 : wo a n (lsP s) = -1 := ow_none (by rw [e]; omega)
                           omega
                         have h4 : lsN s ≠ 40 := by omega
                         have hp2 := pt_b (on := on) hpr hdg h4 h17
                         first
                         | (obtain ⟨q, hq⟩ := (rs_0 v69.2).mp (by omega)
                            refine ⟨rfl, _, rfl, U.trans hM83.1.HtoL, Or.inr rfl, v69.1.toH hM83.1, fun e he => ?_, fun t w ht => ?_⟩
                            · rw [hp2, bk_g hq] at he
                              cases he
                            · rw [hp2, bk_g hq] at ht
                              cases ht
                              have hz69 := v69.2
                              rw [hq] at hz69
                              exact ⟨rs_H hz69 hM83.1, ⟨LQ_D H69 hM83.1.HtoD hM83.2 rfl rfl rfl, (hM83.1.sl 20 (fun k => by have : (20 : Int) = 16 := k; omega)).trans n69⟩, rfl⟩)
                         | (obtain ⟨e0, hq, he0⟩ := rs_l v69.2 (by omega)
                            refine ⟨rfl, _, rfl, U, Or.inr rfl, v69.1, fun e he => ?_, fun t w ht => ?_⟩
                            · rw [hp2, bk_f hq] at he
                              cases he
                              exact he0
                            · rw [hp2, bk_f hq] at ht
                              cases ht))
                · first
                  | (exfalso; omega)
                  | (refine bw_push rfl ?_
                     refine bw_retz rfl rfl (by omega) ?_
                     first
                     | (have hn : ¬ prP a n (lsP s) := w1.elim (fun k => absurd k.2 (by omega)) (fun k => k.1)
                        refine ⟨rfl, _, rfl, U, Or.inl rfl, f13.1, fun e he => ?_, fun t w ht => ?_⟩
                        · rw [pt_n hn] at he
                          cases he
                          rw [← v1]; exact f13.2
                        · rw [pt_n hn] at ht
                          cases ht)
                     | (have hpr : prP a n (lsP s) := w1.elim (fun k => k.1) (fun k => absurd k.2 (by omega))
                        have hdg : 48 ≤ a (lsP s) ∧ a (lsP s) ≤ 57 := by omega
                        rcases hx : (dr1 a n s).1 with e0 | q0
                        · first
                          | (have hc := (a35 e0 hx).1
                             have hc2 := (a35 e0 hx).2.2
                             have := w46
                             exfalso; omega)
                          | (refine ⟨rfl, _, rfl, U, Or.inl rfl, hP, fun e he => ?_, fun t w ht => ?_⟩
                             · rw [pt_d hpr hdg hx] at he
                               cases he
                               exact a35 e0 hx
                             · rw [pt_d hpr hdg hx] at ht
                               cases ht)
                        · have hc := b35 q0 hx
                          first
                          | (exfalso; omega)
                          | (have h4 : lsN s = 40 := by omega
                             refine ⟨rfl, _, rfl, U, Or.inl rfl, hP, fun e he => ?_, fun t w ht => ?_⟩
                             · rw [pt_d4 hpr hdg hx h4] at he
                               cases he
                               exact ⟨by show gI M46 567 11 = 4; omega, by show gI M46 567 12 = lsP s; omega, by show (4 : Int) ≠ 0; decide⟩
                             · rw [pt_d4 hpr hdg hx h4] at ht
                               cases ht))
                     | (have hpr : prP a n (lsP s) := w1.elim (fun k => k.1) (fun k => absurd k.2 (by omega))
                        have hdg : ¬ (48 ≤ a (lsP s) ∧ a (lsP s) ≤ 57) := by omega
                        have h4 : lsN s = 40 := by omega
                        refine ⟨rfl, _, rfl, U, Or.inl rfl, hP, fun e he => ?_, fun t w ht => ?_⟩
                        · rw [pt_4 hpr hdg h4] at he
                          cases he
                          exact ⟨by show gI M46 567 11 = 4; omega, by show gI M46 567 12 = lsP s; omega, by show (4 : Int) ≠ 0; decide⟩
                        · rw [pt_4 hpr hdg h4] at ht
                          cases ht)))
         · skip
           refine bw_aload rfl rfl ?_
           refine bw_callVv (e := d - 1) (as := []) rfl (by omega) rfl rfl (Nat.le_of_ble_eq_true rfl) (Nat.le_of_ble_eq_true rfl) rfl (m_looksAt hR hP v1 z1 (by omega) (by omega)) (fun M35 hM35 => ?_)
           obtain ⟨u35, hP, v35, a35, b35⟩ := hM35
           have hR := u35.RF hR
           have H1 := H1.P u35
           have n1 : gI M35 567 20 = lsN s := (u35.sl 20 (qP_no (by omega))).trans n1
           have v1 := v35
           have U := U.trans u35.toL
           refine bw_aload rfl rfl ?_
           refine bw_callVj (e := d - 1) (as := []) rfl (by omega) rfl rfl (Nat.le_of_ble_eq_true rfl) (Nat.le_of_ble_eq_true rfl) rfl (m_goesWell hR) (fun r39 hr39 => ?_)
           refine bw_ifeq rfl (fun c42 => ?_) (fun c42 => ?_)
           · first
             | (exfalso; omega)
             | (refine bw_aload rfl rfl ?_
                refine bw_callVj (e := d - 1) (as := []) rfl (by omega) rfl rfl (Nat.le_of_ble_eq_true rfl) (Nat.le_of_ble_eq_true rfl) rfl (m_goesWell hR) (fun r50 hr50 => ?_)
                refine bw_ifne rfl (fun c53 => ?_) (fun c53 => ?_)
                · first
                  | (exfalso; omega)
                  | (have hz58 : rs M46 a n (.inr (lsP s)) := ⟨by omega, by rw [v1]; exact ek⟩
                     refine bw_aload rfl rfl ?_
                     refine bw_push rfl ?_
                     refine bw_callVi (e := d - 1) (as := [_]) rfl (by omega) rfl rfl (Nat.le_of_ble_eq_true rfl) (Nat.le_of_ble_eq_true rfl) rfl (m_takes hR hP hz58 (by omega)) (fun r61 M61 hM61 => ?_)
                     obtain ⟨u61, v61, w61, x61, y61⟩ := hM61
                     have hR := u61.RF hR
                     have hw := tak_01 (a := a) (n := n) (w := 17) (p := lsP s)
                     have H61 := H1.P u61.P10
                     have n61 : gI M61 567 20 = lsN s + 1 := (u61.P10.sl 20 (qP_no (by omega))).trans (by omega)
                     have U := U.trans u61.P10.toL
                     refine bw_ifeq rfl (fun c64 => ?_) (fun c64 => ?_)
                     · skip
                       have h17 : wo a n (lsP s) ≠ 17 := hw.2 (by omega)
                       rw [tak_n h17] at v61
                       have v61b : gI M61 567 9 = lsP s := (y61 (by omega) (by omega)).trans hz58.2
                       refine bw_aload rfl rfl ?_
                       refine bw_aload rfl rfl ?_
                       refine bw_getI rfl rfl ?_
                       refine bw_callVj (e := d - 1) (as := [_]) rfl (by omega) rfl rfl (Nat.le_of_ble_eq_true rfl) (Nat.le_of_ble_eq_true rfl) rfl (m_isDigit hR v61.1 (by omega) (by omega)) (fun r93 hr93 => ?_)
                       rw [v61b] at hr93
                       refine bw_ifeq rfl (fun c96 => ?_) (fun c96 => ?_)
                       · skip
                         refine bw_aload rfl rfl ?_
                         refine bw_callVv (e := d - 1) (as := []) rfl (by omega) rfl rfl (Nat.le_of_ble_eq_true rfl) (Nat.le_of_ble_eq_true rfl) rfl (m_opens hR v61.1 v61.2 H61 n61 (by omega) (by omega)) (fun M107 hM107 => ?_)
                         refine bw_push rfl ?_
                         refine bw_retz rfl rfl (by omega) ?_
                         have hpr : prP a n (lsP s) := w1.elim (fun k => k.1) (fun k => absurd k.2 (by omega))
                         have hdg : ¬ (48 ≤ a (lsP s) ∧ a (lsP s) ≤ 57) := by omega
                         have h4 : lsN s ≠ 40 := by omega
                         have hp2 := pt_o (on := on) hpr hdg h4 h17
                         obtain ⟨u107, v107, x107, y107⟩ := hM107
                         refine ⟨rfl, _, rfl, U.trans u107, Or.inl rfl, v107, fun e he => ?_, fun t w ht => ?_⟩
                         · rw [hp2] at he
                           exact x107 e he
                         · rw [hp2] at ht
                           obtain ⟨z1, z2, z3⟩ := y107 t w ht
                           exact ⟨z1, z2, z3.symm⟩
                       · skip
                         refine bw_aload rfl rfl ?_
                         refine bw_iload rfl rfl ?_
                         refine bw_callVv (e := d - 1) (as := [_]) rfl (by omega) rfl rfl (Nat.le_of_ble_eq_true rfl) (Nat.le_of_ble_eq_true rfl) rfl (m_readsDrawings (s := s) hR v61.1 v61.2 H61.1 (by omega) (by omega)) (fun M101 hM101 => ?_)
                         refine bw_push rfl ?_
                         refine bw_retz rfl rfl (by omega) ?_
                         have hpr : prP a n (lsP s) := w1.elim (fun k => k.1) (fun k => absurd k.2 (by omega))
                         have hdg : 48 ≤ a (lsP s) ∧ a (lsP s) ≤ 57 := by omega
                         have h4 : lsN s ≠ 40 := by omega
                         obtain ⟨u101, v101, w101⟩ := hM101
                         first
                         | (exfalso; omega)
                         | (rcases hx : (dr1 a n s).1 with e0 | q0
                            · have hc := (a35 e0 hx).1
                              have hc2 := (a35 e0 hx).2.2
                              exfalso; omega
                            · have hp2 := pt_dr (on := on) hpr hdg hx h4
                              rcases hy : (dr3 a n on s).1 with e1 | q1
                              · refine ⟨rfl, _, rfl, U.trans u101.DtoL, Or.inr rfl, v101.1, fun e he => ?_, fun t w ht => ?_⟩
                                · rw [hp2, dr_f hy] at he
                                  cases he
                                  have := v101.2
                                  rw [hy] at this
                                  exact this
                                · rw [hp2, dr_f hy] at ht
                                  cases ht
                              · refine ⟨rfl, _, rfl, U.trans u101.DtoL, Or.inr rfl, v101.1, fun e he => ?_, fun t w ht => ?_⟩
                                · rw [hp2, dr_g hy] at he
                                  cases he
                                · rw [hp2, dr_g hy] at ht
                                  cases ht
                                  have h5 := v101.2
                                  rw [hy] at h5
                                  exact ⟨h5, ⟨LQ_D H61 u101 (w101 q1 hy) rfl rfl rfl, (u101.sl 20 (qD_no (by omega))).trans n61⟩, rfl⟩)
                     · skip
                       have h17 : wo a n (lsP s) = 17 := hw.1 (by omega)
                       rw [tak_y h17] at v61
                       refine bw_aload rfl rfl ?_
                       refine bw_iload rfl rfl ?_
                       refine bw_callVi (e := d - 1) (as := [_]) rfl (by omega) rfl rfl (Nat.le_of_ble_eq_true rfl) (Nat.le_of_ble_eq_true rfl) rfl (m_times hR v61.1 v61.2 (by omega)) (fun r69 M69 hM69 => ?_)
                       obtain ⟨u69, v69, w69⟩ := hM69
                       have hR := u69.RF hR
                       have H69 := H61.P u69
                       have n69 : gI M69 567 20 = lsN s + 1 := (u69.sl 20 (qP_no (by omega))).trans n61
                       subst w69
                       have U := U.trans u69.toL
                       refine bw_istore (ls2 := [_, _, _]) rfl rfl (Nat.le_of_ble_eq_true rfl) rfl ?_
                       refine bw_aload rfl rfl ?_
                       refine bw_callVj (e := d - 1) (as := []) rfl (by omega) rfl rfl (Nat.le_of_ble_eq_true rfl) (Nat.le_of_ble_eq_true rfl) rfl (m_goesWell hR) (fun r74 hr74 => ?_)
                       refine bw_ifeq rfl (fun c77 => ?_) (fun c77 => ?_)
                       · skip
                         refine bw_push rfl ?_
                         refine bw_retz rfl rfl (by omega) ?_
                         have hpr : prP a n (lsP s) := w1.elim (fun k => k.1) (fun k => absurd k.2 (by omega))
                         have hdg : ¬ (48 ≤ a (lsP s) ∧ a (lsP s) ≤ 57) := fun k => by
                           have e : we a n (lsP s) = lsP s := rn_f (pSm_f.mpr (by omega))
                           have w0 : wo a n (lsP s) = -1 := ow_none (by rw [e]; omega)
                           omega
                         have h4 : lsN s ≠ 40 := by omega
                         have hp2 := pt_b (on := on) hpr hdg h4 h17
                         first
                         | (obtain ⟨q, hq⟩ := (rs_0 v69.2).mp (by omega)
                            refine ⟨rfl, _, rfl, U.trans hM83.1.HtoL, Or.inr rfl, v69.1.toH hM83.1, fun e he => ?_, fun t w ht => ?_⟩
                            · rw [hp2, bk_g hq] at he
                              cases he
                            · rw [hp2, bk_g hq] at ht
                              cases ht
                              have hz69 := v69.2
                              rw [hq] at hz69
                              exact ⟨rs_H hz69 hM83.1, ⟨LQ_D H69 hM83.1.HtoD hM83.2 rfl rfl rfl, (hM83.1.sl 20 (fun k => by have : (20 : Int) = 16 := k; omega)).trans n69⟩, rfl⟩)
                         | (obtain ⟨e0, hq, he0⟩ := rs_l v69.2 (by omega)
                            refine ⟨rfl, _, rfl, U, Or.inr rfl, v69.1, fun e he => ?_, fun t w ht => ?_⟩
                            · rw [hp2, bk_f hq] at he
                              cases he
                              exact he0
                            · rw [hp2, bk_f hq] at ht
                              cases ht)
                       · skip
                         refine bw_aload rfl rfl ?_
                         refine bw_push rfl ?_
                         refine bw_iload rfl rfl ?_
                         refine bw_callVv (e := d - 1) (as := [_, _]) rfl (by omega) rfl rfl (Nat.le_of_ble_eq_true rfl) (Nat.le_of_ble_eq_true rfl) rfl (m_holdsOne hR H69.1) (fun M83 hM83 => ?_)
                         refine bw_push rfl ?_
                         refine bw_retz rfl rfl (by omega) ?_
                         have hpr : prP a n (lsP s) := w1.elim (fun k => k.1) (fun k => absurd k.2 (by omega))
                         have hdg : ¬ (48 ≤ a (lsP s) ∧ a (lsP s) ≤ 57) := fun k => by
                           have e : we a n (lsP s) = lsP s := rn_f (pSm_f.mpr (by omega))
                           have w0 : wo a n (lsP s) = -1 := ow_none (by rw [e]; omega)
                           omega
                         have h4 : lsN s ≠ 40 := by omega
                         have hp2 := pt_b (on := on) hpr hdg h4 h17
                         first
                         | (obtain ⟨q, hq⟩ := (rs_0 v69.2).mp (by omega)
                            refine ⟨rfl, _, rfl, U.trans hM83.1.HtoL, Or.inr rfl, v69.1.toH hM83.1, fun e he => ?_, fun t w ht => ?_⟩
                            · rw [hp2, bk_g hq] at he
                              cases he
                            · rw [hp2, bk_g hq] at ht
                              cases ht
                              have hz69 := v69.2
                              rw [hq] at hz69
                              exact ⟨rs_H hz69 hM83.1, ⟨LQ_D H69 hM83.1.HtoD hM83.2 rfl rfl rfl, (hM83.1.sl 20 (fun k => by have : (20 : Int) = 16 := k; omega)).trans n69⟩, rfl⟩)
                         | (obtain ⟨e0, hq, he0⟩ := rs_l v69.2 (by omega)
                            refine ⟨rfl, _, rfl, U, Or.inr rfl, v69.1, fun e he => ?_, fun t w ht => ?_⟩
                            · rw [hp2, bk_f hq] at he
                              cases he
                              exact he0
                            · rw [hp2, bk_f hq] at ht
                              cases ht))
                · first
                  | (exfalso; omega)
                  | (refine bw_push rfl ?_
                     refine bw_retz rfl rfl (by omega) ?_
                     first
                     | (have hn : ¬ prP a n (lsP s) := w1.elim (fun k => absurd k.2 (by omega)) (fun k => k.1)
                        refine ⟨rfl, _, rfl, U, Or.inl rfl, f13.1, fun e he => ?_, fun t w ht => ?_⟩
                        · rw [pt_n hn] at he
                          cases he
                          rw [← v1]; exact f13.2
                        · rw [pt_n hn] at ht
                          cases ht)
                     | (have hpr : prP a n (lsP s) := w1.elim (fun k => k.1) (fun k => absurd k.2 (by omega))
                        have hdg : 48 ≤ a (lsP s) ∧ a (lsP s) ≤ 57 := by omega
                        rcases hx : (dr1 a n s).1 with e0 | q0
                        · first
                          | (have hc := (a35 e0 hx).1
                             have hc2 := (a35 e0 hx).2.2
                             have := w46
                             exfalso; omega)
                          | (refine ⟨rfl, _, rfl, U, Or.inl rfl, hP, fun e he => ?_, fun t w ht => ?_⟩
                             · rw [pt_d hpr hdg hx] at he
                               cases he
                               exact a35 e0 hx
                             · rw [pt_d hpr hdg hx] at ht
                               cases ht)
                        · have hc := b35 q0 hx
                          first
                          | (exfalso; omega)
                          | (have h4 : lsN s = 40 := by omega
                             refine ⟨rfl, _, rfl, U, Or.inl rfl, hP, fun e he => ?_, fun t w ht => ?_⟩
                             · rw [pt_d4 hpr hdg hx h4] at he
                               cases he
                               exact ⟨by show gI M46 567 11 = 4; omega, by show gI M46 567 12 = lsP s; omega, by show (4 : Int) ≠ 0; decide⟩
                             · rw [pt_d4 hpr hdg hx h4] at ht
                               cases ht))
                     | (have hpr : prP a n (lsP s) := w1.elim (fun k => k.1) (fun k => absurd k.2 (by omega))
                        have hdg : ¬ (48 ≤ a (lsP s) ∧ a (lsP s) ≤ 57) := by omega
                        have h4 : lsN s = 40 := by omega
                        refine ⟨rfl, _, rfl, U, Or.inl rfl, hP, fun e he => ?_, fun t w ht => ?_⟩
                        · rw [pt_4 hpr hdg h4] at he
                          cases he
                          exact ⟨by show gI M46 567 11 = 4; omega, by show gI M46 567 12 = lsP s; omega, by show (4 : Int) ≠ 0; decide⟩
                        · rw [pt_4 hpr hdg h4] at ht
                          cases ht)))
           · first
             | (exfalso; omega)
             | (refine bw_aload rfl rfl ?_
                refine bw_callVv (e := d - 1) (as := []) rfl (by omega) rfl rfl (Nat.le_of_ble_eq_true rfl) (Nat.le_of_ble_eq_true rfl) rfl (m_counts hR (by omega) (by omega) (by omega)) (fun M46 hM46 => ?_)
                obtain ⟨u46, m46, v46, w46⟩ := hM46
                have hR := u46.RF hR
                have hP := hP.fr5 u46 (fun k => k) (fun k => k) (q20_no (by omega)) (by omega)
                have H1 := H1.f5 u46 (q20_no (by omega)) (q20_no (by omega))
                have v0 := v1
                have v1 := v46.trans v1
                have U := U.trans u46.to20
                refine bw_aload rfl rfl ?_
                refine bw_callVj (e := d - 1) (as := []) rfl (by omega) rfl rfl (Nat.le_of_ble_eq_true rfl) (Nat.le_of_ble_eq_true rfl) rfl (m_goesWell hR) (fun r50 hr50 => ?_)
                refine bw_ifne rfl (fun c53 => ?_) (fun c53 => ?_)
                · first
                  | (exfalso; omega)
                  | (have hz58 : rs M46 a n (.inr (lsP s)) := ⟨by omega, by rw [v1]; exact ek⟩
                     refine bw_aload rfl rfl ?_
                     refine bw_push rfl ?_
                     refine bw_callVi (e := d - 1) (as := [_]) rfl (by omega) rfl rfl (Nat.le_of_ble_eq_true rfl) (Nat.le_of_ble_eq_true rfl) rfl (m_takes hR hP hz58 (by omega)) (fun r61 M61 hM61 => ?_)
                     obtain ⟨u61, v61, w61, x61, y61⟩ := hM61
                     have hR := u61.RF hR
                     have hw := tak_01 (a := a) (n := n) (w := 17) (p := lsP s)
                     have H61 := H1.P u61.P10
                     have n61 : gI M61 567 20 = lsN s + 1 := (u61.P10.sl 20 (qP_no (by omega))).trans (by omega)
                     have U := U.trans u61.P10.toL
                     refine bw_ifeq rfl (fun c64 => ?_) (fun c64 => ?_)
                     · skip
                       have h17 : wo a n (lsP s) ≠ 17 := hw.2 (by omega)
                       rw [tak_n h17] at v61
                       have v61b : gI M61 567 9 = lsP s := (y61 (by omega) (by omega)).trans hz58.2
                       refine bw_aload rfl rfl ?_
                       refine bw_aload rfl rfl ?_
                       refine bw_getI rfl rfl ?_
                       refine bw_callVj (e := d - 1) (as := [_]) rfl (by omega) rfl rfl (Nat.le_of_ble_eq_true rfl) (Nat.le_of_ble_eq_true rfl) rfl (m_isDigit hR v61.1 (by omega) (by omega)) (fun r93 hr93 => ?_)
                       rw [v61b] at hr93
                       refine bw_ifeq rfl (fun c96 => ?_) (fun c96 => ?_)
                       · skip
                         refine bw_aload rfl rfl ?_
                         refine bw_callVv (e := d - 1) (as := []) rfl (by omega) rfl rfl (Nat.le_of_ble_eq_true rfl) (Nat.le_of_ble_eq_true rfl) rfl (m_opens hR v61.1 v61.2 H61 n61 (by omega) (by omega)) (fun M107 hM107 => ?_)
                         refine bw_push rfl ?_
                         refine bw_retz rfl rfl (by omega) ?_
                         have hpr : prP a n (lsP s) := w1.elim (fun k => k.1) (fun k => absurd k.2 (by omega))
                         have hdg : ¬ (48 ≤ a (lsP s) ∧ a (lsP s) ≤ 57) := by omega
                         have h4 : lsN s ≠ 40 := by omega
                         have hp2 := pt_o (on := on) hpr hdg h4 h17
                         obtain ⟨u107, v107, x107, y107⟩ := hM107
                         refine ⟨rfl, _, rfl, U.trans u107, Or.inl rfl, v107, fun e he => ?_, fun t w ht => ?_⟩
                         · rw [hp2] at he
                           exact x107 e he
                         · rw [hp2] at ht
                           obtain ⟨z1, z2, z3⟩ := y107 t w ht
                           exact ⟨z1, z2, z3.symm⟩
                       · skip
                         refine bw_aload rfl rfl ?_
                         refine bw_iload rfl rfl ?_
                         refine bw_callVv (e := d - 1) (as := [_]) rfl (by omega) rfl rfl (Nat.le_of_ble_eq_true rfl) (Nat.le_of_ble_eq_true rfl) rfl (m_readsDrawings (s := s) hR v61.1 v61.2 H61.1 (by omega) (by omega)) (fun M101 hM101 => ?_)
                         refine bw_push rfl ?_
                         refine bw_retz rfl rfl (by omega) ?_
                         have hpr : prP a n (lsP s) := w1.elim (fun k => k.1) (fun k => absurd k.2 (by omega))
                         have hdg : 48 ≤ a (lsP s) ∧ a (lsP s) ≤ 57 := by omega
                         have h4 : lsN s ≠ 40 := by omega
                         obtain ⟨u101, v101, w101⟩ := hM101
                         first
                         | (exfalso; omega)
                         | (rcases hx : (dr1 a n s).1 with e0 | q0
                            · have hc := (a35 e0 hx).1
                              have hc2 := (a35 e0 hx).2.2
                              exfalso; omega
                            · have hp2 := pt_dr (on := on) hpr hdg hx h4
                              rcases hy : (dr3 a n on s).1 with e1 | q1
                              · refine ⟨rfl, _, rfl, U.trans u101.DtoL, Or.inr rfl, v101.1, fun e he => ?_, fun t w ht => ?_⟩
                                · rw [hp2, dr_f hy] at he
                                  cases he
                                  have := v101.2
                                  rw [hy] at this
                                  exact this
                                · rw [hp2, dr_f hy] at ht
                                  cases ht
                              · refine ⟨rfl, _, rfl, U.trans u101.DtoL, Or.inr rfl, v101.1, fun e he => ?_, fun t w ht => ?_⟩
                                · rw [hp2, dr_g hy] at he
                                  cases he
                                · rw [hp2, dr_g hy] at ht
                                  cases ht
                                  have h5 := v101.2
                                  rw [hy] at h5
                                  exact ⟨h5, ⟨LQ_D H61 u101 (w101 q1 hy) rfl rfl rfl, (u101.sl 20 (qD_no (by omega))).trans n61⟩, rfl⟩)
                     · skip
                       have h17 : wo a n (lsP s) = 17 := hw.1 (by omega)
                       rw [tak_y h17] at v61
                       refine bw_aload rfl rfl ?_
                       refine bw_iload rfl rfl ?_
                       refine bw_callVi (e := d - 1) (as := [_]) rfl (by omega) rfl rfl (Nat.le_of_ble_eq_true rfl) (Nat.le_of_ble_eq_true rfl) rfl (m_times hR v61.1 v61.2 (by omega)) (fun r69 M69 hM69 => ?_)
                       obtain ⟨u69, v69, w69⟩ := hM69
                       have hR := u69.RF hR
                       have H69 := H61.P u69
                       have n69 : gI M69 567 20 = lsN s + 1 := (u69.sl 20 (qP_no (by omega))).trans n61
                       subst w69
                       have U := U.trans u69.toL
                       refine bw_istore (ls2 := [_, _, _]) rfl rfl (Nat.le_of_ble_eq_true rfl) rfl ?_
                       refine bw_aload rfl rfl ?_
                       refine bw_callVj (e := d - 1) (as := []) rfl (by omega) rfl rfl (Nat.le_of_ble_eq_true rfl) (Nat.le_of_ble_eq_true rfl) rfl (m_goesWell hR) (fun r74 hr74 => ?_)
                       refine bw_ifeq rfl (fun c77 => ?_) (fun c77 => ?_)
                       · skip
                         refine bw_push rfl ?_
                         refine bw_retz rfl rfl (by omega) ?_
                         have hpr : prP a n (lsP s) := w1.elim (fun k => k.1) (fun k => absurd k.2 (by omega))
                         have hdg : ¬ (48 ≤ a (lsP s) ∧ a (lsP s) ≤ 57) := fun k => by
                           have e : we a n (lsP s) = lsP s := rn_f (pSm_f.mpr (by omega))
                           have w0 : wo a n (lsP s) = -1 := ow_none (by rw [e]; omega)
                           omega
                         have h4 : lsN s ≠ 40 := by omega
                         have hp2 := pt_b (on := on) hpr hdg h4 h17
                         first
                         | (obtain ⟨q, hq⟩ := (rs_0 v69.2).mp (by omega)
                            refine ⟨rfl, _, rfl, U.trans hM83.1.HtoL, Or.inr rfl, v69.1.toH hM83.1, fun e he => ?_, fun t w ht => ?_⟩
                            · rw [hp2, bk_g hq] at he
                              cases he
                            · rw [hp2, bk_g hq] at ht
                              cases ht
                              have hz69 := v69.2
                              rw [hq] at hz69
                              exact ⟨rs_H hz69 hM83.1, ⟨LQ_D H69 hM83.1.HtoD hM83.2 rfl rfl rfl, (hM83.1.sl 20 (fun k => by have : (20 : Int) = 16 := k; omega)).trans n69⟩, rfl⟩)
                         | (obtain ⟨e0, hq, he0⟩ := rs_l v69.2 (by omega)
                            refine ⟨rfl, _, rfl, U, Or.inr rfl, v69.1, fun e he => ?_, fun t w ht => ?_⟩
                            · rw [hp2, bk_f hq] at he
                              cases he
                              exact he0
                            · rw [hp2, bk_f hq] at ht
                              cases ht)
                       · skip
                         refine bw_aload rfl rfl ?_
                         refine bw_push rfl ?_
                         refine bw_iload rfl rfl ?_
                         refine bw_callVv (e := d - 1) (as := [_, _]) rfl (by omega) rfl rfl (Nat.le_of_ble_eq_true rfl) (Nat.le_of_ble_eq_true rfl) rfl (m_holdsOne hR H69.1) (fun M83 hM83 => ?_)
                         refine bw_push rfl ?_
                         refine bw_retz rfl rfl (by omega) ?_
                         have hpr : prP a n (lsP s) := w1.elim (fun k => k.1) (fun k => absurd k.2 (by omega))
                         have hdg : ¬ (48 ≤ a (lsP s) ∧ a (lsP s) ≤ 57) := fun k => by
                           have e : we a n (lsP s) = lsP s := rn_f (pSm_f.mpr (by omega))
                           have w0 : wo a n (lsP s) = -1 := ow_none (by rw [e]; omega)
                           omega
                         have h4 : lsN s ≠ 40 := by omega
                         have hp2 := pt_b (on := on) hpr hdg h4 h17
                         first
                         | (obtain ⟨q, hq⟩ := (rs_0 v69.2).mp (by omega)
                            refine ⟨rfl, _, rfl, U.trans hM83.1.HtoL, Or.inr rfl, v69.1.toH hM83.1, fun e he => ?_, fun t w ht => ?_⟩
                            · rw [hp2, bk_g hq] at he
                              cases he
                            · rw [hp2, bk_g hq] at ht
                              cases ht
                              have hz69 := v69.2
                              rw [hq] at hz69
                              exact ⟨rs_H hz69 hM83.1, ⟨LQ_D H69 hM83.1.HtoD hM83.2 rfl rfl rfl, (hM83.1.sl 20 (fun k => by have : (20 : Int) = 16 := k; omega)).trans n69⟩, rfl⟩)
                         | (obtain ⟨e0, hq, he0⟩ := rs_l v69.2 (by omega)
                            refine ⟨rfl, _, rfl, U, Or.inr rfl, v69.1, fun e he => ?_, fun t w ht => ?_⟩
                            · rw [hp2, bk_f hq] at he
                              cases he
                              exact he0
                            · rw [hp2, bk_f hq] at ht
                              cases ht))
                · first
                  | (exfalso; omega)
                  | (refine bw_push rfl ?_
                     refine bw_retz rfl rfl (by omega) ?_
                     first
                     | (have hn : ¬ prP a n (lsP s) := w1.elim (fun k => absurd k.2 (by omega)) (fun k => k.1)
                        refine ⟨rfl, _, rfl, U, Or.inl rfl, f13.1, fun e he => ?_, fun t w ht => ?_⟩
                        · rw [pt_n hn] at he
                          cases he
                          rw [← v1]; exact f13.2
                        · rw [pt_n hn] at ht
                          cases ht)
                     | (have hpr : prP a n (lsP s) := w1.elim (fun k => k.1) (fun k => absurd k.2 (by omega))
                        have hdg : 48 ≤ a (lsP s) ∧ a (lsP s) ≤ 57 := by omega
                        rcases hx : (dr1 a n s).1 with e0 | q0
                        · first
                          | (have hc := (a35 e0 hx).1
                             have hc2 := (a35 e0 hx).2.2
                             have := w46
                             exfalso; omega)
                          | (refine ⟨rfl, _, rfl, U, Or.inl rfl, hP, fun e he => ?_, fun t w ht => ?_⟩
                             · rw [pt_d hpr hdg hx] at he
                               cases he
                               exact a35 e0 hx
                             · rw [pt_d hpr hdg hx] at ht
                               cases ht)
                        · have hc := b35 q0 hx
                          first
                          | (exfalso; omega)
                          | (have h4 : lsN s = 40 := by omega
                             refine ⟨rfl, _, rfl, U, Or.inl rfl, hP, fun e he => ?_, fun t w ht => ?_⟩
                             · rw [pt_d4 hpr hdg hx h4] at he
                               cases he
                               exact ⟨by show gI M46 567 11 = 4; omega, by show gI M46 567 12 = lsP s; omega, by show (4 : Int) ≠ 0; decide⟩
                             · rw [pt_d4 hpr hdg hx h4] at ht
                               cases ht))
                     | (have hpr : prP a n (lsP s) := w1.elim (fun k => k.1) (fun k => absurd k.2 (by omega))
                        have hdg : ¬ (48 ≤ a (lsP s) ∧ a (lsP s) ≤ 57) := by omega
                        have h4 : lsN s = 40 := by omega
                        refine ⟨rfl, _, rfl, U, Or.inl rfl, hP, fun e he => ?_, fun t w ht => ?_⟩
                        · rw [pt_4 hpr hdg h4] at he
                          cases he
                          exact ⟨by show gI M46 567 11 = 4; omega, by show gI M46 567 12 = lsP s; omega, by show (4 : Int) ≠ 0; decide⟩
                        · rw [pt_4 hpr hdg h4] at ht
                          cases ht))))
  · skip
    refine bw_aload rfl rfl ?_
    refine bw_push rfl ?_
    refine bw_aload rfl rfl ?_
    refine bw_getI rfl rfl ?_
    refine bw_callVv (e := d - 1) (as := [_, _]) rfl (by omega) rfl rfl (Nat.le_of_ble_eq_true rfl) (Nat.le_of_ble_eq_true rfl) rfl (m_faults hR) (fun M13 hM13 => ?_)
    have hR := hM13.f5.RF hR
    have f13 := hM13.RSn hP z1 (by decide)
    have g13 := f13.2.1
    have hP := f13.1
    have U := U.trans hM13.f5.toL
    refine bw_aload rfl rfl ?_
    refine bw_callVj (e := d - 1) (as := []) rfl (by omega) rfl rfl (Nat.le_of_ble_eq_true rfl) (Nat.le_of_ble_eq_true rfl) rfl (m_goesWell hR) (fun r17 hr17 => ?_)
    refine bw_ifeq rfl (fun c20 => ?_) (fun c20 => ?_)
    · first
      | (exfalso; omega)
      | (refine bw_aload rfl rfl ?_
         refine bw_callVj (e := d - 1) (as := []) rfl (by omega) rfl rfl (Nat.le_of_ble_eq_true rfl) (Nat.le_of_ble_eq_true rfl) rfl (m_goesWell hR) (fun r39 hr39 => ?_)
         refine bw_ifeq rfl (fun c42 => ?_) (fun c42 => ?_)
         · first
           | (exfalso; omega)
           | (refine bw_aload rfl rfl ?_
              refine bw_callVj (e := d - 1) (as := []) rfl (by omega) rfl rfl (Nat.le_of_ble_eq_true rfl) (Nat.le_of_ble_eq_true rfl) rfl (m_goesWell hR) (fun r50 hr50 => ?_)
              refine bw_ifne rfl (fun c53 => ?_) (fun c53 => ?_)
              · first
                | (exfalso; omega)
                | (have hz58 : rs M46 a n (.inr (lsP s)) := ⟨by omega, by rw [v1]; exact ek⟩
                   refine bw_aload rfl rfl ?_
                   refine bw_push rfl ?_
                   refine bw_callVi (e := d - 1) (as := [_]) rfl (by omega) rfl rfl (Nat.le_of_ble_eq_true rfl) (Nat.le_of_ble_eq_true rfl) rfl (m_takes hR hP hz58 (by omega)) (fun r61 M61 hM61 => ?_)
                   obtain ⟨u61, v61, w61, x61, y61⟩ := hM61
                   have hR := u61.RF hR
                   have hw := tak_01 (a := a) (n := n) (w := 17) (p := lsP s)
                   have H61 := H1.P u61.P10
                   have n61 : gI M61 567 20 = lsN s + 1 := (u61.P10.sl 20 (qP_no (by omega))).trans (by omega)
                   have U := U.trans u61.P10.toL
                   refine bw_ifeq rfl (fun c64 => ?_) (fun c64 => ?_)
                   · skip
                     have h17 : wo a n (lsP s) ≠ 17 := hw.2 (by omega)
                     rw [tak_n h17] at v61
                     have v61b : gI M61 567 9 = lsP s := (y61 (by omega) (by omega)).trans hz58.2
                     refine bw_aload rfl rfl ?_
                     refine bw_aload rfl rfl ?_
                     refine bw_getI rfl rfl ?_
                     refine bw_callVj (e := d - 1) (as := [_]) rfl (by omega) rfl rfl (Nat.le_of_ble_eq_true rfl) (Nat.le_of_ble_eq_true rfl) rfl (m_isDigit hR v61.1 (by omega) (by omega)) (fun r93 hr93 => ?_)
                     rw [v61b] at hr93
                     refine bw_ifeq rfl (fun c96 => ?_) (fun c96 => ?_)
                     · skip
                       refine bw_aload rfl rfl ?_
                       refine bw_callVv (e := d - 1) (as := []) rfl (by omega) rfl rfl (Nat.le_of_ble_eq_true rfl) (Nat.le_of_ble_eq_true rfl) rfl (m_opens hR v61.1 v61.2 H61 n61 (by omega) (by omega)) (fun M107 hM107 => ?_)
                       refine bw_push rfl ?_
                       refine bw_retz rfl rfl (by omega) ?_
                       have hpr : prP a n (lsP s) := w1.elim (fun k => k.1) (fun k => absurd k.2 (by omega))
                       have hdg : ¬ (48 ≤ a (lsP s) ∧ a (lsP s) ≤ 57) := by omega
                       have h4 : lsN s ≠ 40 := by omega
                       have hp2 := pt_o (on := on) hpr hdg h4 h17
                       obtain ⟨u107, v107, x107, y107⟩ := hM107
                       refine ⟨rfl, _, rfl, U.trans u107, Or.inl rfl, v107, fun e he => ?_, fun t w ht => ?_⟩
                       · rw [hp2] at he
                         exact x107 e he
                       · rw [hp2] at ht
                         obtain ⟨z1, z2, z3⟩ := y107 t w ht
                         exact ⟨z1, z2, z3.symm⟩
                     · skip
                       refine bw_aload rfl rfl ?_
                       refine bw_iload rfl rfl ?_
                       refine bw_callVv (e := d - 1) (as := [_]) rfl (by omega) rfl rfl (Nat.le_of_ble_eq_true rfl) (Nat.le_of_ble_eq_true rfl) rfl (m_readsDrawings (s := s) hR v61.1 v61.2 H61.1 (by omega) (by omega)) (fun M101 hM101 => ?_)
                       refine bw_push rfl ?_
                       refine bw_retz rfl rfl (by omega) ?_
                       have hpr : prP a n (lsP s) := w1.elim (fun k => k.1) (fun k => absurd k.2 (by omega))
                       have hdg : 48 ≤ a (lsP s) ∧ a (lsP s) ≤ 57 := by omega
                       have h4 : lsN s ≠ 40 := by omega
                       obtain ⟨u101, v101, w101⟩ := hM101
                       first
                       | (exfalso; omega)
                       | (rcases hx : (dr1 a n s).1 with e0 | q0
                          · have hc := (a35 e0 hx).1
                            have hc2 := (a35 e0 hx).2.2
                            exfalso; omega
                          · have hp2 := pt_dr (on := on) hpr hdg hx h4
                            rcases hy : (dr3 a n on s).1 with e1 | q1
                            · refine ⟨rfl, _, rfl, U.trans u101.DtoL, Or.inr rfl, v101.1, fun e he => ?_, fun t w ht => ?_⟩
                              · rw [hp2, dr_f hy] at he
                                cases he
                                have := v101.2
                                rw [hy] at this
                                exact this
                              · rw [hp2, dr_f hy] at ht
                                cases ht
                            · refine ⟨rfl, _, rfl, U.trans u101.DtoL, Or.inr rfl, v101.1, fun e he => ?_, fun t w ht => ?_⟩
                              · rw [hp2, dr_g hy] at he
                                cases he
                              · rw [hp2, dr_g hy] at ht
                                cases ht
                                have h5 := v101.2
                                rw [hy] at h5
                                exact ⟨h5, ⟨LQ_D H61 u101 (w101 q1 hy) rfl rfl rfl, (u101.sl 20 (qD_no (by omega))).trans n61⟩, rfl⟩)
                   · skip
                     have h17 : wo a n (lsP s) = 17 := hw.1 (by omega)
                     rw [tak_y h17] at v61
                     refine bw_aload rfl rfl ?_
                     refine bw_iload rfl rfl ?_
                     refine bw_callVi (e := d - 1) (as := [_]) rfl (by omega) rfl rfl (Nat.le_of_ble_eq_true rfl) (Nat.le_of_ble_eq_true rfl) rfl (m_times hR v61.1 v61.2 (by omega)) (fun r69 M69 hM69 => ?_)
                     obtain ⟨u69, v69, w69⟩ := hM69
                     have hR := u69.RF hR
                     have H69 := H61.P u69
                     have n69 : gI M69 567 20 = lsN s + 1 := (u69.sl 20 (qP_no (by omega))).trans n61
                     subst w69
                     have U := U.trans u69.toL
                     refine bw_istore (ls2 := [_, _, _]) rfl rfl (Nat.le_of_ble_eq_true rfl) rfl ?_
                     refine bw_aload rfl rfl ?_
                     refine bw_callVj (e := d - 1) (as := []) rfl (by omega) rfl rfl (Nat.le_of_ble_eq_true rfl) (Nat.le_of_ble_eq_true rfl) rfl (m_goesWell hR) (fun r74 hr74 => ?_)
                     refine bw_ifeq rfl (fun c77 => ?_) (fun c77 => ?_)
                     · skip
                       refine bw_push rfl ?_
                       refine bw_retz rfl rfl (by omega) ?_
                       have hpr : prP a n (lsP s) := w1.elim (fun k => k.1) (fun k => absurd k.2 (by omega))
                       have hdg : ¬ (48 ≤ a (lsP s) ∧ a (lsP s) ≤ 57) := fun k => by
                         have e : we a n (lsP s) = lsP s := rn_f (pSm_f.mpr (by omega))
                         have w0 : wo a n (lsP s) = -1 := ow_none (by rw [e]; omega)
                         omega
                       have h4 : lsN s ≠ 40 := by omega
                       have hp2 := pt_b (on := on) hpr hdg h4 h17
                       first
                       | (obtain ⟨q, hq⟩ := (rs_0 v69.2).mp (by omega)
                          refine ⟨rfl, _, rfl, U.trans hM83.1.HtoL, Or.inr rfl, v69.1.toH hM83.1, fun e he => ?_, fun t w ht => ?_⟩
                          · rw [hp2, bk_g hq] at he
                            cases he
                          · rw [hp2, bk_g hq] at ht
                            cases ht
                            have hz69 := v69.2
                            rw [hq] at hz69
                            exact ⟨rs_H hz69 hM83.1, ⟨LQ_D H69 hM83.1.HtoD hM83.2 rfl rfl rfl, (hM83.1.sl 20 (fun k => by have : (20 : Int) = 16 := k; omega)).trans n69⟩, rfl⟩)
                       | (obtain ⟨e0, hq, he0⟩ := rs_l v69.2 (by omega)
                          refine ⟨rfl, _, rfl, U, Or.inr rfl, v69.1, fun e he => ?_, fun t w ht => ?_⟩
                          · rw [hp2, bk_f hq] at he
                            cases he
                            exact he0
                          · rw [hp2, bk_f hq] at ht
                            cases ht)
                     · skip
                       refine bw_aload rfl rfl ?_
                       refine bw_push rfl ?_
                       refine bw_iload rfl rfl ?_
                       refine bw_callVv (e := d - 1) (as := [_, _]) rfl (by omega) rfl rfl (Nat.le_of_ble_eq_true rfl) (Nat.le_of_ble_eq_true rfl) rfl (m_holdsOne hR H69.1) (fun M83 hM83 => ?_)
                       refine bw_push rfl ?_
                       refine bw_retz rfl rfl (by omega) ?_
                       have hpr : prP a n (lsP s) := w1.elim (fun k => k.1) (fun k => absurd k.2 (by omega))
                       have hdg : ¬ (48 ≤ a (lsP s) ∧ a (lsP s) ≤ 57) := fun k => by
                         have e : we a n (lsP s) = lsP s := rn_f (pSm_f.mpr (by omega))
                         have w0 : wo a n (lsP s) = -1 := ow_none (by rw [e]; omega)
                         omega
                       have h4 : lsN s ≠ 40 := by omega
                       have hp2 := pt_b (on := on) hpr hdg h4 h17
                       first
                       | (obtain ⟨q, hq⟩ := (rs_0 v69.2).mp (by omega)
                          refine ⟨rfl, _, rfl, U.trans hM83.1.HtoL, Or.inr rfl, v69.1.toH hM83.1, fun e he => ?_, fun t w ht => ?_⟩
                          · rw [hp2, bk_g hq] at he
                            cases he
                          · rw [hp2, bk_g hq] at ht
                            cases ht
                            have hz69 := v69.2
                            rw [hq] at hz69
                            exact ⟨rs_H hz69 hM83.1, ⟨LQ_D H69 hM83.1.HtoD hM83.2 rfl rfl rfl, (hM83.1.sl 20 (fun k => by have : (20 : Int) = 16 := k; omega)).trans n69⟩, rfl⟩)
                       | (obtain ⟨e0, hq, he0⟩ := rs_l v69.2 (by omega)
                          refine ⟨rfl, _, rfl, U, Or.inr rfl, v69.1, fun e he => ?_, fun t w ht => ?_⟩
                          · rw [hp2, bk_f hq] at he
                            cases he
                            exact he0
                          · rw [hp2, bk_f hq] at ht
                            cases ht))
              · first
                | (exfalso; omega)
                | (refine bw_push rfl ?_
                   refine bw_retz rfl rfl (by omega) ?_
                   first
                   | (have hn : ¬ prP a n (lsP s) := w1.elim (fun k => absurd k.2 (by omega)) (fun k => k.1)
                      refine ⟨rfl, _, rfl, U, Or.inl rfl, f13.1, fun e he => ?_, fun t w ht => ?_⟩
                      · rw [pt_n hn] at he
                        cases he
                        rw [← v1]; exact f13.2
                      · rw [pt_n hn] at ht
                        cases ht)
                   | (have hpr : prP a n (lsP s) := w1.elim (fun k => k.1) (fun k => absurd k.2 (by omega))
                      have hdg : 48 ≤ a (lsP s) ∧ a (lsP s) ≤ 57 := by omega
                      rcases hx : (dr1 a n s).1 with e0 | q0
                      · first
                        | (have hc := (a35 e0 hx).1
                           have hc2 := (a35 e0 hx).2.2
                           have := w46
                           exfalso; omega)
                        | (refine ⟨rfl, _, rfl, U, Or.inl rfl, hP, fun e he => ?_, fun t w ht => ?_⟩
                           · rw [pt_d hpr hdg hx] at he
                             cases he
                             exact a35 e0 hx
                           · rw [pt_d hpr hdg hx] at ht
                             cases ht)
                      · have hc := b35 q0 hx
                        first
                        | (exfalso; omega)
                        | (have h4 : lsN s = 40 := by omega
                           refine ⟨rfl, _, rfl, U, Or.inl rfl, hP, fun e he => ?_, fun t w ht => ?_⟩
                           · rw [pt_d4 hpr hdg hx h4] at he
                             cases he
                             exact ⟨by show gI M46 567 11 = 4; omega, by show gI M46 567 12 = lsP s; omega, by show (4 : Int) ≠ 0; decide⟩
                           · rw [pt_d4 hpr hdg hx h4] at ht
                             cases ht))
                   | (have hpr : prP a n (lsP s) := w1.elim (fun k => k.1) (fun k => absurd k.2 (by omega))
                      have hdg : ¬ (48 ≤ a (lsP s) ∧ a (lsP s) ≤ 57) := by omega
                      have h4 : lsN s = 40 := by omega
                      refine ⟨rfl, _, rfl, U, Or.inl rfl, hP, fun e he => ?_, fun t w ht => ?_⟩
                      · rw [pt_4 hpr hdg h4] at he
                        cases he
                        exact ⟨by show gI M46 567 11 = 4; omega, by show gI M46 567 12 = lsP s; omega, by show (4 : Int) ≠ 0; decide⟩
                      · rw [pt_4 hpr hdg h4] at ht
                        cases ht)))
         · first
           | (exfalso; omega)
           | (refine bw_aload rfl rfl ?_
              refine bw_callVv (e := d - 1) (as := []) rfl (by omega) rfl rfl (Nat.le_of_ble_eq_true rfl) (Nat.le_of_ble_eq_true rfl) rfl (m_counts hR (by omega) (by omega) (by omega)) (fun M46 hM46 => ?_)
              obtain ⟨u46, m46, v46, w46⟩ := hM46
              have hR := u46.RF hR
              have hP := hP.fr5 u46 (fun k => k) (fun k => k) (q20_no (by omega)) (by omega)
              have H1 := H1.f5 u46 (q20_no (by omega)) (q20_no (by omega))
              have v0 := v1
              have v1 := v46.trans v1
              have U := U.trans u46.to20
              refine bw_aload rfl rfl ?_
              refine bw_callVj (e := d - 1) (as := []) rfl (by omega) rfl rfl (Nat.le_of_ble_eq_true rfl) (Nat.le_of_ble_eq_true rfl) rfl (m_goesWell hR) (fun r50 hr50 => ?_)
              refine bw_ifne rfl (fun c53 => ?_) (fun c53 => ?_)
              · first
                | (exfalso; omega)
                | (have hz58 : rs M46 a n (.inr (lsP s)) := ⟨by omega, by rw [v1]; exact ek⟩
                   refine bw_aload rfl rfl ?_
                   refine bw_push rfl ?_
                   refine bw_callVi (e := d - 1) (as := [_]) rfl (by omega) rfl rfl (Nat.le_of_ble_eq_true rfl) (Nat.le_of_ble_eq_true rfl) rfl (m_takes hR hP hz58 (by omega)) (fun r61 M61 hM61 => ?_)
                   obtain ⟨u61, v61, w61, x61, y61⟩ := hM61
                   have hR := u61.RF hR
                   have hw := tak_01 (a := a) (n := n) (w := 17) (p := lsP s)
                   have H61 := H1.P u61.P10
                   have n61 : gI M61 567 20 = lsN s + 1 := (u61.P10.sl 20 (qP_no (by omega))).trans (by omega)
                   have U := U.trans u61.P10.toL
                   refine bw_ifeq rfl (fun c64 => ?_) (fun c64 => ?_)
                   · skip
                     have h17 : wo a n (lsP s) ≠ 17 := hw.2 (by omega)
                     rw [tak_n h17] at v61
                     have v61b : gI M61 567 9 = lsP s := (y61 (by omega) (by omega)).trans hz58.2
                     refine bw_aload rfl rfl ?_
                     refine bw_aload rfl rfl ?_
                     refine bw_getI rfl rfl ?_
                     refine bw_callVj (e := d - 1) (as := [_]) rfl (by omega) rfl rfl (Nat.le_of_ble_eq_true rfl) (Nat.le_of_ble_eq_true rfl) rfl (m_isDigit hR v61.1 (by omega) (by omega)) (fun r93 hr93 => ?_)
                     rw [v61b] at hr93
                     refine bw_ifeq rfl (fun c96 => ?_) (fun c96 => ?_)
                     · skip
                       refine bw_aload rfl rfl ?_
                       refine bw_callVv (e := d - 1) (as := []) rfl (by omega) rfl rfl (Nat.le_of_ble_eq_true rfl) (Nat.le_of_ble_eq_true rfl) rfl (m_opens hR v61.1 v61.2 H61 n61 (by omega) (by omega)) (fun M107 hM107 => ?_)
                       refine bw_push rfl ?_
                       refine bw_retz rfl rfl (by omega) ?_
                       have hpr : prP a n (lsP s) := w1.elim (fun k => k.1) (fun k => absurd k.2 (by omega))
                       have hdg : ¬ (48 ≤ a (lsP s) ∧ a (lsP s) ≤ 57) := by omega
                       have h4 : lsN s ≠ 40 := by omega
                       have hp2 := pt_o (on := on) hpr hdg h4 h17
                       obtain ⟨u107, v107, x107, y107⟩ := hM107
                       refine ⟨rfl, _, rfl, U.trans u107, Or.inl rfl, v107, fun e he => ?_, fun t w ht => ?_⟩
                       · rw [hp2] at he
                         exact x107 e he
                       · rw [hp2] at ht
                         obtain ⟨z1, z2, z3⟩ := y107 t w ht
                         exact ⟨z1, z2, z3.symm⟩
                     · skip
                       refine bw_aload rfl rfl ?_
                       refine bw_iload rfl rfl ?_
                       refine bw_callVv (e := d - 1) (as := [_]) rfl (by omega) rfl rfl (Nat.le_of_ble_eq_true rfl) (Nat.le_of_ble_eq_true rfl) rfl (m_readsDrawings (s := s) hR v61.1 v61.2 H61.1 (by omega) (by omega)) (fun M101 hM101 => ?_)
                       refine bw_push rfl ?_
                       refine bw_retz rfl rfl (by omega) ?_
                       have hpr : prP a n (lsP s) := w1.elim (fun k => k.1) (fun k => absurd k.2 (by omega))
                       have hdg : 48 ≤ a (lsP s) ∧ a (lsP s) ≤ 57 := by omega
                       have h4 : lsN s ≠ 40 := by omega
                       obtain ⟨u101, v101, w101⟩ := hM101
                       first
                       | (exfalso; omega)
                       | (rcases hx : (dr1 a n s).1 with e0 | q0
                          · have hc := (a35 e0 hx).1
                            have hc2 := (a35 e0 hx).2.2
                            exfalso; omega
                          · have hp2 := pt_dr (on := on) hpr hdg hx h4
                            rcases hy : (dr3 a n on s).1 with e1 | q1
                            · refine ⟨rfl, _, rfl, U.trans u101.DtoL, Or.inr rfl, v101.1, fun e he => ?_, fun t w ht => ?_⟩
                              · rw [hp2, dr_f hy] at he
                                cases he
                                have := v101.2
                                rw [hy] at this
                                exact this
                              · rw [hp2, dr_f hy] at ht
                                cases ht
                            · refine ⟨rfl, _, rfl, U.trans u101.DtoL, Or.inr rfl, v101.1, fun e he => ?_, fun t w ht => ?_⟩
                              · rw [hp2, dr_g hy] at he
                                cases he
                              · rw [hp2, dr_g hy] at ht
                                cases ht
                                have h5 := v101.2
                                rw [hy] at h5
                                exact ⟨h5, ⟨LQ_D H61 u101 (w101 q1 hy) rfl rfl rfl, (u101.sl 20 (qD_no (by omega))).trans n61⟩, rfl⟩)
                   · skip
                     have h17 : wo a n (lsP s) = 17 := hw.1 (by omega)
                     rw [tak_y h17] at v61
                     refine bw_aload rfl rfl ?_
                     refine bw_iload rfl rfl ?_
                     refine bw_callVi (e := d - 1) (as := [_]) rfl (by omega) rfl rfl (Nat.le_of_ble_eq_true rfl) (Nat.le_of_ble_eq_true rfl) rfl (m_times hR v61.1 v61.2 (by omega)) (fun r69 M69 hM69 => ?_)
                     obtain ⟨u69, v69, w69⟩ := hM69
                     have hR := u69.RF hR
                     have H69 := H61.P u69
                     have n69 : gI M69 567 20 = lsN s + 1 := (u69.sl 20 (qP_no (by omega))).trans n61
                     subst w69
                     have U := U.trans u69.toL
                     refine bw_istore (ls2 := [_, _, _]) rfl rfl (Nat.le_of_ble_eq_true rfl) rfl ?_
                     refine bw_aload rfl rfl ?_
                     refine bw_callVj (e := d - 1) (as := []) rfl (by omega) rfl rfl (Nat.le_of_ble_eq_true rfl) (Nat.le_of_ble_eq_true rfl) rfl (m_goesWell hR) (fun r74 hr74 => ?_)
                     refine bw_ifeq rfl (fun c77 => ?_) (fun c77 => ?_)
                     · skip
                       refine bw_push rfl ?_
                       refine bw_retz rfl rfl (by omega) ?_
                       have hpr : prP a n (lsP s) := w1.elim (fun k => k.1) (fun k => absurd k.2 (by omega))
                       have hdg : ¬ (48 ≤ a (lsP s) ∧ a (lsP s) ≤ 57) := fun k => by
                         have e : we a n (lsP s) = lsP s := rn_f (pSm_f.mpr (by omega))
                         have w0 : wo a n (lsP s) = -1 := ow_none (by rw [e]; omega)
                         omega
                       have h4 : lsN s ≠ 40 := by omega
                       have hp2 := pt_b (on := on) hpr hdg h4 h17
                       first
                       | (obtain ⟨q, hq⟩ := (rs_0 v69.2).mp (by omega)
                          refine ⟨rfl, _, rfl, U.trans hM83.1.HtoL, Or.inr rfl, v69.1.toH hM83.1, fun e he => ?_, fun t w ht => ?_⟩
                          · rw [hp2, bk_g hq] at he
                            cases he
                          · rw [hp2, bk_g hq] at ht
                            cases ht
                            have hz69 := v69.2
                            rw [hq] at hz69
                            exact ⟨rs_H hz69 hM83.1, ⟨LQ_D H69 hM83.1.HtoD hM83.2 rfl rfl rfl, (hM83.1.sl 20 (fun k => by have : (20 : Int) = 16 := k; omega)).trans n69⟩, rfl⟩)
                       | (obtain ⟨e0, hq, he0⟩ := rs_l v69.2 (by omega)
                          refine ⟨rfl, _, rfl, U, Or.inr rfl, v69.1, fun e he => ?_, fun t w ht => ?_⟩
                          · rw [hp2, bk_f hq] at he
                            cases he
                            exact he0
                          · rw [hp2, bk_f hq] at ht
                            cases ht)
                     · skip
                       refine bw_aload rfl rfl ?_
                       refine bw_push rfl ?_
                       refine bw_iload rfl rfl ?_
                       refine bw_callVv (e := d - 1) (as := [_, _]) rfl (by omega) rfl rfl (Nat.le_of_ble_eq_true rfl) (Nat.le_of_ble_eq_true rfl) rfl (m_holdsOne hR H69.1) (fun M83 hM83 => ?_)
                       refine bw_push rfl ?_
                       refine bw_retz rfl rfl (by omega) ?_
                       have hpr : prP a n (lsP s) := w1.elim (fun k => k.1) (fun k => absurd k.2 (by omega))
                       have hdg : ¬ (48 ≤ a (lsP s) ∧ a (lsP s) ≤ 57) := fun k => by
                         have e : we a n (lsP s) = lsP s := rn_f (pSm_f.mpr (by omega))
                         have w0 : wo a n (lsP s) = -1 := ow_none (by rw [e]; omega)
                         omega
                       have h4 : lsN s ≠ 40 := by omega
                       have hp2 := pt_b (on := on) hpr hdg h4 h17
                       first
                       | (obtain ⟨q, hq⟩ := (rs_0 v69.2).mp (by omega)
                          refine ⟨rfl, _, rfl, U.trans hM83.1.HtoL, Or.inr rfl, v69.1.toH hM83.1, fun e he => ?_, fun t w ht => ?_⟩
                          · rw [hp2, bk_g hq] at he
                            cases he
                          · rw [hp2, bk_g hq] at ht
                            cases ht
                            have hz69 := v69.2
                            rw [hq] at hz69
                            exact ⟨rs_H hz69 hM83.1, ⟨LQ_D H69 hM83.1.HtoD hM83.2 rfl rfl rfl, (hM83.1.sl 20 (fun k => by have : (20 : Int) = 16 := k; omega)).trans n69⟩, rfl⟩)
                       | (obtain ⟨e0, hq, he0⟩ := rs_l v69.2 (by omega)
                          refine ⟨rfl, _, rfl, U, Or.inr rfl, v69.1, fun e he => ?_, fun t w ht => ?_⟩
                          · rw [hp2, bk_f hq] at he
                            cases he
                            exact he0
                          · rw [hp2, bk_f hq] at ht
                            cases ht))
              · first
                | (exfalso; omega)
                | (refine bw_push rfl ?_
                   refine bw_retz rfl rfl (by omega) ?_
                   first
                   | (have hn : ¬ prP a n (lsP s) := w1.elim (fun k => absurd k.2 (by omega)) (fun k => k.1)
                      refine ⟨rfl, _, rfl, U, Or.inl rfl, f13.1, fun e he => ?_, fun t w ht => ?_⟩
                      · rw [pt_n hn] at he
                        cases he
                        rw [← v1]; exact f13.2
                      · rw [pt_n hn] at ht
                        cases ht)
                   | (have hpr : prP a n (lsP s) := w1.elim (fun k => k.1) (fun k => absurd k.2 (by omega))
                      have hdg : 48 ≤ a (lsP s) ∧ a (lsP s) ≤ 57 := by omega
                      rcases hx : (dr1 a n s).1 with e0 | q0
                      · first
                        | (have hc := (a35 e0 hx).1
                           have hc2 := (a35 e0 hx).2.2
                           have := w46
                           exfalso; omega)
                        | (refine ⟨rfl, _, rfl, U, Or.inl rfl, hP, fun e he => ?_, fun t w ht => ?_⟩
                           · rw [pt_d hpr hdg hx] at he
                             cases he
                             exact a35 e0 hx
                           · rw [pt_d hpr hdg hx] at ht
                             cases ht)
                      · have hc := b35 q0 hx
                        first
                        | (exfalso; omega)
                        | (have h4 : lsN s = 40 := by omega
                           refine ⟨rfl, _, rfl, U, Or.inl rfl, hP, fun e he => ?_, fun t w ht => ?_⟩
                           · rw [pt_d4 hpr hdg hx h4] at he
                             cases he
                             exact ⟨by show gI M46 567 11 = 4; omega, by show gI M46 567 12 = lsP s; omega, by show (4 : Int) ≠ 0; decide⟩
                           · rw [pt_d4 hpr hdg hx h4] at ht
                             cases ht))
                   | (have hpr : prP a n (lsP s) := w1.elim (fun k => k.1) (fun k => absurd k.2 (by omega))
                      have hdg : ¬ (48 ≤ a (lsP s) ∧ a (lsP s) ≤ 57) := by omega
                      have h4 : lsN s = 40 := by omega
                      refine ⟨rfl, _, rfl, U, Or.inl rfl, hP, fun e he => ?_, fun t w ht => ?_⟩
                      · rw [pt_4 hpr hdg h4] at he
                        cases he
                        exact ⟨by show gI M46 567 11 = 4; omega, by show gI M46 567 12 = lsP s; omega, by show (4 : Int) ≠ 0; decide⟩
                      · rw [pt_4 hpr hdg h4] at ht
                        cases ht))))
    · first
      | (exfalso; omega)
      | (refine bw_aload rfl rfl ?_
         refine bw_aload rfl rfl ?_
         refine bw_getI rfl rfl ?_
         refine bw_callVj (e := d - 1) (as := [_]) rfl (by omega) rfl rfl (Nat.le_of_ble_eq_true rfl) (Nat.le_of_ble_eq_true rfl) rfl (m_isDigit hR hP (by omega) (by omega)) (fun r28 hr28 => ?_)
         rw [v1] at hr28
         refine bw_ifeq rfl (fun c31 => ?_) (fun c31 => ?_)
         · skip
           refine bw_aload rfl rfl ?_
           refine bw_callVj (e := d - 1) (as := []) rfl (by omega) rfl rfl (Nat.le_of_ble_eq_true rfl) (Nat.le_of_ble_eq_true rfl) rfl (m_goesWell hR) (fun r39 hr39 => ?_)
           refine bw_ifeq rfl (fun c42 => ?_) (fun c42 => ?_)
           · first
             | (exfalso; omega)
             | (refine bw_aload rfl rfl ?_
                refine bw_callVj (e := d - 1) (as := []) rfl (by omega) rfl rfl (Nat.le_of_ble_eq_true rfl) (Nat.le_of_ble_eq_true rfl) rfl (m_goesWell hR) (fun r50 hr50 => ?_)
                refine bw_ifne rfl (fun c53 => ?_) (fun c53 => ?_)
                · first
                  | (exfalso; omega)
                  | (have hz58 : rs M46 a n (.inr (lsP s)) := ⟨by omega, by rw [v1]; exact ek⟩
                     refine bw_aload rfl rfl ?_
                     refine bw_push rfl ?_
                     refine bw_callVi (e := d - 1) (as := [_]) rfl (by omega) rfl rfl (Nat.le_of_ble_eq_true rfl) (Nat.le_of_ble_eq_true rfl) rfl (m_takes hR hP hz58 (by omega)) (fun r61 M61 hM61 => ?_)
                     obtain ⟨u61, v61, w61, x61, y61⟩ := hM61
                     have hR := u61.RF hR
                     have hw := tak_01 (a := a) (n := n) (w := 17) (p := lsP s)
                     have H61 := H1.P u61.P10
                     have n61 : gI M61 567 20 = lsN s + 1 := (u61.P10.sl 20 (qP_no (by omega))).trans (by omega)
                     have U := U.trans u61.P10.toL
                     refine bw_ifeq rfl (fun c64 => ?_) (fun c64 => ?_)
                     · skip
                       have h17 : wo a n (lsP s) ≠ 17 := hw.2 (by omega)
                       rw [tak_n h17] at v61
                       have v61b : gI M61 567 9 = lsP s := (y61 (by omega) (by omega)).trans hz58.2
                       refine bw_aload rfl rfl ?_
                       refine bw_aload rfl rfl ?_
                       refine bw_getI rfl rfl ?_
                       refine bw_callVj (e := d - 1) (as := [_]) rfl (by omega) rfl rfl (Nat.le_of_ble_eq_true rfl) (Nat.le_of_ble_eq_true rfl) rfl (m_isDigit hR v61.1 (by omega) (by omega)) (fun r93 hr93 => ?_)
                       rw [v61b] at hr93
                       refine bw_ifeq rfl (fun c96 => ?_) (fun c96 => ?_)
                       · skip
                         refine bw_aload rfl rfl ?_
                         refine bw_callVv (e := d - 1) (as := []) rfl (by omega) rfl rfl (Nat.le_of_ble_eq_true rfl) (Nat.le_of_ble_eq_true rfl) rfl (m_opens hR v61.1 v61.2 H61 n61 (by omega) (by omega)) (fun M107 hM107 => ?_)
                         refine bw_push rfl ?_
                         refine bw_retz rfl rfl (by omega) ?_
                         have hpr : prP a n (lsP s) := w1.elim (fun k => k.1) (fun k => absurd k.2 (by omega))
                         have hdg : ¬ (48 ≤ a (lsP s) ∧ a (lsP s) ≤ 57) := by omega
                         have h4 : lsN s ≠ 40 := by omega
                         have hp2 := pt_o (on := on) hpr hdg h4 h17
                         obtain ⟨u107, v107, x107, y107⟩ := hM107
                         refine ⟨rfl, _, rfl, U.trans u107, Or.inl rfl, v107, fun e he => ?_, fun t w ht => ?_⟩
                         · rw [hp2] at he
                           exact x107 e he
                         · rw [hp2] at ht
                           obtain ⟨z1, z2, z3⟩ := y107 t w ht
                           exact ⟨z1, z2, z3.symm⟩
                       · skip
                         refine bw_aload rfl rfl ?_
                         refine bw_iload rfl rfl ?_
                         refine bw_callVv (e := d - 1) (as := [_]) rfl (by omega) rfl rfl (Nat.le_of_ble_eq_true rfl) (Nat.le_of_ble_eq_true rfl) rfl (m_readsDrawings (s := s) hR v61.1 v61.2 H61.1 (by omega) (by omega)) (fun M101 hM101 => ?_)
                         refine bw_push rfl ?_
                         refine bw_retz rfl rfl (by omega) ?_
                         have hpr : prP a n (lsP s) := w1.elim (fun k => k.1) (fun k => absurd k.2 (by omega))
                         have hdg : 48 ≤ a (lsP s) ∧ a (lsP s) ≤ 57 := by omega
                         have h4 : lsN s ≠ 40 := by omega
                         obtain ⟨u101, v101, w101⟩ := hM101
                         first
                         | (exfalso; omega)
                         | (rcases hx : (dr1 a n s).1 with e0 | q0
                            · have hc := (a35 e0 hx).1
                              have hc2 := (a35 e0 hx).2.2
                              exfalso; omega
                            · have hp2 := pt_dr (on := on) hpr hdg hx h4
                              rcases hy : (dr3 a n on s).1 with e1 | q1
                              · refine ⟨rfl, _, rfl, U.trans u101.DtoL, Or.inr rfl, v101.1, fun e he => ?_, fun t w ht => ?_⟩
                                · rw [hp2, dr_f hy] at he
                                  cases he
                                  have := v101.2
                                  rw [hy] at this
                                  exact this
                                · rw [hp2, dr_f hy] at ht
                                  cases ht
                              · refine ⟨rfl, _, rfl, U.trans u101.DtoL, Or.inr rfl, v101.1, fun e he => ?_, fun t w ht => ?_⟩
                                · rw [hp2, dr_g hy] at he
                                  cases he
                                · rw [hp2, dr_g hy] at ht
                                  cases ht
                                  have h5 := v101.2
                                  rw [hy] at h5
                                  exact ⟨h5, ⟨LQ_D H61 u101 (w101 q1 hy) rfl rfl rfl, (u101.sl 20 (qD_no (by omega))).trans n61⟩, rfl⟩)
                     · skip
                       have h17 : wo a n (lsP s) = 17 := hw.1 (by omega)
                       rw [tak_y h17] at v61
                       refine bw_aload rfl rfl ?_
                       refine bw_iload rfl rfl ?_
                       refine bw_callVi (e := d - 1) (as := [_]) rfl (by omega) rfl rfl (Nat.le_of_ble_eq_true rfl) (Nat.le_of_ble_eq_true rfl) rfl (m_times hR v61.1 v61.2 (by omega)) (fun r69 M69 hM69 => ?_)
                       obtain ⟨u69, v69, w69⟩ := hM69
                       have hR := u69.RF hR
                       have H69 := H61.P u69
                       have n69 : gI M69 567 20 = lsN s + 1 := (u69.sl 20 (qP_no (by omega))).trans n61
                       subst w69
                       have U := U.trans u69.toL
                       refine bw_istore (ls2 := [_, _, _]) rfl rfl (Nat.le_of_ble_eq_true rfl) rfl ?_
                       refine bw_aload rfl rfl ?_
                       refine bw_callVj (e := d - 1) (as := []) rfl (by omega) rfl rfl (Nat.le_of_ble_eq_true rfl) (Nat.le_of_ble_eq_true rfl) rfl (m_goesWell hR) (fun r74 hr74 => ?_)
                       refine bw_ifeq rfl (fun c77 => ?_) (fun c77 => ?_)
                       · skip
                         refine bw_push rfl ?_
                         refine bw_retz rfl rfl (by omega) ?_
                         have hpr : prP a n (lsP s) := w1.elim (fun k => k.1) (fun k => absurd k.2 (by omega))
                         have hdg : ¬ (48 ≤ a (lsP s) ∧ a (lsP s) ≤ 57) := fun k => by
                           have e : we a n (lsP s) = lsP s := rn_f (pSm_f.mpr (by omega))
                           have w0 : wo a n (lsP s) = -1 := ow_none (by rw [e]; omega)
                           omega
                         have h4 : lsN s ≠ 40 := by omega
                         have hp2 := pt_b (on := on) hpr hdg h4 h17
                         first
                         | (obtain ⟨q, hq⟩ := (rs_0 v69.2).mp (by omega)
                            refine ⟨rfl, _, rfl, U.trans hM83.1.HtoL, Or.inr rfl, v69.1.toH hM83.1, fun e he => ?_, fun t w ht => ?_⟩
                            · rw [hp2, bk_g hq] at he
                              cases he
                            · rw [hp2, bk_g hq] at ht
                              cases ht
                              have hz69 := v69.2
                              rw [hq] at hz69
                              exact ⟨rs_H hz69 hM83.1, ⟨LQ_D H69 hM83.1.HtoD hM83.2 rfl rfl rfl, (hM83.1.sl 20 (fun k => by have : (20 : Int) = 16 := k; omega)).trans n69⟩, rfl⟩)
                         | (obtain ⟨e0, hq, he0⟩ := rs_l v69.2 (by omega)
                            refine ⟨rfl, _, rfl, U, Or.inr rfl, v69.1, fun e he => ?_, fun t w ht => ?_⟩
                            · rw [hp2, bk_f hq] at he
                              cases he
                              exact he0
                            · rw [hp2, bk_f hq] at ht
                              cases ht)
                       · skip
                         refine bw_aload rfl rfl ?_
                         refine bw_push rfl ?_
                         refine bw_iload rfl rfl ?_
                         refine bw_callVv (e := d - 1) (as := [_, _]) rfl (by omega) rfl rfl (Nat.le_of_ble_eq_true rfl) (Nat.le_of_ble_eq_true rfl) rfl (m_holdsOne hR H69.1) (fun M83 hM83 => ?_)
                         refine bw_push rfl ?_
                         refine bw_retz rfl rfl (by omega) ?_
                         have hpr : prP a n (lsP s) := w1.elim (fun k => k.1) (fun k => absurd k.2 (by omega))
                         have hdg : ¬ (48 ≤ a (lsP s) ∧ a (lsP s) ≤ 57) := fun k => by
                           have e : we a n (lsP s) = lsP s := rn_f (pSm_f.mpr (by omega))
                           have w0 : wo a n (lsP s) = -1 := ow_none (by rw [e]; omega)
                           omega
                         have h4 : lsN s ≠ 40 := by omega
                         have hp2 := pt_b (on := on) hpr hdg h4 h17
                         first
                         | (obtain ⟨q, hq⟩ := (rs_0 v69.2).mp (by omega)
                            refine ⟨rfl, _, rfl, U.trans hM83.1.HtoL, Or.inr rfl, v69.1.toH hM83.1, fun e he => ?_, fun t w ht => ?_⟩
                            · rw [hp2, bk_g hq] at he
                              cases he
                            · rw [hp2, bk_g hq] at ht
                              cases ht
                              have hz69 := v69.2
                              rw [hq] at hz69
                              exact ⟨rs_H hz69 hM83.1, ⟨LQ_D H69 hM83.1.HtoD hM83.2 rfl rfl rfl, (hM83.1.sl 20 (fun k => by have : (20 : Int) = 16 := k; omega)).trans n69⟩, rfl⟩)
                         | (obtain ⟨e0, hq, he0⟩ := rs_l v69.2 (by omega)
                            refine ⟨rfl, _, rfl, U, Or.inr rfl, v69.1, fun e he => ?_, fun t w ht => ?_⟩
                            · rw [hp2, bk_f hq] at he
                              cases he
                              exact he0
                            · rw [hp2, bk_f hq] at ht
                              cases ht))
                · first
                  | (exfalso; omega)
                  | (refine bw_push rfl ?_
                     refine bw_retz rfl rfl (by omega) ?_
                     first
                     | (have hn : ¬ prP a n (lsP s) := w1.elim (fun k => absurd k.2 (by omega)) (fun k => k.1)
                        refine ⟨rfl, _, rfl, U, Or.inl rfl, f13.1, fun e he => ?_, fun t w ht => ?_⟩
                        · rw [pt_n hn] at he
                          cases he
                          rw [← v1]; exact f13.2
                        · rw [pt_n hn] at ht
                          cases ht)
                     | (have hpr : prP a n (lsP s) := w1.elim (fun k => k.1) (fun k => absurd k.2 (by omega))
                        have hdg : 48 ≤ a (lsP s) ∧ a (lsP s) ≤ 57 := by omega
                        rcases hx : (dr1 a n s).1 with e0 | q0
                        · first
                          | (have hc := (a35 e0 hx).1
                             have hc2 := (a35 e0 hx).2.2
                             have := w46
                             exfalso; omega)
                          | (refine ⟨rfl, _, rfl, U, Or.inl rfl, hP, fun e he => ?_, fun t w ht => ?_⟩
                             · rw [pt_d hpr hdg hx] at he
                               cases he
                               exact a35 e0 hx
                             · rw [pt_d hpr hdg hx] at ht
                               cases ht)
                        · have hc := b35 q0 hx
                          first
                          | (exfalso; omega)
                          | (have h4 : lsN s = 40 := by omega
                             refine ⟨rfl, _, rfl, U, Or.inl rfl, hP, fun e he => ?_, fun t w ht => ?_⟩
                             · rw [pt_d4 hpr hdg hx h4] at he
                               cases he
                               exact ⟨by show gI M46 567 11 = 4; omega, by show gI M46 567 12 = lsP s; omega, by show (4 : Int) ≠ 0; decide⟩
                             · rw [pt_d4 hpr hdg hx h4] at ht
                               cases ht))
                     | (have hpr : prP a n (lsP s) := w1.elim (fun k => k.1) (fun k => absurd k.2 (by omega))
                        have hdg : ¬ (48 ≤ a (lsP s) ∧ a (lsP s) ≤ 57) := by omega
                        have h4 : lsN s = 40 := by omega
                        refine ⟨rfl, _, rfl, U, Or.inl rfl, hP, fun e he => ?_, fun t w ht => ?_⟩
                        · rw [pt_4 hpr hdg h4] at he
                          cases he
                          exact ⟨by show gI M46 567 11 = 4; omega, by show gI M46 567 12 = lsP s; omega, by show (4 : Int) ≠ 0; decide⟩
                        · rw [pt_4 hpr hdg h4] at ht
                          cases ht)))
           · first
             | (exfalso; omega)
             | (refine bw_aload rfl rfl ?_
                refine bw_callVv (e := d - 1) (as := []) rfl (by omega) rfl rfl (Nat.le_of_ble_eq_true rfl) (Nat.le_of_ble_eq_true rfl) rfl (m_counts hR (by omega) (by omega) (by omega)) (fun M46 hM46 => ?_)
                obtain ⟨u46, m46, v46, w46⟩ := hM46
                have hR := u46.RF hR
                have hP := hP.fr5 u46 (fun k => k) (fun k => k) (q20_no (by omega)) (by omega)
                have H1 := H1.f5 u46 (q20_no (by omega)) (q20_no (by omega))
                have v0 := v1
                have v1 := v46.trans v1
                have U := U.trans u46.to20
                refine bw_aload rfl rfl ?_
                refine bw_callVj (e := d - 1) (as := []) rfl (by omega) rfl rfl (Nat.le_of_ble_eq_true rfl) (Nat.le_of_ble_eq_true rfl) rfl (m_goesWell hR) (fun r50 hr50 => ?_)
                refine bw_ifne rfl (fun c53 => ?_) (fun c53 => ?_)
                · first
                  | (exfalso; omega)
                  | (have hz58 : rs M46 a n (.inr (lsP s)) := ⟨by omega, by rw [v1]; exact ek⟩
                     refine bw_aload rfl rfl ?_
                     refine bw_push rfl ?_
                     refine bw_callVi (e := d - 1) (as := [_]) rfl (by omega) rfl rfl (Nat.le_of_ble_eq_true rfl) (Nat.le_of_ble_eq_true rfl) rfl (m_takes hR hP hz58 (by omega)) (fun r61 M61 hM61 => ?_)
                     obtain ⟨u61, v61, w61, x61, y61⟩ := hM61
                     have hR := u61.RF hR
                     have hw := tak_01 (a := a) (n := n) (w := 17) (p := lsP s)
                     have H61 := H1.P u61.P10
                     have n61 : gI M61 567 20 = lsN s + 1 := (u61.P10.sl 20 (qP_no (by omega))).trans (by omega)
                     have U := U.trans u61.P10.toL
                     refine bw_ifeq rfl (fun c64 => ?_) (fun c64 => ?_)
                     · skip
                       have h17 : wo a n (lsP s) ≠ 17 := hw.2 (by omega)
                       rw [tak_n h17] at v61
                       have v61b : gI M61 567 9 = lsP s := (y61 (by omega) (by omega)).trans hz58.2
                       refine bw_aload rfl rfl ?_
                       refine bw_aload rfl rfl ?_
                       refine bw_getI rfl rfl ?_
                       refine bw_callVj (e := d - 1) (as := [_]) rfl (by omega) rfl rfl (Nat.le_of_ble_eq_true rfl) (Nat.le_of_ble_eq_true rfl) rfl (m_isDigit hR v61.1 (by omega) (by omega)) (fun r93 hr93 => ?_)
                       rw [v61b] at hr93
                       refine bw_ifeq rfl (fun c96 => ?_) (fun c96 => ?_)
                       · skip
                         refine bw_aload rfl rfl ?_
                         refine bw_callVv (e := d - 1) (as := []) rfl (by omega) rfl rfl (Nat.le_of_ble_eq_true rfl) (Nat.le_of_ble_eq_true rfl) rfl (m_opens hR v61.1 v61.2 H61 n61 (by omega) (by omega)) (fun M107 hM107 => ?_)
                         refine bw_push rfl ?_
                         refine bw_retz rfl rfl (by omega) ?_
                         have hpr : prP a n (lsP s) := w1.elim (fun k => k.1) (fun k => absurd k.2 (by omega))
                         have hdg : ¬ (48 ≤ a (lsP s) ∧ a (lsP s) ≤ 57) := by omega
                         have h4 : lsN s ≠ 40 := by omega
                         have hp2 := pt_o (on := on) hpr hdg h4 h17
                         obtain ⟨u107, v107, x107, y107⟩ := hM107
                         refine ⟨rfl, _, rfl, U.trans u107, Or.inl rfl, v107, fun e he => ?_, fun t w ht => ?_⟩
                         · rw [hp2] at he
                           exact x107 e he
                         · rw [hp2] at ht
                           obtain ⟨z1, z2, z3⟩ := y107 t w ht
                           exact ⟨z1, z2, z3.symm⟩
                       · skip
                         refine bw_aload rfl rfl ?_
                         refine bw_iload rfl rfl ?_
                         refine bw_callVv (e := d - 1) (as := [_]) rfl (by omega) rfl rfl (Nat.le_of_ble_eq_true rfl) (Nat.le_of_ble_eq_true rfl) rfl (m_readsDrawings (s := s) hR v61.1 v61.2 H61.1 (by omega) (by omega)) (fun M101 hM101 => ?_)
                         refine bw_push rfl ?_
                         refine bw_retz rfl rfl (by omega) ?_
                         have hpr : prP a n (lsP s) := w1.elim (fun k => k.1) (fun k => absurd k.2 (by omega))
                         have hdg : 48 ≤ a (lsP s) ∧ a (lsP s) ≤ 57 := by omega
                         have h4 : lsN s ≠ 40 := by omega
                         obtain ⟨u101, v101, w101⟩ := hM101
                         first
                         | (exfalso; omega)
                         | (rcases hx : (dr1 a n s).1 with e0 | q0
                            · have hc := (a35 e0 hx).1
                              have hc2 := (a35 e0 hx).2.2
                              exfalso; omega
                            · have hp2 := pt_dr (on := on) hpr hdg hx h4
                              rcases hy : (dr3 a n on s).1 with e1 | q1
                              · refine ⟨rfl, _, rfl, U.trans u101.DtoL, Or.inr rfl, v101.1, fun e he => ?_, fun t w ht => ?_⟩
                                · rw [hp2, dr_f hy] at he
                                  cases he
                                  have := v101.2
                                  rw [hy] at this
                                  exact this
                                · rw [hp2, dr_f hy] at ht
                                  cases ht
                              · refine ⟨rfl, _, rfl, U.trans u101.DtoL, Or.inr rfl, v101.1, fun e he => ?_, fun t w ht => ?_⟩
                                · rw [hp2, dr_g hy] at he
                                  cases he
                                · rw [hp2, dr_g hy] at ht
                                  cases ht
                                  have h5 := v101.2
                                  rw [hy] at h5
                                  exact ⟨h5, ⟨LQ_D H61 u101 (w101 q1 hy) rfl rfl rfl, (u101.sl 20 (qD_no (by omega))).trans n61⟩, rfl⟩)
                     · skip
                       have h17 : wo a n (lsP s) = 17 := hw.1 (by omega)
                       rw [tak_y h17] at v61
                       refine bw_aload rfl rfl ?_
                       refine bw_iload rfl rfl ?_
                       refine bw_callVi (e := d - 1) (as := [_]) rfl (by omega) rfl rfl (Nat.le_of_ble_eq_true rfl) (Nat.le_of_ble_eq_true rfl) rfl (m_times hR v61.1 v61.2 (by omega)) (fun r69 M69 hM69 => ?_)
                       obtain ⟨u69, v69, w69⟩ := hM69
                       have hR := u69.RF hR
                       have H69 := H61.P u69
                       have n69 : gI M69 567 20 = lsN s + 1 := (u69.sl 20 (qP_no (by omega))).trans n61
                       subst w69
                       have U := U.trans u69.toL
                       refine bw_istore (ls2 := [_, _, _]) rfl rfl (Nat.le_of_ble_eq_true rfl) rfl ?_
                       refine bw_aload rfl rfl ?_
                       refine bw_callVj (e := d - 1) (as := []) rfl (by omega) rfl rfl (Nat.le_of_ble_eq_true rfl) (Nat.le_of_ble_eq_true rfl) rfl (m_goesWell hR) (fun r74 hr74 => ?_)
                       refine bw_ifeq rfl (fun c77 => ?_) (fun c77 => ?_)
                       · skip
                         refine bw_push rfl ?_
                         refine bw_retz rfl rfl (by omega) ?_
                         have hpr : prP a n (lsP s) := w1.elim (fun k => k.1) (fun k => absurd k.2 (by omega))
                         have hdg : ¬ (48 ≤ a (lsP s) ∧ a (lsP s) ≤ 57) := fun k => by
                           have e : we a n (lsP s) = lsP s := rn_f (pSm_f.mpr (by omega))
                           have w0 : wo a n (lsP s) = -1 := ow_none (by rw [e]; omega)
                           omega
                         have h4 : lsN s ≠ 40 := by omega
                         have hp2 := pt_b (on := on) hpr hdg h4 h17
                         first
                         | (obtain ⟨q, hq⟩ := (rs_0 v69.2).mp (by omega)
                            refine ⟨rfl, _, rfl, U.trans hM83.1.HtoL, Or.inr rfl, v69.1.toH hM83.1, fun e he => ?_, fun t w ht => ?_⟩
                            · rw [hp2, bk_g hq] at he
                              cases he
                            · rw [hp2, bk_g hq] at ht
                              cases ht
                              have hz69 := v69.2
                              rw [hq] at hz69
                              exact ⟨rs_H hz69 hM83.1, ⟨LQ_D H69 hM83.1.HtoD hM83.2 rfl rfl rfl, (hM83.1.sl 20 (fun k => by have : (20 : Int) = 16 := k; omega)).trans n69⟩, rfl⟩)
                         | (obtain ⟨e0, hq, he0⟩ := rs_l v69.2 (by omega)
                            refine ⟨rfl, _, rfl, U, Or.inr rfl, v69.1, fun e he => ?_, fun t w ht => ?_⟩
                            · rw [hp2, bk_f hq] at he
                              cases he
                              exact he0
                            · rw [hp2, bk_f hq] at ht
                              cases ht)
                       · skip
                         refine bw_aload rfl rfl ?_
                         refine bw_push rfl ?_
                         refine bw_iload rfl rfl ?_
                         refine bw_callVv (e := d - 1) (as := [_, _]) rfl (by omega) rfl rfl (Nat.le_of_ble_eq_true rfl) (Nat.le_of_ble_eq_true rfl) rfl (m_holdsOne hR H69.1) (fun M83 hM83 => ?_)
                         refine bw_push rfl ?_
                         refine bw_retz rfl rfl (by omega) ?_
                         have hpr : prP a n (lsP s) := w1.elim (fun k => k.1) (fun k => absurd k.2 (by omega))
                         have hdg : ¬ (48 ≤ a (lsP s) ∧ a (lsP s) ≤ 57) := fun k => by
                           have e : we a n (lsP s) = lsP s := rn_f (pSm_f.mpr (by omega))
                           have w0 : wo a n (lsP s) = -1 := ow_none (by rw [e]; omega)
                           omega
                         have h4 : lsN s ≠ 40 := by omega
                         have hp2 := pt_b (on := on) hpr hdg h4 h17
                         first
                         | (obtain ⟨q, hq⟩ := (rs_0 v69.2).mp (by omega)
                            refine ⟨rfl, _, rfl, U.trans hM83.1.HtoL, Or.inr rfl, v69.1.toH hM83.1, fun e he => ?_, fun t w ht => ?_⟩
                            · rw [hp2, bk_g hq] at he
                              cases he
                            · rw [hp2, bk_g hq] at ht
                              cases ht
                              have hz69 := v69.2
                              rw [hq] at hz69
                              exact ⟨rs_H hz69 hM83.1, ⟨LQ_D H69 hM83.1.HtoD hM83.2 rfl rfl rfl, (hM83.1.sl 20 (fun k => by have : (20 : Int) = 16 := k; omega)).trans n69⟩, rfl⟩)
                         | (obtain ⟨e0, hq, he0⟩ := rs_l v69.2 (by omega)
                            refine ⟨rfl, _, rfl, U, Or.inr rfl, v69.1, fun e he => ?_, fun t w ht => ?_⟩
                            · rw [hp2, bk_f hq] at he
                              cases he
                              exact he0
                            · rw [hp2, bk_f hq] at ht
                              cases ht))
                · first
                  | (exfalso; omega)
                  | (refine bw_push rfl ?_
                     refine bw_retz rfl rfl (by omega) ?_
                     first
                     | (have hn : ¬ prP a n (lsP s) := w1.elim (fun k => absurd k.2 (by omega)) (fun k => k.1)
                        refine ⟨rfl, _, rfl, U, Or.inl rfl, f13.1, fun e he => ?_, fun t w ht => ?_⟩
                        · rw [pt_n hn] at he
                          cases he
                          rw [← v1]; exact f13.2
                        · rw [pt_n hn] at ht
                          cases ht)
                     | (have hpr : prP a n (lsP s) := w1.elim (fun k => k.1) (fun k => absurd k.2 (by omega))
                        have hdg : 48 ≤ a (lsP s) ∧ a (lsP s) ≤ 57 := by omega
                        rcases hx : (dr1 a n s).1 with e0 | q0
                        · first
                          | (have hc := (a35 e0 hx).1
                             have hc2 := (a35 e0 hx).2.2
                             have := w46
                             exfalso; omega)
                          | (refine ⟨rfl, _, rfl, U, Or.inl rfl, hP, fun e he => ?_, fun t w ht => ?_⟩
                             · rw [pt_d hpr hdg hx] at he
                               cases he
                               exact a35 e0 hx
                             · rw [pt_d hpr hdg hx] at ht
                               cases ht)
                        · have hc := b35 q0 hx
                          first
                          | (exfalso; omega)
                          | (have h4 : lsN s = 40 := by omega
                             refine ⟨rfl, _, rfl, U, Or.inl rfl, hP, fun e he => ?_, fun t w ht => ?_⟩
                             · rw [pt_d4 hpr hdg hx h4] at he
                               cases he
                               exact ⟨by show gI M46 567 11 = 4; omega, by show gI M46 567 12 = lsP s; omega, by show (4 : Int) ≠ 0; decide⟩
                             · rw [pt_d4 hpr hdg hx h4] at ht
                               cases ht))
                     | (have hpr : prP a n (lsP s) := w1.elim (fun k => k.1) (fun k => absurd k.2 (by omega))
                        have hdg : ¬ (48 ≤ a (lsP s) ∧ a (lsP s) ≤ 57) := by omega
                        have h4 : lsN s = 40 := by omega
                        refine ⟨rfl, _, rfl, U, Or.inl rfl, hP, fun e he => ?_, fun t w ht => ?_⟩
                        · rw [pt_4 hpr hdg h4] at he
                          cases he
                          exact ⟨by show gI M46 567 11 = 4; omega, by show gI M46 567 12 = lsP s; omega, by show (4 : Int) ≠ 0; decide⟩
                        · rw [pt_4 hpr hdg h4] at ht
                          cases ht)))
         · skip
           refine bw_aload rfl rfl ?_
           refine bw_callVv (e := d - 1) (as := []) rfl (by omega) rfl rfl (Nat.le_of_ble_eq_true rfl) (Nat.le_of_ble_eq_true rfl) rfl (m_looksAt hR hP v1 z1 (by omega) (by omega)) (fun M35 hM35 => ?_)
           obtain ⟨u35, hP, v35, a35, b35⟩ := hM35
           have hR := u35.RF hR
           have H1 := H1.P u35
           have n1 : gI M35 567 20 = lsN s := (u35.sl 20 (qP_no (by omega))).trans n1
           have v1 := v35
           have U := U.trans u35.toL
           refine bw_aload rfl rfl ?_
           refine bw_callVj (e := d - 1) (as := []) rfl (by omega) rfl rfl (Nat.le_of_ble_eq_true rfl) (Nat.le_of_ble_eq_true rfl) rfl (m_goesWell hR) (fun r39 hr39 => ?_)
           refine bw_ifeq rfl (fun c42 => ?_) (fun c42 => ?_)
           · first
             | (exfalso; omega)
             | (refine bw_aload rfl rfl ?_
                refine bw_callVj (e := d - 1) (as := []) rfl (by omega) rfl rfl (Nat.le_of_ble_eq_true rfl) (Nat.le_of_ble_eq_true rfl) rfl (m_goesWell hR) (fun r50 hr50 => ?_)
                refine bw_ifne rfl (fun c53 => ?_) (fun c53 => ?_)
                · first
                  | (exfalso; omega)
                  | (have hz58 : rs M46 a n (.inr (lsP s)) := ⟨by omega, by rw [v1]; exact ek⟩
                     refine bw_aload rfl rfl ?_
                     refine bw_push rfl ?_
                     refine bw_callVi (e := d - 1) (as := [_]) rfl (by omega) rfl rfl (Nat.le_of_ble_eq_true rfl) (Nat.le_of_ble_eq_true rfl) rfl (m_takes hR hP hz58 (by omega)) (fun r61 M61 hM61 => ?_)
                     obtain ⟨u61, v61, w61, x61, y61⟩ := hM61
                     have hR := u61.RF hR
                     have hw := tak_01 (a := a) (n := n) (w := 17) (p := lsP s)
                     have H61 := H1.P u61.P10
                     have n61 : gI M61 567 20 = lsN s + 1 := (u61.P10.sl 20 (qP_no (by omega))).trans (by omega)
                     have U := U.trans u61.P10.toL
                     refine bw_ifeq rfl (fun c64 => ?_) (fun c64 => ?_)
                     · skip
                       have h17 : wo a n (lsP s) ≠ 17 := hw.2 (by omega)
                       rw [tak_n h17] at v61
                       have v61b : gI M61 567 9 = lsP s := (y61 (by omega) (by omega)).trans hz58.2
                       refine bw_aload rfl rfl ?_
                       refine bw_aload rfl rfl ?_
                       refine bw_getI rfl rfl ?_
                       refine bw_callVj (e := d - 1) (as := [_]) rfl (by omega) rfl rfl (Nat.le_of_ble_eq_true rfl) (Nat.le_of_ble_eq_true rfl) rfl (m_isDigit hR v61.1 (by omega) (by omega)) (fun r93 hr93 => ?_)
                       rw [v61b] at hr93
                       refine bw_ifeq rfl (fun c96 => ?_) (fun c96 => ?_)
                       · skip
                         refine bw_aload rfl rfl ?_
                         refine bw_callVv (e := d - 1) (as := []) rfl (by omega) rfl rfl (Nat.le_of_ble_eq_true rfl) (Nat.le_of_ble_eq_true rfl) rfl (m_opens hR v61.1 v61.2 H61 n61 (by omega) (by omega)) (fun M107 hM107 => ?_)
                         refine bw_push rfl ?_
                         refine bw_retz rfl rfl (by omega) ?_
                         have hpr : prP a n (lsP s) := w1.elim (fun k => k.1) (fun k => absurd k.2 (by omega))
                         have hdg : ¬ (48 ≤ a (lsP s) ∧ a (lsP s) ≤ 57) := by omega
                         have h4 : lsN s ≠ 40 := by omega
                         have hp2 := pt_o (on := on) hpr hdg h4 h17
                         obtain ⟨u107, v107, x107, y107⟩ := hM107
                         refine ⟨rfl, _, rfl, U.trans u107, Or.inl rfl, v107, fun e he => ?_, fun t w ht => ?_⟩
                         · rw [hp2] at he
                           exact x107 e he
                         · rw [hp2] at ht
                           obtain ⟨z1, z2, z3⟩ := y107 t w ht
                           exact ⟨z1, z2, z3.symm⟩
                       · skip
                         refine bw_aload rfl rfl ?_
                         refine bw_iload rfl rfl ?_
                         refine bw_callVv (e := d - 1) (as := [_]) rfl (by omega) rfl rfl (Nat.le_of_ble_eq_true rfl) (Nat.le_of_ble_eq_true rfl) rfl (m_readsDrawings (s := s) hR v61.1 v61.2 H61.1 (by omega) (by omega)) (fun M101 hM101 => ?_)
                         refine bw_push rfl ?_
                         refine bw_retz rfl rfl (by omega) ?_
                         have hpr : prP a n (lsP s) := w1.elim (fun k => k.1) (fun k => absurd k.2 (by omega))
                         have hdg : 48 ≤ a (lsP s) ∧ a (lsP s) ≤ 57 := by omega
                         have h4 : lsN s ≠ 40 := by omega
                         obtain ⟨u101, v101, w101⟩ := hM101
                         first
                         | (exfalso; omega)
                         | (rcases hx : (dr1 a n s).1 with e0 | q0
                            · have hc := (a35 e0 hx).1
                              have hc2 := (a35 e0 hx).2.2
                              exfalso; omega
                            · have hp2 := pt_dr (on := on) hpr hdg hx h4
                              rcases hy : (dr3 a n on s).1 with e1 | q1
                              · refine ⟨rfl, _, rfl, U.trans u101.DtoL, Or.inr rfl, v101.1, fun e he => ?_, fun t w ht => ?_⟩
                                · rw [hp2, dr_f hy] at he
                                  cases he
                                  have := v101.2
                                  rw [hy] at this
                                  exact this
                                · rw [hp2, dr_f hy] at ht
                                  cases ht
                              · refine ⟨rfl, _, rfl, U.trans u101.DtoL, Or.inr rfl, v101.1, fun e he => ?_, fun t w ht => ?_⟩
                                · rw [hp2, dr_g hy] at he
                                  cases he
                                · rw [hp2, dr_g hy] at ht
                                  cases ht
                                  have h5 := v101.2
                                  rw [hy] at h5
                                  exact ⟨h5, ⟨LQ_D H61 u101 (w101 q1 hy) rfl rfl rfl, (u101.sl 20 (qD_no (by omega))).trans n61⟩, rfl⟩)
                     · skip
                       have h17 : wo a n (lsP s) = 17 := hw.1 (by omega)
                       rw [tak_y h17] at v61
                       refine bw_aload rfl rfl ?_
                       refine bw_iload rfl rfl ?_
                       refine bw_callVi (e := d - 1) (as := [_]) rfl (by omega) rfl rfl (Nat.le_of_ble_eq_true rfl) (Nat.le_of_ble_eq_true rfl) rfl (m_times hR v61.1 v61.2 (by omega)) (fun r69 M69 hM69 => ?_)
                       obtain ⟨u69, v69, w69⟩ := hM69
                       have hR := u69.RF hR
                       have H69 := H61.P u69
                       have n69 : gI M69 567 20 = lsN s + 1 := (u69.sl 20 (qP_no (by omega))).trans n61
                       subst w69
                       have U := U.trans u69.toL
                       refine bw_istore (ls2 := [_, _, _]) rfl rfl (Nat.le_of_ble_eq_true rfl) rfl ?_
                       refine bw_aload rfl rfl ?_
                       refine bw_callVj (e := d - 1) (as := []) rfl (by omega) rfl rfl (Nat.le_of_ble_eq_true rfl) (Nat.le_of_ble_eq_true rfl) rfl (m_goesWell hR) (fun r74 hr74 => ?_)
                       refine bw_ifeq rfl (fun c77 => ?_) (fun c77 => ?_)
                       · skip
                         refine bw_push rfl ?_
                         refine bw_retz rfl rfl (by omega) ?_
                         have hpr : prP a n (lsP s) := w1.elim (fun k => k.1) (fun k => absurd k.2 (by omega))
                         have hdg : ¬ (48 ≤ a (lsP s) ∧ a (lsP s) ≤ 57) := fun k => by
                           have e : we a n (lsP s) = lsP s := rn_f (pSm_f.mpr (by omega))
                           have w0 : wo a n (lsP s) = -1 := ow_none (by rw [e]; omega)
                           omega
                         have h4 : lsN s ≠ 40 := by omega
                         have hp2 := pt_b (on := on) hpr hdg h4 h17
                         first
                         | (obtain ⟨q, hq⟩ := (rs_0 v69.2).mp (by omega)
                            refine ⟨rfl, _, rfl, U.trans hM83.1.HtoL, Or.inr rfl, v69.1.toH hM83.1, fun e he => ?_, fun t w ht => ?_⟩
                            · rw [hp2, bk_g hq] at he
                              cases he
                            · rw [hp2, bk_g hq] at ht
                              cases ht
                              have hz69 := v69.2
                              rw [hq] at hz69
                              exact ⟨rs_H hz69 hM83.1, ⟨LQ_D H69 hM83.1.HtoD hM83.2 rfl rfl rfl, (hM83.1.sl 20 (fun k => by have : (20 : Int) = 16 := k; omega)).trans n69⟩, rfl⟩)
                         | (obtain ⟨e0, hq, he0⟩ := rs_l v69.2 (by omega)
                            refine ⟨rfl, _, rfl, U, Or.inr rfl, v69.1, fun e he => ?_, fun t w ht => ?_⟩
                            · rw [hp2, bk_f hq] at he
                              cases he
                              exact he0
                            · rw [hp2, bk_f hq] at ht
                              cases ht)
                       · skip
                         refine bw_aload rfl rfl ?_
                         refine bw_push rfl ?_
                         refine bw_iload rfl rfl ?_
                         refine bw_callVv (e := d - 1) (as := [_, _]) rfl (by omega) rfl rfl (Nat.le_of_ble_eq_true rfl) (Nat.le_of_ble_eq_true rfl) rfl (m_holdsOne hR H69.1) (fun M83 hM83 => ?_)
                         refine bw_push rfl ?_
                         refine bw_retz rfl rfl (by omega) ?_
                         have hpr : prP a n (lsP s) := w1.elim (fun k => k.1) (fun k => absurd k.2 (by omega))
                         have hdg : ¬ (48 ≤ a (lsP s) ∧ a (lsP s) ≤ 57) := fun k => by
                           have e : we a n (lsP s) = lsP s := rn_f (pSm_f.mpr (by omega))
                           have w0 : wo a n (lsP s) = -1 := ow_none (by rw [e]; omega)
                           omega
                         have h4 : lsN s ≠ 40 := by omega
                         have hp2 := pt_b (on := on) hpr hdg h4 h17
                         first
                         | (obtain ⟨q, hq⟩ := (rs_0 v69.2).mp (by omega)
                            refine ⟨rfl, _, rfl, U.trans hM83.1.HtoL, Or.inr rfl, v69.1.toH hM83.1, fun e he => ?_, fun t w ht => ?_⟩
                            · rw [hp2, bk_g hq] at he
                              cases he
                            · rw [hp2, bk_g hq] at ht
                              cases ht
                              have hz69 := v69.2
                              rw [hq] at hz69
                              exact ⟨rs_H hz69 hM83.1, ⟨LQ_D H69 hM83.1.HtoD hM83.2 rfl rfl rfl, (hM83.1.sl 20 (fun k => by have : (20 : Int) = 16 := k; omega)).trans n69⟩, rfl⟩)
                         | (obtain ⟨e0, hq, he0⟩ := rs_l v69.2 (by omega)
                            refine ⟨rfl, _, rfl, U, Or.inr rfl, v69.1, fun e he => ?_, fun t w ht => ?_⟩
                            · rw [hp2, bk_f hq] at he
                              cases he
                              exact he0
                            · rw [hp2, bk_f hq] at ht
                              cases ht))
                · first
                  | (exfalso; omega)
                  | (refine bw_push rfl ?_
                     refine bw_retz rfl rfl (by omega) ?_
                     first
                     | (have hn : ¬ prP a n (lsP s) := w1.elim (fun k => absurd k.2 (by omega)) (fun k => k.1)
                        refine ⟨rfl, _, rfl, U, Or.inl rfl, f13.1, fun e he => ?_, fun t w ht => ?_⟩
                        · rw [pt_n hn] at he
                          cases he
                          rw [← v1]; exact f13.2
                        · rw [pt_n hn] at ht
                          cases ht)
                     | (have hpr : prP a n (lsP s) := w1.elim (fun k => k.1) (fun k => absurd k.2 (by omega))
                        have hdg : 48 ≤ a (lsP s) ∧ a (lsP s) ≤ 57 := by omega
                        rcases hx : (dr1 a n s).1 with e0 | q0
                        · first
                          | (have hc := (a35 e0 hx).1
                             have hc2 := (a35 e0 hx).2.2
                             have := w46
                             exfalso; omega)
                          | (refine ⟨rfl, _, rfl, U, Or.inl rfl, hP, fun e he => ?_, fun t w ht => ?_⟩
                             · rw [pt_d hpr hdg hx] at he
                               cases he
                               exact a35 e0 hx
                             · rw [pt_d hpr hdg hx] at ht
                               cases ht)
                        · have hc := b35 q0 hx
                          first
                          | (exfalso; omega)
                          | (have h4 : lsN s = 40 := by omega
                             refine ⟨rfl, _, rfl, U, Or.inl rfl, hP, fun e he => ?_, fun t w ht => ?_⟩
                             · rw [pt_d4 hpr hdg hx h4] at he
                               cases he
                               exact ⟨by show gI M46 567 11 = 4; omega, by show gI M46 567 12 = lsP s; omega, by show (4 : Int) ≠ 0; decide⟩
                             · rw [pt_d4 hpr hdg hx h4] at ht
                               cases ht))
                     | (have hpr : prP a n (lsP s) := w1.elim (fun k => k.1) (fun k => absurd k.2 (by omega))
                        have hdg : ¬ (48 ≤ a (lsP s) ∧ a (lsP s) ≤ 57) := by omega
                        have h4 : lsN s = 40 := by omega
                        refine ⟨rfl, _, rfl, U, Or.inl rfl, hP, fun e he => ?_, fun t w ht => ?_⟩
                        · rw [pt_4 hpr hdg h4] at he
                          cases he
                          exact ⟨by show gI M46 567 11 = 4; omega, by show gI M46 567 12 = lsP s; omega, by show (4 : Int) ≠ 0; decide⟩
                        · rw [pt_4 hpr hdg h4] at ht
                          cases ht)))
           · first
             | (exfalso; omega)
             | (refine bw_aload rfl rfl ?_
                refine bw_callVv (e := d - 1) (as := []) rfl (by omega) rfl rfl (Nat.le_of_ble_eq_true rfl) (Nat.le_of_ble_eq_true rfl) rfl (m_counts hR (by omega) (by omega) (by omega)) (fun M46 hM46 => ?_)
                obtain ⟨u46, m46, v46, w46⟩ := hM46
                have hR := u46.RF hR
                have hP := hP.fr5 u46 (fun k => k) (fun k => k) (q20_no (by omega)) (by omega)
                have H1 := H1.f5 u46 (q20_no (by omega)) (q20_no (by omega))
                have v0 := v1
                have v1 := v46.trans v1
                have U := U.trans u46.to20
                refine bw_aload rfl rfl ?_
                refine bw_callVj (e := d - 1) (as := []) rfl (by omega) rfl rfl (Nat.le_of_ble_eq_true rfl) (Nat.le_of_ble_eq_true rfl) rfl (m_goesWell hR) (fun r50 hr50 => ?_)
                refine bw_ifne rfl (fun c53 => ?_) (fun c53 => ?_)
                · first
                  | (exfalso; omega)
                  | (have hz58 : rs M46 a n (.inr (lsP s)) := ⟨by omega, by rw [v1]; exact ek⟩
                     refine bw_aload rfl rfl ?_
                     refine bw_push rfl ?_
                     refine bw_callVi (e := d - 1) (as := [_]) rfl (by omega) rfl rfl (Nat.le_of_ble_eq_true rfl) (Nat.le_of_ble_eq_true rfl) rfl (m_takes hR hP hz58 (by omega)) (fun r61 M61 hM61 => ?_)
                     obtain ⟨u61, v61, w61, x61, y61⟩ := hM61
                     have hR := u61.RF hR
                     have hw := tak_01 (a := a) (n := n) (w := 17) (p := lsP s)
                     have H61 := H1.P u61.P10
                     have n61 : gI M61 567 20 = lsN s + 1 := (u61.P10.sl 20 (qP_no (by omega))).trans (by omega)
                     have U := U.trans u61.P10.toL
                     refine bw_ifeq rfl (fun c64 => ?_) (fun c64 => ?_)
                     · skip
                       have h17 : wo a n (lsP s) ≠ 17 := hw.2 (by omega)
                       rw [tak_n h17] at v61
                       have v61b : gI M61 567 9 = lsP s := (y61 (by omega) (by omega)).trans hz58.2
                       refine bw_aload rfl rfl ?_
                       refine bw_aload rfl rfl ?_
                       refine bw_getI rfl rfl ?_
                       refine bw_callVj (e := d - 1) (as := [_]) rfl (by omega) rfl rfl (Nat.le_of_ble_eq_true rfl) (Nat.le_of_ble_eq_true rfl) rfl (m_isDigit hR v61.1 (by omega) (by omega)) (fun r93 hr93 => ?_)
                       rw [v61b] at hr93
                       refine bw_ifeq rfl (fun c96 => ?_) (fun c96 => ?_)
                       · skip
                         refine bw_aload rfl rfl ?_
                         refine bw_callVv (e := d - 1) (as := []) rfl (by omega) rfl rfl (Nat.le_of_ble_eq_true rfl) (Nat.le_of_ble_eq_true rfl) rfl (m_opens hR v61.1 v61.2 H61 n61 (by omega) (by omega)) (fun M107 hM107 => ?_)
                         refine bw_push rfl ?_
                         refine bw_retz rfl rfl (by omega) ?_
                         have hpr : prP a n (lsP s) := w1.elim (fun k => k.1) (fun k => absurd k.2 (by omega))
                         have hdg : ¬ (48 ≤ a (lsP s) ∧ a (lsP s) ≤ 57) := by omega
                         have h4 : lsN s ≠ 40 := by omega
                         have hp2 := pt_o (on := on) hpr hdg h4 h17
                         obtain ⟨u107, v107, x107, y107⟩ := hM107
                         refine ⟨rfl, _, rfl, U.trans u107, Or.inl rfl, v107, fun e he => ?_, fun t w ht => ?_⟩
                         · rw [hp2] at he
                           exact x107 e he
                         · rw [hp2] at ht
                           obtain ⟨z1, z2, z3⟩ := y107 t w ht
                           exact ⟨z1, z2, z3.symm⟩
                       · skip
                         refine bw_aload rfl rfl ?_
                         refine bw_iload rfl rfl ?_
                         refine bw_callVv (e := d - 1) (as := [_]) rfl (by omega) rfl rfl (Nat.le_of_ble_eq_true rfl) (Nat.le_of_ble_eq_true rfl) rfl (m_readsDrawings (s := s) hR v61.1 v61.2 H61.1 (by omega) (by omega)) (fun M101 hM101 => ?_)
                         refine bw_push rfl ?_
                         refine bw_retz rfl rfl (by omega) ?_
                         have hpr : prP a n (lsP s) := w1.elim (fun k => k.1) (fun k => absurd k.2 (by omega))
                         have hdg : 48 ≤ a (lsP s) ∧ a (lsP s) ≤ 57 := by omega
                         have h4 : lsN s ≠ 40 := by omega
                         obtain ⟨u101, v101, w101⟩ := hM101
                         first
                         | (exfalso; omega)
                         | (rcases hx : (dr1 a n s).1 with e0 | q0
                            · have hc := (a35 e0 hx).1
                              have hc2 := (a35 e0 hx).2.2
                              exfalso; omega
                            · have hp2 := pt_dr (on := on) hpr hdg hx h4
                              rcases hy : (dr3 a n on s).1 with e1 | q1
                              · refine ⟨rfl, _, rfl, U.trans u101.DtoL, Or.inr rfl, v101.1, fun e he => ?_, fun t w ht => ?_⟩
                                · rw [hp2, dr_f hy] at he
                                  cases he
                                  have := v101.2
                                  rw [hy] at this
                                  exact this
                                · rw [hp2, dr_f hy] at ht
                                  cases ht
                              · refine ⟨rfl, _, rfl, U.trans u101.DtoL, Or.inr rfl, v101.1, fun e he => ?_, fun t w ht => ?_⟩
                                · rw [hp2, dr_g hy] at he
                                  cases he
                                · rw [hp2, dr_g hy] at ht
                                  cases ht
                                  have h5 := v101.2
                                  rw [hy] at h5
                                  exact ⟨h5, ⟨LQ_D H61 u101 (w101 q1 hy) rfl rfl rfl, (u101.sl 20 (qD_no (by omega))).trans n61⟩, rfl⟩)
                     · skip
                       have h17 : wo a n (lsP s) = 17 := hw.1 (by omega)
                       rw [tak_y h17] at v61
                       refine bw_aload rfl rfl ?_
                       refine bw_iload rfl rfl ?_
                       refine bw_callVi (e := d - 1) (as := [_]) rfl (by omega) rfl rfl (Nat.le_of_ble_eq_true rfl) (Nat.le_of_ble_eq_true rfl) rfl (m_times hR v61.1 v61.2 (by omega)) (fun r69 M69 hM69 => ?_)
                       obtain ⟨u69, v69, w69⟩ := hM69
                       have hR := u69.RF hR
                       have H69 := H61.P u69
                       have n69 : gI M69 567 20 = lsN s + 1 := (u69.sl 20 (qP_no (by omega))).trans n61
                       subst w69
                       have U := U.trans u69.toL
                       refine bw_istore (ls2 := [_, _, _]) rfl rfl (Nat.le_of_ble_eq_true rfl) rfl ?_
                       refine bw_aload rfl rfl ?_
                       refine bw_callVj (e := d - 1) (as := []) rfl (by omega) rfl rfl (Nat.le_of_ble_eq_true rfl) (Nat.le_of_ble_eq_true rfl) rfl (m_goesWell hR) (fun r74 hr74 => ?_)
                       refine bw_ifeq rfl (fun c77 => ?_) (fun c77 => ?_)
                       · skip
                         refine bw_push rfl ?_
                         refine bw_retz rfl rfl (by omega) ?_
                         have hpr : prP a n (lsP s) := w1.elim (fun k => k.1) (fun k => absurd k.2 (by omega))
                         have hdg : ¬ (48 ≤ a (lsP s) ∧ a (lsP s) ≤ 57) := fun k => by
                           have e : we a n (lsP s) = lsP s := rn_f (pSm_f.mpr (by omega))
                           have w0 : wo a n (lsP s) = -1 := ow_none (by rw [e]; omega)
                           omega
                         have h4 : lsN s ≠ 40 := by omega
                         have hp2 := pt_b (on := on) hpr hdg h4 h17
                         first
                         | (obtain ⟨q, hq⟩ := (rs_0 v69.2).mp (by omega)
                            refine ⟨rfl, _, rfl, U.trans hM83.1.HtoL, Or.inr rfl, v69.1.toH hM83.1, fun e he => ?_, fun t w ht => ?_⟩
                            · rw [hp2, bk_g hq] at he
                              cases he
                            · rw [hp2, bk_g hq] at ht
                              cases ht
                              have hz69 := v69.2
                              rw [hq] at hz69
                              exact ⟨rs_H hz69 hM83.1, ⟨LQ_D H69 hM83.1.HtoD hM83.2 rfl rfl rfl, (hM83.1.sl 20 (fun k => by have : (20 : Int) = 16 := k; omega)).trans n69⟩, rfl⟩)
                         | (obtain ⟨e0, hq, he0⟩ := rs_l v69.2 (by omega)
                            refine ⟨rfl, _, rfl, U, Or.inr rfl, v69.1, fun e he => ?_, fun t w ht => ?_⟩
                            · rw [hp2, bk_f hq] at he
                              cases he
                              exact he0
                            · rw [hp2, bk_f hq] at ht
                              cases ht)
                       · skip
                         refine bw_aload rfl rfl ?_
                         refine bw_push rfl ?_
                         refine bw_iload rfl rfl ?_
                         refine bw_callVv (e := d - 1) (as := [_, _]) rfl (by omega) rfl rfl (Nat.le_of_ble_eq_true rfl) (Nat.le_of_ble_eq_true rfl) rfl (m_holdsOne hR H69.1) (fun M83 hM83 => ?_)
                         refine bw_push rfl ?_
                         refine bw_retz rfl rfl (by omega) ?_
                         have hpr : prP a n (lsP s) := w1.elim (fun k => k.1) (fun k => absurd k.2 (by omega))
                         have hdg : ¬ (48 ≤ a (lsP s) ∧ a (lsP s) ≤ 57) := fun k => by
                           have e : we a n (lsP s) = lsP s := rn_f (pSm_f.mpr (by omega))
                           have w0 : wo a n (lsP s) = -1 := ow_none (by rw [e]; omega)
                           omega
                         have h4 : lsN s ≠ 40 := by omega
                         have hp2 := pt_b (on := on) hpr hdg h4 h17
                         first
                         | (obtain ⟨q, hq⟩ := (rs_0 v69.2).mp (by omega)
                            refine ⟨rfl, _, rfl, U.trans hM83.1.HtoL, Or.inr rfl, v69.1.toH hM83.1, fun e he => ?_, fun t w ht => ?_⟩
                            · rw [hp2, bk_g hq] at he
                              cases he
                            · rw [hp2, bk_g hq] at ht
                              cases ht
                              have hz69 := v69.2
                              rw [hq] at hz69
                              exact ⟨rs_H hz69 hM83.1, ⟨LQ_D H69 hM83.1.HtoD hM83.2 rfl rfl rfl, (hM83.1.sl 20 (fun k => by have : (20 : Int) = 16 := k; omega)).trans n69⟩, rfl⟩)
                         | (obtain ⟨e0, hq, he0⟩ := rs_l v69.2 (by omega)
                            refine ⟨rfl, _, rfl, U, Or.inr rfl, v69.1, fun e he => ?_, fun t w ht => ?_⟩
                            · rw [hp2, bk_f hq] at he
                              cases he
                              exact he0
                            · rw [hp2, bk_f hq] at ht
                              cases ht))
                · first
                  | (exfalso; omega)
                  | (refine bw_push rfl ?_
                     refine bw_retz rfl rfl (by omega) ?_
                     first
                     | (have hn : ¬ prP a n (lsP s) := w1.elim (fun k => absurd k.2 (by omega)) (fun k => k.1)
                        refine ⟨rfl, _, rfl, U, Or.inl rfl, f13.1, fun e he => ?_, fun t w ht => ?_⟩
                        · rw [pt_n hn] at he
                          cases he
                          rw [← v1]; exact f13.2
                        · rw [pt_n hn] at ht
                          cases ht)
                     | (have hpr : prP a n (lsP s) := w1.elim (fun k => k.1) (fun k => absurd k.2 (by omega))
                        have hdg : 48 ≤ a (lsP s) ∧ a (lsP s) ≤ 57 := by omega
                        rcases hx : (dr1 a n s).1 with e0 | q0
                        · first
                          | (have hc := (a35 e0 hx).1
                             have hc2 := (a35 e0 hx).2.2
                             have := w46
                             exfalso; omega)
                          | (refine ⟨rfl, _, rfl, U, Or.inl rfl, hP, fun e he => ?_, fun t w ht => ?_⟩
                             · rw [pt_d hpr hdg hx] at he
                               cases he
                               exact a35 e0 hx
                             · rw [pt_d hpr hdg hx] at ht
                               cases ht)
                        · have hc := b35 q0 hx
                          first
                          | (exfalso; omega)
                          | (have h4 : lsN s = 40 := by omega
                             refine ⟨rfl, _, rfl, U, Or.inl rfl, hP, fun e he => ?_, fun t w ht => ?_⟩
                             · rw [pt_d4 hpr hdg hx h4] at he
                               cases he
                               exact ⟨by show gI M46 567 11 = 4; omega, by show gI M46 567 12 = lsP s; omega, by show (4 : Int) ≠ 0; decide⟩
                             · rw [pt_d4 hpr hdg hx h4] at ht
                               cases ht))
                     | (have hpr : prP a n (lsP s) := w1.elim (fun k => k.1) (fun k => absurd k.2 (by omega))
                        have hdg : ¬ (48 ≤ a (lsP s) ∧ a (lsP s) ≤ 57) := by omega
                        have h4 : lsN s = 40 := by omega
                        refine ⟨rfl, _, rfl, U, Or.inl rfl, hP, fun e he => ?_, fun t w ht => ?_⟩
                        · rw [pt_4 hpr hdg h4] at he
                          cases he
                          exact ⟨by show gI M46 567 11 = 4; omega, by show gI M46 567 12 = lsP s; omega, by show (4 : Int) ≠ 0; decide⟩
                        · rw [pt_4 hpr hdg h4] at ht
                          cases ht))))
