/-- a statement -/
noncomputable def stS (S a : Int → Int) (n p : Int) : Rp × (Int → Int) :=
  if ¬ (wo a n p = 1 ∨ wo a n p = 5 ∨ wo a n p = 9 ∨ wo a n p = 16) then (.inl (1, p), S)
  else @ite _ (S 5 = 60 ∨ flP S (wo a n p)) (Classical.propDecidable _) (.inl (4, p), S)
    (if wo a n p = 1 then laS S a n (sk a n (we a n p)) else if wo a n p = 5 then clS S a n (.inr (sk a n (we a n p))) else if wo a n p = 9 then slS S a n (.inr (sk a n (we a n p))) else hdS S a n (.inr (sk a n (we a n p))))
theorem st_1 {S a : Int → Int} {n p : Int} (h : ¬ (wo a n p = 1 ∨ wo a n p = 5 ∨ wo a n p = 9 ∨ wo a n p = 16)) : stS S a n p = (.inl (1, p), S) := if_pos h
theorem st_4 {S a : Int → Int} {n p : Int} (h : wo a n p = 1 ∨ wo a n p = 5 ∨ wo a n p = 9 ∨ wo a n p = 16) (g : S 5 = 60 ∨ flP S (wo a n p)) : stS S a n p = (.inl (4, p), S) := (if_neg (fun k => k h)).trans (if_pos g)
theorem st_g {S a : Int → Int} {n p : Int} (h : wo a n p = 1 ∨ wo a n p = 5 ∨ wo a n p = 9 ∨ wo a n p = 16) (g : ¬ (S 5 = 60 ∨ flP S (wo a n p))) : stS S a n p = (if wo a n p = 1 then laS S a n (sk a n (we a n p)) else if wo a n p = 5 then clS S a n (.inr (sk a n (we a n p))) else if wo a n p = 9 then slS S a n (.inr (sk a n (we a n p))) else hdS S a n (.inr (sk a n (we a n p)))) := (if_neg (fun k => k h)).trans (if_neg g)
/-- what a scene that is read keeps to: its counts -/
abbrev CT (S : Int → Int) : Prop := (1 ≤ S 0 ∧ S 0 ≤ 96) ∧ (0 ≤ S 1 ∧ S 1 ≤ 6) ∧ (0 ≤ S 2 ∧ S 2 ≤ 40) ∧ (0 ≤ S 3 ∧ S 3 ≤ 12) ∧ (0 ≤ S 4 ∧ S 4 ≤ 12) ∧ (0 ≤ S 5 ∧ S 5 ≤ 60)
set_option maxRecDepth 20000 in
set_option maxHeartbeats 4000000 in
theorem m_readsStatement {d L : Nat} {M : abMem} {r : abRf} (hR : RF r M) {a : Int → Int} {n p : Int} (hP : PS M a n) (hz : rs M a n (.inr p)) {S : Int → Int} (hS : SIm (gI M 568) 1006 S) (hc : CT S) (hd : 10 ≤ d) : abW d (0, 0) 185 0 (abEnt (abL 185) [vr (some 567)]) [] (0, 0) (A0 L) M (qV (A0 L) (fun N => s5 pR qR M N ∧ RS N a n (stS S a n p).1 ∧ SC M N (stS S a n p).2)) := by
  have p1 := hP.sz
  have p2 := hP.ok.1
  have p3 := hP.he
  have c0 := hc.1
  have c1 := hc.2.1
  have c2 := hc.2.2.1
  have c3 := hc.2.2.2.1
  have c4 := hc.2.2.2.2.1
  have c5 := hc.2.2.2.2.2
  show abW d (0, 0) 185 0 [some (vr (some 567)), none] [] (0, 0) (A0 L) M (qV (A0 L) (fun N => s5 pR qR M N ∧ RS N a n (stS S a n p).1 ∧ SC M N (stS S a n p).2))
  refine bw_aload rfl rfl ?_
  refine bw_callVi (e := d - 1) (as := []) rfl (by omega) rfl rfl (Nat.le_of_ble_eq_true rfl) (Nat.le_of_ble_eq_true rfl) rfl (m_comes hR hP (by omega)) (fun r1 M1 hM1 => ?_)
  obtain ⟨u1, v1, w1⟩ := hM1
  have hR := u1.RF hR
  have s1 : skM M a n = p := hz.2
  have s8 := skM_in hP
  rw [s1] at v1 w1 s8
  have hP1 := hP.to9 u1 (by omega)
  have hz1 := rs_p9 hP hz u1 v1
  have z1 := hz1.1
  have hS1 : SIm (gI M1 568) 1006 S := by rw [s5_8 u1]; exact hS
  have hC1 : SC M M1 S := ⟨hS1, fun j _ => by rw [s5_8 u1]⟩
  refine bw_istore (ls2 := [_, _]) rfl rfl (Nat.le_of_ble_eq_true rfl) rfl ?_
  refine bw_iload rfl rfl ?_
  refine bw_push rfl ?_
  refine bw_iceq rfl (fun c7 => ?_) (fun c7 => ?_)
  · skip
    refine bw_aload rfl rfl ?_
    refine bw_push rfl ?_
    refine bw_callVe (e := d - 1) (as := [_]) rfl (by omega) rfl rfl (Nat.le_of_ble_eq_true rfl) (Nat.le_of_ble_eq_true rfl) rfl (m_readOf hR hS1 (by omega)) ?_
    refine bw_push rfl ?_
    refine bw_iceq rfl (fun c44 => ?_) (fun c44 => ?_)
    · skip
      refine bw_aload rfl rfl ?_
      refine bw_push rfl ?_
      refine bw_aload rfl rfl ?_
      refine bw_getI rfl rfl ?_
      refine bw_callVv (e := d - 1) (as := [_, _]) rfl (by omega) rfl rfl (Nat.le_of_ble_eq_true rfl) (Nat.le_of_ble_eq_true rfl) rfl (m_faults hR) (fun M61 hM61 => ?_)
      have hR := hM61.f5.RF hR
      have g61 := fal_ne hM61 (by decide)
      refine bw_aload rfl rfl ?_
      refine bw_callVj (e := d - 1) (as := []) rfl (by omega) rfl rfl (Nat.le_of_ble_eq_true rfl) (Nat.le_of_ble_eq_true rfl) rfl (m_goesWell hR) (fun r65 hr65 => ?_)
      refine bw_ifne rfl (fun c68 => ?_) (fun c68 => ?_)
      · first
        | (exfalso; omega)
        | (refine bw_aload rfl rfl ?_
           refine bw_callVv (e := d - 1) (as := []) rfl (by omega) rfl rfl (Nat.le_of_ble_eq_true rfl) (Nat.le_of_ble_eq_true rfl) rfl (m_passes hR hP1 (by omega)) (fun M73 hM73 => ?_)
           obtain ⟨u73, v73, w73⟩ := hM73
           have hR := u73.RF hR
           have s2 : skM M1 a n = p := hz1.2
           rw [s2] at v73 w73
           have e2 := we_in hP.ok (k := p) ⟨s8.1, s8.2.1⟩
           have hP2 := hP1.toP u73.P10 (by omega)
           have hz2 : rs M73 a n (.inr (sk a n (we a n p))) := ⟨(s5P_11 u73).1.trans z1, by rw [w73]⟩
           have hC2 := hC1.f5 u73
           have hU : s5 pR qR M M73 := (u1.toP.trans u73.P10).toL.toR
           have hst : ¬ (S 5 = 60 ∨ flP S (wo a n p)) := fun k => k.elim (fun k => by omega) (fun k => by rw [w1] at hr49; exact hr49.elim (fun q => by omega) (fun q => q.1 k))
           have hst := st_g (S := S) (a := a) (n := n) (p := p) (by omega) hst
           refine bw_iload rfl rfl ?_
           by_cases s77_0 : r1 = 1
           · refine bw_switch (t := 112) rfl (by rw [s77_0]; rfl) ?_
             refine bw_aload rfl rfl ?_
             refine bw_callVv (e := d - 1) (as := []) rfl (by omega) rfl rfl (Nat.le_of_ble_eq_true rfl) (Nat.le_of_ble_eq_true rfl) rfl (m_readsLayer hR hP2 hz2 hC2.1 (by unfold flP at hr49; omega) (by omega) (by omega)) (fun M113 hM113 => ?_)
             refine bw_goto rfl ?_
             refine bw_retv rfl rfl ?_
             first
             | (rw [hst, if_pos (by omega)]
                exact ⟨rfl, rfl, hU.trans hM113.1, hM113.2.1, hC2.tr hM113.2.2⟩)
             | (rw [hst, if_neg (by omega), if_pos (by omega)]
                exact ⟨rfl, rfl, hU.trans hM120.1.p8R, hM120.2.1, hC2.tr hM120.2.2⟩)
             | (rw [hst, if_neg (by omega), if_neg (by omega), if_pos (by omega)]
                exact ⟨rfl, rfl, hU.trans hM127.1.p8R, hM127.2.1, hC2.tr hM127.2.2⟩)
             | (rw [hst, if_neg (by omega), if_neg (by omega), if_neg (by omega)]
                exact ⟨rfl, rfl, hU.trans hM134.1.p8R, hM134.2.1, hC2.tr hM134.2.2⟩)
           · skip
             by_cases s77_1 : r1 = 5
             · refine bw_switch (t := 119) rfl (by rw [s77_1]; rfl) ?_
               refine bw_aload rfl rfl ?_
               refine bw_callVv (e := d - 1) (as := []) rfl (by omega) rfl rfl (Nat.le_of_ble_eq_true rfl) (Nat.le_of_ble_eq_true rfl) rfl (m_readsBox hR hP2 hz2 hC2.1 (by omega) (by omega) (by unfold flP at hr49; omega) (by omega)) (fun M120 hM120 => ?_)
               refine bw_goto rfl ?_
               refine bw_retv rfl rfl ?_
               first
               | (rw [hst, if_pos (by omega)]
                  exact ⟨rfl, rfl, hU.trans hM113.1, hM113.2.1, hC2.tr hM113.2.2⟩)
               | (rw [hst, if_neg (by omega), if_pos (by omega)]
                  exact ⟨rfl, rfl, hU.trans hM120.1.p8R, hM120.2.1, hC2.tr hM120.2.2⟩)
               | (rw [hst, if_neg (by omega), if_neg (by omega), if_pos (by omega)]
                  exact ⟨rfl, rfl, hU.trans hM127.1.p8R, hM127.2.1, hC2.tr hM127.2.2⟩)
               | (rw [hst, if_neg (by omega), if_neg (by omega), if_neg (by omega)]
                  exact ⟨rfl, rfl, hU.trans hM134.1.p8R, hM134.2.1, hC2.tr hM134.2.2⟩)
             · skip
               by_cases s77_2 : r1 = 9
               · refine bw_switch (t := 126) rfl (by rw [s77_2]; rfl) ?_
                 refine bw_aload rfl rfl ?_
                 refine bw_callVv (e := d - 1) (as := []) rfl (by omega) rfl rfl (Nat.le_of_ble_eq_true rfl) (Nat.le_of_ble_eq_true rfl) rfl (m_readsSlide hR hP2 hz2 hC2.1 (by omega) (by omega) (by unfold flP at hr49; omega) (by omega)) (fun M127 hM127 => ?_)
                 refine bw_goto rfl ?_
                 refine bw_retv rfl rfl ?_
                 first
                 | (rw [hst, if_pos (by omega)]
                    exact ⟨rfl, rfl, hU.trans hM113.1, hM113.2.1, hC2.tr hM113.2.2⟩)
                 | (rw [hst, if_neg (by omega), if_pos (by omega)]
                    exact ⟨rfl, rfl, hU.trans hM120.1.p8R, hM120.2.1, hC2.tr hM120.2.2⟩)
                 | (rw [hst, if_neg (by omega), if_neg (by omega), if_pos (by omega)]
                    exact ⟨rfl, rfl, hU.trans hM127.1.p8R, hM127.2.1, hC2.tr hM127.2.2⟩)
                 | (rw [hst, if_neg (by omega), if_neg (by omega), if_neg (by omega)]
                    exact ⟨rfl, rfl, hU.trans hM134.1.p8R, hM134.2.1, hC2.tr hM134.2.2⟩)
               · skip
                 refine bw_switch (t := 133) rfl (by simp [abSwT, abSw, Op.lookupswitch.offset, s77_0, show ¬ ((1 : Int) = r1) from fun h => s77_0 h.symm, s77_1, show ¬ ((5 : Int) = r1) from fun h => s77_1 h.symm, s77_2, show ¬ ((9 : Int) = r1) from fun h => s77_2 h.symm]) ?_
                 refine bw_aload rfl rfl ?_
                 refine bw_callVv (e := d - 1) (as := []) rfl (by omega) rfl rfl (Nat.le_of_ble_eq_true rfl) (Nat.le_of_ble_eq_true rfl) rfl (m_readsHide hR hP2 hz2 hC2.1 (by omega) (by omega) (by unfold flP at hr49; omega) (by omega)) (fun M134 hM134 => ?_)
                 refine bw_retv rfl rfl ?_
                 first
                 | (rw [hst, if_pos (by omega)]
                    exact ⟨rfl, rfl, hU.trans hM113.1, hM113.2.1, hC2.tr hM113.2.2⟩)
                 | (rw [hst, if_neg (by omega), if_pos (by omega)]
                    exact ⟨rfl, rfl, hU.trans hM120.1.p8R, hM120.2.1, hC2.tr hM120.2.2⟩)
                 | (rw [hst, if_neg (by omega), if_neg (by omega), if_pos (by omega)]
                    exact ⟨rfl, rfl, hU.trans hM127.1.p8R, hM127.2.1, hC2.tr hM127.2.2⟩)
                 | (rw [hst, if_neg (by omega), if_neg (by omega), if_neg (by omega)]
                    exact ⟨rfl, rfl, hU.trans hM134.1.p8R, hM134.2.1, hC2.tr hM134.2.2⟩))
      · first
        | (exfalso; omega)
        | (refine bw_retv rfl rfl ?_
           first
           | (exfalso; omega)
           | (rw [st_4 (by omega) (by first | exact Or.inl (by omega) | (rw [w1] at hr49; exact Or.inr (hr49.elim (fun q => q.1) (fun q => absurd q.2 (by omega))))), ← v1]
              exact ⟨rfl, rfl, (u1.toP.trans hM61.f5).toL.toR, hM61.RSn hP1 z1 (by decide), hC1.f5 hM61.f5⟩))
    · skip
      refine bw_aload rfl rfl ?_
      refine bw_iload rfl rfl ?_
      refine bw_callVj (e := d - 1) (as := [_]) rfl (by omega) rfl rfl (Nat.le_of_ble_eq_true rfl) (Nat.le_of_ble_eq_true rfl) rfl (m_isFull hR hS1 (by omega)) (fun r49 hr49 => ?_)
      refine bw_ifeq rfl (fun c52 => ?_) (fun c52 => ?_)
      · skip
        refine bw_aload rfl rfl ?_
        refine bw_callVj (e := d - 1) (as := []) rfl (by omega) rfl rfl (Nat.le_of_ble_eq_true rfl) (Nat.le_of_ble_eq_true rfl) rfl (m_goesWell hR) (fun r65 hr65 => ?_)
        refine bw_ifne rfl (fun c68 => ?_) (fun c68 => ?_)
        · first
          | (exfalso; omega)
          | (refine bw_aload rfl rfl ?_
             refine bw_callVv (e := d - 1) (as := []) rfl (by omega) rfl rfl (Nat.le_of_ble_eq_true rfl) (Nat.le_of_ble_eq_true rfl) rfl (m_passes hR hP1 (by omega)) (fun M73 hM73 => ?_)
             obtain ⟨u73, v73, w73⟩ := hM73
             have hR := u73.RF hR
             have s2 : skM M1 a n = p := hz1.2
             rw [s2] at v73 w73
             have e2 := we_in hP.ok (k := p) ⟨s8.1, s8.2.1⟩
             have hP2 := hP1.toP u73.P10 (by omega)
             have hz2 : rs M73 a n (.inr (sk a n (we a n p))) := ⟨(s5P_11 u73).1.trans z1, by rw [w73]⟩
             have hC2 := hC1.f5 u73
             have hU : s5 pR qR M M73 := (u1.toP.trans u73.P10).toL.toR
             have hst : ¬ (S 5 = 60 ∨ flP S (wo a n p)) := fun k => k.elim (fun k => by omega) (fun k => by rw [w1] at hr49; exact hr49.elim (fun q => by omega) (fun q => q.1 k))
             have hst := st_g (S := S) (a := a) (n := n) (p := p) (by omega) hst
             refine bw_iload rfl rfl ?_
             by_cases s77_0 : r1 = 1
             · refine bw_switch (t := 112) rfl (by rw [s77_0]; rfl) ?_
               refine bw_aload rfl rfl ?_
               refine bw_callVv (e := d - 1) (as := []) rfl (by omega) rfl rfl (Nat.le_of_ble_eq_true rfl) (Nat.le_of_ble_eq_true rfl) rfl (m_readsLayer hR hP2 hz2 hC2.1 (by unfold flP at hr49; omega) (by omega) (by omega)) (fun M113 hM113 => ?_)
               refine bw_goto rfl ?_
               refine bw_retv rfl rfl ?_
               first
               | (rw [hst, if_pos (by omega)]
                  exact ⟨rfl, rfl, hU.trans hM113.1, hM113.2.1, hC2.tr hM113.2.2⟩)
               | (rw [hst, if_neg (by omega), if_pos (by omega)]
                  exact ⟨rfl, rfl, hU.trans hM120.1.p8R, hM120.2.1, hC2.tr hM120.2.2⟩)
               | (rw [hst, if_neg (by omega), if_neg (by omega), if_pos (by omega)]
                  exact ⟨rfl, rfl, hU.trans hM127.1.p8R, hM127.2.1, hC2.tr hM127.2.2⟩)
               | (rw [hst, if_neg (by omega), if_neg (by omega), if_neg (by omega)]
                  exact ⟨rfl, rfl, hU.trans hM134.1.p8R, hM134.2.1, hC2.tr hM134.2.2⟩)
             · skip
               by_cases s77_1 : r1 = 5
               · refine bw_switch (t := 119) rfl (by rw [s77_1]; rfl) ?_
                 refine bw_aload rfl rfl ?_
                 refine bw_callVv (e := d - 1) (as := []) rfl (by omega) rfl rfl (Nat.le_of_ble_eq_true rfl) (Nat.le_of_ble_eq_true rfl) rfl (m_readsBox hR hP2 hz2 hC2.1 (by omega) (by omega) (by unfold flP at hr49; omega) (by omega)) (fun M120 hM120 => ?_)
                 refine bw_goto rfl ?_
                 refine bw_retv rfl rfl ?_
                 first
                 | (rw [hst, if_pos (by omega)]
                    exact ⟨rfl, rfl, hU.trans hM113.1, hM113.2.1, hC2.tr hM113.2.2⟩)
                 | (rw [hst, if_neg (by omega), if_pos (by omega)]
                    exact ⟨rfl, rfl, hU.trans hM120.1.p8R, hM120.2.1, hC2.tr hM120.2.2⟩)
                 | (rw [hst, if_neg (by omega), if_neg (by omega), if_pos (by omega)]
                    exact ⟨rfl, rfl, hU.trans hM127.1.p8R, hM127.2.1, hC2.tr hM127.2.2⟩)
                 | (rw [hst, if_neg (by omega), if_neg (by omega), if_neg (by omega)]
                    exact ⟨rfl, rfl, hU.trans hM134.1.p8R, hM134.2.1, hC2.tr hM134.2.2⟩)
               · skip
                 by_cases s77_2 : r1 = 9
                 · refine bw_switch (t := 126) rfl (by rw [s77_2]; rfl) ?_
                   refine bw_aload rfl rfl ?_
                   refine bw_callVv (e := d - 1) (as := []) rfl (by omega) rfl rfl (Nat.le_of_ble_eq_true rfl) (Nat.le_of_ble_eq_true rfl) rfl (m_readsSlide hR hP2 hz2 hC2.1 (by omega) (by omega) (by unfold flP at hr49; omega) (by omega)) (fun M127 hM127 => ?_)
                   refine bw_goto rfl ?_
                   refine bw_retv rfl rfl ?_
                   first
                   | (rw [hst, if_pos (by omega)]
                      exact ⟨rfl, rfl, hU.trans hM113.1, hM113.2.1, hC2.tr hM113.2.2⟩)
                   | (rw [hst, if_neg (by omega), if_pos (by omega)]
                      exact ⟨rfl, rfl, hU.trans hM120.1.p8R, hM120.2.1, hC2.tr hM120.2.2⟩)
                   | (rw [hst, if_neg (by omega), if_neg (by omega), if_pos (by omega)]
                      exact ⟨rfl, rfl, hU.trans hM127.1.p8R, hM127.2.1, hC2.tr hM127.2.2⟩)
                   | (rw [hst, if_neg (by omega), if_neg (by omega), if_neg (by omega)]
                      exact ⟨rfl, rfl, hU.trans hM134.1.p8R, hM134.2.1, hC2.tr hM134.2.2⟩)
                 · skip
                   refine bw_switch (t := 133) rfl (by simp [abSwT, abSw, Op.lookupswitch.offset, s77_0, show ¬ ((1 : Int) = r1) from fun h => s77_0 h.symm, s77_1, show ¬ ((5 : Int) = r1) from fun h => s77_1 h.symm, s77_2, show ¬ ((9 : Int) = r1) from fun h => s77_2 h.symm]) ?_
                   refine bw_aload rfl rfl ?_
                   refine bw_callVv (e := d - 1) (as := []) rfl (by omega) rfl rfl (Nat.le_of_ble_eq_true rfl) (Nat.le_of_ble_eq_true rfl) rfl (m_readsHide hR hP2 hz2 hC2.1 (by omega) (by omega) (by unfold flP at hr49; omega) (by omega)) (fun M134 hM134 => ?_)
                   refine bw_retv rfl rfl ?_
                   first
                   | (rw [hst, if_pos (by omega)]
                      exact ⟨rfl, rfl, hU.trans hM113.1, hM113.2.1, hC2.tr hM113.2.2⟩)
                   | (rw [hst, if_neg (by omega), if_pos (by omega)]
                      exact ⟨rfl, rfl, hU.trans hM120.1.p8R, hM120.2.1, hC2.tr hM120.2.2⟩)
                   | (rw [hst, if_neg (by omega), if_neg (by omega), if_pos (by omega)]
                      exact ⟨rfl, rfl, hU.trans hM127.1.p8R, hM127.2.1, hC2.tr hM127.2.2⟩)
                   | (rw [hst, if_neg (by omega), if_neg (by omega), if_neg (by omega)]
                      exact ⟨rfl, rfl, hU.trans hM134.1.p8R, hM134.2.1, hC2.tr hM134.2.2⟩))
        · first
          | (exfalso; omega)
          | (refine bw_retv rfl rfl ?_
             first
             | (exfalso; omega)
             | (rw [st_4 (by omega) (by first | exact Or.inl (by omega) | (rw [w1] at hr49; exact Or.inr (hr49.elim (fun q => q.1) (fun q => absurd q.2 (by omega))))), ← v1]
                exact ⟨rfl, rfl, (u1.toP.trans hM61.f5).toL.toR, hM61.RSn hP1 z1 (by decide), hC1.f5 hM61.f5⟩))
      · skip
        refine bw_aload rfl rfl ?_
        refine bw_push rfl ?_
        refine bw_aload rfl rfl ?_
        refine bw_getI rfl rfl ?_
        refine bw_callVv (e := d - 1) (as := [_, _]) rfl (by omega) rfl rfl (Nat.le_of_ble_eq_true rfl) (Nat.le_of_ble_eq_true rfl) rfl (m_faults hR) (fun M61 hM61 => ?_)
        have hR := hM61.f5.RF hR
        have g61 := fal_ne hM61 (by decide)
        refine bw_aload rfl rfl ?_
        refine bw_callVj (e := d - 1) (as := []) rfl (by omega) rfl rfl (Nat.le_of_ble_eq_true rfl) (Nat.le_of_ble_eq_true rfl) rfl (m_goesWell hR) (fun r65 hr65 => ?_)
        refine bw_ifne rfl (fun c68 => ?_) (fun c68 => ?_)
        · first
          | (exfalso; omega)
          | (refine bw_aload rfl rfl ?_
             refine bw_callVv (e := d - 1) (as := []) rfl (by omega) rfl rfl (Nat.le_of_ble_eq_true rfl) (Nat.le_of_ble_eq_true rfl) rfl (m_passes hR hP1 (by omega)) (fun M73 hM73 => ?_)
             obtain ⟨u73, v73, w73⟩ := hM73
             have hR := u73.RF hR
             have s2 : skM M1 a n = p := hz1.2
             rw [s2] at v73 w73
             have e2 := we_in hP.ok (k := p) ⟨s8.1, s8.2.1⟩
             have hP2 := hP1.toP u73.P10 (by omega)
             have hz2 : rs M73 a n (.inr (sk a n (we a n p))) := ⟨(s5P_11 u73).1.trans z1, by rw [w73]⟩
             have hC2 := hC1.f5 u73
             have hU : s5 pR qR M M73 := (u1.toP.trans u73.P10).toL.toR
             have hst : ¬ (S 5 = 60 ∨ flP S (wo a n p)) := fun k => k.elim (fun k => by omega) (fun k => by rw [w1] at hr49; exact hr49.elim (fun q => by omega) (fun q => q.1 k))
             have hst := st_g (S := S) (a := a) (n := n) (p := p) (by omega) hst
             refine bw_iload rfl rfl ?_
             by_cases s77_0 : r1 = 1
             · refine bw_switch (t := 112) rfl (by rw [s77_0]; rfl) ?_
               refine bw_aload rfl rfl ?_
               refine bw_callVv (e := d - 1) (as := []) rfl (by omega) rfl rfl (Nat.le_of_ble_eq_true rfl) (Nat.le_of_ble_eq_true rfl) rfl (m_readsLayer hR hP2 hz2 hC2.1 (by unfold flP at hr49; omega) (by omega) (by omega)) (fun M113 hM113 => ?_)
               refine bw_goto rfl ?_
               refine bw_retv rfl rfl ?_
               first
               | (rw [hst, if_pos (by omega)]
                  exact ⟨rfl, rfl, hU.trans hM113.1, hM113.2.1, hC2.tr hM113.2.2⟩)
               | (rw [hst, if_neg (by omega), if_pos (by omega)]
                  exact ⟨rfl, rfl, hU.trans hM120.1.p8R, hM120.2.1, hC2.tr hM120.2.2⟩)
               | (rw [hst, if_neg (by omega), if_neg (by omega), if_pos (by omega)]
                  exact ⟨rfl, rfl, hU.trans hM127.1.p8R, hM127.2.1, hC2.tr hM127.2.2⟩)
               | (rw [hst, if_neg (by omega), if_neg (by omega), if_neg (by omega)]
                  exact ⟨rfl, rfl, hU.trans hM134.1.p8R, hM134.2.1, hC2.tr hM134.2.2⟩)
             · skip
               by_cases s77_1 : r1 = 5
               · refine bw_switch (t := 119) rfl (by rw [s77_1]; rfl) ?_
                 refine bw_aload rfl rfl ?_
                 refine bw_callVv (e := d - 1) (as := []) rfl (by omega) rfl rfl (Nat.le_of_ble_eq_true rfl) (Nat.le_of_ble_eq_true rfl) rfl (m_readsBox hR hP2 hz2 hC2.1 (by omega) (by omega) (by unfold flP at hr49; omega) (by omega)) (fun M120 hM120 => ?_)
                 refine bw_goto rfl ?_
                 refine bw_retv rfl rfl ?_
                 first
                 | (rw [hst, if_pos (by omega)]
                    exact ⟨rfl, rfl, hU.trans hM113.1, hM113.2.1, hC2.tr hM113.2.2⟩)
                 | (rw [hst, if_neg (by omega), if_pos (by omega)]
                    exact ⟨rfl, rfl, hU.trans hM120.1.p8R, hM120.2.1, hC2.tr hM120.2.2⟩)
                 | (rw [hst, if_neg (by omega), if_neg (by omega), if_pos (by omega)]
                    exact ⟨rfl, rfl, hU.trans hM127.1.p8R, hM127.2.1, hC2.tr hM127.2.2⟩)
                 | (rw [hst, if_neg (by omega), if_neg (by omega), if_neg (by omega)]
                    exact ⟨rfl, rfl, hU.trans hM134.1.p8R, hM134.2.1, hC2.tr hM134.2.2⟩)
               · skip
                 by_cases s77_2 : r1 = 9
                 · refine bw_switch (t := 126) rfl (by rw [s77_2]; rfl) ?_
                   refine bw_aload rfl rfl ?_
                   refine bw_callVv (e := d - 1) (as := []) rfl (by omega) rfl rfl (Nat.le_of_ble_eq_true rfl) (Nat.le_of_ble_eq_true rfl) rfl (m_readsSlide hR hP2 hz2 hC2.1 (by omega) (by omega) (by unfold flP at hr49; omega) (by omega)) (fun M127 hM127 => ?_)
                   refine bw_goto rfl ?_
                   refine bw_retv rfl rfl ?_
                   first
                   | (rw [hst, if_pos (by omega)]
                      exact ⟨rfl, rfl, hU.trans hM113.1, hM113.2.1, hC2.tr hM113.2.2⟩)
                   | (rw [hst, if_neg (by omega), if_pos (by omega)]
                      exact ⟨rfl, rfl, hU.trans hM120.1.p8R, hM120.2.1, hC2.tr hM120.2.2⟩)
                   | (rw [hst, if_neg (by omega), if_neg (by omega), if_pos (by omega)]
                      exact ⟨rfl, rfl, hU.trans hM127.1.p8R, hM127.2.1, hC2.tr hM127.2.2⟩)
                   | (rw [hst, if_neg (by omega), if_neg (by omega), if_neg (by omega)]
                      exact ⟨rfl, rfl, hU.trans hM134.1.p8R, hM134.2.1, hC2.tr hM134.2.2⟩)
                 · skip
                   refine bw_switch (t := 133) rfl (by simp [abSwT, abSw, Op.lookupswitch.offset, s77_0, show ¬ ((1 : Int) = r1) from fun h => s77_0 h.symm, s77_1, show ¬ ((5 : Int) = r1) from fun h => s77_1 h.symm, s77_2, show ¬ ((9 : Int) = r1) from fun h => s77_2 h.symm]) ?_
                   refine bw_aload rfl rfl ?_
                   refine bw_callVv (e := d - 1) (as := []) rfl (by omega) rfl rfl (Nat.le_of_ble_eq_true rfl) (Nat.le_of_ble_eq_true rfl) rfl (m_readsHide hR hP2 hz2 hC2.1 (by omega) (by omega) (by unfold flP at hr49; omega) (by omega)) (fun M134 hM134 => ?_)
                   refine bw_retv rfl rfl ?_
                   first
                   | (rw [hst, if_pos (by omega)]
                      exact ⟨rfl, rfl, hU.trans hM113.1, hM113.2.1, hC2.tr hM113.2.2⟩)
                   | (rw [hst, if_neg (by omega), if_pos (by omega)]
                      exact ⟨rfl, rfl, hU.trans hM120.1.p8R, hM120.2.1, hC2.tr hM120.2.2⟩)
                   | (rw [hst, if_neg (by omega), if_neg (by omega), if_pos (by omega)]
                      exact ⟨rfl, rfl, hU.trans hM127.1.p8R, hM127.2.1, hC2.tr hM127.2.2⟩)
                   | (rw [hst, if_neg (by omega), if_neg (by omega), if_neg (by omega)]
                      exact ⟨rfl, rfl, hU.trans hM134.1.p8R, hM134.2.1, hC2.tr hM134.2.2⟩))
        · first
          | (exfalso; omega)
          | (refine bw_retv rfl rfl ?_
             first
             | (exfalso; omega)
             | (rw [st_4 (by omega) (by first | exact Or.inl (by omega) | (rw [w1] at hr49; exact Or.inr (hr49.elim (fun q => q.1) (fun q => absurd q.2 (by omega))))), ← v1]
                exact ⟨rfl, rfl, (u1.toP.trans hM61.f5).toL.toR, hM61.RSn hP1 z1 (by decide), hC1.f5 hM61.f5⟩))
  · skip
    refine bw_iload rfl rfl ?_
    refine bw_push rfl ?_
    refine bw_iceq rfl (fun c12 => ?_) (fun c12 => ?_)
    · skip
      refine bw_aload rfl rfl ?_
      refine bw_push rfl ?_
      refine bw_callVe (e := d - 1) (as := [_]) rfl (by omega) rfl rfl (Nat.le_of_ble_eq_true rfl) (Nat.le_of_ble_eq_true rfl) rfl (m_readOf hR hS1 (by omega)) ?_
      refine bw_push rfl ?_
      refine bw_iceq rfl (fun c44 => ?_) (fun c44 => ?_)
      · skip
        refine bw_aload rfl rfl ?_
        refine bw_push rfl ?_
        refine bw_aload rfl rfl ?_
        refine bw_getI rfl rfl ?_
        refine bw_callVv (e := d - 1) (as := [_, _]) rfl (by omega) rfl rfl (Nat.le_of_ble_eq_true rfl) (Nat.le_of_ble_eq_true rfl) rfl (m_faults hR) (fun M61 hM61 => ?_)
        have hR := hM61.f5.RF hR
        have g61 := fal_ne hM61 (by decide)
        refine bw_aload rfl rfl ?_
        refine bw_callVj (e := d - 1) (as := []) rfl (by omega) rfl rfl (Nat.le_of_ble_eq_true rfl) (Nat.le_of_ble_eq_true rfl) rfl (m_goesWell hR) (fun r65 hr65 => ?_)
        refine bw_ifne rfl (fun c68 => ?_) (fun c68 => ?_)
        · first
          | (exfalso; omega)
          | (refine bw_aload rfl rfl ?_
             refine bw_callVv (e := d - 1) (as := []) rfl (by omega) rfl rfl (Nat.le_of_ble_eq_true rfl) (Nat.le_of_ble_eq_true rfl) rfl (m_passes hR hP1 (by omega)) (fun M73 hM73 => ?_)
             obtain ⟨u73, v73, w73⟩ := hM73
             have hR := u73.RF hR
             have s2 : skM M1 a n = p := hz1.2
             rw [s2] at v73 w73
             have e2 := we_in hP.ok (k := p) ⟨s8.1, s8.2.1⟩
             have hP2 := hP1.toP u73.P10 (by omega)
             have hz2 : rs M73 a n (.inr (sk a n (we a n p))) := ⟨(s5P_11 u73).1.trans z1, by rw [w73]⟩
             have hC2 := hC1.f5 u73
             have hU : s5 pR qR M M73 := (u1.toP.trans u73.P10).toL.toR
             have hst : ¬ (S 5 = 60 ∨ flP S (wo a n p)) := fun k => k.elim (fun k => by omega) (fun k => by rw [w1] at hr49; exact hr49.elim (fun q => by omega) (fun q => q.1 k))
             have hst := st_g (S := S) (a := a) (n := n) (p := p) (by omega) hst
             refine bw_iload rfl rfl ?_
             by_cases s77_0 : r1 = 1
             · refine bw_switch (t := 112) rfl (by rw [s77_0]; rfl) ?_
               refine bw_aload rfl rfl ?_
               refine bw_callVv (e := d - 1) (as := []) rfl (by omega) rfl rfl (Nat.le_of_ble_eq_true rfl) (Nat.le_of_ble_eq_true rfl) rfl (m_readsLayer hR hP2 hz2 hC2.1 (by unfold flP at hr49; omega) (by omega) (by omega)) (fun M113 hM113 => ?_)
               refine bw_goto rfl ?_
               refine bw_retv rfl rfl ?_
               first
               | (rw [hst, if_pos (by omega)]
                  exact ⟨rfl, rfl, hU.trans hM113.1, hM113.2.1, hC2.tr hM113.2.2⟩)
               | (rw [hst, if_neg (by omega), if_pos (by omega)]
                  exact ⟨rfl, rfl, hU.trans hM120.1.p8R, hM120.2.1, hC2.tr hM120.2.2⟩)
               | (rw [hst, if_neg (by omega), if_neg (by omega), if_pos (by omega)]
                  exact ⟨rfl, rfl, hU.trans hM127.1.p8R, hM127.2.1, hC2.tr hM127.2.2⟩)
               | (rw [hst, if_neg (by omega), if_neg (by omega), if_neg (by omega)]
                  exact ⟨rfl, rfl, hU.trans hM134.1.p8R, hM134.2.1, hC2.tr hM134.2.2⟩)
             · skip
               by_cases s77_1 : r1 = 5
               · refine bw_switch (t := 119) rfl (by rw [s77_1]; rfl) ?_
                 refine bw_aload rfl rfl ?_
                 refine bw_callVv (e := d - 1) (as := []) rfl (by omega) rfl rfl (Nat.le_of_ble_eq_true rfl) (Nat.le_of_ble_eq_true rfl) rfl (m_readsBox hR hP2 hz2 hC2.1 (by omega) (by omega) (by unfold flP at hr49; omega) (by omega)) (fun M120 hM120 => ?_)
                 refine bw_goto rfl ?_
                 refine bw_retv rfl rfl ?_
                 first
                 | (rw [hst, if_pos (by omega)]
                    exact ⟨rfl, rfl, hU.trans hM113.1, hM113.2.1, hC2.tr hM113.2.2⟩)
                 | (rw [hst, if_neg (by omega), if_pos (by omega)]
                    exact ⟨rfl, rfl, hU.trans hM120.1.p8R, hM120.2.1, hC2.tr hM120.2.2⟩)
                 | (rw [hst, if_neg (by omega), if_neg (by omega), if_pos (by omega)]
                    exact ⟨rfl, rfl, hU.trans hM127.1.p8R, hM127.2.1, hC2.tr hM127.2.2⟩)
                 | (rw [hst, if_neg (by omega), if_neg (by omega), if_neg (by omega)]
                    exact ⟨rfl, rfl, hU.trans hM134.1.p8R, hM134.2.1, hC2.tr hM134.2.2⟩)
               · skip
                 by_cases s77_2 : r1 = 9
                 · refine bw_switch (t := 126) rfl (by rw [s77_2]; rfl) ?_
                   refine bw_aload rfl rfl ?_
                   refine bw_callVv (e := d - 1) (as := []) rfl (by omega) rfl rfl (Nat.le_of_ble_eq_true rfl) (Nat.le_of_ble_eq_true rfl) rfl (m_readsSlide hR hP2 hz2 hC2.1 (by omega) (by omega) (by unfold flP at hr49; omega) (by omega)) (fun M127 hM127 => ?_)
                   refine bw_goto rfl ?_
                   refine bw_retv rfl rfl ?_
                   first
                   | (rw [hst, if_pos (by omega)]
                      exact ⟨rfl, rfl, hU.trans hM113.1, hM113.2.1, hC2.tr hM113.2.2⟩)
                   | (rw [hst, if_neg (by omega), if_pos (by omega)]
                      exact ⟨rfl, rfl, hU.trans hM120.1.p8R, hM120.2.1, hC2.tr hM120.2.2⟩)
                   | (rw [hst, if_neg (by omega), if_neg (by omega), if_pos (by omega)]
                      exact ⟨rfl, rfl, hU.trans hM127.1.p8R, hM127.2.1, hC2.tr hM127.2.2⟩)
                   | (rw [hst, if_neg (by omega), if_neg (by omega), if_neg (by omega)]
                      exact ⟨rfl, rfl, hU.trans hM134.1.p8R, hM134.2.1, hC2.tr hM134.2.2⟩)
                 · skip
                   refine bw_switch (t := 133) rfl (by simp [abSwT, abSw, Op.lookupswitch.offset, s77_0, show ¬ ((1 : Int) = r1) from fun h => s77_0 h.symm, s77_1, show ¬ ((5 : Int) = r1) from fun h => s77_1 h.symm, s77_2, show ¬ ((9 : Int) = r1) from fun h => s77_2 h.symm]) ?_
                   refine bw_aload rfl rfl ?_
                   refine bw_callVv (e := d - 1) (as := []) rfl (by omega) rfl rfl (Nat.le_of_ble_eq_true rfl) (Nat.le_of_ble_eq_true rfl) rfl (m_readsHide hR hP2 hz2 hC2.1 (by omega) (by omega) (by unfold flP at hr49; omega) (by omega)) (fun M134 hM134 => ?_)
                   refine bw_retv rfl rfl ?_
                   first
                   | (rw [hst, if_pos (by omega)]
                      exact ⟨rfl, rfl, hU.trans hM113.1, hM113.2.1, hC2.tr hM113.2.2⟩)
                   | (rw [hst, if_neg (by omega), if_pos (by omega)]
                      exact ⟨rfl, rfl, hU.trans hM120.1.p8R, hM120.2.1, hC2.tr hM120.2.2⟩)
                   | (rw [hst, if_neg (by omega), if_neg (by omega), if_pos (by omega)]
                      exact ⟨rfl, rfl, hU.trans hM127.1.p8R, hM127.2.1, hC2.tr hM127.2.2⟩)
                   | (rw [hst, if_neg (by omega), if_neg (by omega), if_neg (by omega)]
                      exact ⟨rfl, rfl, hU.trans hM134.1.p8R, hM134.2.1, hC2.tr hM134.2.2⟩))
        · first
          | (exfalso; omega)
          | (refine bw_retv rfl rfl ?_
             first
             | (exfalso; omega)
             | (rw [st_4 (by omega) (by first | exact Or.inl (by omega) | (rw [w1] at hr49; exact Or.inr (hr49.elim (fun q => q.1) (fun q => absurd q.2 (by omega))))), ← v1]
                exact ⟨rfl, rfl, (u1.toP.trans hM61.f5).toL.toR, hM61.RSn hP1 z1 (by decide), hC1.f5 hM61.f5⟩))
      · skip
        refine bw_aload rfl rfl ?_
        refine bw_iload rfl rfl ?_
        refine bw_callVj (e := d - 1) (as := [_]) rfl (by omega) rfl rfl (Nat.le_of_ble_eq_true rfl) (Nat.le_of_ble_eq_true rfl) rfl (m_isFull hR hS1 (by omega)) (fun r49 hr49 => ?_)
        refine bw_ifeq rfl (fun c52 => ?_) (fun c52 => ?_)
        · skip
          refine bw_aload rfl rfl ?_
          refine bw_callVj (e := d - 1) (as := []) rfl (by omega) rfl rfl (Nat.le_of_ble_eq_true rfl) (Nat.le_of_ble_eq_true rfl) rfl (m_goesWell hR) (fun r65 hr65 => ?_)
          refine bw_ifne rfl (fun c68 => ?_) (fun c68 => ?_)
          · first
            | (exfalso; omega)
            | (refine bw_aload rfl rfl ?_
               refine bw_callVv (e := d - 1) (as := []) rfl (by omega) rfl rfl (Nat.le_of_ble_eq_true rfl) (Nat.le_of_ble_eq_true rfl) rfl (m_passes hR hP1 (by omega)) (fun M73 hM73 => ?_)
               obtain ⟨u73, v73, w73⟩ := hM73
               have hR := u73.RF hR
               have s2 : skM M1 a n = p := hz1.2
               rw [s2] at v73 w73
               have e2 := we_in hP.ok (k := p) ⟨s8.1, s8.2.1⟩
               have hP2 := hP1.toP u73.P10 (by omega)
               have hz2 : rs M73 a n (.inr (sk a n (we a n p))) := ⟨(s5P_11 u73).1.trans z1, by rw [w73]⟩
               have hC2 := hC1.f5 u73
               have hU : s5 pR qR M M73 := (u1.toP.trans u73.P10).toL.toR
               have hst : ¬ (S 5 = 60 ∨ flP S (wo a n p)) := fun k => k.elim (fun k => by omega) (fun k => by rw [w1] at hr49; exact hr49.elim (fun q => by omega) (fun q => q.1 k))
               have hst := st_g (S := S) (a := a) (n := n) (p := p) (by omega) hst
               refine bw_iload rfl rfl ?_
               by_cases s77_0 : r1 = 1
               · refine bw_switch (t := 112) rfl (by rw [s77_0]; rfl) ?_
                 refine bw_aload rfl rfl ?_
                 refine bw_callVv (e := d - 1) (as := []) rfl (by omega) rfl rfl (Nat.le_of_ble_eq_true rfl) (Nat.le_of_ble_eq_true rfl) rfl (m_readsLayer hR hP2 hz2 hC2.1 (by unfold flP at hr49; omega) (by omega) (by omega)) (fun M113 hM113 => ?_)
                 refine bw_goto rfl ?_
                 refine bw_retv rfl rfl ?_
                 first
                 | (rw [hst, if_pos (by omega)]
                    exact ⟨rfl, rfl, hU.trans hM113.1, hM113.2.1, hC2.tr hM113.2.2⟩)
                 | (rw [hst, if_neg (by omega), if_pos (by omega)]
                    exact ⟨rfl, rfl, hU.trans hM120.1.p8R, hM120.2.1, hC2.tr hM120.2.2⟩)
                 | (rw [hst, if_neg (by omega), if_neg (by omega), if_pos (by omega)]
                    exact ⟨rfl, rfl, hU.trans hM127.1.p8R, hM127.2.1, hC2.tr hM127.2.2⟩)
                 | (rw [hst, if_neg (by omega), if_neg (by omega), if_neg (by omega)]
                    exact ⟨rfl, rfl, hU.trans hM134.1.p8R, hM134.2.1, hC2.tr hM134.2.2⟩)
               · skip
                 by_cases s77_1 : r1 = 5
                 · refine bw_switch (t := 119) rfl (by rw [s77_1]; rfl) ?_
                   refine bw_aload rfl rfl ?_
                   refine bw_callVv (e := d - 1) (as := []) rfl (by omega) rfl rfl (Nat.le_of_ble_eq_true rfl) (Nat.le_of_ble_eq_true rfl) rfl (m_readsBox hR hP2 hz2 hC2.1 (by omega) (by omega) (by unfold flP at hr49; omega) (by omega)) (fun M120 hM120 => ?_)
                   refine bw_goto rfl ?_
                   refine bw_retv rfl rfl ?_
                   first
                   | (rw [hst, if_pos (by omega)]
                      exact ⟨rfl, rfl, hU.trans hM113.1, hM113.2.1, hC2.tr hM113.2.2⟩)
                   | (rw [hst, if_neg (by omega), if_pos (by omega)]
                      exact ⟨rfl, rfl, hU.trans hM120.1.p8R, hM120.2.1, hC2.tr hM120.2.2⟩)
                   | (rw [hst, if_neg (by omega), if_neg (by omega), if_pos (by omega)]
                      exact ⟨rfl, rfl, hU.trans hM127.1.p8R, hM127.2.1, hC2.tr hM127.2.2⟩)
                   | (rw [hst, if_neg (by omega), if_neg (by omega), if_neg (by omega)]
                      exact ⟨rfl, rfl, hU.trans hM134.1.p8R, hM134.2.1, hC2.tr hM134.2.2⟩)
                 · skip
                   by_cases s77_2 : r1 = 9
                   · refine bw_switch (t := 126) rfl (by rw [s77_2]; rfl) ?_
                     refine bw_aload rfl rfl ?_
                     refine bw_callVv (e := d - 1) (as := []) rfl (by omega) rfl rfl (Nat.le_of_ble_eq_true rfl) (Nat.le_of_ble_eq_true rfl) rfl (m_readsSlide hR hP2 hz2 hC2.1 (by omega) (by omega) (by unfold flP at hr49; omega) (by omega)) (fun M127 hM127 => ?_)
                     refine bw_goto rfl ?_
                     refine bw_retv rfl rfl ?_
                     first
                     | (rw [hst, if_pos (by omega)]
                        exact ⟨rfl, rfl, hU.trans hM113.1, hM113.2.1, hC2.tr hM113.2.2⟩)
                     | (rw [hst, if_neg (by omega), if_pos (by omega)]
                        exact ⟨rfl, rfl, hU.trans hM120.1.p8R, hM120.2.1, hC2.tr hM120.2.2⟩)
                     | (rw [hst, if_neg (by omega), if_neg (by omega), if_pos (by omega)]
                        exact ⟨rfl, rfl, hU.trans hM127.1.p8R, hM127.2.1, hC2.tr hM127.2.2⟩)
                     | (rw [hst, if_neg (by omega), if_neg (by omega), if_neg (by omega)]
                        exact ⟨rfl, rfl, hU.trans hM134.1.p8R, hM134.2.1, hC2.tr hM134.2.2⟩)
                   · skip
                     refine bw_switch (t := 133) rfl (by simp [abSwT, abSw, Op.lookupswitch.offset, s77_0, show ¬ ((1 : Int) = r1) from fun h => s77_0 h.symm, s77_1, show ¬ ((5 : Int) = r1) from fun h => s77_1 h.symm, s77_2, show ¬ ((9 : Int) = r1) from fun h => s77_2 h.symm]) ?_
                     refine bw_aload rfl rfl ?_
                     refine bw_callVv (e := d - 1) (as := []) rfl (by omega) rfl rfl (Nat.le_of_ble_eq_true rfl) (Nat.le_of_ble_eq_true rfl) rfl (m_readsHide hR hP2 hz2 hC2.1 (by omega) (by omega) (by unfold flP at hr49; omega) (by omega)) (fun M134 hM134 => ?_)
                     refine bw_retv rfl rfl ?_
                     first
                     | (rw [hst, if_pos (by omega)]
                        exact ⟨rfl, rfl, hU.trans hM113.1, hM113.2.1, hC2.tr hM113.2.2⟩)
                     | (rw [hst, if_neg (by omega), if_pos (by omega)]
                        exact ⟨rfl, rfl, hU.trans hM120.1.p8R, hM120.2.1, hC2.tr hM120.2.2⟩)
                     | (rw [hst, if_neg (by omega), if_neg (by omega), if_pos (by omega)]
                        exact ⟨rfl, rfl, hU.trans hM127.1.p8R, hM127.2.1, hC2.tr hM127.2.2⟩)
                     | (rw [hst, if_neg (by omega), if_neg (by omega), if_neg (by omega)]
                        exact ⟨rfl, rfl, hU.trans hM134.1.p8R, hM134.2.1, hC2.tr hM134.2.2⟩))
          · first
            | (exfalso; omega)
            | (refine bw_retv rfl rfl ?_
               first
               | (exfalso; omega)
               | (rw [st_4 (by omega) (by first | exact Or.inl (by omega) | (rw [w1] at hr49; exact Or.inr (hr49.elim (fun q => q.1) (fun q => absurd q.2 (by omega))))), ← v1]
                  exact ⟨rfl, rfl, (u1.toP.trans hM61.f5).toL.toR, hM61.RSn hP1 z1 (by decide), hC1.f5 hM61.f5⟩))
        · skip
          refine bw_aload rfl rfl ?_
          refine bw_push rfl ?_
          refine bw_aload rfl rfl ?_
          refine bw_getI rfl rfl ?_
          refine bw_callVv (e := d - 1) (as := [_, _]) rfl (by omega) rfl rfl (Nat.le_of_ble_eq_true rfl) (Nat.le_of_ble_eq_true rfl) rfl (m_faults hR) (fun M61 hM61 => ?_)
          have hR := hM61.f5.RF hR
          have g61 := fal_ne hM61 (by decide)
          refine bw_aload rfl rfl ?_
          refine bw_callVj (e := d - 1) (as := []) rfl (by omega) rfl rfl (Nat.le_of_ble_eq_true rfl) (Nat.le_of_ble_eq_true rfl) rfl (m_goesWell hR) (fun r65 hr65 => ?_)
          refine bw_ifne rfl (fun c68 => ?_) (fun c68 => ?_)
          · first
            | (exfalso; omega)
            | (refine bw_aload rfl rfl ?_
               refine bw_callVv (e := d - 1) (as := []) rfl (by omega) rfl rfl (Nat.le_of_ble_eq_true rfl) (Nat.le_of_ble_eq_true rfl) rfl (m_passes hR hP1 (by omega)) (fun M73 hM73 => ?_)
               obtain ⟨u73, v73, w73⟩ := hM73
               have hR := u73.RF hR
               have s2 : skM M1 a n = p := hz1.2
               rw [s2] at v73 w73
               have e2 := we_in hP.ok (k := p) ⟨s8.1, s8.2.1⟩
               have hP2 := hP1.toP u73.P10 (by omega)
               have hz2 : rs M73 a n (.inr (sk a n (we a n p))) := ⟨(s5P_11 u73).1.trans z1, by rw [w73]⟩
               have hC2 := hC1.f5 u73
               have hU : s5 pR qR M M73 := (u1.toP.trans u73.P10).toL.toR
               have hst : ¬ (S 5 = 60 ∨ flP S (wo a n p)) := fun k => k.elim (fun k => by omega) (fun k => by rw [w1] at hr49; exact hr49.elim (fun q => by omega) (fun q => q.1 k))
               have hst := st_g (S := S) (a := a) (n := n) (p := p) (by omega) hst
               refine bw_iload rfl rfl ?_
               by_cases s77_0 : r1 = 1
               · refine bw_switch (t := 112) rfl (by rw [s77_0]; rfl) ?_
                 refine bw_aload rfl rfl ?_
                 refine bw_callVv (e := d - 1) (as := []) rfl (by omega) rfl rfl (Nat.le_of_ble_eq_true rfl) (Nat.le_of_ble_eq_true rfl) rfl (m_readsLayer hR hP2 hz2 hC2.1 (by unfold flP at hr49; omega) (by omega) (by omega)) (fun M113 hM113 => ?_)
                 refine bw_goto rfl ?_
                 refine bw_retv rfl rfl ?_
                 first
                 | (rw [hst, if_pos (by omega)]
                    exact ⟨rfl, rfl, hU.trans hM113.1, hM113.2.1, hC2.tr hM113.2.2⟩)
                 | (rw [hst, if_neg (by omega), if_pos (by omega)]
                    exact ⟨rfl, rfl, hU.trans hM120.1.p8R, hM120.2.1, hC2.tr hM120.2.2⟩)
                 | (rw [hst, if_neg (by omega), if_neg (by omega), if_pos (by omega)]
                    exact ⟨rfl, rfl, hU.trans hM127.1.p8R, hM127.2.1, hC2.tr hM127.2.2⟩)
                 | (rw [hst, if_neg (by omega), if_neg (by omega), if_neg (by omega)]
                    exact ⟨rfl, rfl, hU.trans hM134.1.p8R, hM134.2.1, hC2.tr hM134.2.2⟩)
               · skip
                 by_cases s77_1 : r1 = 5
                 · refine bw_switch (t := 119) rfl (by rw [s77_1]; rfl) ?_
                   refine bw_aload rfl rfl ?_
                   refine bw_callVv (e := d - 1) (as := []) rfl (by omega) rfl rfl (Nat.le_of_ble_eq_true rfl) (Nat.le_of_ble_eq_true rfl) rfl (m_readsBox hR hP2 hz2 hC2.1 (by omega) (by omega) (by unfold flP at hr49; omega) (by omega)) (fun M120 hM120 => ?_)
                   refine bw_goto rfl ?_
                   refine bw_retv rfl rfl ?_
                   first
                   | (rw [hst, if_pos (by omega)]
                      exact ⟨rfl, rfl, hU.trans hM113.1, hM113.2.1, hC2.tr hM113.2.2⟩)
                   | (rw [hst, if_neg (by omega), if_pos (by omega)]
                      exact ⟨rfl, rfl, hU.trans hM120.1.p8R, hM120.2.1, hC2.tr hM120.2.2⟩)
                   | (rw [hst, if_neg (by omega), if_neg (by omega), if_pos (by omega)]
                      exact ⟨rfl, rfl, hU.trans hM127.1.p8R, hM127.2.1, hC2.tr hM127.2.2⟩)
                   | (rw [hst, if_neg (by omega), if_neg (by omega), if_neg (by omega)]
                      exact ⟨rfl, rfl, hU.trans hM134.1.p8R, hM134.2.1, hC2.tr hM134.2.2⟩)
                 · skip
                   by_cases s77_2 : r1 = 9
                   · refine bw_switch (t := 126) rfl (by rw [s77_2]; rfl) ?_
                     refine bw_aload rfl rfl ?_
                     refine bw_callVv (e := d - 1) (as := []) rfl (by omega) rfl rfl (Nat.le_of_ble_eq_true rfl) (Nat.le_of_ble_eq_true rfl) rfl (m_readsSlide hR hP2 hz2 hC2.1 (by omega) (by omega) (by unfold flP at hr49; omega) (by omega)) (fun M127 hM127 => ?_)
                     refine bw_goto rfl ?_
                     refine bw_retv rfl rfl ?_
                     first
                     | (rw [hst, if_pos (by omega)]
                        exact ⟨rfl, rfl, hU.trans hM113.1, hM113.2.1, hC2.tr hM113.2.2⟩)
                     | (rw [hst, if_neg (by omega), if_pos (by omega)]
                        exact ⟨rfl, rfl, hU.trans hM120.1.p8R, hM120.2.1, hC2.tr hM120.2.2⟩)
                     | (rw [hst, if_neg (by omega), if_neg (by omega), if_pos (by omega)]
                        exact ⟨rfl, rfl, hU.trans hM127.1.p8R, hM127.2.1, hC2.tr hM127.2.2⟩)
                     | (rw [hst, if_neg (by omega), if_neg (by omega), if_neg (by omega)]
                        exact ⟨rfl, rfl, hU.trans hM134.1.p8R, hM134.2.1, hC2.tr hM134.2.2⟩)
                   · skip
                     refine bw_switch (t := 133) rfl (by simp [abSwT, abSw, Op.lookupswitch.offset, s77_0, show ¬ ((1 : Int) = r1) from fun h => s77_0 h.symm, s77_1, show ¬ ((5 : Int) = r1) from fun h => s77_1 h.symm, s77_2, show ¬ ((9 : Int) = r1) from fun h => s77_2 h.symm]) ?_
                     refine bw_aload rfl rfl ?_
                     refine bw_callVv (e := d - 1) (as := []) rfl (by omega) rfl rfl (Nat.le_of_ble_eq_true rfl) (Nat.le_of_ble_eq_true rfl) rfl (m_readsHide hR hP2 hz2 hC2.1 (by omega) (by omega) (by unfold flP at hr49; omega) (by omega)) (fun M134 hM134 => ?_)
                     refine bw_retv rfl rfl ?_
                     first
                     | (rw [hst, if_pos (by omega)]
                        exact ⟨rfl, rfl, hU.trans hM113.1, hM113.2.1, hC2.tr hM113.2.2⟩)
                     | (rw [hst, if_neg (by omega), if_pos (by omega)]
                        exact ⟨rfl, rfl, hU.trans hM120.1.p8R, hM120.2.1, hC2.tr hM120.2.2⟩)
                     | (rw [hst, if_neg (by omega), if_neg (by omega), if_pos (by omega)]
                        exact ⟨rfl, rfl, hU.trans hM127.1.p8R, hM127.2.1, hC2.tr hM127.2.2⟩)
                     | (rw [hst, if_neg (by omega), if_neg (by omega), if_neg (by omega)]
                        exact ⟨rfl, rfl, hU.trans hM134.1.p8R, hM134.2.1, hC2.tr hM134.2.2⟩))
          · first
            | (exfalso; omega)
            | (refine bw_retv rfl rfl ?_
               first
               | (exfalso; omega)
               | (rw [st_4 (by omega) (by first | exact Or.inl (by omega) | (rw [w1] at hr49; exact Or.inr (hr49.elim (fun q => q.1) (fun q => absurd q.2 (by omega))))), ← v1]
                  exact ⟨rfl, rfl, (u1.toP.trans hM61.f5).toL.toR, hM61.RSn hP1 z1 (by decide), hC1.f5 hM61.f5⟩))
    · skip
      refine bw_iload rfl rfl ?_
      refine bw_push rfl ?_
      refine bw_iceq rfl (fun c18 => ?_) (fun c18 => ?_)
      · skip
        refine bw_aload rfl rfl ?_
        refine bw_push rfl ?_
        refine bw_callVe (e := d - 1) (as := [_]) rfl (by omega) rfl rfl (Nat.le_of_ble_eq_true rfl) (Nat.le_of_ble_eq_true rfl) rfl (m_readOf hR hS1 (by omega)) ?_
        refine bw_push rfl ?_
        refine bw_iceq rfl (fun c44 => ?_) (fun c44 => ?_)
        · skip
          refine bw_aload rfl rfl ?_
          refine bw_push rfl ?_
          refine bw_aload rfl rfl ?_
          refine bw_getI rfl rfl ?_
          refine bw_callVv (e := d - 1) (as := [_, _]) rfl (by omega) rfl rfl (Nat.le_of_ble_eq_true rfl) (Nat.le_of_ble_eq_true rfl) rfl (m_faults hR) (fun M61 hM61 => ?_)
          have hR := hM61.f5.RF hR
          have g61 := fal_ne hM61 (by decide)
          refine bw_aload rfl rfl ?_
          refine bw_callVj (e := d - 1) (as := []) rfl (by omega) rfl rfl (Nat.le_of_ble_eq_true rfl) (Nat.le_of_ble_eq_true rfl) rfl (m_goesWell hR) (fun r65 hr65 => ?_)
          refine bw_ifne rfl (fun c68 => ?_) (fun c68 => ?_)
          · first
            | (exfalso; omega)
            | (refine bw_aload rfl rfl ?_
               refine bw_callVv (e := d - 1) (as := []) rfl (by omega) rfl rfl (Nat.le_of_ble_eq_true rfl) (Nat.le_of_ble_eq_true rfl) rfl (m_passes hR hP1 (by omega)) (fun M73 hM73 => ?_)
               obtain ⟨u73, v73, w73⟩ := hM73
               have hR := u73.RF hR
               have s2 : skM M1 a n = p := hz1.2
               rw [s2] at v73 w73
               have e2 := we_in hP.ok (k := p) ⟨s8.1, s8.2.1⟩
               have hP2 := hP1.toP u73.P10 (by omega)
               have hz2 : rs M73 a n (.inr (sk a n (we a n p))) := ⟨(s5P_11 u73).1.trans z1, by rw [w73]⟩
               have hC2 := hC1.f5 u73
               have hU : s5 pR qR M M73 := (u1.toP.trans u73.P10).toL.toR
               have hst : ¬ (S 5 = 60 ∨ flP S (wo a n p)) := fun k => k.elim (fun k => by omega) (fun k => by rw [w1] at hr49; exact hr49.elim (fun q => by omega) (fun q => q.1 k))
               have hst := st_g (S := S) (a := a) (n := n) (p := p) (by omega) hst
               refine bw_iload rfl rfl ?_
               by_cases s77_0 : r1 = 1
               · refine bw_switch (t := 112) rfl (by rw [s77_0]; rfl) ?_
                 refine bw_aload rfl rfl ?_
                 refine bw_callVv (e := d - 1) (as := []) rfl (by omega) rfl rfl (Nat.le_of_ble_eq_true rfl) (Nat.le_of_ble_eq_true rfl) rfl (m_readsLayer hR hP2 hz2 hC2.1 (by unfold flP at hr49; omega) (by omega) (by omega)) (fun M113 hM113 => ?_)
                 refine bw_goto rfl ?_
                 refine bw_retv rfl rfl ?_
                 first
                 | (rw [hst, if_pos (by omega)]
                    exact ⟨rfl, rfl, hU.trans hM113.1, hM113.2.1, hC2.tr hM113.2.2⟩)
                 | (rw [hst, if_neg (by omega), if_pos (by omega)]
                    exact ⟨rfl, rfl, hU.trans hM120.1.p8R, hM120.2.1, hC2.tr hM120.2.2⟩)
                 | (rw [hst, if_neg (by omega), if_neg (by omega), if_pos (by omega)]
                    exact ⟨rfl, rfl, hU.trans hM127.1.p8R, hM127.2.1, hC2.tr hM127.2.2⟩)
                 | (rw [hst, if_neg (by omega), if_neg (by omega), if_neg (by omega)]
                    exact ⟨rfl, rfl, hU.trans hM134.1.p8R, hM134.2.1, hC2.tr hM134.2.2⟩)
               · skip
                 by_cases s77_1 : r1 = 5
                 · refine bw_switch (t := 119) rfl (by rw [s77_1]; rfl) ?_
                   refine bw_aload rfl rfl ?_
                   refine bw_callVv (e := d - 1) (as := []) rfl (by omega) rfl rfl (Nat.le_of_ble_eq_true rfl) (Nat.le_of_ble_eq_true rfl) rfl (m_readsBox hR hP2 hz2 hC2.1 (by omega) (by omega) (by unfold flP at hr49; omega) (by omega)) (fun M120 hM120 => ?_)
                   refine bw_goto rfl ?_
                   refine bw_retv rfl rfl ?_
                   first
                   | (rw [hst, if_pos (by omega)]
                      exact ⟨rfl, rfl, hU.trans hM113.1, hM113.2.1, hC2.tr hM113.2.2⟩)
                   | (rw [hst, if_neg (by omega), if_pos (by omega)]
                      exact ⟨rfl, rfl, hU.trans hM120.1.p8R, hM120.2.1, hC2.tr hM120.2.2⟩)
                   | (rw [hst, if_neg (by omega), if_neg (by omega), if_pos (by omega)]
                      exact ⟨rfl, rfl, hU.trans hM127.1.p8R, hM127.2.1, hC2.tr hM127.2.2⟩)
                   | (rw [hst, if_neg (by omega), if_neg (by omega), if_neg (by omega)]
                      exact ⟨rfl, rfl, hU.trans hM134.1.p8R, hM134.2.1, hC2.tr hM134.2.2⟩)
                 · skip
                   by_cases s77_2 : r1 = 9
                   · refine bw_switch (t := 126) rfl (by rw [s77_2]; rfl) ?_
                     refine bw_aload rfl rfl ?_
                     refine bw_callVv (e := d - 1) (as := []) rfl (by omega) rfl rfl (Nat.le_of_ble_eq_true rfl) (Nat.le_of_ble_eq_true rfl) rfl (m_readsSlide hR hP2 hz2 hC2.1 (by omega) (by omega) (by unfold flP at hr49; omega) (by omega)) (fun M127 hM127 => ?_)
                     refine bw_goto rfl ?_
                     refine bw_retv rfl rfl ?_
                     first
                     | (rw [hst, if_pos (by omega)]
                        exact ⟨rfl, rfl, hU.trans hM113.1, hM113.2.1, hC2.tr hM113.2.2⟩)
                     | (rw [hst, if_neg (by omega), if_pos (by omega)]
                        exact ⟨rfl, rfl, hU.trans hM120.1.p8R, hM120.2.1, hC2.tr hM120.2.2⟩)
                     | (rw [hst, if_neg (by omega), if_neg (by omega), if_pos (by omega)]
                        exact ⟨rfl, rfl, hU.trans hM127.1.p8R, hM127.2.1, hC2.tr hM127.2.2⟩)
                     | (rw [hst, if_neg (by omega), if_neg (by omega), if_neg (by omega)]
                        exact ⟨rfl, rfl, hU.trans hM134.1.p8R, hM134.2.1, hC2.tr hM134.2.2⟩)
                   · skip
                     refine bw_switch (t := 133) rfl (by simp [abSwT, abSw, Op.lookupswitch.offset, s77_0, show ¬ ((1 : Int) = r1) from fun h => s77_0 h.symm, s77_1, show ¬ ((5 : Int) = r1) from fun h => s77_1 h.symm, s77_2, show ¬ ((9 : Int) = r1) from fun h => s77_2 h.symm]) ?_
                     refine bw_aload rfl rfl ?_
                     refine bw_callVv (e := d - 1) (as := []) rfl (by omega) rfl rfl (Nat.le_of_ble_eq_true rfl) (Nat.le_of_ble_eq_true rfl) rfl (m_readsHide hR hP2 hz2 hC2.1 (by omega) (by omega) (by unfold flP at hr49; omega) (by omega)) (fun M134 hM134 => ?_)
                     refine bw_retv rfl rfl ?_
                     first
                     | (rw [hst, if_pos (by omega)]
                        exact ⟨rfl, rfl, hU.trans hM113.1, hM113.2.1, hC2.tr hM113.2.2⟩)
                     | (rw [hst, if_neg (by omega), if_pos (by omega)]
                        exact ⟨rfl, rfl, hU.trans hM120.1.p8R, hM120.2.1, hC2.tr hM120.2.2⟩)
                     | (rw [hst, if_neg (by omega), if_neg (by omega), if_pos (by omega)]
                        exact ⟨rfl, rfl, hU.trans hM127.1.p8R, hM127.2.1, hC2.tr hM127.2.2⟩)
                     | (rw [hst, if_neg (by omega), if_neg (by omega), if_neg (by omega)]
                        exact ⟨rfl, rfl, hU.trans hM134.1.p8R, hM134.2.1, hC2.tr hM134.2.2⟩))
          · first
            | (exfalso; omega)
            | (refine bw_retv rfl rfl ?_
               first
               | (exfalso; omega)
               | (rw [st_4 (by omega) (by first | exact Or.inl (by omega) | (rw [w1] at hr49; exact Or.inr (hr49.elim (fun q => q.1) (fun q => absurd q.2 (by omega))))), ← v1]
                  exact ⟨rfl, rfl, (u1.toP.trans hM61.f5).toL.toR, hM61.RSn hP1 z1 (by decide), hC1.f5 hM61.f5⟩))
        · skip
          refine bw_aload rfl rfl ?_
          refine bw_iload rfl rfl ?_
          refine bw_callVj (e := d - 1) (as := [_]) rfl (by omega) rfl rfl (Nat.le_of_ble_eq_true rfl) (Nat.le_of_ble_eq_true rfl) rfl (m_isFull hR hS1 (by omega)) (fun r49 hr49 => ?_)
          refine bw_ifeq rfl (fun c52 => ?_) (fun c52 => ?_)
          · skip
            refine bw_aload rfl rfl ?_
            refine bw_callVj (e := d - 1) (as := []) rfl (by omega) rfl rfl (Nat.le_of_ble_eq_true rfl) (Nat.le_of_ble_eq_true rfl) rfl (m_goesWell hR) (fun r65 hr65 => ?_)
            refine bw_ifne rfl (fun c68 => ?_) (fun c68 => ?_)
            · first
              | (exfalso; omega)
              | (refine bw_aload rfl rfl ?_
                 refine bw_callVv (e := d - 1) (as := []) rfl (by omega) rfl rfl (Nat.le_of_ble_eq_true rfl) (Nat.le_of_ble_eq_true rfl) rfl (m_passes hR hP1 (by omega)) (fun M73 hM73 => ?_)
                 obtain ⟨u73, v73, w73⟩ := hM73
                 have hR := u73.RF hR
                 have s2 : skM M1 a n = p := hz1.2
                 rw [s2] at v73 w73
                 have e2 := we_in hP.ok (k := p) ⟨s8.1, s8.2.1⟩
                 have hP2 := hP1.toP u73.P10 (by omega)
                 have hz2 : rs M73 a n (.inr (sk a n (we a n p))) := ⟨(s5P_11 u73).1.trans z1, by rw [w73]⟩
                 have hC2 := hC1.f5 u73
                 have hU : s5 pR qR M M73 := (u1.toP.trans u73.P10).toL.toR
                 have hst : ¬ (S 5 = 60 ∨ flP S (wo a n p)) := fun k => k.elim (fun k => by omega) (fun k => by rw [w1] at hr49; exact hr49.elim (fun q => by omega) (fun q => q.1 k))
                 have hst := st_g (S := S) (a := a) (n := n) (p := p) (by omega) hst
                 refine bw_iload rfl rfl ?_
                 by_cases s77_0 : r1 = 1
                 · refine bw_switch (t := 112) rfl (by rw [s77_0]; rfl) ?_
                   refine bw_aload rfl rfl ?_
                   refine bw_callVv (e := d - 1) (as := []) rfl (by omega) rfl rfl (Nat.le_of_ble_eq_true rfl) (Nat.le_of_ble_eq_true rfl) rfl (m_readsLayer hR hP2 hz2 hC2.1 (by unfold flP at hr49; omega) (by omega) (by omega)) (fun M113 hM113 => ?_)
                   refine bw_goto rfl ?_
                   refine bw_retv rfl rfl ?_
                   first
                   | (rw [hst, if_pos (by omega)]
                      exact ⟨rfl, rfl, hU.trans hM113.1, hM113.2.1, hC2.tr hM113.2.2⟩)
                   | (rw [hst, if_neg (by omega), if_pos (by omega)]
                      exact ⟨rfl, rfl, hU.trans hM120.1.p8R, hM120.2.1, hC2.tr hM120.2.2⟩)
                   | (rw [hst, if_neg (by omega), if_neg (by omega), if_pos (by omega)]
                      exact ⟨rfl, rfl, hU.trans hM127.1.p8R, hM127.2.1, hC2.tr hM127.2.2⟩)
                   | (rw [hst, if_neg (by omega), if_neg (by omega), if_neg (by omega)]
                      exact ⟨rfl, rfl, hU.trans hM134.1.p8R, hM134.2.1, hC2.tr hM134.2.2⟩)
                 · skip
                   by_cases s77_1 : r1 = 5
                   · refine bw_switch (t := 119) rfl (by rw [s77_1]; rfl) ?_
                     refine bw_aload rfl rfl ?_
                     refine bw_callVv (e := d - 1) (as := []) rfl (by omega) rfl rfl (Nat.le_of_ble_eq_true rfl) (Nat.le_of_ble_eq_true rfl) rfl (m_readsBox hR hP2 hz2 hC2.1 (by omega) (by omega) (by unfold flP at hr49; omega) (by omega)) (fun M120 hM120 => ?_)
                     refine bw_goto rfl ?_
                     refine bw_retv rfl rfl ?_
                     first
                     | (rw [hst, if_pos (by omega)]
                        exact ⟨rfl, rfl, hU.trans hM113.1, hM113.2.1, hC2.tr hM113.2.2⟩)
                     | (rw [hst, if_neg (by omega), if_pos (by omega)]
                        exact ⟨rfl, rfl, hU.trans hM120.1.p8R, hM120.2.1, hC2.tr hM120.2.2⟩)
                     | (rw [hst, if_neg (by omega), if_neg (by omega), if_pos (by omega)]
                        exact ⟨rfl, rfl, hU.trans hM127.1.p8R, hM127.2.1, hC2.tr hM127.2.2⟩)
                     | (rw [hst, if_neg (by omega), if_neg (by omega), if_neg (by omega)]
                        exact ⟨rfl, rfl, hU.trans hM134.1.p8R, hM134.2.1, hC2.tr hM134.2.2⟩)
                   · skip
                     by_cases s77_2 : r1 = 9
                     · refine bw_switch (t := 126) rfl (by rw [s77_2]; rfl) ?_
                       refine bw_aload rfl rfl ?_
                       refine bw_callVv (e := d - 1) (as := []) rfl (by omega) rfl rfl (Nat.le_of_ble_eq_true rfl) (Nat.le_of_ble_eq_true rfl) rfl (m_readsSlide hR hP2 hz2 hC2.1 (by omega) (by omega) (by unfold flP at hr49; omega) (by omega)) (fun M127 hM127 => ?_)
                       refine bw_goto rfl ?_
                       refine bw_retv rfl rfl ?_
                       first
                       | (rw [hst, if_pos (by omega)]
                          exact ⟨rfl, rfl, hU.trans hM113.1, hM113.2.1, hC2.tr hM113.2.2⟩)
                       | (rw [hst, if_neg (by omega), if_pos (by omega)]
                          exact ⟨rfl, rfl, hU.trans hM120.1.p8R, hM120.2.1, hC2.tr hM120.2.2⟩)
                       | (rw [hst, if_neg (by omega), if_neg (by omega), if_pos (by omega)]
                          exact ⟨rfl, rfl, hU.trans hM127.1.p8R, hM127.2.1, hC2.tr hM127.2.2⟩)
                       | (rw [hst, if_neg (by omega), if_neg (by omega), if_neg (by omega)]
                          exact ⟨rfl, rfl, hU.trans hM134.1.p8R, hM134.2.1, hC2.tr hM134.2.2⟩)
                     · skip
                       refine bw_switch (t := 133) rfl (by simp [abSwT, abSw, Op.lookupswitch.offset, s77_0, show ¬ ((1 : Int) = r1) from fun h => s77_0 h.symm, s77_1, show ¬ ((5 : Int) = r1) from fun h => s77_1 h.symm, s77_2, show ¬ ((9 : Int) = r1) from fun h => s77_2 h.symm]) ?_
                       refine bw_aload rfl rfl ?_
                       refine bw_callVv (e := d - 1) (as := []) rfl (by omega) rfl rfl (Nat.le_of_ble_eq_true rfl) (Nat.le_of_ble_eq_true rfl) rfl (m_readsHide hR hP2 hz2 hC2.1 (by omega) (by omega) (by unfold flP at hr49; omega) (by omega)) (fun M134 hM134 => ?_)
                       refine bw_retv rfl rfl ?_
                       first
                       | (rw [hst, if_pos (by omega)]
                          exact ⟨rfl, rfl, hU.trans hM113.1, hM113.2.1, hC2.tr hM113.2.2⟩)
                       | (rw [hst, if_neg (by omega), if_pos (by omega)]
                          exact ⟨rfl, rfl, hU.trans hM120.1.p8R, hM120.2.1, hC2.tr hM120.2.2⟩)
                       | (rw [hst, if_neg (by omega), if_neg (by omega), if_pos (by omega)]
                          exact ⟨rfl, rfl, hU.trans hM127.1.p8R, hM127.2.1, hC2.tr hM127.2.2⟩)
                       | (rw [hst, if_neg (by omega), if_neg (by omega), if_neg (by omega)]
                          exact ⟨rfl, rfl, hU.trans hM134.1.p8R, hM134.2.1, hC2.tr hM134.2.2⟩))
            · first
              | (exfalso; omega)
              | (refine bw_retv rfl rfl ?_
                 first
                 | (exfalso; omega)
                 | (rw [st_4 (by omega) (by first | exact Or.inl (by omega) | (rw [w1] at hr49; exact Or.inr (hr49.elim (fun q => q.1) (fun q => absurd q.2 (by omega))))), ← v1]
                    exact ⟨rfl, rfl, (u1.toP.trans hM61.f5).toL.toR, hM61.RSn hP1 z1 (by decide), hC1.f5 hM61.f5⟩))
          · skip
            refine bw_aload rfl rfl ?_
            refine bw_push rfl ?_
            refine bw_aload rfl rfl ?_
            refine bw_getI rfl rfl ?_
            refine bw_callVv (e := d - 1) (as := [_, _]) rfl (by omega) rfl rfl (Nat.le_of_ble_eq_true rfl) (Nat.le_of_ble_eq_true rfl) rfl (m_faults hR) (fun M61 hM61 => ?_)
            have hR := hM61.f5.RF hR
            have g61 := fal_ne hM61 (by decide)
            refine bw_aload rfl rfl ?_
            refine bw_callVj (e := d - 1) (as := []) rfl (by omega) rfl rfl (Nat.le_of_ble_eq_true rfl) (Nat.le_of_ble_eq_true rfl) rfl (m_goesWell hR) (fun r65 hr65 => ?_)
            refine bw_ifne rfl (fun c68 => ?_) (fun c68 => ?_)
            · first
              | (exfalso; omega)
              | (refine bw_aload rfl rfl ?_
                 refine bw_callVv (e := d - 1) (as := []) rfl (by omega) rfl rfl (Nat.le_of_ble_eq_true rfl) (Nat.le_of_ble_eq_true rfl) rfl (m_passes hR hP1 (by omega)) (fun M73 hM73 => ?_)
                 obtain ⟨u73, v73, w73⟩ := hM73
                 have hR := u73.RF hR
                 have s2 : skM M1 a n = p := hz1.2
                 rw [s2] at v73 w73
                 have e2 := we_in hP.ok (k := p) ⟨s8.1, s8.2.1⟩
                 have hP2 := hP1.toP u73.P10 (by omega)
                 have hz2 : rs M73 a n (.inr (sk a n (we a n p))) := ⟨(s5P_11 u73).1.trans z1, by rw [w73]⟩
                 have hC2 := hC1.f5 u73
                 have hU : s5 pR qR M M73 := (u1.toP.trans u73.P10).toL.toR
                 have hst : ¬ (S 5 = 60 ∨ flP S (wo a n p)) := fun k => k.elim (fun k => by omega) (fun k => by rw [w1] at hr49; exact hr49.elim (fun q => by omega) (fun q => q.1 k))
                 have hst := st_g (S := S) (a := a) (n := n) (p := p) (by omega) hst
                 refine bw_iload rfl rfl ?_
                 by_cases s77_0 : r1 = 1
                 · refine bw_switch (t := 112) rfl (by rw [s77_0]; rfl) ?_
                   refine bw_aload rfl rfl ?_
                   refine bw_callVv (e := d - 1) (as := []) rfl (by omega) rfl rfl (Nat.le_of_ble_eq_true rfl) (Nat.le_of_ble_eq_true rfl) rfl (m_readsLayer hR hP2 hz2 hC2.1 (by unfold flP at hr49; omega) (by omega) (by omega)) (fun M113 hM113 => ?_)
                   refine bw_goto rfl ?_
                   refine bw_retv rfl rfl ?_
                   first
                   | (rw [hst, if_pos (by omega)]
                      exact ⟨rfl, rfl, hU.trans hM113.1, hM113.2.1, hC2.tr hM113.2.2⟩)
                   | (rw [hst, if_neg (by omega), if_pos (by omega)]
                      exact ⟨rfl, rfl, hU.trans hM120.1.p8R, hM120.2.1, hC2.tr hM120.2.2⟩)
                   | (rw [hst, if_neg (by omega), if_neg (by omega), if_pos (by omega)]
                      exact ⟨rfl, rfl, hU.trans hM127.1.p8R, hM127.2.1, hC2.tr hM127.2.2⟩)
                   | (rw [hst, if_neg (by omega), if_neg (by omega), if_neg (by omega)]
                      exact ⟨rfl, rfl, hU.trans hM134.1.p8R, hM134.2.1, hC2.tr hM134.2.2⟩)
                 · skip
                   by_cases s77_1 : r1 = 5
                   · refine bw_switch (t := 119) rfl (by rw [s77_1]; rfl) ?_
                     refine bw_aload rfl rfl ?_
                     refine bw_callVv (e := d - 1) (as := []) rfl (by omega) rfl rfl (Nat.le_of_ble_eq_true rfl) (Nat.le_of_ble_eq_true rfl) rfl (m_readsBox hR hP2 hz2 hC2.1 (by omega) (by omega) (by unfold flP at hr49; omega) (by omega)) (fun M120 hM120 => ?_)
                     refine bw_goto rfl ?_
                     refine bw_retv rfl rfl ?_
                     first
                     | (rw [hst, if_pos (by omega)]
                        exact ⟨rfl, rfl, hU.trans hM113.1, hM113.2.1, hC2.tr hM113.2.2⟩)
                     | (rw [hst, if_neg (by omega), if_pos (by omega)]
                        exact ⟨rfl, rfl, hU.trans hM120.1.p8R, hM120.2.1, hC2.tr hM120.2.2⟩)
                     | (rw [hst, if_neg (by omega), if_neg (by omega), if_pos (by omega)]
                        exact ⟨rfl, rfl, hU.trans hM127.1.p8R, hM127.2.1, hC2.tr hM127.2.2⟩)
                     | (rw [hst, if_neg (by omega), if_neg (by omega), if_neg (by omega)]
                        exact ⟨rfl, rfl, hU.trans hM134.1.p8R, hM134.2.1, hC2.tr hM134.2.2⟩)
                   · skip
                     by_cases s77_2 : r1 = 9
                     · refine bw_switch (t := 126) rfl (by rw [s77_2]; rfl) ?_
                       refine bw_aload rfl rfl ?_
                       refine bw_callVv (e := d - 1) (as := []) rfl (by omega) rfl rfl (Nat.le_of_ble_eq_true rfl) (Nat.le_of_ble_eq_true rfl) rfl (m_readsSlide hR hP2 hz2 hC2.1 (by omega) (by omega) (by unfold flP at hr49; omega) (by omega)) (fun M127 hM127 => ?_)
                       refine bw_goto rfl ?_
                       refine bw_retv rfl rfl ?_
                       first
                       | (rw [hst, if_pos (by omega)]
                          exact ⟨rfl, rfl, hU.trans hM113.1, hM113.2.1, hC2.tr hM113.2.2⟩)
                       | (rw [hst, if_neg (by omega), if_pos (by omega)]
                          exact ⟨rfl, rfl, hU.trans hM120.1.p8R, hM120.2.1, hC2.tr hM120.2.2⟩)
                       | (rw [hst, if_neg (by omega), if_neg (by omega), if_pos (by omega)]
                          exact ⟨rfl, rfl, hU.trans hM127.1.p8R, hM127.2.1, hC2.tr hM127.2.2⟩)
                       | (rw [hst, if_neg (by omega), if_neg (by omega), if_neg (by omega)]
                          exact ⟨rfl, rfl, hU.trans hM134.1.p8R, hM134.2.1, hC2.tr hM134.2.2⟩)
                     · skip
                       refine bw_switch (t := 133) rfl (by simp [abSwT, abSw, Op.lookupswitch.offset, s77_0, show ¬ ((1 : Int) = r1) from fun h => s77_0 h.symm, s77_1, show ¬ ((5 : Int) = r1) from fun h => s77_1 h.symm, s77_2, show ¬ ((9 : Int) = r1) from fun h => s77_2 h.symm]) ?_
                       refine bw_aload rfl rfl ?_
                       refine bw_callVv (e := d - 1) (as := []) rfl (by omega) rfl rfl (Nat.le_of_ble_eq_true rfl) (Nat.le_of_ble_eq_true rfl) rfl (m_readsHide hR hP2 hz2 hC2.1 (by omega) (by omega) (by unfold flP at hr49; omega) (by omega)) (fun M134 hM134 => ?_)
                       refine bw_retv rfl rfl ?_
                       first
                       | (rw [hst, if_pos (by omega)]
                          exact ⟨rfl, rfl, hU.trans hM113.1, hM113.2.1, hC2.tr hM113.2.2⟩)
                       | (rw [hst, if_neg (by omega), if_pos (by omega)]
                          exact ⟨rfl, rfl, hU.trans hM120.1.p8R, hM120.2.1, hC2.tr hM120.2.2⟩)
                       | (rw [hst, if_neg (by omega), if_neg (by omega), if_pos (by omega)]
                          exact ⟨rfl, rfl, hU.trans hM127.1.p8R, hM127.2.1, hC2.tr hM127.2.2⟩)
                       | (rw [hst, if_neg (by omega), if_neg (by omega), if_neg (by omega)]
                          exact ⟨rfl, rfl, hU.trans hM134.1.p8R, hM134.2.1, hC2.tr hM134.2.2⟩))
            · first
              | (exfalso; omega)
              | (refine bw_retv rfl rfl ?_
                 first
                 | (exfalso; omega)
                 | (rw [st_4 (by omega) (by first | exact Or.inl (by omega) | (rw [w1] at hr49; exact Or.inr (hr49.elim (fun q => q.1) (fun q => absurd q.2 (by omega))))), ← v1]
                    exact ⟨rfl, rfl, (u1.toP.trans hM61.f5).toL.toR, hM61.RSn hP1 z1 (by decide), hC1.f5 hM61.f5⟩))
      · skip
        refine bw_iload rfl rfl ?_
        refine bw_push rfl ?_
        refine bw_iceq rfl (fun c24 => ?_) (fun c24 => ?_)
        · skip
          refine bw_aload rfl rfl ?_
          refine bw_push rfl ?_
          refine bw_callVe (e := d - 1) (as := [_]) rfl (by omega) rfl rfl (Nat.le_of_ble_eq_true rfl) (Nat.le_of_ble_eq_true rfl) rfl (m_readOf hR hS1 (by omega)) ?_
          refine bw_push rfl ?_
          refine bw_iceq rfl (fun c44 => ?_) (fun c44 => ?_)
          · skip
            refine bw_aload rfl rfl ?_
            refine bw_push rfl ?_
            refine bw_aload rfl rfl ?_
            refine bw_getI rfl rfl ?_
            refine bw_callVv (e := d - 1) (as := [_, _]) rfl (by omega) rfl rfl (Nat.le_of_ble_eq_true rfl) (Nat.le_of_ble_eq_true rfl) rfl (m_faults hR) (fun M61 hM61 => ?_)
            have hR := hM61.f5.RF hR
            have g61 := fal_ne hM61 (by decide)
            refine bw_aload rfl rfl ?_
            refine bw_callVj (e := d - 1) (as := []) rfl (by omega) rfl rfl (Nat.le_of_ble_eq_true rfl) (Nat.le_of_ble_eq_true rfl) rfl (m_goesWell hR) (fun r65 hr65 => ?_)
            refine bw_ifne rfl (fun c68 => ?_) (fun c68 => ?_)
            · first
              | (exfalso; omega)
              | (refine bw_aload rfl rfl ?_
                 refine bw_callVv (e := d - 1) (as := []) rfl (by omega) rfl rfl (Nat.le_of_ble_eq_true rfl) (Nat.le_of_ble_eq_true rfl) rfl (m_passes hR hP1 (by omega)) (fun M73 hM73 => ?_)
                 obtain ⟨u73, v73, w73⟩ := hM73
                 have hR := u73.RF hR
                 have s2 : skM M1 a n = p := hz1.2
                 rw [s2] at v73 w73
                 have e2 := we_in hP.ok (k := p) ⟨s8.1, s8.2.1⟩
                 have hP2 := hP1.toP u73.P10 (by omega)
                 have hz2 : rs M73 a n (.inr (sk a n (we a n p))) := ⟨(s5P_11 u73).1.trans z1, by rw [w73]⟩
                 have hC2 := hC1.f5 u73
                 have hU : s5 pR qR M M73 := (u1.toP.trans u73.P10).toL.toR
                 have hst : ¬ (S 5 = 60 ∨ flP S (wo a n p)) := fun k => k.elim (fun k => by omega) (fun k => by rw [w1] at hr49; exact hr49.elim (fun q => by omega) (fun q => q.1 k))
                 have hst := st_g (S := S) (a := a) (n := n) (p := p) (by omega) hst
                 refine bw_iload rfl rfl ?_
                 by_cases s77_0 : r1 = 1
                 · refine bw_switch (t := 112) rfl (by rw [s77_0]; rfl) ?_
                   refine bw_aload rfl rfl ?_
                   refine bw_callVv (e := d - 1) (as := []) rfl (by omega) rfl rfl (Nat.le_of_ble_eq_true rfl) (Nat.le_of_ble_eq_true rfl) rfl (m_readsLayer hR hP2 hz2 hC2.1 (by unfold flP at hr49; omega) (by omega) (by omega)) (fun M113 hM113 => ?_)
                   refine bw_goto rfl ?_
                   refine bw_retv rfl rfl ?_
                   first
                   | (rw [hst, if_pos (by omega)]
                      exact ⟨rfl, rfl, hU.trans hM113.1, hM113.2.1, hC2.tr hM113.2.2⟩)
                   | (rw [hst, if_neg (by omega), if_pos (by omega)]
                      exact ⟨rfl, rfl, hU.trans hM120.1.p8R, hM120.2.1, hC2.tr hM120.2.2⟩)
                   | (rw [hst, if_neg (by omega), if_neg (by omega), if_pos (by omega)]
                      exact ⟨rfl, rfl, hU.trans hM127.1.p8R, hM127.2.1, hC2.tr hM127.2.2⟩)
                   | (rw [hst, if_neg (by omega), if_neg (by omega), if_neg (by omega)]
                      exact ⟨rfl, rfl, hU.trans hM134.1.p8R, hM134.2.1, hC2.tr hM134.2.2⟩)
                 · skip
                   by_cases s77_1 : r1 = 5
                   · refine bw_switch (t := 119) rfl (by rw [s77_1]; rfl) ?_
                     refine bw_aload rfl rfl ?_
                     refine bw_callVv (e := d - 1) (as := []) rfl (by omega) rfl rfl (Nat.le_of_ble_eq_true rfl) (Nat.le_of_ble_eq_true rfl) rfl (m_readsBox hR hP2 hz2 hC2.1 (by omega) (by omega) (by unfold flP at hr49; omega) (by omega)) (fun M120 hM120 => ?_)
                     refine bw_goto rfl ?_
                     refine bw_retv rfl rfl ?_
                     first
                     | (rw [hst, if_pos (by omega)]
                        exact ⟨rfl, rfl, hU.trans hM113.1, hM113.2.1, hC2.tr hM113.2.2⟩)
                     | (rw [hst, if_neg (by omega), if_pos (by omega)]
                        exact ⟨rfl, rfl, hU.trans hM120.1.p8R, hM120.2.1, hC2.tr hM120.2.2⟩)
                     | (rw [hst, if_neg (by omega), if_neg (by omega), if_pos (by omega)]
                        exact ⟨rfl, rfl, hU.trans hM127.1.p8R, hM127.2.1, hC2.tr hM127.2.2⟩)
                     | (rw [hst, if_neg (by omega), if_neg (by omega), if_neg (by omega)]
                        exact ⟨rfl, rfl, hU.trans hM134.1.p8R, hM134.2.1, hC2.tr hM134.2.2⟩)
                   · skip
                     by_cases s77_2 : r1 = 9
                     · refine bw_switch (t := 126) rfl (by rw [s77_2]; rfl) ?_
                       refine bw_aload rfl rfl ?_
                       refine bw_callVv (e := d - 1) (as := []) rfl (by omega) rfl rfl (Nat.le_of_ble_eq_true rfl) (Nat.le_of_ble_eq_true rfl) rfl (m_readsSlide hR hP2 hz2 hC2.1 (by omega) (by omega) (by unfold flP at hr49; omega) (by omega)) (fun M127 hM127 => ?_)
                       refine bw_goto rfl ?_
                       refine bw_retv rfl rfl ?_
                       first
                       | (rw [hst, if_pos (by omega)]
                          exact ⟨rfl, rfl, hU.trans hM113.1, hM113.2.1, hC2.tr hM113.2.2⟩)
                       | (rw [hst, if_neg (by omega), if_pos (by omega)]
                          exact ⟨rfl, rfl, hU.trans hM120.1.p8R, hM120.2.1, hC2.tr hM120.2.2⟩)
                       | (rw [hst, if_neg (by omega), if_neg (by omega), if_pos (by omega)]
                          exact ⟨rfl, rfl, hU.trans hM127.1.p8R, hM127.2.1, hC2.tr hM127.2.2⟩)
                       | (rw [hst, if_neg (by omega), if_neg (by omega), if_neg (by omega)]
                          exact ⟨rfl, rfl, hU.trans hM134.1.p8R, hM134.2.1, hC2.tr hM134.2.2⟩)
                     · skip
                       refine bw_switch (t := 133) rfl (by simp [abSwT, abSw, Op.lookupswitch.offset, s77_0, show ¬ ((1 : Int) = r1) from fun h => s77_0 h.symm, s77_1, show ¬ ((5 : Int) = r1) from fun h => s77_1 h.symm, s77_2, show ¬ ((9 : Int) = r1) from fun h => s77_2 h.symm]) ?_
                       refine bw_aload rfl rfl ?_
                       refine bw_callVv (e := d - 1) (as := []) rfl (by omega) rfl rfl (Nat.le_of_ble_eq_true rfl) (Nat.le_of_ble_eq_true rfl) rfl (m_readsHide hR hP2 hz2 hC2.1 (by omega) (by omega) (by unfold flP at hr49; omega) (by omega)) (fun M134 hM134 => ?_)
                       refine bw_retv rfl rfl ?_
                       first
                       | (rw [hst, if_pos (by omega)]
                          exact ⟨rfl, rfl, hU.trans hM113.1, hM113.2.1, hC2.tr hM113.2.2⟩)
                       | (rw [hst, if_neg (by omega), if_pos (by omega)]
                          exact ⟨rfl, rfl, hU.trans hM120.1.p8R, hM120.2.1, hC2.tr hM120.2.2⟩)
                       | (rw [hst, if_neg (by omega), if_neg (by omega), if_pos (by omega)]
                          exact ⟨rfl, rfl, hU.trans hM127.1.p8R, hM127.2.1, hC2.tr hM127.2.2⟩)
                       | (rw [hst, if_neg (by omega), if_neg (by omega), if_neg (by omega)]
                          exact ⟨rfl, rfl, hU.trans hM134.1.p8R, hM134.2.1, hC2.tr hM134.2.2⟩))
            · first
              | (exfalso; omega)
              | (refine bw_retv rfl rfl ?_
                 first
                 | (exfalso; omega)
                 | (rw [st_4 (by omega) (by first | exact Or.inl (by omega) | (rw [w1] at hr49; exact Or.inr (hr49.elim (fun q => q.1) (fun q => absurd q.2 (by omega))))), ← v1]
                    exact ⟨rfl, rfl, (u1.toP.trans hM61.f5).toL.toR, hM61.RSn hP1 z1 (by decide), hC1.f5 hM61.f5⟩))
          · skip
            refine bw_aload rfl rfl ?_
            refine bw_iload rfl rfl ?_
            refine bw_callVj (e := d - 1) (as := [_]) rfl (by omega) rfl rfl (Nat.le_of_ble_eq_true rfl) (Nat.le_of_ble_eq_true rfl) rfl (m_isFull hR hS1 (by omega)) (fun r49 hr49 => ?_)
            refine bw_ifeq rfl (fun c52 => ?_) (fun c52 => ?_)
            · skip
              refine bw_aload rfl rfl ?_
              refine bw_callVj (e := d - 1) (as := []) rfl (by omega) rfl rfl (Nat.le_of_ble_eq_true rfl) (Nat.le_of_ble_eq_true rfl) rfl (m_goesWell hR) (fun r65 hr65 => ?_)
              refine bw_ifne rfl (fun c68 => ?_) (fun c68 => ?_)
              · first
                | (exfalso; omega)
                | (refine bw_aload rfl rfl ?_
                   refine bw_callVv (e := d - 1) (as := []) rfl (by omega) rfl rfl (Nat.le_of_ble_eq_true rfl) (Nat.le_of_ble_eq_true rfl) rfl (m_passes hR hP1 (by omega)) (fun M73 hM73 => ?_)
                   obtain ⟨u73, v73, w73⟩ := hM73
                   have hR := u73.RF hR
                   have s2 : skM M1 a n = p := hz1.2
                   rw [s2] at v73 w73
                   have e2 := we_in hP.ok (k := p) ⟨s8.1, s8.2.1⟩
                   have hP2 := hP1.toP u73.P10 (by omega)
                   have hz2 : rs M73 a n (.inr (sk a n (we a n p))) := ⟨(s5P_11 u73).1.trans z1, by rw [w73]⟩
                   have hC2 := hC1.f5 u73
                   have hU : s5 pR qR M M73 := (u1.toP.trans u73.P10).toL.toR
                   have hst : ¬ (S 5 = 60 ∨ flP S (wo a n p)) := fun k => k.elim (fun k => by omega) (fun k => by rw [w1] at hr49; exact hr49.elim (fun q => by omega) (fun q => q.1 k))
                   have hst := st_g (S := S) (a := a) (n := n) (p := p) (by omega) hst
                   refine bw_iload rfl rfl ?_
                   by_cases s77_0 : r1 = 1
                   · refine bw_switch (t := 112) rfl (by rw [s77_0]; rfl) ?_
                     refine bw_aload rfl rfl ?_
                     refine bw_callVv (e := d - 1) (as := []) rfl (by omega) rfl rfl (Nat.le_of_ble_eq_true rfl) (Nat.le_of_ble_eq_true rfl) rfl (m_readsLayer hR hP2 hz2 hC2.1 (by unfold flP at hr49; omega) (by omega) (by omega)) (fun M113 hM113 => ?_)
                     refine bw_goto rfl ?_
                     refine bw_retv rfl rfl ?_
                     first
                     | (rw [hst, if_pos (by omega)]
                        exact ⟨rfl, rfl, hU.trans hM113.1, hM113.2.1, hC2.tr hM113.2.2⟩)
                     | (rw [hst, if_neg (by omega), if_pos (by omega)]
                        exact ⟨rfl, rfl, hU.trans hM120.1.p8R, hM120.2.1, hC2.tr hM120.2.2⟩)
                     | (rw [hst, if_neg (by omega), if_neg (by omega), if_pos (by omega)]
                        exact ⟨rfl, rfl, hU.trans hM127.1.p8R, hM127.2.1, hC2.tr hM127.2.2⟩)
                     | (rw [hst, if_neg (by omega), if_neg (by omega), if_neg (by omega)]
                        exact ⟨rfl, rfl, hU.trans hM134.1.p8R, hM134.2.1, hC2.tr hM134.2.2⟩)
                   · skip
                     by_cases s77_1 : r1 = 5
                     · refine bw_switch (t := 119) rfl (by rw [s77_1]; rfl) ?_
                       refine bw_aload rfl rfl ?_
                       refine bw_callVv (e := d - 1) (as := []) rfl (by omega) rfl rfl (Nat.le_of_ble_eq_true rfl) (Nat.le_of_ble_eq_true rfl) rfl (m_readsBox hR hP2 hz2 hC2.1 (by omega) (by omega) (by unfold flP at hr49; omega) (by omega)) (fun M120 hM120 => ?_)
                       refine bw_goto rfl ?_
                       refine bw_retv rfl rfl ?_
                       first
                       | (rw [hst, if_pos (by omega)]
                          exact ⟨rfl, rfl, hU.trans hM113.1, hM113.2.1, hC2.tr hM113.2.2⟩)
                       | (rw [hst, if_neg (by omega), if_pos (by omega)]
                          exact ⟨rfl, rfl, hU.trans hM120.1.p8R, hM120.2.1, hC2.tr hM120.2.2⟩)
                       | (rw [hst, if_neg (by omega), if_neg (by omega), if_pos (by omega)]
                          exact ⟨rfl, rfl, hU.trans hM127.1.p8R, hM127.2.1, hC2.tr hM127.2.2⟩)
                       | (rw [hst, if_neg (by omega), if_neg (by omega), if_neg (by omega)]
                          exact ⟨rfl, rfl, hU.trans hM134.1.p8R, hM134.2.1, hC2.tr hM134.2.2⟩)
                     · skip
                       by_cases s77_2 : r1 = 9
                       · refine bw_switch (t := 126) rfl (by rw [s77_2]; rfl) ?_
                         refine bw_aload rfl rfl ?_
                         refine bw_callVv (e := d - 1) (as := []) rfl (by omega) rfl rfl (Nat.le_of_ble_eq_true rfl) (Nat.le_of_ble_eq_true rfl) rfl (m_readsSlide hR hP2 hz2 hC2.1 (by omega) (by omega) (by unfold flP at hr49; omega) (by omega)) (fun M127 hM127 => ?_)
                         refine bw_goto rfl ?_
                         refine bw_retv rfl rfl ?_
                         first
                         | (rw [hst, if_pos (by omega)]
                            exact ⟨rfl, rfl, hU.trans hM113.1, hM113.2.1, hC2.tr hM113.2.2⟩)
                         | (rw [hst, if_neg (by omega), if_pos (by omega)]
                            exact ⟨rfl, rfl, hU.trans hM120.1.p8R, hM120.2.1, hC2.tr hM120.2.2⟩)
                         | (rw [hst, if_neg (by omega), if_neg (by omega), if_pos (by omega)]
                            exact ⟨rfl, rfl, hU.trans hM127.1.p8R, hM127.2.1, hC2.tr hM127.2.2⟩)
                         | (rw [hst, if_neg (by omega), if_neg (by omega), if_neg (by omega)]
                            exact ⟨rfl, rfl, hU.trans hM134.1.p8R, hM134.2.1, hC2.tr hM134.2.2⟩)
                       · skip
                         refine bw_switch (t := 133) rfl (by simp [abSwT, abSw, Op.lookupswitch.offset, s77_0, show ¬ ((1 : Int) = r1) from fun h => s77_0 h.symm, s77_1, show ¬ ((5 : Int) = r1) from fun h => s77_1 h.symm, s77_2, show ¬ ((9 : Int) = r1) from fun h => s77_2 h.symm]) ?_
                         refine bw_aload rfl rfl ?_
                         refine bw_callVv (e := d - 1) (as := []) rfl (by omega) rfl rfl (Nat.le_of_ble_eq_true rfl) (Nat.le_of_ble_eq_true rfl) rfl (m_readsHide hR hP2 hz2 hC2.1 (by omega) (by omega) (by unfold flP at hr49; omega) (by omega)) (fun M134 hM134 => ?_)
                         refine bw_retv rfl rfl ?_
                         first
                         | (rw [hst, if_pos (by omega)]
                            exact ⟨rfl, rfl, hU.trans hM113.1, hM113.2.1, hC2.tr hM113.2.2⟩)
                         | (rw [hst, if_neg (by omega), if_pos (by omega)]
                            exact ⟨rfl, rfl, hU.trans hM120.1.p8R, hM120.2.1, hC2.tr hM120.2.2⟩)
                         | (rw [hst, if_neg (by omega), if_neg (by omega), if_pos (by omega)]
                            exact ⟨rfl, rfl, hU.trans hM127.1.p8R, hM127.2.1, hC2.tr hM127.2.2⟩)
                         | (rw [hst, if_neg (by omega), if_neg (by omega), if_neg (by omega)]
                            exact ⟨rfl, rfl, hU.trans hM134.1.p8R, hM134.2.1, hC2.tr hM134.2.2⟩))
              · first
                | (exfalso; omega)
                | (refine bw_retv rfl rfl ?_
                   first
                   | (exfalso; omega)
                   | (rw [st_4 (by omega) (by first | exact Or.inl (by omega) | (rw [w1] at hr49; exact Or.inr (hr49.elim (fun q => q.1) (fun q => absurd q.2 (by omega))))), ← v1]
                      exact ⟨rfl, rfl, (u1.toP.trans hM61.f5).toL.toR, hM61.RSn hP1 z1 (by decide), hC1.f5 hM61.f5⟩))
            · skip
              refine bw_aload rfl rfl ?_
              refine bw_push rfl ?_
              refine bw_aload rfl rfl ?_
              refine bw_getI rfl rfl ?_
              refine bw_callVv (e := d - 1) (as := [_, _]) rfl (by omega) rfl rfl (Nat.le_of_ble_eq_true rfl) (Nat.le_of_ble_eq_true rfl) rfl (m_faults hR) (fun M61 hM61 => ?_)
              have hR := hM61.f5.RF hR
              have g61 := fal_ne hM61 (by decide)
              refine bw_aload rfl rfl ?_
              refine bw_callVj (e := d - 1) (as := []) rfl (by omega) rfl rfl (Nat.le_of_ble_eq_true rfl) (Nat.le_of_ble_eq_true rfl) rfl (m_goesWell hR) (fun r65 hr65 => ?_)
              refine bw_ifne rfl (fun c68 => ?_) (fun c68 => ?_)
              · first
                | (exfalso; omega)
                | (refine bw_aload rfl rfl ?_
                   refine bw_callVv (e := d - 1) (as := []) rfl (by omega) rfl rfl (Nat.le_of_ble_eq_true rfl) (Nat.le_of_ble_eq_true rfl) rfl (m_passes hR hP1 (by omega)) (fun M73 hM73 => ?_)
                   obtain ⟨u73, v73, w73⟩ := hM73
                   have hR := u73.RF hR
                   have s2 : skM M1 a n = p := hz1.2
                   rw [s2] at v73 w73
                   have e2 := we_in hP.ok (k := p) ⟨s8.1, s8.2.1⟩
                   have hP2 := hP1.toP u73.P10 (by omega)
                   have hz2 : rs M73 a n (.inr (sk a n (we a n p))) := ⟨(s5P_11 u73).1.trans z1, by rw [w73]⟩
                   have hC2 := hC1.f5 u73
                   have hU : s5 pR qR M M73 := (u1.toP.trans u73.P10).toL.toR
                   have hst : ¬ (S 5 = 60 ∨ flP S (wo a n p)) := fun k => k.elim (fun k => by omega) (fun k => by rw [w1] at hr49; exact hr49.elim (fun q => by omega) (fun q => q.1 k))
                   have hst := st_g (S := S) (a := a) (n := n) (p := p) (by omega) hst
                   refine bw_iload rfl rfl ?_
                   by_cases s77_0 : r1 = 1
                   · refine bw_switch (t := 112) rfl (by rw [s77_0]; rfl) ?_
                     refine bw_aload rfl rfl ?_
                     refine bw_callVv (e := d - 1) (as := []) rfl (by omega) rfl rfl (Nat.le_of_ble_eq_true rfl) (Nat.le_of_ble_eq_true rfl) rfl (m_readsLayer hR hP2 hz2 hC2.1 (by unfold flP at hr49; omega) (by omega) (by omega)) (fun M113 hM113 => ?_)
                     refine bw_goto rfl ?_
                     refine bw_retv rfl rfl ?_
                     first
                     | (rw [hst, if_pos (by omega)]
                        exact ⟨rfl, rfl, hU.trans hM113.1, hM113.2.1, hC2.tr hM113.2.2⟩)
                     | (rw [hst, if_neg (by omega), if_pos (by omega)]
                        exact ⟨rfl, rfl, hU.trans hM120.1.p8R, hM120.2.1, hC2.tr hM120.2.2⟩)
                     | (rw [hst, if_neg (by omega), if_neg (by omega), if_pos (by omega)]
                        exact ⟨rfl, rfl, hU.trans hM127.1.p8R, hM127.2.1, hC2.tr hM127.2.2⟩)
                     | (rw [hst, if_neg (by omega), if_neg (by omega), if_neg (by omega)]
                        exact ⟨rfl, rfl, hU.trans hM134.1.p8R, hM134.2.1, hC2.tr hM134.2.2⟩)
                   · skip
                     by_cases s77_1 : r1 = 5
                     · refine bw_switch (t := 119) rfl (by rw [s77_1]; rfl) ?_
                       refine bw_aload rfl rfl ?_
                       refine bw_callVv (e := d - 1) (as := []) rfl (by omega) rfl rfl (Nat.le_of_ble_eq_true rfl) (Nat.le_of_ble_eq_true rfl) rfl (m_readsBox hR hP2 hz2 hC2.1 (by omega) (by omega) (by unfold flP at hr49; omega) (by omega)) (fun M120 hM120 => ?_)
                       refine bw_goto rfl ?_
                       refine bw_retv rfl rfl ?_
                       first
                       | (rw [hst, if_pos (by omega)]
                          exact ⟨rfl, rfl, hU.trans hM113.1, hM113.2.1, hC2.tr hM113.2.2⟩)
                       | (rw [hst, if_neg (by omega), if_pos (by omega)]
                          exact ⟨rfl, rfl, hU.trans hM120.1.p8R, hM120.2.1, hC2.tr hM120.2.2⟩)
                       | (rw [hst, if_neg (by omega), if_neg (by omega), if_pos (by omega)]
                          exact ⟨rfl, rfl, hU.trans hM127.1.p8R, hM127.2.1, hC2.tr hM127.2.2⟩)
                       | (rw [hst, if_neg (by omega), if_neg (by omega), if_neg (by omega)]
                          exact ⟨rfl, rfl, hU.trans hM134.1.p8R, hM134.2.1, hC2.tr hM134.2.2⟩)
                     · skip
                       by_cases s77_2 : r1 = 9
                       · refine bw_switch (t := 126) rfl (by rw [s77_2]; rfl) ?_
                         refine bw_aload rfl rfl ?_
                         refine bw_callVv (e := d - 1) (as := []) rfl (by omega) rfl rfl (Nat.le_of_ble_eq_true rfl) (Nat.le_of_ble_eq_true rfl) rfl (m_readsSlide hR hP2 hz2 hC2.1 (by omega) (by omega) (by unfold flP at hr49; omega) (by omega)) (fun M127 hM127 => ?_)
                         refine bw_goto rfl ?_
                         refine bw_retv rfl rfl ?_
                         first
                         | (rw [hst, if_pos (by omega)]
                            exact ⟨rfl, rfl, hU.trans hM113.1, hM113.2.1, hC2.tr hM113.2.2⟩)
                         | (rw [hst, if_neg (by omega), if_pos (by omega)]
                            exact ⟨rfl, rfl, hU.trans hM120.1.p8R, hM120.2.1, hC2.tr hM120.2.2⟩)
                         | (rw [hst, if_neg (by omega), if_neg (by omega), if_pos (by omega)]
                            exact ⟨rfl, rfl, hU.trans hM127.1.p8R, hM127.2.1, hC2.tr hM127.2.2⟩)
                         | (rw [hst, if_neg (by omega), if_neg (by omega), if_neg (by omega)]
                            exact ⟨rfl, rfl, hU.trans hM134.1.p8R, hM134.2.1, hC2.tr hM134.2.2⟩)
                       · skip
                         refine bw_switch (t := 133) rfl (by simp [abSwT, abSw, Op.lookupswitch.offset, s77_0, show ¬ ((1 : Int) = r1) from fun h => s77_0 h.symm, s77_1, show ¬ ((5 : Int) = r1) from fun h => s77_1 h.symm, s77_2, show ¬ ((9 : Int) = r1) from fun h => s77_2 h.symm]) ?_
                         refine bw_aload rfl rfl ?_
                         refine bw_callVv (e := d - 1) (as := []) rfl (by omega) rfl rfl (Nat.le_of_ble_eq_true rfl) (Nat.le_of_ble_eq_true rfl) rfl (m_readsHide hR hP2 hz2 hC2.1 (by omega) (by omega) (by unfold flP at hr49; omega) (by omega)) (fun M134 hM134 => ?_)
                         refine bw_retv rfl rfl ?_
                         first
                         | (rw [hst, if_pos (by omega)]
                            exact ⟨rfl, rfl, hU.trans hM113.1, hM113.2.1, hC2.tr hM113.2.2⟩)
                         | (rw [hst, if_neg (by omega), if_pos (by omega)]
                            exact ⟨rfl, rfl, hU.trans hM120.1.p8R, hM120.2.1, hC2.tr hM120.2.2⟩)
                         | (rw [hst, if_neg (by omega), if_neg (by omega), if_pos (by omega)]
                            exact ⟨rfl, rfl, hU.trans hM127.1.p8R, hM127.2.1, hC2.tr hM127.2.2⟩)
                         | (rw [hst, if_neg (by omega), if_neg (by omega), if_neg (by omega)]
                            exact ⟨rfl, rfl, hU.trans hM134.1.p8R, hM134.2.1, hC2.tr hM134.2.2⟩))
              · first
                | (exfalso; omega)
                | (refine bw_retv rfl rfl ?_
                   first
                   | (exfalso; omega)
                   | (rw [st_4 (by omega) (by first | exact Or.inl (by omega) | (rw [w1] at hr49; exact Or.inr (hr49.elim (fun q => q.1) (fun q => absurd q.2 (by omega))))), ← v1]
                      exact ⟨rfl, rfl, (u1.toP.trans hM61.f5).toL.toR, hM61.RSn hP1 z1 (by decide), hC1.f5 hM61.f5⟩))
        · skip
          refine bw_aload rfl rfl ?_
          refine bw_push rfl ?_
          refine bw_aload rfl rfl ?_
          refine bw_getI rfl rfl ?_
          refine bw_callVv (e := d - 1) (as := [_, _]) rfl (by omega) rfl rfl (Nat.le_of_ble_eq_true rfl) (Nat.le_of_ble_eq_true rfl) rfl (m_faults hR) (fun M33 hM33 => ?_)
          refine bw_retv rfl rfl ?_
          rw [st_1 (by omega), ← v1]
          exact ⟨rfl, rfl, (u1.toP.trans hM33.f5).toL.toR, hM33.RSn hP1 z1 (by decide), hC1.f5 hM33.f5⟩
