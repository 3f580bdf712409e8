/-- the name of m bytes from p on is laid, i of them so far -/
def nmF (S a : Int → Int) (l m p i : Int) : Int → Int := fun j => if j = 12 + 7 * l then m else if 13 + 7 * l ≤ j ∧ j < 13 + 7 * l + i then a (p + (j - (13 + 7 * l))) else S j
theorem nmF_0 {S a : Int → Int} {l m p : Int} : up S (12 + 7 * l) m = nmF S a l m p 0 := by
  funext j
  unfold up nmF
  by_cases q : j = 12 + 7 * l
  · rw [if_pos q, if_pos q]
  · rw [if_neg q, if_neg q, if_neg (by omega)]
theorem nmF_s {S a : Int → Int} {l m p i : Int} (hi : 0 ≤ i) : up (nmF S a l m p i) (12 + 7 * l + 1 + i) (a (p + i)) = nmF S a l m p (i + 1) := by
  funext j
  unfold up nmF
  by_cases q : j = 12 + 7 * l + 1 + i
  · rw [if_pos q, if_neg (by omega), if_pos (by omega), q]; congr 1; omega
  · rw [if_neg q]
    by_cases q2 : j = 12 + 7 * l
    · rw [if_pos q2, if_pos q2]
    · rw [if_neg q2, if_neg q2]
      by_cases q3 : 13 + 7 * l ≤ j ∧ j < 13 + 7 * l + i
      · rw [if_pos q3, if_pos (by omega)]
      · rw [if_neg q3, if_neg (by omega)]
theorem nmF_lo {S a : Int → Int} {l m p i j : Int} (hl : 0 ≤ l) (hj : j < 12) : nmF S a l m p i j = S j := by
  unfold nmF
  rw [if_neg (by omega), if_neg (by omega)]
theorem ltF_lo {S : Int → Int} {h : HH} {l e n j : Int} (hl : 0 ≤ l) (hj : j < 430) : ltF S h l e n j = S j := by
  unfold ltF
  rw [if_neg (by omega)]
/-- the line's ending -/
noncomputable def enW (a : Int → Int) (n p : Int) : Rp × Int := if (takS a n 3 (.inr p)).2 = 1 then ((takS a n 3 (.inr p)).1, 1) else if (takS a n 4 (takS a n 3 (.inr p)).1).2 = 1 then ((takS a n 4 (takS a n 3 (.inr p)).1).1, 2) else ((takS a n 4 (takS a n 3 (.inr p)).1).1, 0)
noncomputable def laT (S : Int → Int) (on l : Int) (h : HH) (e : Int) : Int → Int := ltF (up S (6 + l) on) h l e ((up S (6 + l) on) 0)
noncomputable def laE (S a : Int → Int) (n on l : Int) (t : LnS) : Rp × (Int → Int) := ((enW a n (lsP t)).1, up (laT S on l (lsH t) (enW a n (lsP t)).2) 1 (laT S on l (lsH t) (enW a n (lsP t)).2 1 + 1))
noncomputable def laL (S a : Int → Int) (n on l q : Int) : Rp × (Int → Int) := match lnR a n on (ls0 q) with
  | .inl e => (.inl e, S)
  | .inr t => laE S a n on l t
noncomputable def laN (S a : Int → Int) (n l : Int) (z : Rp) : Rp × (Int → Int) := match siS a n 61 (nuS a n 1 24 (woS a n 2 z)).1 with
  | .inl e => (.inl e, S)
  | .inr q => laL S a n (nuS a n 1 24 (woS a n 2 z)).2 l q
noncomputable def laS (S a : Int → Int) (n p : Int) : Rp × (Int → Int) := match (naS S a n (.inr p)).1 with
  | .inl e => (.inl e, S)
  | .inr q => if (naS S a n (.inr p)).2 ≠ -1 then (.inl (3, p), S) else laN (nmF S a (S 1) (we a n p - p) p (we a n p - p)) a n (S 1) (.inr q)
theorem laS_f {S a : Int → Int} {n p : Int} {e : Int × Int} (h : (naS S a n (.inr p)).1 = .inl e) : laS S a n p = (.inl e, S) := by unfold laS; rw [h]
theorem laS_d {S a : Int → Int} {n p q : Int} (h : (naS S a n (.inr p)).1 = .inr q) (g : (naS S a n (.inr p)).2 ≠ -1) : laS S a n p = (.inl (3, p), S) := by
  unfold laS; rw [h]; exact if_pos g
theorem laS_g {S a : Int → Int} {n p q : Int} (h : (naS S a n (.inr p)).1 = .inr q) (g : (naS S a n (.inr p)).2 = -1) : laS S a n p = laN (nmF S a (S 1) (we a n p - p) p (we a n p - p)) a n (S 1) (.inr q) := by
  unfold laS; rw [h]; exact if_neg (fun k => k g)
theorem laN_f {S a : Int → Int} {n l : Int} {z : Rp} {e : Int × Int} (h : siS a n 61 (nuS a n 1 24 (woS a n 2 z)).1 = .inl e) : laN S a n l z = (.inl e, S) := by unfold laN; rw [h]
theorem laN_g {S a : Int → Int} {n l q : Int} {z : Rp} (h : siS a n 61 (nuS a n 1 24 (woS a n 2 z)).1 = .inr q) : laN S a n l z = laL S a n (nuS a n 1 24 (woS a n 2 z)).2 l q := by unfold laN; rw [h]
theorem laL_f {S a : Int → Int} {n on l q : Int} {e : Int × Int} (h : isLr a n on (ls0 q) (.inl e)) : laL S a n on l q = (.inl e, S) := by unfold laL; rw [lnR_eq h]
theorem laL_g {S a : Int → Int} {n on l q : Int} {t : LnS} (h : isLr a n on (ls0 q) (.inr t)) : laL S a n on l q = laE S a n on l t := by unfold laL; rw [lnR_eq h]
theorem SC.at8 {M N K : abMem} {S : Int → Int} (h : SC M N S) (e : gI K 568 = gI N 568) : SC M K S := by
  unfold SC
  rw [e]
  exact h
abbrev pR (a : Nat) : Prop := a = 568 ∨ pL a
theorem pR_no {a : Nat} (h : a ≠ 568 ∧ a ≠ 573 ∧ a ≠ 574 ∧ a ≠ 575 ∧ a ≠ 576) : ¬ pR a := fun k => k.elim h.1 (pL_no h.2)
theorem s5.toR {M N : abMem} (g : s5 pL qR M N) : s5 pR qR M N := g.mono (fun _ k => Or.inr k) (fun _ k => k)
theorem qPR {j : Int} (k : qP j) : qR j := by show _ ∨ _; rcases k with k | k | k | k <;> simp [k]
theorem s5.p8R {M N : abMem} (g : s5 p8 qP M N) : s5 pR qR M N := g.mono (fun _ k => Or.inl k) (fun _ k => qPR k)
theorem s5.p8n {M N : abMem} (g : s5 p8 qNo M N) : s5 p8 qP M N := g.mono (fun _ k => k) (fun _ k => k.elim)
theorem PS_p8 {M N : abMem} {a : Int → Int} {n : Int} (h : PS M a n) (g : s5 p8 qNo M N) : PS N a n := h.fr5 g (show ¬ (571 : Nat) = 568 by decide) (show ¬ (572 : Nat) = 568 by decide) (fun k => k) (by rw [g.sl 9 (fun k => k)]; exact h.he)
theorem rs_p8 {M N : abMem} {a : Int → Int} {n : Int} {z : Rp} (h : rs M a n z) (g : s5 p8 qNo M N) : rs N a n z := by
  have e9 := g.sl 9 (fun k => k)
  have e11 := g.sl 11 (fun k => k)
  have e12 := g.sl 12 (fun k => k)
  rcases z with e | p
  · exact ⟨e11.trans h.1, e12.trans h.2.1, h.2.2⟩
  · exact ⟨e11.trans h.1, by rw [e9]; exact h.2⟩
theorem HR.q910 {M N : abMem} {h : HH} (H : HR M h) (u : s5 pNo q910 M N) : HR N h := H.f5 u (fun k => by rcases k with k | k <;> omega)
set_option maxRecDepth 20000 in
set_option maxHeartbeats 4000000 in
theorem m_readsLayer {d L : Nat} {M : abMem} {r : abRf} (hR : RF r M) {a : Int → Int} {n p : Int} (hP : PS M a n) (hz : rs M a n (.inr p)) {S : Int → Int} (hS : SIm (gI M 568) 1006 S) (hl5 : 0 ≤ S 1 ∧ S 1 ≤ 5) (h0 : 1 ≤ S 0 ∧ S 0 ≤ 96) (hd : 9 ≤ d) : abW d (0, 0) 178 0 (abEnt (abL 178) [vr (some 567)]) [] (0, 0) (A0 L) M (qV (A0 L) (fun N => s5 pR qR M N ∧ RS N a n (laS S a n p).1 ∧ SC M N (laS S a n p).2)) := by
  have p1 := hP.sz
  have p2 := hP.ok.1
  have p3 := hP.he
  have hRM := hR
  have hF : s5 p8 qP M M := s5_refl _ _ _
  have hC : SC M M S := ⟨hS, fun _ _ => rfl⟩
  have L60 : ∀ (kf : Nat) (K : abMem) (q i : Int), (s5 p8 qP M K) → (PS K a n ∧ rs K a n (.inr q)) → (gI K 567 10 = p ∧ gI K 567 9 = we a n p) → ((naS S a n (.inr p)).1 = .inr q ∧ (naS S a n (.inr p)).2 = -1) → (SC M K (nmF S a (S 1) (we a n p - p) p i)) → (0 ≤ i ∧ i ≤ we a n p - p) → ((we a n p - p ≤ 6 ∧ 0 ≤ p) ∧ we a n p ≤ n) → ((we a n p - p - i).toNat) < kf → abW d (0, 0) 178 60 [some (vr (some 567)), some (vi (S 1)), none, some (vi (1018 + 7 * S 1)), some (vi i), none] [] (0, 0) (A0 L) (K) (qV (A0 L) (fun N => s5 pR qR M N ∧ RS N a n (laS S a n p).1 ∧ SC M N (laS S a n p).2)) := by
    intro kf
    induction kf with
    | zero => intro K  q i  g1 g2 g3 g4 g5 g6 g7 hm9; exact absurd hm9 (Nat.not_lt_zero _)
    | succ kf ih60 =>
      intro K  q i  g1 g2 g3 g4 g5 g6 g7 hm60
      have ih := ih60
      have hR := g1.RF hRM
      refine bw_aload rfl rfl ?_
      refine bw_getI rfl rfl ?_
      refine bw_iload rfl rfl ?_
      refine bw_iadd rfl ⟨by omega, by omega⟩ ?_
      refine bw_aload rfl rfl ?_
      refine bw_getI rfl rfl ?_
      refine bw_icge rfl (fun c71 => ?_) (fun c71 => ?_)
      · skip
        obtain rfl : i = we a n p - p := by omega
        have hP := g2.1
        have hz := g2.2
        have hC := g5
        have hF := g1
        have p3 := hP.he
        refine bw_aload rfl rfl ?_
        refine bw_push rfl ?_
        refine bw_callVv (e := d - 1) (as := [_]) rfl (by omega) rfl rfl (Nat.le_of_ble_eq_true rfl) (Nat.le_of_ble_eq_true rfl) rfl (m_must hR hP hz (by omega)) (fun M105 hM105 => ?_)
        obtain ⟨u105, v105⟩ := hM105
        obtain ⟨y105, e105⟩ : ∃ y, y = woS a n 2 (Sum.inr q) := ⟨_, rfl⟩
        rw [← e105] at v105
        have hR := u105.RF hR
        have hP := v105.1
        have hz := v105.2
        have hC := hC.f5 u105
        have hF := hF.trans (u105.mono (fun _ k => k.elim) (fun _ k => k))
        have p3 := hP.he
        refine bw_aload rfl rfl ?_
        refine bw_push rfl ?_
        refine bw_push rfl ?_
        refine bw_callVi (e := d - 1) (as := [_, _]) rfl (by omega) rfl rfl (Nat.le_of_ble_eq_true rfl) (Nat.le_of_ble_eq_true rfl) rfl (m_number hR hP hz (by omega)) (fun r112 M112 hM112 => ?_)
        obtain ⟨u112, v112, w112⟩ := hM112
        obtain ⟨y112, e112⟩ : ∃ y, y = nuS a n 1 24 y105 := ⟨_, rfl⟩
        rw [← e112] at v112 w112
        have b112 : 1 ≤ y112.2 ∧ y112.2 ≤ 24 := by rw [e112]; exact nuS_in (by decide)
        subst w112
        have hR := u112.RF hR
        have hP := v112.1
        have hz := v112.2
        have hC := hC.f5 u112
        have hF := hF.trans (u112.mono (fun _ k => k.elim) (fun _ k => k))
        have p3 := hP.he
        refine bw_istore (ls2 := [_, _, _, _, _, _]) rfl rfl (Nat.le_of_ble_eq_true rfl) rfl ?_
        refine bw_aload rfl rfl ?_
        refine bw_push rfl ?_
        refine bw_callVv (e := d - 1) (as := [_]) rfl (by omega) rfl rfl (Nat.le_of_ble_eq_true rfl) (Nat.le_of_ble_eq_true rfl) rfl (m_mustSign hR hP hz (by decide) (by omega)) (fun M120 hM120 => ?_)
        obtain ⟨u120, v120⟩ := hM120
        obtain ⟨y120, e120⟩ : ∃ y, y = siS a n 61 y112.1 := ⟨_, rfl⟩
        rw [← e120] at v120
        have hR := u120.RF hR
        have hP := v120.1
        have hz := v120.2
        have hC := hC.f5 u120
        have hF := hF.trans (u120.mono (fun _ k => k.elim) (fun _ k => k))
        have p3 := hP.he
        refine bw_aload rfl rfl ?_
        refine bw_callVj (e := d - 1) (as := []) rfl (by omega) rfl rfl (Nat.le_of_ble_eq_true rfl) (Nat.le_of_ble_eq_true rfl) rfl (m_goesWell hR) (fun r124 hr124 => ?_)
        refine bw_ifne rfl (fun c127 => ?_) (fun c127 => ?_)
        · skip
          obtain ⟨q2, hq2⟩ := (rs_0 v120.2).mp (by omega)
          have hz2 := v120.2
          rw [hq2] at hz2
          refine bw_aload rfl rfl ?_
          refine bw_iload rfl rfl ?_
          refine bw_callVv (e := d - 1) (as := [_]) rfl (by omega) rfl rfl (Nat.le_of_ble_eq_true rfl) (Nat.le_of_ble_eq_true rfl) rfl (m_readsLine (p := q2) hR hP hz2 (by omega) (by omega)) (fun M134 hM134 => ?_)
          obtain ⟨u134, hP, v134⟩ := hM134
          have hR := u134.RF hR
          have hC : SC M M134 (nmF S a (S 1) (we a n p - p) p (we a n p - p)) := hC.at8 (u134.at 568 (pL_no (by decide)) (by decide))
          have hU : s5 pR qR M M134 := hF.p8R.trans u134.toR
          refine bw_aload rfl rfl ?_
          refine bw_callVj (e := d - 1) (as := []) rfl (by omega) rfl rfl (Nat.le_of_ble_eq_true rfl) (Nat.le_of_ble_eq_true rfl) rfl (m_goesWell hR) (fun r138 hr138 => ?_)
          refine bw_ifne rfl (fun c141 => ?_) (fun c141 => ?_)
          · skip
            obtain ⟨t, t1, t2, t3, t4, t5⟩ : ∃ t : LnS, isLr a n y112.2 (ls0 q2) (.inr t) ∧ rs M134 a n (.inr (lsP t)) ∧ HR M134 (lsH t) ∧ LV a n t ∧ 1 ≤ (lsH t).1 := v134.elim (fun k => by obtain ⟨e, k1, k2⟩ := k; exact absurd (k2.1.symm.trans (by omega)) k2.2.2) (fun k => k)
            refine bw_aload rfl rfl ?_
            refine bw_push rfl ?_
            refine bw_callVi (e := d - 1) (as := [_]) rfl (by omega) rfl rfl (Nat.le_of_ble_eq_true rfl) (Nat.le_of_ble_eq_true rfl) rfl (m_takes hR hP t2 (by omega)) (fun r147 M147 hM147 => ?_)
            obtain ⟨u147, v147, w147, x147, y147⟩ := hM147
            have hR := u147.RF hR
            have t3 := t3.q910 u147
            have hC := hC.f5 u147
            have hU := hU.trans (u147.P10.toL).toR
            refine bw_ifeq rfl (fun c150 => ?_) (fun c150 => ?_)
            · skip
              refine bw_aload rfl rfl ?_
              refine bw_push rfl ?_
              refine bw_callVi (e := d - 1) (as := [_]) rfl (by omega) rfl rfl (Nat.le_of_ble_eq_true rfl) (Nat.le_of_ble_eq_true rfl) rfl (m_takes hR v147.1 v147.2 (by omega)) (fun r159 M159 hM159 => ?_)
              obtain ⟨u159, v159, w159, x159, y159⟩ := hM159
              have hR := u159.RF hR
              have t3 := t3.q910 u159
              have hC := hC.f5 u159
              have hU := hU.trans (u159.P10.toL).toR
              refine bw_ifeq rfl (fun c162 => ?_) (fun c162 => ?_)
              · skip
                refine bw_push rfl ?_
                have wE : (enW a n (lsP t)).2 = 0 := by unfold enW; rw [if_neg (by omega), if_neg (by omega)]
                have vE : RS M159 a n (enW a n (lsP t)).1 := by unfold enW; rw [if_neg (by omega), if_neg (by omega)]; exact v159
                rw [show (vi 0 : abV) = vi (enW a n (lsP t)).2 from by rw [wE]]
                obtain ⟨MC, hMC⟩ : ∃ K, K = M159 := ⟨_, rfl⟩
                subst hMC
                refine bw_istore (ls2 := [_, _, _, _, _, _]) rfl rfl (Nat.le_of_ble_eq_true rfl) rfl ?_
                refine bw_aload rfl rfl ?_
                refine bw_getr rfl rfl (hR _ _) ?_
                refine bw_push rfl ?_
                refine bw_iload rfl rfl ?_
                refine bw_iadd rfl ⟨by omega, by omega⟩ ?_
                refine bw_iload rfl rfl ?_
                refine bw_asti rfl (by first | rfl | assumption) (by omega) (by omega) ?_
                generalize hG183 : sI MC 568 (1012 + S 1) y112.2 = G183
                have hR : RF r G183 := by rw [← hG183]; exact hR
                have vE : RS G183 a n (enW a n (lsP t)).1 := by rw [← hG183]; exact ⟨PS_8 vE.1, rs_8 vE.2⟩
                have t3 : HR G183 (lsH t) := by rw [← hG183]; exact HR_8 t3
                have hC : SC M G183 (up (nmF S a (S 1) (we a n p - p) p (we a n p - p)) (6 + S 1) y112.2) := by rw [← hG183]; exact hC.w (by omega) (by omega)
                have hU : s5 pR qR M G183 := by rw [← hG183]; exact hU.wr _ _ (Or.inl rfl) (by decide)
                refine bw_aload rfl rfl ?_
                refine bw_iload rfl rfl ?_
                refine bw_iload rfl rfl ?_
                refine bw_callVv (e := d - 1) (as := [_, _]) rfl (by omega) rfl rfl (Nat.le_of_ble_eq_true rfl) (Nat.le_of_ble_eq_true rfl) rfl (m_laysTold (S := up (nmF S a (S 1) (we a n p - p) p (we a n p - p)) (6 + S 1) y112.2) (h := lsH t) hR hC.1 t3 t4.2.1 t5 (by omega) (by omega) (by rw [up_ne (by omega), nmF_lo (by omega) (by decide)]; exact h0)) (fun M188 hM188 => ?_)
                obtain ⟨u188, g188⟩ := hM188
                have hR := u188.RF hR
                have hU := hU.trans (u188.p8n).p8R
                have hC : SC M M188 (laT (nmF S a (S 1) (we a n p - p) p (we a n p - p)) y112.2 (S 1) (lsH t) (enW a n (lsP t)).2) := hC.tr g188
                have vE : RS M188 a n (enW a n (lsP t)).1 := ⟨PS_p8 vE.1 u188, rs_p8 vE.2 u188⟩
                refine bw_aload rfl rfl ?_
                refine bw_getr rfl rfl (hR _ _) ?_
                refine bw_push rfl ?_
                refine bw_dup2 rfl ?_
                have k199 : (laT (nmF S a (S 1) (we a n p - p) p (we a n p - p)) y112.2 (S 1) (lsH t) (enW a n (lsP t)).2) 1 = S 1 := by show ltF _ _ _ _ _ 1 = S 1; rw [ltF_lo (by omega) (by decide), up_ne (by omega), nmF_lo (by omega) (by decide)]
                refine bw_aldi rfl (by first | rfl | assumption) (by omega) (by omega) ?_
                rw [show gI M188 568 1007 = (laT (nmF S a (S 1) (we a n p - p) p (we a n p - p)) y112.2 (S 1) (lsH t) (enW a n (lsP t)).2) 1 from hC.1 1 (by decide) (by decide)]
                refine bw_push rfl ?_
                refine bw_iadd rfl ⟨by omega, by omega⟩ ?_
                refine bw_asti rfl (by first | rfl | assumption) (by omega) (by omega) ?_
                refine bw_retv rfl rfl ?_
                rw [laS_g g4.1 g4.2, laN_g (q := q2) (by rw [← e105, ← e112, ← e120]; exact hq2), laL_g (t := t) (by rw [← e105, ← e112]; exact t1)]
                rw [← e105, ← e112]
                exact ⟨rfl, rfl, hU.wr _ _ (Or.inl rfl) (by decide), ⟨PS_8 vE.1, rs_8 vE.2⟩, SC.w hC (by decide) (by decide)⟩
              · skip
                refine bw_push rfl ?_
                have wE : (enW a n (lsP t)).2 = 2 := by unfold enW; rw [if_neg (by omega), if_pos (by omega)]
                have vE : RS M159 a n (enW a n (lsP t)).1 := by unfold enW; rw [if_neg (by omega), if_pos (by omega)]; exact v159
                rw [show (vi 2 : abV) = vi (enW a n (lsP t)).2 from by rw [wE]]
                obtain ⟨MC, hMC⟩ : ∃ K, K = M159 := ⟨_, rfl⟩
                subst hMC
                refine bw_goto rfl ?_
                refine bw_istore (ls2 := [_, _, _, _, _, _]) rfl rfl (Nat.le_of_ble_eq_true rfl) rfl ?_
                refine bw_aload rfl rfl ?_
                refine bw_getr rfl rfl (hR _ _) ?_
                refine bw_push rfl ?_
                refine bw_iload rfl rfl ?_
                refine bw_iadd rfl ⟨by omega, by omega⟩ ?_
                refine bw_iload rfl rfl ?_
                refine bw_asti rfl (by first | rfl | assumption) (by omega) (by omega) ?_
                generalize hG183 : sI MC 568 (1012 + S 1) y112.2 = G183
                have hR : RF r G183 := by rw [← hG183]; exact hR
                have vE : RS G183 a n (enW a n (lsP t)).1 := by rw [← hG183]; exact ⟨PS_8 vE.1, rs_8 vE.2⟩
                have t3 : HR G183 (lsH t) := by rw [← hG183]; exact HR_8 t3
                have hC : SC M G183 (up (nmF S a (S 1) (we a n p - p) p (we a n p - p)) (6 + S 1) y112.2) := by rw [← hG183]; exact hC.w (by omega) (by omega)
                have hU : s5 pR qR M G183 := by rw [← hG183]; exact hU.wr _ _ (Or.inl rfl) (by decide)
                refine bw_aload rfl rfl ?_
                refine bw_iload rfl rfl ?_
                refine bw_iload rfl rfl ?_
                refine bw_callVv (e := d - 1) (as := [_, _]) rfl (by omega) rfl rfl (Nat.le_of_ble_eq_true rfl) (Nat.le_of_ble_eq_true rfl) rfl (m_laysTold (S := up (nmF S a (S 1) (we a n p - p) p (we a n p - p)) (6 + S 1) y112.2) (h := lsH t) hR hC.1 t3 t4.2.1 t5 (by omega) (by omega) (by rw [up_ne (by omega), nmF_lo (by omega) (by decide)]; exact h0)) (fun M188 hM188 => ?_)
                obtain ⟨u188, g188⟩ := hM188
                have hR := u188.RF hR
                have hU := hU.trans (u188.p8n).p8R
                have hC : SC M M188 (laT (nmF S a (S 1) (we a n p - p) p (we a n p - p)) y112.2 (S 1) (lsH t) (enW a n (lsP t)).2) := hC.tr g188
                have vE : RS M188 a n (enW a n (lsP t)).1 := ⟨PS_p8 vE.1 u188, rs_p8 vE.2 u188⟩
                refine bw_aload rfl rfl ?_
                refine bw_getr rfl rfl (hR _ _) ?_
                refine bw_push rfl ?_
                refine bw_dup2 rfl ?_
                have k199 : (laT (nmF S a (S 1) (we a n p - p) p (we a n p - p)) y112.2 (S 1) (lsH t) (enW a n (lsP t)).2) 1 = S 1 := by show ltF _ _ _ _ _ 1 = S 1; rw [ltF_lo (by omega) (by decide), up_ne (by omega), nmF_lo (by omega) (by decide)]
                refine bw_aldi rfl (by first | rfl | assumption) (by omega) (by omega) ?_
                rw [show gI M188 568 1007 = (laT (nmF S a (S 1) (we a n p - p) p (we a n p - p)) y112.2 (S 1) (lsH t) (enW a n (lsP t)).2) 1 from hC.1 1 (by decide) (by decide)]
                refine bw_push rfl ?_
                refine bw_iadd rfl ⟨by omega, by omega⟩ ?_
                refine bw_asti rfl (by first | rfl | assumption) (by omega) (by omega) ?_
                refine bw_retv rfl rfl ?_
                rw [laS_g g4.1 g4.2, laN_g (q := q2) (by rw [← e105, ← e112, ← e120]; exact hq2), laL_g (t := t) (by rw [← e105, ← e112]; exact t1)]
                rw [← e105, ← e112]
                exact ⟨rfl, rfl, hU.wr _ _ (Or.inl rfl) (by decide), ⟨PS_8 vE.1, rs_8 vE.2⟩, SC.w hC (by decide) (by decide)⟩
            · skip
              refine bw_push rfl ?_
              have wE : (enW a n (lsP t)).2 = 1 := by unfold enW; rw [if_pos (by omega)]
              have vE : RS M147 a n (enW a n (lsP t)).1 := by unfold enW; rw [if_pos (by omega)]; exact v147
              rw [show (vi 1 : abV) = vi (enW a n (lsP t)).2 from by rw [wE]]
              obtain ⟨MC, hMC⟩ : ∃ K, K = M147 := ⟨_, rfl⟩
              subst hMC
              refine bw_goto rfl ?_
              refine bw_istore (ls2 := [_, _, _, _, _, _]) rfl rfl (Nat.le_of_ble_eq_true rfl) rfl ?_
              refine bw_aload rfl rfl ?_
              refine bw_getr rfl rfl (hR _ _) ?_
              refine bw_push rfl ?_
              refine bw_iload rfl rfl ?_
              refine bw_iadd rfl ⟨by omega, by omega⟩ ?_
              refine bw_iload rfl rfl ?_
              refine bw_asti rfl (by first | rfl | assumption) (by omega) (by omega) ?_
              generalize hG183 : sI MC 568 (1012 + S 1) y112.2 = G183
              have hR : RF r G183 := by rw [← hG183]; exact hR
              have vE : RS G183 a n (enW a n (lsP t)).1 := by rw [← hG183]; exact ⟨PS_8 vE.1, rs_8 vE.2⟩
              have t3 : HR G183 (lsH t) := by rw [← hG183]; exact HR_8 t3
              have hC : SC M G183 (up (nmF S a (S 1) (we a n p - p) p (we a n p - p)) (6 + S 1) y112.2) := by rw [← hG183]; exact hC.w (by omega) (by omega)
              have hU : s5 pR qR M G183 := by rw [← hG183]; exact hU.wr _ _ (Or.inl rfl) (by decide)
              refine bw_aload rfl rfl ?_
              refine bw_iload rfl rfl ?_
              refine bw_iload rfl rfl ?_
              refine bw_callVv (e := d - 1) (as := [_, _]) rfl (by omega) rfl rfl (Nat.le_of_ble_eq_true rfl) (Nat.le_of_ble_eq_true rfl) rfl (m_laysTold (S := up (nmF S a (S 1) (we a n p - p) p (we a n p - p)) (6 + S 1) y112.2) (h := lsH t) hR hC.1 t3 t4.2.1 t5 (by omega) (by omega) (by rw [up_ne (by omega), nmF_lo (by omega) (by decide)]; exact h0)) (fun M188 hM188 => ?_)
              obtain ⟨u188, g188⟩ := hM188
              have hR := u188.RF hR
              have hU := hU.trans (u188.p8n).p8R
              have hC : SC M M188 (laT (nmF S a (S 1) (we a n p - p) p (we a n p - p)) y112.2 (S 1) (lsH t) (enW a n (lsP t)).2) := hC.tr g188
              have vE : RS M188 a n (enW a n (lsP t)).1 := ⟨PS_p8 vE.1 u188, rs_p8 vE.2 u188⟩
              refine bw_aload rfl rfl ?_
              refine bw_getr rfl rfl (hR _ _) ?_
              refine bw_push rfl ?_
              refine bw_dup2 rfl ?_
              have k199 : (laT (nmF S a (S 1) (we a n p - p) p (we a n p - p)) y112.2 (S 1) (lsH t) (enW a n (lsP t)).2) 1 = S 1 := by show ltF _ _ _ _ _ 1 = S 1; rw [ltF_lo (by omega) (by decide), up_ne (by omega), nmF_lo (by omega) (by decide)]
              refine bw_aldi rfl (by first | rfl | assumption) (by omega) (by omega) ?_
              rw [show gI M188 568 1007 = (laT (nmF S a (S 1) (we a n p - p) p (we a n p - p)) y112.2 (S 1) (lsH t) (enW a n (lsP t)).2) 1 from hC.1 1 (by decide) (by decide)]
              refine bw_push rfl ?_
              refine bw_iadd rfl ⟨by omega, by omega⟩ ?_
              refine bw_asti rfl (by first | rfl | assumption) (by omega) (by omega) ?_
              refine bw_retv rfl rfl ?_
              rw [laS_g g4.1 g4.2, laN_g (q := q2) (by rw [← e105, ← e112, ← e120]; exact hq2), laL_g (t := t) (by rw [← e105, ← e112]; exact t1)]
              rw [← e105, ← e112]
              exact ⟨rfl, rfl, hU.wr _ _ (Or.inl rfl) (by decide), ⟨PS_8 vE.1, rs_8 vE.2⟩, SC.w hC (by decide) (by decide)⟩
          · skip
            refine bw_retv rfl rfl ?_
            rcases v134 with ⟨e, k1, k2⟩ | ⟨t, k1, k2, _⟩
            · rw [laS_g g4.1 g4.2, laN_g (q := q2) (by rw [← e105, ← e112, ← e120]; exact hq2), laL_f (e := e) (by rw [← e105, ← e112]; exact k1)]
              exact ⟨rfl, rfl, hU, ⟨hP, k2⟩, hC⟩
            · have := k2.1
              exfalso; omega
        · skip
          refine bw_retv rfl rfl ?_
          obtain ⟨e, he, h5⟩ := rs_l v120.2 (by omega)
          rw [laS_g g4.1 g4.2, laN_f (by rw [← e105, ← e112, ← e120]; exact he)]
          exact ⟨rfl, rfl, hF.p8R, ⟨hP, h5⟩, hC⟩
      · skip
        refine bw_aload rfl rfl ?_
        refine bw_getr rfl rfl (hR _ _) ?_
        refine bw_iload rfl rfl ?_
        refine bw_push rfl ?_
        refine bw_iadd rfl ⟨by omega, by omega⟩ ?_
        refine bw_iload rfl rfl ?_
        refine bw_iadd rfl ⟨by omega, by omega⟩ ?_
        refine bw_aload rfl rfl ?_
        refine bw_getr rfl rfl (hR _ _) ?_
        refine bw_aload rfl rfl ?_
        refine bw_getI rfl rfl ?_
        refine bw_iload rfl rfl ?_
        refine bw_iadd rfl ⟨by omega, by omega⟩ ?_
        refine bw_aldi rfl (by first | rfl | assumption) (by omega) (by omega) ?_
        rw [g3.1, g2.1.by (p + i) (by omega) (by omega)]
        refine bw_asti rfl (by first | rfl | assumption) (by omega) (by omega) ?_
        refine bw_iinc (ls2 := [_, _, _, _, _, _]) rfl rfl rfl ⟨by omega, by omega⟩ rfl ?_
        refine bw_goto rfl ?_
        refine ih _ q (i + 1) (g1.wr _ _ rfl (by decide)) ⟨PS_8 g2.1, rs_8 g2.2⟩ ⟨by rw [gI_sI_ne (by decide)]; exact g3.1, by rw [gI_sI_ne (by decide)]; exact g3.2⟩ g4 ?_ (by omega) (by omega) (by omega)
        rw [← nmF_s (by omega)]
        exact SC.w g5 (by omega) (by omega)
  show abW d (0, 0) 178 0 [some (vr (some 567)), none, none, none, none, none] [] (0, 0) (A0 L) M (qV (A0 L) (fun N => s5 pR qR M N ∧ RS N a n (laS S a n p).1 ∧ SC M N (laS S a n p).2))
  refine bw_aload rfl rfl ?_
  refine bw_push rfl ?_
  refine bw_callVe (e := d - 1) (as := [_]) rfl (by omega) rfl rfl (Nat.le_of_ble_eq_true rfl) (Nat.le_of_ble_eq_true rfl) rfl (m_readOf hR hS (by omega)) ?_
  refine bw_istore (ls2 := [_, _, _, _, _, _]) rfl rfl (Nat.le_of_ble_eq_true rfl) rfl ?_
  refine bw_aload rfl rfl ?_
  refine bw_callVi (e := d - 1) (as := []) rfl (by omega) rfl rfl (Nat.le_of_ble_eq_true rfl) (Nat.le_of_ble_eq_true rfl) rfl (m_name hR hP hz hS (by omega) (by omega)) (fun r7 M7 hM7 => ?_)
  obtain ⟨u7, v7, w7, x7⟩ := hM7
  have hR := u7.RF hR
  refine bw_istore (ls2 := [_, _, _, _, _, _]) rfl rfl (Nat.le_of_ble_eq_true rfl) rfl ?_
  refine bw_iload rfl rfl ?_
  refine bw_push rfl ?_
  refine bw_iceq rfl (fun c13 => ?_) (fun c13 => ?_)
  · skip
    refine bw_aload rfl rfl ?_
    refine bw_callVj (e := d - 1) (as := []) rfl (by omega) rfl rfl (Nat.le_of_ble_eq_true rfl) (Nat.le_of_ble_eq_true rfl) rfl (m_goesWell hR) (fun r26 hr26 => ?_)
    refine bw_ifne rfl (fun c29 => ?_) (fun c29 => ?_)
    · first
      | (exfalso; omega)
      | (obtain ⟨q, hq⟩ := (rs_0 v7.2).mp (by omega)
         obtain ⟨x1, x2, x3, x4⟩ := x7 p rfl q hq
         have v72 := v7.2
         rw [hq] at v72
         have s8 := skM_in hP
         rw [show skM M a n = p from hz.2] at s8
         have e7 := we_in hP.ok (k := p) (by omega)
         refine bw_push rfl ?_
         refine bw_push rfl ?_
         refine bw_iload rfl rfl ?_
         refine bw_imul rfl ⟨by omega, by omega⟩ ?_
         refine bw_iadd rfl ⟨by omega, by omega⟩ ?_
         refine bw_istore (ls2 := [_, _, _, _, _, _]) rfl rfl (Nat.le_of_ble_eq_true rfl) rfl ?_
         refine bw_aload rfl rfl ?_
         refine bw_getr rfl rfl (hR _ _) ?_
         refine bw_iload rfl rfl ?_
         refine bw_aload rfl rfl ?_
         refine bw_getI rfl rfl ?_
         refine bw_aload rfl rfl ?_
         refine bw_getI rfl rfl ?_
         refine bw_isub rfl ⟨by omega, by omega⟩ ?_
         refine bw_asti rfl (by first | rfl | assumption) (by omega) (by omega) ?_
         rw [x1, x4]
         refine bw_push rfl ?_
         refine bw_istore (ls2 := [_, _, _, _, _, _]) rfl rfl (Nat.le_of_ble_eq_true rfl) rfl ?_
         refine bw_forget (ls2 := [some (vr (some 567)), some (vi (S 1)), none, some (vi (1018 + 7 * S 1)), some (vi 0), none]) ⟨rfl, rfl, rfl, rfl, trivial⟩ ?_
         refine L60 ((we a n p - p).toNat + 1) _ q 0 ((hF.trans (u7.mono (fun _ k => k.elim) (fun _ k => k))).wr _ _ rfl (by decide)) ⟨PS_8 v7.1, rs_8 v72⟩ ⟨by rw [gI_sI_ne (by decide)]; exact x4, by rw [gI_sI_ne (by decide)]; exact x1⟩ ⟨hq, by omega⟩ ?_ (by omega) (by omega) (by omega)
         rw [← nmF_0]
         exact SC.w (hC.f5 u7) (by omega) (by omega))
    · first
      | (exfalso; omega)
      | (refine bw_retv rfl rfl ?_
         first
         | (rcases hq : (naS S a n (.inr p)).1 with e | q
            · have := v7.2
              rw [hq] at this
              exfalso
              rcases hy : (naS S a n (.inr p)) with ⟨z1, z2⟩
              rw [hy] at hq w7
              by_cases hh : (1 ≤ we a n p - p ∧ we a n p - p ≤ 6) ∧ wo a n p = -1
              · rw [naS_y hh] at hy; cases hy; cases hq
              · rw [naS_n hh] at hy; cases hy; have w7 : r7 = -1 := w7; omega
            · have v72 := v7.2
              rw [hq] at v72
              obtain ⟨x1, x2, x3, x4⟩ := x7 p rfl q hq
              rw [laS_d hq (by omega)]
              rw [x4] at hM22
              exact ⟨rfl, rfl, (u7.trans hM22.f5).toL.toR, hM22.RSn v7.1 v72.1 (by decide), (hC.f5 u7).f5 hM22.f5⟩)
         | (obtain ⟨e, he, h5⟩ := rs_l v7.2 (by omega)
            rw [laS_f he]
            exact ⟨rfl, rfl, u7.toL.toR, ⟨v7.1, h5⟩, hC.f5 u7⟩))
  · skip
    refine bw_aload rfl rfl ?_
    refine bw_push rfl ?_
    refine bw_aload rfl rfl ?_
    refine bw_getI rfl rfl ?_
    refine bw_callVv (e := d - 1) (as := [_, _]) rfl (by omega) rfl rfl (Nat.le_of_ble_eq_true rfl) (Nat.le_of_ble_eq_true rfl) rfl (m_faults hR) (fun M22 hM22 => ?_)
    have hR := hM22.f5.RF hR
    have g22 := fal_ne hM22 (by decide)
    refine bw_aload rfl rfl ?_
    refine bw_callVj (e := d - 1) (as := []) rfl (by omega) rfl rfl (Nat.le_of_ble_eq_true rfl) (Nat.le_of_ble_eq_true rfl) rfl (m_goesWell hR) (fun r26 hr26 => ?_)
    refine bw_ifne rfl (fun c29 => ?_) (fun c29 => ?_)
    · first
      | (exfalso; omega)
      | (obtain ⟨q, hq⟩ := (rs_0 v7.2).mp (by omega)
         obtain ⟨x1, x2, x3, x4⟩ := x7 p rfl q hq
         have v72 := v7.2
         rw [hq] at v72
         have s8 := skM_in hP
         rw [show skM M a n = p from hz.2] at s8
         have e7 := we_in hP.ok (k := p) (by omega)
         refine bw_push rfl ?_
         refine bw_push rfl ?_
         refine bw_iload rfl rfl ?_
         refine bw_imul rfl ⟨by omega, by omega⟩ ?_
         refine bw_iadd rfl ⟨by omega, by omega⟩ ?_
         refine bw_istore (ls2 := [_, _, _, _, _, _]) rfl rfl (Nat.le_of_ble_eq_true rfl) rfl ?_
         refine bw_aload rfl rfl ?_
         refine bw_getr rfl rfl (hR _ _) ?_
         refine bw_iload rfl rfl ?_
         refine bw_aload rfl rfl ?_
         refine bw_getI rfl rfl ?_
         refine bw_aload rfl rfl ?_
         refine bw_getI rfl rfl ?_
         refine bw_isub rfl ⟨by omega, by omega⟩ ?_
         refine bw_asti rfl (by first | rfl | assumption) (by omega) (by omega) ?_
         rw [x1, x4]
         refine bw_push rfl ?_
         refine bw_istore (ls2 := [_, _, _, _, _, _]) rfl rfl (Nat.le_of_ble_eq_true rfl) rfl ?_
         refine bw_forget (ls2 := [some (vr (some 567)), some (vi (S 1)), none, some (vi (1018 + 7 * S 1)), some (vi 0), none]) ⟨rfl, rfl, rfl, rfl, trivial⟩ ?_
         refine L60 ((we a n p - p).toNat + 1) _ q 0 ((hF.trans (u7.mono (fun _ k => k.elim) (fun _ k => k))).wr _ _ rfl (by decide)) ⟨PS_8 v7.1, rs_8 v72⟩ ⟨by rw [gI_sI_ne (by decide)]; exact x4, by rw [gI_sI_ne (by decide)]; exact x1⟩ ⟨hq, by omega⟩ ?_ (by omega) (by omega) (by omega)
         rw [← nmF_0]
         exact SC.w (hC.f5 u7) (by omega) (by omega))
    · first
      | (exfalso; omega)
      | (refine bw_retv rfl rfl ?_
         first
         | (rcases hq : (naS S a n (.inr p)).1 with e | q
            · have := v7.2
              rw [hq] at this
              exfalso
              rcases hy : (naS S a n (.inr p)) with ⟨z1, z2⟩
              rw [hy] at hq w7
              by_cases hh : (1 ≤ we a n p - p ∧ we a n p - p ≤ 6) ∧ wo a n p = -1
              · rw [naS_y hh] at hy; cases hy; cases hq
              · rw [naS_n hh] at hy; cases hy; have w7 : r7 = -1 := w7; omega
            · have v72 := v7.2
              rw [hq] at v72
              obtain ⟨x1, x2, x3, x4⟩ := x7 p rfl q hq
              rw [laS_d hq (by omega)]
              rw [x4] at hM22
              exact ⟨rfl, rfl, (u7.trans hM22.f5).toL.toR, hM22.RSn v7.1 v72.1 (by decide), (hC.f5 u7).f5 hM22.f5⟩)
         | (obtain ⟨e, he, h5⟩ := rs_l v7.2 (by omega)
            rw [laS_f he]
            exact ⟨rfl, rfl, u7.toL.toR, ⟨v7.1, h5⟩, hC.f5 u7⟩))
