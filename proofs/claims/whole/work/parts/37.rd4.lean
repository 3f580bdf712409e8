abbrev p8 (a : Nat) : Prop := a = 568
/-- the reading half of the scene is S, the other half as it was -/
def SC (M N : abMem) (S : Int → Int) : Prop := SIm (gI N 568) 1006 S ∧ ∀ j : Int, j < 1006 → gI N 568 j = gI M 568 j
theorem SC.f5 {q : Int → Prop} {M N K : abMem} {S : Int → Int} (h : SC M N S) (u : s5 pNo q N K) : SC M K S := by
  unfold SC
  rw [s5_8 u]
  exact h
theorem SC.w {M N : abMem} {S : Int → Int} {k j x : Int} (h : SC M N S) (hk : k = 1006 + j) (h0 : 0 ≤ j) : SC M (sI N 568 k x) (up S j x) := by
  have e : gI (sI N 568 k x) 568 = up (gI N 568) k x := by rw [sI_w, gI_wI_eq]
  unfold SC
  rw [e]
  exact ⟨SIm_up h.1 hk, fun m hm => by rw [up_ne (by omega)]; exact h.2 m hm⟩
theorem PS_8 {N : abMem} {a : Int → Int} {n k x : Int} (h : PS N a n) : PS (sI N 568 k x) a n := by
  have e7 : gI (sI N 568 k x) 567 = gI N 567 := gI_sI_ne (by decide)
  have e1 : gI (sI N 568 k x) 571 = gI N 571 := gI_sI_ne (by decide)
  have e2 : gI (sI N 568 k x) 572 = gI N 572 := gI_sI_ne (by decide)
  refine ⟨h.ok, ?_, ?_, ?_, ?_⟩
  · rw [e7]; exact h.sz
  · rw [e1]; exact h.by
  · rw [e2]; exact h.ow
  · rw [e7]; exact h.he
theorem rs_8 {N : abMem} {a : Int → Int} {n k x : Int} {z : Rp} (h : rs N a n z) : rs (sI N 568 k x) a n z := by
  have e7 : gI (sI N 568 k x) 567 = gI N 567 := gI_sI_ne (by decide)
  rcases z with e | p
  · show gI (sI N 568 k x) 567 11 = e.1 ∧ gI (sI N 568 k x) 567 12 = e.2 ∧ e.1 ≠ 0
    rw [e7]; exact h
  · show gI (sI N 568 k x) 567 11 = 0 ∧ sk a n (gI (sI N 568 k x) 567 9) = p
    rw [e7]; exact h
/-- one way or the other -/
noncomputable def wyS (a : Int → Int) (n m l : Int) : Rp → Rp × Int
  | .inl e => (.inl e, 0)
  | .inr p => if wo a n p = m ∨ wo a n p = l then (.inr (sk a n (we a n p)), wo a n p) else (.inl (1, p), 0)
theorem wyS_y {a : Int → Int} {n m l p : Int} (h : wo a n p = m ∨ wo a n p = l) : wyS a n m l (.inr p) = (.inr (sk a n (we a n p)), wo a n p) := if_pos h
theorem wyS_n {a : Int → Int} {n m l p : Int} (h : ¬ (wo a n p = m ∨ wo a n p = l)) : wyS a n m l (.inr p) = (.inl (1, p), 0) := if_neg h
set_option maxRecDepth 20000 in
set_option maxHeartbeats 4000000 in
theorem m_readOf {d L : Nat} {M : abMem} {r : abRf} (hR : RF r M) {S : Int → Int} (hS : SIm (gI M 568) 1006 S) {j : Int} (hj : 0 ≤ j ∧ j < 1006) : abW d (0, 0) 176 0 (abEnt (abL 176) [vr (some 567), vi j]) [] (0, 0) (A0 L) M (qE (some (vi (S j))) (A0 L) M) := by
  show abW d (0, 0) 176 0 [some (vr (some 567)), some (vi j)] [] (0, 0) (A0 L) M (qE (some (vi (S j))) (A0 L) M)
  refine bw_aload rfl rfl ?_
  refine bw_getr rfl rfl (hR _ _) ?_
  refine bw_push rfl ?_
  refine bw_iload rfl rfl ?_
  refine bw_iadd rfl ⟨by omega, by omega⟩ ?_
  refine bw_aldi rfl (by first | rfl | assumption) (by omega) (by omega) ?_
  rw [hS j (by omega) (by omega)]
  refine bw_ret rfl rfl ?_
  exact ⟨rfl, rfl, rfl⟩
noncomputable def frS (S a : Int → Int) (n : Int) (z : Rp) : Rp × (Int → Int) := ((nuS a n 1 96 (woS a n 0 z)).1, up S 0 (nuS a n 1 96 (woS a n 0 z)).2)
set_option maxRecDepth 20000 in
set_option maxHeartbeats 4000000 in
theorem m_readsFrames {d L : Nat} {M : abMem} {r : abRf} (hR : RF r M) {a : Int → Int} {n : Int} (hP : PS M a n) {z : Rp} (hz : rs M a n z) {S : Int → Int} (hS : SIm (gI M 568) 1006 S) (hd : 6 ≤ d) : abW d (0, 0) 177 0 (abEnt (abL 177) [vr (some 567)]) [] (0, 0) (A0 L) M (qV (A0 L) (fun N => s5 p8 qP M N ∧ RS N a n ((frS S a n z).1) ∧ SC M N ((frS S a n z).2))) := by
  have p1 := hP.sz
  have p2 := hP.ok.1
  have p3 := hP.he
  have hF : s5 p8 qP M M := s5_refl _ _ _
  have hC : SC M M S := ⟨hS, fun _ _ => rfl⟩
  show abW d (0, 0) 177 0 [some (vr (some 567))] [] (0, 0) (A0 L) M (qV (A0 L) (fun N => s5 p8 qP M N ∧ RS N a n ((frS S a n z).1) ∧ SC M N ((frS S a n z).2)))
  refine bw_aload rfl rfl ?_
  refine bw_push rfl ?_
  refine bw_callVv (e := d - 1) (as := [_]) rfl (by omega) rfl rfl (Nat.le_of_ble_eq_true rfl) (Nat.le_of_ble_eq_true rfl) rfl (m_must hR hP hz (by omega)) (fun M2 hM2 => ?_)
  obtain ⟨u2, v2⟩ := hM2
  obtain ⟨y2, e2⟩ : ∃ y, y = woS a n 0 z := ⟨_, rfl⟩
  rw [← e2] at v2
  have hR := u2.RF hR
  have hP := v2.1
  have hz := v2.2
  have hC := hC.f5 u2
  have hF := hF.trans (u2.mono (fun _ k => k.elim) (fun _ k => k))
  have p3 := hP.he
  refine bw_aload rfl rfl ?_
  refine bw_getr rfl rfl (hR _ _) ?_
  refine bw_push rfl ?_
  refine bw_aload rfl rfl ?_
  refine bw_push rfl ?_
  refine bw_push rfl ?_
  refine bw_callVi (e := d - 1) (as := [_, _]) rfl (by omega) rfl rfl (Nat.le_of_ble_eq_true rfl) (Nat.le_of_ble_eq_true rfl) rfl (m_number hR hP hz (by omega)) (fun r16 M16 hM16 => ?_)
  obtain ⟨u16, v16, w16⟩ := hM16
  obtain ⟨y16, e16⟩ : ∃ y, y = nuS a n 1 96 y2 := ⟨_, rfl⟩
  rw [← e16] at v16 w16
  have b16 : 1 ≤ y16.2 ∧ y16.2 ≤ 96 := by rw [e16]; exact nuS_in (by decide)
  subst w16
  have hR := u16.RF hR
  have hP := v16.1
  have hz := v16.2
  have hC := hC.f5 u16
  have hF := hF.trans (u16.mono (fun _ k => k.elim) (fun _ k => k))
  have p3 := hP.he
  refine bw_asti rfl (by first | rfl | assumption) (by omega) (by omega) ?_
  generalize hG19 : sI M16 568 (1006) (y16.2) = G19
  have hR : RF r G19 := by rw [← hG19]; exact hR
  have hP : PS G19 a n := by rw [← hG19]; exact PS_8 hP
  have hz : rs G19 a n y16.1 := by rw [← hG19]; exact rs_8 hz
  obtain ⟨T19, f19⟩ : ∃ T, T = up S (0) (y16.2) := ⟨_, rfl⟩
  have hC : SC M G19 T19 := by rw [← hG19, f19]; exact hC.w (by omega) (by omega)
  have hF : s5 p8 qP M G19 := by rw [← hG19]; exact hF.wr _ _ rfl (by decide)
  refine bw_retv rfl rfl ?_
  subst f19 e16 e2
  exact ⟨rfl, rfl, hF, ⟨hP, hz⟩, hC⟩
noncomputable def spS (S a : Int → Int) (n q : Int) (z : Rp) : Rp × (Int → Int) := ((nuS a n (nuS a n 0 (S 0 - 1) (woS a n 10 z)).2 (S 0 - 1) (woS a n 11 (nuS a n 0 (S 0 - 1) (woS a n 10 z)).1)).1, up (up S q (nuS a n 0 (S 0 - 1) (woS a n 10 z)).2) (q + 1) (nuS a n (nuS a n 0 (S 0 - 1) (woS a n 10 z)).2 (S 0 - 1) (woS a n 11 (nuS a n 0 (S 0 - 1) (woS a n 10 z)).1)).2)
set_option maxRecDepth 20000 in
set_option maxHeartbeats 4000000 in
theorem m_readsSpan {d L : Nat} {M : abMem} {r : abRf} (hR : RF r M) {a : Int → Int} {n : Int} (hP : PS M a n) {z : Rp} (hz : rs M a n z) {S : Int → Int} (hS : SIm (gI M 568) 1006 S) {t q : Int} (ht : t = 1006 + q) (hq : 6 ≤ q ∧ q < 1000) (h0 : 1 ≤ S 0 ∧ S 0 ≤ 96) (hd : 6 ≤ d) : abW d (0, 0) 180 0 (abEnt (abL 180) [vr (some 567), vi t]) [] (0, 0) (A0 L) M (qV (A0 L) (fun N => s5 p8 qP M N ∧ RS N a n ((spS S a n q z).1) ∧ SC M N ((spS S a n q z).2))) := by
  have p1 := hP.sz
  have p2 := hP.ok.1
  have p3 := hP.he
  have hF : s5 p8 qP M M := s5_refl _ _ _
  have hC : SC M M S := ⟨hS, fun _ _ => rfl⟩
  show abW d (0, 0) 180 0 [some (vr (some 567)), some (vi t)] [] (0, 0) (A0 L) M (qV (A0 L) (fun N => s5 p8 qP M N ∧ RS N a n ((spS S a n q z).1) ∧ SC M N ((spS S a n q z).2)))
  refine bw_aload rfl rfl ?_
  refine bw_push rfl ?_
  refine bw_callVv (e := d - 1) (as := [_]) rfl (by omega) rfl rfl (Nat.le_of_ble_eq_true rfl) (Nat.le_of_ble_eq_true rfl) rfl (m_must hR hP hz (by omega)) (fun M3 hM3 => ?_)
  obtain ⟨u3, v3⟩ := hM3
  obtain ⟨y3, e3⟩ : ∃ y, y = woS a n 10 z := ⟨_, rfl⟩
  rw [← e3] at v3
  have hR := u3.RF hR
  have hP := v3.1
  have hz := v3.2
  have hC := hC.f5 u3
  have hF := hF.trans (u3.mono (fun _ k => k.elim) (fun _ k => k))
  have p3 := hP.he
  refine bw_aload rfl rfl ?_
  refine bw_getr rfl rfl (hR _ _) ?_
  refine bw_iload rfl rfl ?_
  refine bw_aload rfl rfl ?_
  refine bw_push rfl ?_
  refine bw_aload rfl rfl ?_
  refine bw_push rfl ?_
  refine bw_callVe (e := d - 1) (as := [_]) rfl (by omega) rfl rfl (Nat.le_of_ble_eq_true rfl) (Nat.le_of_ble_eq_true rfl) rfl (m_readOf hR hC.1 (by omega)) ?_
  refine bw_push rfl ?_
  refine bw_isub rfl ⟨by omega, by omega⟩ ?_
  refine bw_callVi (e := d - 1) (as := [_, _]) rfl (by omega) rfl rfl (Nat.le_of_ble_eq_true rfl) (Nat.le_of_ble_eq_true rfl) rfl (m_number hR hP hz (by omega)) (fun r20 M20 hM20 => ?_)
  obtain ⟨u20, v20, w20⟩ := hM20
  obtain ⟨y20, e20⟩ : ∃ y, y = nuS a n 0 (S 0 - 1) y3 := ⟨_, rfl⟩
  rw [← e20] at v20 w20
  have b20 : 0 ≤ y20.2 ∧ y20.2 ≤ (S 0 - 1) := by rw [e20]; exact nuS_in (by omega)
  subst w20
  have hR := u20.RF hR
  have hP := v20.1
  have hz := v20.2
  have hC := hC.f5 u20
  have hF := hF.trans (u20.mono (fun _ k => k.elim) (fun _ k => k))
  have p3 := hP.he
  refine bw_asti rfl (by first | rfl | assumption) (by omega) (by omega) ?_
  generalize hG23 : sI M20 568 (t) (y20.2) = G23
  have hR : RF r G23 := by rw [← hG23]; exact hR
  have hP : PS G23 a n := by rw [← hG23]; exact PS_8 hP
  have hz : rs G23 a n y20.1 := by rw [← hG23]; exact rs_8 hz
  obtain ⟨T23, f23⟩ : ∃ T, T = up S (q) (y20.2) := ⟨_, rfl⟩
  have hC : SC M G23 T23 := by rw [← hG23, f23]; exact hC.w (by omega) (by omega)
  have hF : s5 p8 qP M G23 := by rw [← hG23]; exact hF.wr _ _ rfl (by decide)
  have k23 : T23 q = y20.2 ∧ T23 0 = S 0 := by rw [f23]; exact ⟨up_eq rfl, up_ne (by omega)⟩
  refine bw_aload rfl rfl ?_
  refine bw_push rfl ?_
  refine bw_callVv (e := d - 1) (as := [_]) rfl (by omega) rfl rfl (Nat.le_of_ble_eq_true rfl) (Nat.le_of_ble_eq_true rfl) rfl (m_must hR hP hz (by omega)) (fun M27 hM27 => ?_)
  obtain ⟨u27, v27⟩ := hM27
  obtain ⟨y27, e27⟩ : ∃ y, y = woS a n 11 y20.1 := ⟨_, rfl⟩
  rw [← e27] at v27
  have hR := u27.RF hR
  have hP := v27.1
  have hz := v27.2
  have hC := hC.f5 u27
  have hF := hF.trans (u27.mono (fun _ k => k.elim) (fun _ k => k))
  have p3 := hP.he
  refine bw_aload rfl rfl ?_
  refine bw_getr rfl rfl (hR _ _) ?_
  refine bw_iload rfl rfl ?_
  refine bw_push rfl ?_
  refine bw_iadd rfl ⟨by omega, by omega⟩ ?_
  refine bw_aload rfl rfl ?_
  refine bw_aload rfl rfl ?_
  refine bw_getr rfl rfl (hR _ _) ?_
  refine bw_iload rfl rfl ?_
  refine bw_aldi rfl (by first | rfl | assumption) (by omega) (by omega) ?_
  rw [show gI M27 568 t = y20.2 by rw [ht, hC.1 q (by omega) (by omega)]; exact k23.1]
  refine bw_aload rfl rfl ?_
  refine bw_push rfl ?_
  refine bw_callVe (e := d - 1) (as := [_]) rfl (by omega) rfl rfl (Nat.le_of_ble_eq_true rfl) (Nat.le_of_ble_eq_true rfl) rfl (m_readOf hR hC.1 (by omega)) ?_
  rw [k23.2]
  refine bw_push rfl ?_
  refine bw_isub rfl ⟨by omega, by omega⟩ ?_
  refine bw_callVi (e := d - 1) (as := [_, _]) rfl (by omega) rfl rfl (Nat.le_of_ble_eq_true rfl) (Nat.le_of_ble_eq_true rfl) rfl (m_number hR hP hz (by omega)) (fun r51 M51 hM51 => ?_)
  obtain ⟨u51, v51, w51⟩ := hM51
  obtain ⟨y51, e51⟩ : ∃ y, y = nuS a n y20.2 (S 0 - 1) y27 := ⟨_, rfl⟩
  rw [← e51] at v51 w51
  have b51 : y20.2 ≤ y51.2 ∧ y51.2 ≤ (S 0 - 1) := by rw [e51]; exact nuS_in (by omega)
  subst w51
  have hR := u51.RF hR
  have hP := v51.1
  have hz := v51.2
  have hC := hC.f5 u51
  have hF := hF.trans (u51.mono (fun _ k => k.elim) (fun _ k => k))
  have p3 := hP.he
  refine bw_asti rfl (by first | rfl | assumption) (by omega) (by omega) ?_
  generalize hG54 : sI M51 568 (t + 1) (y51.2) = G54
  have hR : RF r G54 := by rw [← hG54]; exact hR
  have hP : PS G54 a n := by rw [← hG54]; exact PS_8 hP
  have hz : rs G54 a n y51.1 := by rw [← hG54]; exact rs_8 hz
  obtain ⟨T54, f54⟩ : ∃ T, T = up T23 (q + 1) (y51.2) := ⟨_, rfl⟩
  have hC : SC M G54 T54 := by rw [← hG54, f54]; exact hC.w (by omega) (by omega)
  have hF : s5 p8 qP M G54 := by rw [← hG54]; exact hF.wr _ _ rfl (by decide)
  refine bw_retv rfl rfl ?_
  subst f54 e51 e27 f23 e20 e3
  exact ⟨rfl, rfl, hF, ⟨hP, hz⟩, hC⟩
set_option maxRecDepth 20000 in
set_option maxHeartbeats 4000000 in
theorem m_readsWay {d L : Nat} {M : abMem} {r : abRf} (hR : RF r M) {a : Int → Int} {n : Int} (hP : PS M a n) {z : Rp} (hz : rs M a n z) {m l : Int} (hd : 4 ≤ d) : abW d (0, 0) 181 0 (abEnt (abL 181) [vr (some 567), vi m, vi l]) [] (0, 0) (A0 L) M (qI (A0 L) (fun x N => s5 pNo qP M N ∧ RS N a n (wyS a n m l z).1 ∧ x = (wyS a n m l z).2)) := by
  have p1 := hP.sz
  have p2 := hP.ok.1
  have p3 := hP.he
  show abW d (0, 0) 181 0 [some (vr (some 567)), some (vi m), some (vi l), none] [] (0, 0) (A0 L) M (qI (A0 L) (fun x N => s5 pNo qP M N ∧ RS N a n (wyS a n m l z).1 ∧ x = (wyS a n m l z).2))
  refine bw_aload rfl rfl ?_
  refine bw_callVj (e := d - 1) (as := []) rfl (by omega) rfl rfl (Nat.le_of_ble_eq_true rfl) (Nat.le_of_ble_eq_true rfl) rfl (m_goesWell hR) (fun r1 hr1 => ?_)
  refine bw_ifeq rfl (fun c4 => ?_) (fun c4 => ?_)
  · skip
    refine bw_push rfl ?_
    refine bw_istore (ls2 := [_, _, _, _]) rfl rfl (Nat.le_of_ble_eq_true rfl) rfl ?_
    refine bw_aload rfl rfl ?_
    refine bw_callVj (e := d - 1) (as := []) rfl (by omega) rfl rfl (Nat.le_of_ble_eq_true rfl) (Nat.le_of_ble_eq_true rfl) rfl (m_goesWell (by assumption)) (fun r17 hr17 => ?_)
    refine bw_ifeq rfl (fun c20 => ?_) (fun c20 => ?_)
    · skip
      refine bw_aload rfl rfl ?_
      refine bw_callVj (e := d - 1) (as := []) rfl (by omega) rfl rfl (Nat.le_of_ble_eq_true rfl) (Nat.le_of_ble_eq_true rfl) rfl (m_goesWell (by assumption)) (fun r43 hr43 => ?_)
      refine bw_ifne rfl (fun c46 => ?_) (fun c46 => ?_)
      · skip
        refine bw_aload rfl rfl ?_
        refine bw_callVv (e := d - 1) (as := []) rfl (by omega) rfl rfl (Nat.le_of_ble_eq_true rfl) (Nat.le_of_ble_eq_true rfl) rfl (m_passes (by assumption) (by exact hP) (by omega)) (fun M52 hM52 => ?_)
        refine bw_iload rfl rfl ?_
        refine bw_ret rfl rfl ?_
        first
        | (exfalso; omega)
        | (obtain ⟨u52, v52, w52⟩ := hM52
           refine ⟨rfl, _, rfl, u8.toP.trans u52.P10, ?_⟩
           have q := s5P_11 u52
           rw [wyS_y (by omega)]
           rw [e8] at w52
           exact ⟨⟨hP8.toP u52.P10 (by omega), by rw [q.1, t8.1]; omega, by rw [w52]⟩, by omega⟩)
        | (exfalso; have := f39.2.1; omega)
      · skip
        refine bw_push rfl ?_
        refine bw_ret rfl rfl ?_
        first
        | (obtain ⟨e, rfl, he⟩ := rs_l hz (by omega)
           exact ⟨rfl, _, rfl, s5_refl _ _ _, ⟨hP, he⟩, rfl⟩)
        | (exfalso; omega)
        | (refine ⟨rfl, _, rfl, u8.toP.trans hM39.f5, ?_⟩
           rw [wyS_n (by omega), ← v8]
           exact ⟨f39, rfl⟩)
    · skip
      refine bw_iload rfl rfl ?_
      refine bw_iload rfl rfl ?_
      refine bw_iceq rfl (fun c25 => ?_) (fun c25 => ?_)
      · skip
        refine bw_aload rfl rfl ?_
        refine bw_callVj (e := d - 1) (as := []) rfl (by omega) rfl rfl (Nat.le_of_ble_eq_true rfl) (Nat.le_of_ble_eq_true rfl) rfl (m_goesWell (by assumption)) (fun r43 hr43 => ?_)
        refine bw_ifne rfl (fun c46 => ?_) (fun c46 => ?_)
        · skip
          refine bw_aload rfl rfl ?_
          refine bw_callVv (e := d - 1) (as := []) rfl (by omega) rfl rfl (Nat.le_of_ble_eq_true rfl) (Nat.le_of_ble_eq_true rfl) rfl (m_passes (by assumption) (by exact hP) (by omega)) (fun M52 hM52 => ?_)
          refine bw_iload rfl rfl ?_
          refine bw_ret rfl rfl ?_
          first
          | (exfalso; omega)
          | (obtain ⟨u52, v52, w52⟩ := hM52
             refine ⟨rfl, _, rfl, u8.toP.trans u52.P10, ?_⟩
             have q := s5P_11 u52
             rw [wyS_y (by omega)]
             rw [e8] at w52
             exact ⟨⟨hP8.toP u52.P10 (by omega), by rw [q.1, t8.1]; omega, by rw [w52]⟩, by omega⟩)
          | (exfalso; have := f39.2.1; omega)
        · skip
          refine bw_push rfl ?_
          refine bw_ret rfl rfl ?_
          first
          | (obtain ⟨e, rfl, he⟩ := rs_l hz (by omega)
             exact ⟨rfl, _, rfl, s5_refl _ _ _, ⟨hP, he⟩, rfl⟩)
          | (exfalso; omega)
          | (refine ⟨rfl, _, rfl, u8.toP.trans hM39.f5, ?_⟩
             rw [wyS_n (by omega), ← v8]
             exact ⟨f39, rfl⟩)
      · skip
        refine bw_iload rfl rfl ?_
        refine bw_iload rfl rfl ?_
        refine bw_iceq rfl (fun c30 => ?_) (fun c30 => ?_)
        · skip
          refine bw_aload rfl rfl ?_
          refine bw_callVj (e := d - 1) (as := []) rfl (by omega) rfl rfl (Nat.le_of_ble_eq_true rfl) (Nat.le_of_ble_eq_true rfl) rfl (m_goesWell (by assumption)) (fun r43 hr43 => ?_)
          refine bw_ifne rfl (fun c46 => ?_) (fun c46 => ?_)
          · skip
            refine bw_aload rfl rfl ?_
            refine bw_callVv (e := d - 1) (as := []) rfl (by omega) rfl rfl (Nat.le_of_ble_eq_true rfl) (Nat.le_of_ble_eq_true rfl) rfl (m_passes (by assumption) (by exact hP) (by omega)) (fun M52 hM52 => ?_)
            refine bw_iload rfl rfl ?_
            refine bw_ret rfl rfl ?_
            first
            | (exfalso; omega)
            | (obtain ⟨u52, v52, w52⟩ := hM52
               refine ⟨rfl, _, rfl, u8.toP.trans u52.P10, ?_⟩
               have q := s5P_11 u52
               rw [wyS_y (by omega)]
               rw [e8] at w52
               exact ⟨⟨hP8.toP u52.P10 (by omega), by rw [q.1, t8.1]; omega, by rw [w52]⟩, by omega⟩)
            | (exfalso; have := f39.2.1; omega)
          · skip
            refine bw_push rfl ?_
            refine bw_ret rfl rfl ?_
            first
            | (obtain ⟨e, rfl, he⟩ := rs_l hz (by omega)
               exact ⟨rfl, _, rfl, s5_refl _ _ _, ⟨hP, he⟩, rfl⟩)
            | (exfalso; omega)
            | (refine ⟨rfl, _, rfl, u8.toP.trans hM39.f5, ?_⟩
               rw [wyS_n (by omega), ← v8]
               exact ⟨f39, rfl⟩)
        · skip
          refine bw_aload rfl rfl ?_
          refine bw_push rfl ?_
          refine bw_aload rfl rfl ?_
          refine bw_getI rfl rfl ?_
          refine bw_callVv (e := d - 1) (as := [_, _]) rfl (by omega) rfl rfl (Nat.le_of_ble_eq_true rfl) (Nat.le_of_ble_eq_true rfl) rfl (m_faults hR) (fun M39 hM39 => ?_)
          have hR := hM39.f5.RF hR
          have f39 := hM39.RSn (a := a) (n := n) hP (by omega) (by decide)
          have g39 := f39.2.1
          have hP := hM39.ps hP
          refine bw_aload rfl rfl ?_
          refine bw_callVj (e := d - 1) (as := []) rfl (by omega) rfl rfl (Nat.le_of_ble_eq_true rfl) (Nat.le_of_ble_eq_true rfl) rfl (m_goesWell (by assumption)) (fun r43 hr43 => ?_)
          refine bw_ifne rfl (fun c46 => ?_) (fun c46 => ?_)
          · skip
            refine bw_aload rfl rfl ?_
            refine bw_callVv (e := d - 1) (as := []) rfl (by omega) rfl rfl (Nat.le_of_ble_eq_true rfl) (Nat.le_of_ble_eq_true rfl) rfl (m_passes (by assumption) (by exact hP) (by omega)) (fun M52 hM52 => ?_)
            refine bw_iload rfl rfl ?_
            refine bw_ret rfl rfl ?_
            first
            | (exfalso; omega)
            | (obtain ⟨u52, v52, w52⟩ := hM52
               refine ⟨rfl, _, rfl, u8.toP.trans u52.P10, ?_⟩
               have q := s5P_11 u52
               rw [wyS_y (by omega)]
               rw [e8] at w52
               exact ⟨⟨hP8.toP u52.P10 (by omega), by rw [q.1, t8.1]; omega, by rw [w52]⟩, by omega⟩)
            | (exfalso; have := f39.2.1; omega)
          · skip
            refine bw_push rfl ?_
            refine bw_ret rfl rfl ?_
            first
            | (obtain ⟨e, rfl, he⟩ := rs_l hz (by omega)
               exact ⟨rfl, _, rfl, s5_refl _ _ _, ⟨hP, he⟩, rfl⟩)
            | (exfalso; omega)
            | (refine ⟨rfl, _, rfl, u8.toP.trans hM39.f5, ?_⟩
               rw [wyS_n (by omega), ← v8]
               exact ⟨f39, rfl⟩)
  · skip
    refine bw_aload rfl rfl ?_
    refine bw_callVi (e := d - 1) (as := []) rfl (by omega) rfl rfl (Nat.le_of_ble_eq_true rfl) (Nat.le_of_ble_eq_true rfl) rfl (m_comes hR hP (by omega)) (fun r8 M8 hM8 => ?_)
    obtain ⟨u8, v8, w8⟩ := hM8
    have hR := u8.RF hR
    obtain ⟨p, rfl, hp⟩ := rs_r hz (by omega)
    have s8 := skM_in hP
    have hP8 := hP.to9 u8 (by rw [v8]; exact ⟨s8.1, s8.2.1⟩)
    have e8 : skM M8 a n = p := (skM_eq hP v8).trans hp
    have t8 := s59_11 u8
    have w8 : r8 = wo a n p := w8.trans (congrArg _ hp)
    rw [show skM M a n = p from hp] at v8 s8
    have s9 := we_in hP.ok (k := p) (by omega)
    have hP := hP8
    refine bw_goto rfl ?_
    refine bw_istore (ls2 := [_, _, _, _]) rfl rfl (Nat.le_of_ble_eq_true rfl) rfl ?_
    refine bw_aload rfl rfl ?_
    refine bw_callVj (e := d - 1) (as := []) rfl (by omega) rfl rfl (Nat.le_of_ble_eq_true rfl) (Nat.le_of_ble_eq_true rfl) rfl (m_goesWell (by assumption)) (fun r17 hr17 => ?_)
    refine bw_ifeq rfl (fun c20 => ?_) (fun c20 => ?_)
    · skip
      refine bw_aload rfl rfl ?_
      refine bw_callVj (e := d - 1) (as := []) rfl (by omega) rfl rfl (Nat.le_of_ble_eq_true rfl) (Nat.le_of_ble_eq_true rfl) rfl (m_goesWell (by assumption)) (fun r43 hr43 => ?_)
      refine bw_ifne rfl (fun c46 => ?_) (fun c46 => ?_)
      · skip
        refine bw_aload rfl rfl ?_
        refine bw_callVv (e := d - 1) (as := []) rfl (by omega) rfl rfl (Nat.le_of_ble_eq_true rfl) (Nat.le_of_ble_eq_true rfl) rfl (m_passes (by assumption) (by exact hP) (by omega)) (fun M52 hM52 => ?_)
        refine bw_iload rfl rfl ?_
        refine bw_ret rfl rfl ?_
        first
        | (exfalso; omega)
        | (obtain ⟨u52, v52, w52⟩ := hM52
           refine ⟨rfl, _, rfl, u8.toP.trans u52.P10, ?_⟩
           have q := s5P_11 u52
           rw [wyS_y (by omega)]
           rw [e8] at w52
           exact ⟨⟨hP8.toP u52.P10 (by omega), by rw [q.1, t8.1]; omega, by rw [w52]⟩, by omega⟩)
        | (exfalso; have := f39.2.1; omega)
      · skip
        refine bw_push rfl ?_
        refine bw_ret rfl rfl ?_
        first
        | (obtain ⟨e, rfl, he⟩ := rs_l hz (by omega)
           exact ⟨rfl, _, rfl, s5_refl _ _ _, ⟨hP, he⟩, rfl⟩)
        | (exfalso; omega)
        | (refine ⟨rfl, _, rfl, u8.toP.trans hM39.f5, ?_⟩
           rw [wyS_n (by omega), ← v8]
           exact ⟨f39, rfl⟩)
    · skip
      refine bw_iload rfl rfl ?_
      refine bw_iload rfl rfl ?_
      refine bw_iceq rfl (fun c25 => ?_) (fun c25 => ?_)
      · skip
        refine bw_aload rfl rfl ?_
        refine bw_callVj (e := d - 1) (as := []) rfl (by omega) rfl rfl (Nat.le_of_ble_eq_true rfl) (Nat.le_of_ble_eq_true rfl) rfl (m_goesWell (by assumption)) (fun r43 hr43 => ?_)
        refine bw_ifne rfl (fun c46 => ?_) (fun c46 => ?_)
        · skip
          refine bw_aload rfl rfl ?_
          refine bw_callVv (e := d - 1) (as := []) rfl (by omega) rfl rfl (Nat.le_of_ble_eq_true rfl) (Nat.le_of_ble_eq_true rfl) rfl (m_passes (by assumption) (by exact hP) (by omega)) (fun M52 hM52 => ?_)
          refine bw_iload rfl rfl ?_
          refine bw_ret rfl rfl ?_
          first
          | (exfalso; omega)
          | (obtain ⟨u52, v52, w52⟩ := hM52
             refine ⟨rfl, _, rfl, u8.toP.trans u52.P10, ?_⟩
             have q := s5P_11 u52
             rw [wyS_y (by omega)]
             rw [e8] at w52
             exact ⟨⟨hP8.toP u52.P10 (by omega), by rw [q.1, t8.1]; omega, by rw [w52]⟩, by omega⟩)
          | (exfalso; have := f39.2.1; omega)
        · skip
          refine bw_push rfl ?_
          refine bw_ret rfl rfl ?_
          first
          | (obtain ⟨e, rfl, he⟩ := rs_l hz (by omega)
             exact ⟨rfl, _, rfl, s5_refl _ _ _, ⟨hP, he⟩, rfl⟩)
          | (exfalso; omega)
          | (refine ⟨rfl, _, rfl, u8.toP.trans hM39.f5, ?_⟩
             rw [wyS_n (by omega), ← v8]
             exact ⟨f39, rfl⟩)
      · skip
        refine bw_iload rfl rfl ?_
        refine bw_iload rfl rfl ?_
        refine bw_iceq rfl (fun c30 => ?_) (fun c30 => ?_)
        · skip
          refine bw_aload rfl rfl ?_
          refine bw_callVj (e := d - 1) (as := []) rfl (by omega) rfl rfl (Nat.le_of_ble_eq_true rfl) (Nat.le_of_ble_eq_true rfl) rfl (m_goesWell (by assumption)) (fun r43 hr43 => ?_)
          refine bw_ifne rfl (fun c46 => ?_) (fun c46 => ?_)
          · skip
            refine bw_aload rfl rfl ?_
            refine bw_callVv (e := d - 1) (as := []) rfl (by omega) rfl rfl (Nat.le_of_ble_eq_true rfl) (Nat.le_of_ble_eq_true rfl) rfl (m_passes (by assumption) (by exact hP) (by omega)) (fun M52 hM52 => ?_)
            refine bw_iload rfl rfl ?_
            refine bw_ret rfl rfl ?_
            first
            | (exfalso; omega)
            | (obtain ⟨u52, v52, w52⟩ := hM52
               refine ⟨rfl, _, rfl, u8.toP.trans u52.P10, ?_⟩
               have q := s5P_11 u52
               rw [wyS_y (by omega)]
               rw [e8] at w52
               exact ⟨⟨hP8.toP u52.P10 (by omega), by rw [q.1, t8.1]; omega, by rw [w52]⟩, by omega⟩)
            | (exfalso; have := f39.2.1; omega)
          · skip
            refine bw_push rfl ?_
            refine bw_ret rfl rfl ?_
            first
            | (obtain ⟨e, rfl, he⟩ := rs_l hz (by omega)
               exact ⟨rfl, _, rfl, s5_refl _ _ _, ⟨hP, he⟩, rfl⟩)
            | (exfalso; omega)
            | (refine ⟨rfl, _, rfl, u8.toP.trans hM39.f5, ?_⟩
               rw [wyS_n (by omega), ← v8]
               exact ⟨f39, rfl⟩)
        · skip
          refine bw_aload rfl rfl ?_
          refine bw_push rfl ?_
          refine bw_aload rfl rfl ?_
          refine bw_getI rfl rfl ?_
          refine bw_callVv (e := d - 1) (as := [_, _]) rfl (by omega) rfl rfl (Nat.le_of_ble_eq_true rfl) (Nat.le_of_ble_eq_true rfl) rfl (m_faults hR) (fun M39 hM39 => ?_)
          have hR := hM39.f5.RF hR
          have f39 := hM39.RSn (a := a) (n := n) hP (by omega) (by decide)
          have g39 := f39.2.1
          have hP := hM39.ps hP
          refine bw_aload rfl rfl ?_
          refine bw_callVj (e := d - 1) (as := []) rfl (by omega) rfl rfl (Nat.le_of_ble_eq_true rfl) (Nat.le_of_ble_eq_true rfl) rfl (m_goesWell (by assumption)) (fun r43 hr43 => ?_)
          refine bw_ifne rfl (fun c46 => ?_) (fun c46 => ?_)
          · skip
            refine bw_aload rfl rfl ?_
            refine bw_callVv (e := d - 1) (as := []) rfl (by omega) rfl rfl (Nat.le_of_ble_eq_true rfl) (Nat.le_of_ble_eq_true rfl) rfl (m_passes (by assumption) (by exact hP) (by omega)) (fun M52 hM52 => ?_)
            refine bw_iload rfl rfl ?_
            refine bw_ret rfl rfl ?_
            first
            | (exfalso; omega)
            | (obtain ⟨u52, v52, w52⟩ := hM52
               refine ⟨rfl, _, rfl, u8.toP.trans u52.P10, ?_⟩
               have q := s5P_11 u52
               rw [wyS_y (by omega)]
               rw [e8] at w52
               exact ⟨⟨hP8.toP u52.P10 (by omega), by rw [q.1, t8.1]; omega, by rw [w52]⟩, by omega⟩)
            | (exfalso; have := f39.2.1; omega)
          · skip
            refine bw_push rfl ?_
            refine bw_ret rfl rfl ?_
            first
            | (obtain ⟨e, rfl, he⟩ := rs_l hz (by omega)
               exact ⟨rfl, _, rfl, s5_refl _ _ _, ⟨hP, he⟩, rfl⟩)
            | (exfalso; omega)
            | (refine ⟨rfl, _, rfl, u8.toP.trans hM39.f5, ?_⟩
               rw [wyS_n (by omega), ← v8]
               exact ⟨f39, rfl⟩)
