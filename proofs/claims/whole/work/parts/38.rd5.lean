theorem SC.tr {M N K : abMem} {S T : Int → Int} (h : SC M N S) (g : SC N K T) : SC M K T := ⟨g.1, fun j hj => (g.2 j hj).trans (h.2 j hj)⟩
theorem spS_o {S a : Int → Int} {n q j : Int} {z : Rp} (h1 : j ≠ q) (h2 : j ≠ q + 1) : (spS S a n q z).2 j = S j := by
  unfold spS
  show up (up S q _) (q + 1) _ j = S j
  rw [up_ne h2, up_ne h1]
/-- a box is told: its layer, drawing, x, y, how wide, how high, ink -/
def bxU (S : Int → Int) (l dr x y w h i : Int) : Int → Int := up (up (up (up (up (up (up S (54 + 7 * S 2) l) (54 + 7 * S 2 + 1) dr) (54 + 7 * S 2 + 2) x) (54 + 7 * S 2 + 3) y) (54 + 7 * S 2 + 4) w) (54 + 7 * S 2 + 5) h) (54 + 7 * S 2 + 6) i
theorem bxU_lo {S : Int → Int} {l dr x y w h i j : Int} (h0 : 0 ≤ S 2) (hj : j < 54) : bxU S l dr x y w h i j = S j := by
  unfold bxU
  rw [up_ne (by omega), up_ne (by omega), up_ne (by omega), up_ne (by omega), up_ne (by omega), up_ne (by omega), up_ne (by omega)]
noncomputable def cl0 (S a : Int → Int) (n : Int) (z : Rp) : Rp × Int := owS S a n z
noncomputable def cl1 (S a : Int → Int) (n : Int) (z : Rp) : Rp × Int := nuS a n 1 99 (cl0 S a n z).1
noncomputable def cl2 (S a : Int → Int) (n : Int) (z : Rp) : Rp × Int := nuS a n 0 11 (woS a n 6 (cl1 S a n z).1)
noncomputable def cl3 (S a : Int → Int) (n : Int) (z : Rp) : Rp × Int := nuS a n 0 7 (cl2 S a n z).1
noncomputable def cl4 (S a : Int → Int) (n : Int) (z : Rp) : Rp × Int := nuS a n 1 12 (woS a n 7 (cl3 S a n z).1)
noncomputable def cl5 (S a : Int → Int) (n : Int) (z : Rp) : Rp × Int := nuS a n 1 8 (cl4 S a n z).1
noncomputable def cl6 (S a : Int → Int) (n : Int) (z : Rp) : Rp × Int := nuS a n 1 9 (woS a n 8 (cl5 S a n z).1)
noncomputable def clU (S a : Int → Int) (n : Int) (z : Rp) : Int → Int := bxU S (cl0 S a n z).2 (cl1 S a n z).2 (cl2 S a n z).2 (cl3 S a n z).2 (cl4 S a n z).2 (cl5 S a n z).2 (cl6 S a n z).2
noncomputable def clS (S a : Int → Int) (n : Int) (z : Rp) : Rp × (Int → Int) := ((cl6 S a n z).1, up (clU S a n z) 2 (clU S a n z 2 + 1))
set_option maxRecDepth 20000 in
set_option maxHeartbeats 4000000 in
theorem m_readsBox {d L : Nat} {M : abMem} {r : abRf} (hR : RF r M) {a : Int → Int} {n : Int} (hP : PS M a n) {z : Rp} (hz : rs M a n z) {S : Int → Int} (hS : SIm (gI M 568) 1006 S) (hl6 : 0 ≤ S 1 ∧ S 1 ≤ 6) (h0 : 1 ≤ S 0 ∧ S 0 ≤ 96) (hk : 0 ≤ S 2 ∧ S 2 ≤ 39) (hd : 7 ≤ d) : abW d (0, 0) 179 0 (abEnt (abL 179) [vr (some 567)]) [] (0, 0) (A0 L) M (qV (A0 L) (fun N => s5 p8 qP M N ∧ RS N a n ((clS S a n z).1) ∧ SC M N ((clS S a n z).2))) := by
  have p1 := hP.sz
  have p2 := hP.ok.1
  have p3 := hP.he
  have hF : s5 p8 qP M M := s5_refl _ _ _
  have hC : SC M M S := ⟨hS, fun _ _ => rfl⟩
  show abW d (0, 0) 179 0 [some (vr (some 567)), none] [] (0, 0) (A0 L) M (qV (A0 L) (fun N => s5 p8 qP M N ∧ RS N a n ((clS S a n z).1) ∧ SC M N ((clS S a n z).2)))
  refine bw_push rfl ?_
  refine bw_push rfl ?_
  refine bw_aload rfl rfl ?_
  refine bw_push rfl ?_
  refine bw_callVe (e := d - 1) (as := [_]) rfl (by omega) rfl rfl (Nat.le_of_ble_eq_true rfl) (Nat.le_of_ble_eq_true rfl) rfl (m_readOf hR hC.1 (by omega)) ?_
  refine bw_imul rfl ⟨by omega, by omega⟩ ?_
  refine bw_iadd rfl ⟨by omega, by omega⟩ ?_
  refine bw_istore (ls2 := [_, _]) rfl rfl (Nat.le_of_ble_eq_true rfl) rfl ?_
  refine bw_aload rfl rfl ?_
  refine bw_getr rfl rfl (hR _ _) ?_
  refine bw_iload rfl rfl ?_
  refine bw_aload rfl rfl ?_
  refine bw_callVi (e := d - 1) (as := []) rfl (by omega) rfl rfl (Nat.le_of_ble_eq_true rfl) (Nat.le_of_ble_eq_true rfl) rfl (m_toldLayer hR hP hz hC.1 (by omega) (by omega)) (fun r19 M19 hM19 => ?_)
  obtain ⟨u19, v19, w19⟩ := hM19
  obtain ⟨y19, e19⟩ : ∃ y, y = owS S a n z := ⟨_, rfl⟩
  rw [← e19] at v19 w19
  have b19 : 0 ≤ y19.2 ∧ y19.2 ≤ 5 := by rw [e19]; exact owS_in (by omega)
  subst w19
  have hR := u19.RF hR
  have hP := v19.1
  have hz := v19.2
  have hC := hC.f5 u19
  have hF := hF.trans (u19.mono (fun _ k => k.elim) (fun _ k => k))
  have p3 := hP.he
  refine bw_asti rfl (by first | rfl | assumption) (by omega) (by omega) ?_
  generalize hG22 : sI M19 568 (1060 + 7 * S 2) (y19.2) = G22
  have hR : RF r G22 := by rw [← hG22]; exact hR
  have hP : PS G22 a n := by rw [← hG22]; exact PS_8 hP
  have hz : rs G22 a n y19.1 := by rw [← hG22]; exact rs_8 hz
  obtain ⟨T22, f22⟩ : ∃ T, T = up S (54 + 7 * S 2) (y19.2) := ⟨_, rfl⟩
  have hC : SC M G22 T22 := by rw [← hG22, f22]; exact hC.w (by omega) (by omega)
  have hF : s5 p8 qP M G22 := by rw [← hG22]; exact hF.wr _ _ rfl (by decide)
  refine bw_aload rfl rfl ?_
  refine bw_getr rfl rfl (hR _ _) ?_
  refine bw_iload rfl rfl ?_
  refine bw_push rfl ?_
  refine bw_iadd rfl ⟨by omega, by omega⟩ ?_
  refine bw_aload rfl rfl ?_
  refine bw_push rfl ?_
  refine bw_push rfl ?_
  refine bw_callVi (e := d - 1) (as := [_, _]) rfl (by omega) rfl rfl (Nat.le_of_ble_eq_true rfl) (Nat.le_of_ble_eq_true rfl) rfl (m_number hR hP hz (by omega)) (fun r34 M34 hM34 => ?_)
  obtain ⟨u34, v34, w34⟩ := hM34
  obtain ⟨y34, e34⟩ : ∃ y, y = nuS a n 1 99 y19.1 := ⟨_, rfl⟩
  rw [← e34] at v34 w34
  have b34 : 1 ≤ y34.2 ∧ y34.2 ≤ 99 := by rw [e34]; exact nuS_in (by decide)
  subst w34
  have hR := u34.RF hR
  have hP := v34.1
  have hz := v34.2
  have hC := hC.f5 u34
  have hF := hF.trans (u34.mono (fun _ k => k.elim) (fun _ k => k))
  have p3 := hP.he
  refine bw_asti rfl (by first | rfl | assumption) (by omega) (by omega) ?_
  generalize hG37 : sI M34 568 (1060 + 7 * S 2 + 1) (y34.2) = G37
  have hR : RF r G37 := by rw [← hG37]; exact hR
  have hP : PS G37 a n := by rw [← hG37]; exact PS_8 hP
  have hz : rs G37 a n y34.1 := by rw [← hG37]; exact rs_8 hz
  obtain ⟨T37, f37⟩ : ∃ T, T = up T22 (54 + 7 * S 2 + 1) (y34.2) := ⟨_, rfl⟩
  have hC : SC M G37 T37 := by rw [← hG37, f37]; exact hC.w (by omega) (by omega)
  have hF : s5 p8 qP M G37 := by rw [← hG37]; exact hF.wr _ _ rfl (by decide)
  refine bw_aload rfl rfl ?_
  refine bw_push rfl ?_
  refine bw_callVv (e := d - 1) (as := [_]) rfl (by omega) rfl rfl (Nat.le_of_ble_eq_true rfl) (Nat.le_of_ble_eq_true rfl) rfl (m_must hR hP hz (by omega)) (fun M41 hM41 => ?_)
  obtain ⟨u41, v41⟩ := hM41
  obtain ⟨y41, e41⟩ : ∃ y, y = woS a n 6 y34.1 := ⟨_, rfl⟩
  rw [← e41] at v41
  have hR := u41.RF hR
  have hP := v41.1
  have hz := v41.2
  have hC := hC.f5 u41
  have hF := hF.trans (u41.mono (fun _ k => k.elim) (fun _ k => k))
  have p3 := hP.he
  refine bw_aload rfl rfl ?_
  refine bw_getr rfl rfl (hR _ _) ?_
  refine bw_iload rfl rfl ?_
  refine bw_push rfl ?_
  refine bw_iadd rfl ⟨by omega, by omega⟩ ?_
  refine bw_aload rfl rfl ?_
  refine bw_push rfl ?_
  refine bw_push rfl ?_
  refine bw_callVi (e := d - 1) (as := [_, _]) rfl (by omega) rfl rfl (Nat.le_of_ble_eq_true rfl) (Nat.le_of_ble_eq_true rfl) rfl (m_number hR hP hz (by omega)) (fun r55 M55 hM55 => ?_)
  obtain ⟨u55, v55, w55⟩ := hM55
  obtain ⟨y55, e55⟩ : ∃ y, y = nuS a n 0 11 y41 := ⟨_, rfl⟩
  rw [← e55] at v55 w55
  have b55 : 0 ≤ y55.2 ∧ y55.2 ≤ 11 := by rw [e55]; exact nuS_in (by decide)
  subst w55
  have hR := u55.RF hR
  have hP := v55.1
  have hz := v55.2
  have hC := hC.f5 u55
  have hF := hF.trans (u55.mono (fun _ k => k.elim) (fun _ k => k))
  have p3 := hP.he
  refine bw_asti rfl (by first | rfl | assumption) (by omega) (by omega) ?_
  generalize hG58 : sI M55 568 (1060 + 7 * S 2 + 2) (y55.2) = G58
  have hR : RF r G58 := by rw [← hG58]; exact hR
  have hP : PS G58 a n := by rw [← hG58]; exact PS_8 hP
  have hz : rs G58 a n y55.1 := by rw [← hG58]; exact rs_8 hz
  obtain ⟨T58, f58⟩ : ∃ T, T = up T37 (54 + 7 * S 2 + 2) (y55.2) := ⟨_, rfl⟩
  have hC : SC M G58 T58 := by rw [← hG58, f58]; exact hC.w (by omega) (by omega)
  have hF : s5 p8 qP M G58 := by rw [← hG58]; exact hF.wr _ _ rfl (by decide)
  refine bw_aload rfl rfl ?_
  refine bw_getr rfl rfl (hR _ _) ?_
  refine bw_iload rfl rfl ?_
  refine bw_push rfl ?_
  refine bw_iadd rfl ⟨by omega, by omega⟩ ?_
  refine bw_aload rfl rfl ?_
  refine bw_push rfl ?_
  refine bw_push rfl ?_
  refine bw_callVi (e := d - 1) (as := [_, _]) rfl (by omega) rfl rfl (Nat.le_of_ble_eq_true rfl) (Nat.le_of_ble_eq_true rfl) rfl (m_number hR hP hz (by omega)) (fun r70 M70 hM70 => ?_)
  obtain ⟨u70, v70, w70⟩ := hM70
  obtain ⟨y70, e70⟩ : ∃ y, y = nuS a n 0 7 y55.1 := ⟨_, rfl⟩
  rw [← e70] at v70 w70
  have b70 : 0 ≤ y70.2 ∧ y70.2 ≤ 7 := by rw [e70]; exact nuS_in (by decide)
  subst w70
  have hR := u70.RF hR
  have hP := v70.1
  have hz := v70.2
  have hC := hC.f5 u70
  have hF := hF.trans (u70.mono (fun _ k => k.elim) (fun _ k => k))
  have p3 := hP.he
  refine bw_asti rfl (by first | rfl | assumption) (by omega) (by omega) ?_
  generalize hG73 : sI M70 568 (1060 + 7 * S 2 + 3) (y70.2) = G73
  have hR : RF r G73 := by rw [← hG73]; exact hR
  have hP : PS G73 a n := by rw [← hG73]; exact PS_8 hP
  have hz : rs G73 a n y70.1 := by rw [← hG73]; exact rs_8 hz
  obtain ⟨T73, f73⟩ : ∃ T, T = up T58 (54 + 7 * S 2 + 3) (y70.2) := ⟨_, rfl⟩
  have hC : SC M G73 T73 := by rw [← hG73, f73]; exact hC.w (by omega) (by omega)
  have hF : s5 p8 qP M G73 := by rw [← hG73]; exact hF.wr _ _ rfl (by decide)
  refine bw_aload rfl rfl ?_
  refine bw_push rfl ?_
  refine bw_callVv (e := d - 1) (as := [_]) rfl (by omega) rfl rfl (Nat.le_of_ble_eq_true rfl) (Nat.le_of_ble_eq_true rfl) rfl (m_must hR hP hz (by omega)) (fun M77 hM77 => ?_)
  obtain ⟨u77, v77⟩ := hM77
  obtain ⟨y77, e77⟩ : ∃ y, y = woS a n 7 y70.1 := ⟨_, rfl⟩
  rw [← e77] at v77
  have hR := u77.RF hR
  have hP := v77.1
  have hz := v77.2
  have hC := hC.f5 u77
  have hF := hF.trans (u77.mono (fun _ k => k.elim) (fun _ k => k))
  have p3 := hP.he
  refine bw_aload rfl rfl ?_
  refine bw_getr rfl rfl (hR _ _) ?_
  refine bw_iload rfl rfl ?_
  refine bw_push rfl ?_
  refine bw_iadd rfl ⟨by omega, by omega⟩ ?_
  refine bw_aload rfl rfl ?_
  refine bw_push rfl ?_
  refine bw_push rfl ?_
  refine bw_callVi (e := d - 1) (as := [_, _]) rfl (by omega) rfl rfl (Nat.le_of_ble_eq_true rfl) (Nat.le_of_ble_eq_true rfl) rfl (m_number hR hP hz (by omega)) (fun r91 M91 hM91 => ?_)
  obtain ⟨u91, v91, w91⟩ := hM91
  obtain ⟨y91, e91⟩ : ∃ y, y = nuS a n 1 12 y77 := ⟨_, rfl⟩
  rw [← e91] at v91 w91
  have b91 : 1 ≤ y91.2 ∧ y91.2 ≤ 12 := by rw [e91]; exact nuS_in (by decide)
  subst w91
  have hR := u91.RF hR
  have hP := v91.1
  have hz := v91.2
  have hC := hC.f5 u91
  have hF := hF.trans (u91.mono (fun _ k => k.elim) (fun _ k => k))
  have p3 := hP.he
  refine bw_asti rfl (by first | rfl | assumption) (by omega) (by omega) ?_
  generalize hG94 : sI M91 568 (1060 + 7 * S 2 + 4) (y91.2) = G94
  have hR : RF r G94 := by rw [← hG94]; exact hR
  have hP : PS G94 a n := by rw [← hG94]; exact PS_8 hP
  have hz : rs G94 a n y91.1 := by rw [← hG94]; exact rs_8 hz
  obtain ⟨T94, f94⟩ : ∃ T, T = up T73 (54 + 7 * S 2 + 4) (y91.2) := ⟨_, rfl⟩
  have hC : SC M G94 T94 := by rw [← hG94, f94]; exact hC.w (by omega) (by omega)
  have hF : s5 p8 qP M G94 := by rw [← hG94]; exact hF.wr _ _ rfl (by decide)
  refine bw_aload rfl rfl ?_
  refine bw_getr rfl rfl (hR _ _) ?_
  refine bw_iload rfl rfl ?_
  refine bw_push rfl ?_
  refine bw_iadd rfl ⟨by omega, by omega⟩ ?_
  refine bw_aload rfl rfl ?_
  refine bw_push rfl ?_
  refine bw_push rfl ?_
  refine bw_callVi (e := d - 1) (as := [_, _]) rfl (by omega) rfl rfl (Nat.le_of_ble_eq_true rfl) (Nat.le_of_ble_eq_true rfl) rfl (m_number hR hP hz (by omega)) (fun r106 M106 hM106 => ?_)
  obtain ⟨u106, v106, w106⟩ := hM106
  obtain ⟨y106, e106⟩ : ∃ y, y = nuS a n 1 8 y91.1 := ⟨_, rfl⟩
  rw [← e106] at v106 w106
  have b106 : 1 ≤ y106.2 ∧ y106.2 ≤ 8 := by rw [e106]; exact nuS_in (by decide)
  subst w106
  have hR := u106.RF hR
  have hP := v106.1
  have hz := v106.2
  have hC := hC.f5 u106
  have hF := hF.trans (u106.mono (fun _ k => k.elim) (fun _ k => k))
  have p3 := hP.he
  refine bw_asti rfl (by first | rfl | assumption) (by omega) (by omega) ?_
  generalize hG109 : sI M106 568 (1060 + 7 * S 2 + 5) (y106.2) = G109
  have hR : RF r G109 := by rw [← hG109]; exact hR
  have hP : PS G109 a n := by rw [← hG109]; exact PS_8 hP
  have hz : rs G109 a n y106.1 := by rw [← hG109]; exact rs_8 hz
  obtain ⟨T109, f109⟩ : ∃ T, T = up T94 (54 + 7 * S 2 + 5) (y106.2) := ⟨_, rfl⟩
  have hC : SC M G109 T109 := by rw [← hG109, f109]; exact hC.w (by omega) (by omega)
  have hF : s5 p8 qP M G109 := by rw [← hG109]; exact hF.wr _ _ rfl (by decide)
  refine bw_aload rfl rfl ?_
  refine bw_push rfl ?_
  refine bw_callVv (e := d - 1) (as := [_]) rfl (by omega) rfl rfl (Nat.le_of_ble_eq_true rfl) (Nat.le_of_ble_eq_true rfl) rfl (m_must hR hP hz (by omega)) (fun M113 hM113 => ?_)
  obtain ⟨u113, v113⟩ := hM113
  obtain ⟨y113, e113⟩ : ∃ y, y = woS a n 8 y106.1 := ⟨_, rfl⟩
  rw [← e113] at v113
  have hR := u113.RF hR
  have hP := v113.1
  have hz := v113.2
  have hC := hC.f5 u113
  have hF := hF.trans (u113.mono (fun _ k => k.elim) (fun _ k => k))
  have p3 := hP.he
  refine bw_aload rfl rfl ?_
  refine bw_getr rfl rfl (hR _ _) ?_
  refine bw_iload rfl rfl ?_
  refine bw_push rfl ?_
  refine bw_iadd rfl ⟨by omega, by omega⟩ ?_
  refine bw_aload rfl rfl ?_
  refine bw_push rfl ?_
  refine bw_push rfl ?_
  refine bw_callVi (e := d - 1) (as := [_, _]) rfl (by omega) rfl rfl (Nat.le_of_ble_eq_true rfl) (Nat.le_of_ble_eq_true rfl) rfl (m_number hR hP hz (by omega)) (fun r128 M128 hM128 => ?_)
  obtain ⟨u128, v128, w128⟩ := hM128
  obtain ⟨y128, e128⟩ : ∃ y, y = nuS a n 1 9 y113 := ⟨_, rfl⟩
  rw [← e128] at v128 w128
  have b128 : 1 ≤ y128.2 ∧ y128.2 ≤ 9 := by rw [e128]; exact nuS_in (by decide)
  subst w128
  have hR := u128.RF hR
  have hP := v128.1
  have hz := v128.2
  have hC := hC.f5 u128
  have hF := hF.trans (u128.mono (fun _ k => k.elim) (fun _ k => k))
  have p3 := hP.he
  refine bw_asti rfl (by first | rfl | assumption) (by omega) (by omega) ?_
  generalize hG131 : sI M128 568 (1060 + 7 * S 2 + 6) (y128.2) = G131
  have hR : RF r G131 := by rw [← hG131]; exact hR
  have hP : PS G131 a n := by rw [← hG131]; exact PS_8 hP
  have hz : rs G131 a n y128.1 := by rw [← hG131]; exact rs_8 hz
  obtain ⟨T131, f131⟩ : ∃ T, T = up T109 (54 + 7 * S 2 + 6) (y128.2) := ⟨_, rfl⟩
  have hC : SC M G131 T131 := by rw [← hG131, f131]; exact hC.w (by omega) (by omega)
  have hF : s5 p8 qP M G131 := by rw [← hG131]; exact hF.wr _ _ rfl (by decide)
  have hU : T131 = bxU S y19.2 y34.2 y55.2 y70.2 y91.2 y106.2 y128.2 := by rw [f131, f109, f94, f73, f58, f37, f22]; rfl
  clear f131 f109 f94 f73 f58 f37 f22
  refine bw_aload rfl rfl ?_
  refine bw_getr rfl rfl (hR _ _) ?_
  refine bw_push rfl ?_
  refine bw_dup2 rfl ?_
  have k140 : 0 ≤ T131 2 ∧ T131 2 ≤ 100 := by rw [hU, bxU_lo (by omega) (by omega)]; omega
  refine bw_aldi rfl (by first | rfl | assumption) (by omega) (by omega) ?_
  rw [show gI G131 568 1008 = T131 2 from hC.1 2 (by decide) (by decide)]
  refine bw_push rfl ?_
  refine bw_iadd rfl ⟨by omega, by omega⟩ ?_
  refine bw_asti rfl (by first | rfl | assumption) (by omega) (by omega) ?_
  generalize hG143 : sI G131 568 (1008) (T131 2 + 1) = G143
  have hR : RF r G143 := by rw [← hG143]; exact hR
  have hP : PS G143 a n := by rw [← hG143]; exact PS_8 hP
  have hz : rs G143 a n y128.1 := by rw [← hG143]; exact rs_8 hz
  obtain ⟨T143, f143⟩ : ∃ T, T = up T131 (2) (T131 2 + 1) := ⟨_, rfl⟩
  have hC : SC M G143 T143 := by rw [← hG143, f143]; exact hC.w (by omega) (by omega)
  have hF : s5 p8 qP M G143 := by rw [← hG143]; exact hF.wr _ _ rfl (by decide)
  refine bw_retv rfl rfl ?_
  rw [hU] at f143
  subst e128 e113 e106 e91 e77 e70 e55 e41 e34 e19
  rw [f143] at hC
  exact ⟨rfl, rfl, hF, ⟨hP, hz⟩, hC⟩
noncomputable def sl0 (S a : Int → Int) (n : Int) (z : Rp) : Rp × Int := owS S a n z
noncomputable def sl1 (S a : Int → Int) (n : Int) (z : Rp) : Rp × (Int → Int) := spS (up S (334 + 5 * S 3) (sl0 S a n z).2) a n (334 + 5 * S 3 + 1) (sl0 S a n z).1
noncomputable def sl2 (S a : Int → Int) (n : Int) (z : Rp) : Rp × Int := wyS a n 12 13 (sl1 S a n z).1
noncomputable def sl3 (S a : Int → Int) (n : Int) (z : Rp) : Rp × Int := nuS a n 0 9 (sl2 S a n z).1
noncomputable def sl4 (S a : Int → Int) (n : Int) (z : Rp) : Rp × Int := wyS a n 14 15 (sl3 S a n z).1
noncomputable def sl5 (S a : Int → Int) (n : Int) (z : Rp) : Rp × Int := nuS a n 0 9 (sl4 S a n z).1
noncomputable def slU (S a : Int → Int) (n : Int) (z : Rp) : Int → Int := up (up (sl1 S a n z).2 (334 + 5 * S 3 + 3) (if (sl2 S a n z).2 = 13 then -(sl3 S a n z).2 else (sl3 S a n z).2)) (334 + 5 * S 3 + 4) (if (sl4 S a n z).2 = 15 then -(sl5 S a n z).2 else (sl5 S a n z).2)
noncomputable def slS (S a : Int → Int) (n : Int) (z : Rp) : Rp × (Int → Int) := ((sl5 S a n z).1, up (slU S a n z) 3 (slU S a n z 3 + 1))
theorem slU_3 {S a : Int → Int} {n : Int} {z : Rp} (h0 : 0 ≤ S 3) : slU S a n z 3 = S 3 := by
  unfold slU
  rw [up_ne (by omega), up_ne (by omega)]
  unfold sl1
  rw [spS_o (by omega) (by omega), up_ne (by omega)]
set_option maxRecDepth 20000 in
set_option maxHeartbeats 4000000 in
theorem m_readsSlide {d L : Nat} {M : abMem} {r : abRf} (hR : RF r M) {a : Int → Int} {n : Int} (hP : PS M a n) {z : Rp} (hz : rs M a n z) {S : Int → Int} (hS : SIm (gI M 568) 1006 S) (hl6 : 0 ≤ S 1 ∧ S 1 ≤ 6) (h0 : 1 ≤ S 0 ∧ S 0 ≤ 96) (hk : 0 ≤ S 3 ∧ S 3 ≤ 11) (hd : 7 ≤ d) : abW d (0, 0) 182 0 (abEnt (abL 182) [vr (some 567)]) [] (0, 0) (A0 L) M (qV (A0 L) (fun N => s5 p8 qP M N ∧ RS N a n ((slS S a n z).1) ∧ SC M N ((slS S a n z).2))) := by
  have p1 := hP.sz
  have p2 := hP.ok.1
  have p3 := hP.he
  have hF : s5 p8 qP M M := s5_refl _ _ _
  have hC : SC M M S := ⟨hS, fun _ _ => rfl⟩
  show abW d (0, 0) 182 0 [some (vr (some 567)), none, none, none, none] [] (0, 0) (A0 L) M (qV (A0 L) (fun N => s5 p8 qP M N ∧ RS N a n ((slS S a n z).1) ∧ SC M N ((slS S a n z).2)))
  refine bw_push rfl ?_
  refine bw_push rfl ?_
  refine bw_aload rfl rfl ?_
  refine bw_push rfl ?_
  refine bw_callVe (e := d - 1) (as := [_]) rfl (by omega) rfl rfl (Nat.le_of_ble_eq_true rfl) (Nat.le_of_ble_eq_true rfl) rfl (m_readOf hR hC.1 (by omega)) ?_
  refine bw_imul rfl ⟨by omega, by omega⟩ ?_
  refine bw_iadd rfl ⟨by omega, by omega⟩ ?_
  refine bw_istore (ls2 := [_, _, _, _, _]) rfl rfl (Nat.le_of_ble_eq_true rfl) rfl ?_
  refine bw_aload rfl rfl ?_
  refine bw_getr rfl rfl (hR _ _) ?_
  refine bw_iload rfl rfl ?_
  refine bw_aload rfl rfl ?_
  refine bw_callVi (e := d - 1) (as := []) rfl (by omega) rfl rfl (Nat.le_of_ble_eq_true rfl) (Nat.le_of_ble_eq_true rfl) rfl (m_toldLayer hR hP hz hC.1 (by omega) (by omega)) (fun r18 M18 hM18 => ?_)
  obtain ⟨u18, v18, w18⟩ := hM18
  obtain ⟨y18, e18⟩ : ∃ y, y = owS S a n z := ⟨_, rfl⟩
  rw [← e18] at v18 w18
  have b18 : 0 ≤ y18.2 ∧ y18.2 ≤ 5 := by rw [e18]; exact owS_in (by omega)
  subst w18
  have hR := u18.RF hR
  have hP := v18.1
  have hz := v18.2
  have hC := hC.f5 u18
  have hF := hF.trans (u18.mono (fun _ k => k.elim) (fun _ k => k))
  have p3 := hP.he
  refine bw_asti rfl (by first | rfl | assumption) (by omega) (by omega) ?_
  generalize hG21 : sI M18 568 (1340 + 5 * S 3) (y18.2) = G21
  have hR : RF r G21 := by rw [← hG21]; exact hR
  have hP : PS G21 a n := by rw [← hG21]; exact PS_8 hP
  have hz : rs G21 a n y18.1 := by rw [← hG21]; exact rs_8 hz
  obtain ⟨T21, f21⟩ : ∃ T, T = up S (334 + 5 * S 3) (y18.2) := ⟨_, rfl⟩
  have hC : SC M G21 T21 := by rw [← hG21, f21]; exact hC.w (by omega) (by omega)
  have hF : s5 p8 qP M G21 := by rw [← hG21]; exact hF.wr _ _ rfl (by decide)
  have k21 : T21 0 = S 0 ∧ T21 3 = S 3 := by rw [f21]; exact ⟨up_ne (by omega), up_ne (by omega)⟩
  refine bw_aload rfl rfl ?_
  refine bw_iload rfl rfl ?_
  refine bw_push rfl ?_
  refine bw_iadd rfl ⟨by omega, by omega⟩ ?_
  refine bw_callVv (e := d - 1) (as := [_]) rfl (by omega) rfl rfl (Nat.le_of_ble_eq_true rfl) (Nat.le_of_ble_eq_true rfl) rfl (m_readsSpan hR hP hz hC.1 (q := 334 + 5 * S 3 + 1) (by omega) (by omega) (by omega) (by omega)) (fun M26 hM26 => ?_)
  obtain ⟨u26, v26, g26⟩ := hM26
  obtain ⟨y26, e26⟩ : ∃ y, y = spS T21 a n (334 + 5 * S 3 + 1) y18.1 := ⟨_, rfl⟩
  rw [← e26] at v26 g26
  have b26 : ∀ j : Int, j ≠ 334 + 5 * S 3 + 1 → j ≠ 334 + 5 * S 3 + 1 + 1 → y26.2 j = T21 j := fun j j1 j2 => by rw [e26]; exact spS_o j1 j2
  have hR : RF r M26 := u26.RF hR
  have hP := v26.1
  have hz := v26.2
  have hC : SC M M26 y26.2 := hC.tr g26
  have hF := hF.trans u26
  have p3 := hP.he
  have k26 : y26.2 3 = S 3 := (b26 3 (by omega) (by omega)).trans k21.2
  refine bw_aload rfl rfl ?_
  refine bw_push rfl ?_
  refine bw_push rfl ?_
  refine bw_callVi (e := d - 1) (as := [_, _]) rfl (by omega) rfl rfl (Nat.le_of_ble_eq_true rfl) (Nat.le_of_ble_eq_true rfl) rfl (m_readsWay hR hP hz (by omega)) (fun r34 M34 hM34 => ?_)
  obtain ⟨u34, v34, w34⟩ := hM34
  obtain ⟨y34, e34⟩ : ∃ y, y = wyS a n 12 13 y26.1 := ⟨_, rfl⟩
  rw [← e34] at v34 w34
  subst w34
  have hR := u34.RF hR
  have hP := v34.1
  have hz := v34.2
  have hC := hC.f5 u34
  have hF := hF.trans (u34.mono (fun _ k => k.elim) (fun _ k => k))
  have p3 := hP.he
  refine bw_istore (ls2 := [_, _, _, _, _]) rfl rfl (Nat.le_of_ble_eq_true rfl) rfl ?_
  refine bw_aload rfl rfl ?_
  refine bw_push rfl ?_
  refine bw_push rfl ?_
  refine bw_callVi (e := d - 1) (as := [_, _]) rfl (by omega) rfl rfl (Nat.le_of_ble_eq_true rfl) (Nat.le_of_ble_eq_true rfl) rfl (m_number hR hP hz (by omega)) (fun r42 M42 hM42 => ?_)
  obtain ⟨u42, v42, w42⟩ := hM42
  obtain ⟨y42, e42⟩ : ∃ y, y = nuS a n 0 9 y34.1 := ⟨_, rfl⟩
  rw [← e42] at v42 w42
  have b42 : 0 ≤ y42.2 ∧ y42.2 ≤ 9 := by rw [e42]; exact nuS_in (by decide)
  subst w42
  have hR := u42.RF hR
  have hP := v42.1
  have hz := v42.2
  have hC := hC.f5 u42
  have hF := hF.trans (u42.mono (fun _ k => k.elim) (fun _ k => k))
  have p3 := hP.he
  refine bw_istore (ls2 := [_, _, _, _, _]) rfl rfl (Nat.le_of_ble_eq_true rfl) rfl ?_
  refine bw_aload rfl rfl ?_
  refine bw_getr rfl rfl (hR _ _) ?_
  refine bw_iload rfl rfl ?_
  refine bw_push rfl ?_
  refine bw_iadd rfl ⟨by omega, by omega⟩ ?_
  refine bw_iload rfl rfl ?_
  refine bw_push rfl ?_
  refine bw_icne rfl (fun c56 => ?_) (fun c56 => ?_)
  · skip
    refine bw_iload rfl rfl ?_
    refine bw_cast (st2 := [vi (if y34.2 = 13 then -y42.2 else y42.2), vi (1340 + 5 * S 3 + 3), vr (some 568)]) ?_ rfl (by first | (rw [if_pos (by omega)]) | (rw [if_neg (by omega)])) rfl
    refine bw_asti rfl (by first | rfl | assumption) (by omega) (by omega) ?_
    generalize hG65 : sI M42 568 (1340 + 5 * S 3 + 3) (if y34.2 = 13 then -y42.2 else y42.2) = G65
    have hR : RF r G65 := by rw [← hG65]; exact hR
    have hP : PS G65 a n := by rw [← hG65]; exact PS_8 hP
    have hz : rs G65 a n y42.1 := by rw [← hG65]; exact rs_8 hz
    obtain ⟨T65, f65⟩ : ∃ T, T = up y26.2 (334 + 5 * S 3 + 3) (if y34.2 = 13 then -y42.2 else y42.2) := ⟨_, rfl⟩
    have hC : SC M G65 T65 := by rw [← hG65, f65]; exact hC.w (by omega) (by omega)
    have hF : s5 p8 qP M G65 := by rw [← hG65]; exact hF.wr _ _ rfl (by decide)
    refine bw_aload rfl rfl ?_
    refine bw_push rfl ?_
    refine bw_push rfl ?_
    refine bw_callVi (e := d - 1) (as := [_, _]) rfl (by omega) rfl rfl (Nat.le_of_ble_eq_true rfl) (Nat.le_of_ble_eq_true rfl) rfl (m_readsWay hR hP hz (by omega)) (fun r71 M71 hM71 => ?_)
    obtain ⟨u71, v71, w71⟩ := hM71
    obtain ⟨y71, e71⟩ : ∃ y, y = wyS a n 14 15 y42.1 := ⟨_, rfl⟩
    rw [← e71] at v71 w71
    subst w71
    have hR := u71.RF hR
    have hP := v71.1
    have hz := v71.2
    have hC := hC.f5 u71
    have hF := hF.trans (u71.mono (fun _ k => k.elim) (fun _ k => k))
    have p3 := hP.he
    refine bw_istore (ls2 := [_, _, _, _, _]) rfl rfl (Nat.le_of_ble_eq_true rfl) rfl ?_
    refine bw_aload rfl rfl ?_
    refine bw_push rfl ?_
    refine bw_push rfl ?_
    refine bw_callVi (e := d - 1) (as := [_, _]) rfl (by omega) rfl rfl (Nat.le_of_ble_eq_true rfl) (Nat.le_of_ble_eq_true rfl) rfl (m_number hR hP hz (by omega)) (fun r79 M79 hM79 => ?_)
    obtain ⟨u79, v79, w79⟩ := hM79
    obtain ⟨y79, e79⟩ : ∃ y, y = nuS a n 0 9 y71.1 := ⟨_, rfl⟩
    rw [← e79] at v79 w79
    have b79 : 0 ≤ y79.2 ∧ y79.2 ≤ 9 := by rw [e79]; exact nuS_in (by decide)
    subst w79
    have hR := u79.RF hR
    have hP := v79.1
    have hz := v79.2
    have hC := hC.f5 u79
    have hF := hF.trans (u79.mono (fun _ k => k.elim) (fun _ k => k))
    have p3 := hP.he
    refine bw_istore (ls2 := [_, _, _, _, _]) rfl rfl (Nat.le_of_ble_eq_true rfl) rfl ?_
    refine bw_aload rfl rfl ?_
    refine bw_getr rfl rfl (hR _ _) ?_
    refine bw_iload rfl rfl ?_
    refine bw_push rfl ?_
    refine bw_iadd rfl ⟨by omega, by omega⟩ ?_
    refine bw_iload rfl rfl ?_
    refine bw_push rfl ?_
    refine bw_icne rfl (fun c94 => ?_) (fun c94 => ?_)
    · skip
      refine bw_iload rfl rfl ?_
      refine bw_cast (st2 := [vi (if y71.2 = 15 then -y79.2 else y79.2), vi (1340 + 5 * S 3 + 4), vr (some 568)]) ?_ rfl (by first | (rw [if_pos (by omega)]) | (rw [if_neg (by omega)])) rfl
      refine bw_asti rfl (by first | rfl | assumption) (by omega) (by omega) ?_
      generalize hG105 : sI M79 568 (1340 + 5 * S 3 + 4) (if y71.2 = 15 then -y79.2 else y79.2) = G105
      have hR : RF r G105 := by rw [← hG105]; exact hR
      have hP : PS G105 a n := by rw [← hG105]; exact PS_8 hP
      have hz : rs G105 a n y79.1 := by rw [← hG105]; exact rs_8 hz
      obtain ⟨T105, f105⟩ : ∃ T, T = up T65 (334 + 5 * S 3 + 4) (if y71.2 = 15 then -y79.2 else y79.2) := ⟨_, rfl⟩
      have hC : SC M G105 T105 := by rw [← hG105, f105]; exact hC.w (by omega) (by omega)
      have hF : s5 p8 qP M G105 := by rw [← hG105]; exact hF.wr _ _ rfl (by decide)
      refine bw_aload rfl rfl ?_
      refine bw_getr rfl rfl (hR _ _) ?_
      refine bw_push rfl ?_
      refine bw_dup2 rfl ?_
      have k114 : 0 ≤ T105 3 ∧ T105 3 ≤ 100 := by rw [f105, up_ne (by omega), f65, up_ne (by omega), k26]; omega
      refine bw_aldi rfl (by first | rfl | assumption) (by omega) (by omega) ?_
      rw [show gI G105 568 1009 = T105 3 from hC.1 3 (by decide) (by decide)]
      refine bw_push rfl ?_
      refine bw_iadd rfl ⟨by omega, by omega⟩ ?_
      refine bw_asti rfl (by first | rfl | assumption) (by omega) (by omega) ?_
      generalize hG117 : sI G105 568 (1009) (T105 3 + 1) = G117
      have hR : RF r G117 := by rw [← hG117]; exact hR
      have hP : PS G117 a n := by rw [← hG117]; exact PS_8 hP
      have hz : rs G117 a n y79.1 := by rw [← hG117]; exact rs_8 hz
      obtain ⟨T117, f117⟩ : ∃ T, T = up T105 (3) (T105 3 + 1) := ⟨_, rfl⟩
      have hC : SC M G117 T117 := by rw [← hG117, f117]; exact hC.w (by omega) (by omega)
      have hF : s5 p8 qP M G117 := by rw [← hG117]; exact hF.wr _ _ rfl (by decide)
      refine bw_retv rfl rfl ?_
      subst f117 f105 e79 e71 f65 e42 e34 e26 f21 e18
      exact ⟨rfl, rfl, hF, ⟨hP, hz⟩, hC⟩
    · skip
      refine bw_iload rfl rfl ?_
      refine bw_ineg rfl ⟨by omega, by omega⟩ ?_
      refine bw_goto rfl ?_
      refine bw_cast (st2 := [vi (if y71.2 = 15 then -y79.2 else y79.2), vi (1340 + 5 * S 3 + 4), vr (some 568)]) ?_ rfl (by first | (rw [if_pos (by omega)]) | (rw [if_neg (by omega)])) rfl
      refine bw_asti rfl (by first | rfl | assumption) (by omega) (by omega) ?_
      generalize hG105 : sI M79 568 (1340 + 5 * S 3 + 4) (if y71.2 = 15 then -y79.2 else y79.2) = G105
      have hR : RF r G105 := by rw [← hG105]; exact hR
      have hP : PS G105 a n := by rw [← hG105]; exact PS_8 hP
      have hz : rs G105 a n y79.1 := by rw [← hG105]; exact rs_8 hz
      obtain ⟨T105, f105⟩ : ∃ T, T = up T65 (334 + 5 * S 3 + 4) (if y71.2 = 15 then -y79.2 else y79.2) := ⟨_, rfl⟩
      have hC : SC M G105 T105 := by rw [← hG105, f105]; exact hC.w (by omega) (by omega)
      have hF : s5 p8 qP M G105 := by rw [← hG105]; exact hF.wr _ _ rfl (by decide)
      refine bw_aload rfl rfl ?_
      refine bw_getr rfl rfl (hR _ _) ?_
      refine bw_push rfl ?_
      refine bw_dup2 rfl ?_
      have k114 : 0 ≤ T105 3 ∧ T105 3 ≤ 100 := by rw [f105, up_ne (by omega), f65, up_ne (by omega), k26]; omega
      refine bw_aldi rfl (by first | rfl | assumption) (by omega) (by omega) ?_
      rw [show gI G105 568 1009 = T105 3 from hC.1 3 (by decide) (by decide)]
      refine bw_push rfl ?_
      refine bw_iadd rfl ⟨by omega, by omega⟩ ?_
      refine bw_asti rfl (by first | rfl | assumption) (by omega) (by omega) ?_
      generalize hG117 : sI G105 568 (1009) (T105 3 + 1) = G117
      have hR : RF r G117 := by rw [← hG117]; exact hR
      have hP : PS G117 a n := by rw [← hG117]; exact PS_8 hP
      have hz : rs G117 a n y79.1 := by rw [← hG117]; exact rs_8 hz
      obtain ⟨T117, f117⟩ : ∃ T, T = up T105 (3) (T105 3 + 1) := ⟨_, rfl⟩
      have hC : SC M G117 T117 := by rw [← hG117, f117]; exact hC.w (by omega) (by omega)
      have hF : s5 p8 qP M G117 := by rw [← hG117]; exact hF.wr _ _ rfl (by decide)
      refine bw_retv rfl rfl ?_
      subst f117 f105 e79 e71 f65 e42 e34 e26 f21 e18
      exact ⟨rfl, rfl, hF, ⟨hP, hz⟩, hC⟩
  · skip
    refine bw_iload rfl rfl ?_
    refine bw_ineg rfl ⟨by omega, by omega⟩ ?_
    refine bw_goto rfl ?_
    refine bw_cast (st2 := [vi (if y34.2 = 13 then -y42.2 else y42.2), vi (1340 + 5 * S 3 + 3), vr (some 568)]) ?_ rfl (by first | (rw [if_pos (by omega)]) | (rw [if_neg (by omega)])) rfl
    refine bw_asti rfl (by first | rfl | assumption) (by omega) (by omega) ?_
    generalize hG65 : sI M42 568 (1340 + 5 * S 3 + 3) (if y34.2 = 13 then -y42.2 else y42.2) = G65
    have hR : RF r G65 := by rw [← hG65]; exact hR
    have hP : PS G65 a n := by rw [← hG65]; exact PS_8 hP
    have hz : rs G65 a n y42.1 := by rw [← hG65]; exact rs_8 hz
    obtain ⟨T65, f65⟩ : ∃ T, T = up y26.2 (334 + 5 * S 3 + 3) (if y34.2 = 13 then -y42.2 else y42.2) := ⟨_, rfl⟩
    have hC : SC M G65 T65 := by rw [← hG65, f65]; exact hC.w (by omega) (by omega)
    have hF : s5 p8 qP M G65 := by rw [← hG65]; exact hF.wr _ _ rfl (by decide)
    refine bw_aload rfl rfl ?_
    refine bw_push rfl ?_
    refine bw_push rfl ?_
    refine bw_callVi (e := d - 1) (as := [_, _]) rfl (by omega) rfl rfl (Nat.le_of_ble_eq_true rfl) (Nat.le_of_ble_eq_true rfl) rfl (m_readsWay hR hP hz (by omega)) (fun r71 M71 hM71 => ?_)
    obtain ⟨u71, v71, w71⟩ := hM71
    obtain ⟨y71, e71⟩ : ∃ y, y = wyS a n 14 15 y42.1 := ⟨_, rfl⟩
    rw [← e71] at v71 w71
    subst w71
    have hR := u71.RF hR
    have hP := v71.1
    have hz := v71.2
    have hC := hC.f5 u71
    have hF := hF.trans (u71.mono (fun _ k => k.elim) (fun _ k => k))
    have p3 := hP.he
    refine bw_istore (ls2 := [_, _, _, _, _]) rfl rfl (Nat.le_of_ble_eq_true rfl) rfl ?_
    refine bw_aload rfl rfl ?_
    refine bw_push rfl ?_
    refine bw_push rfl ?_
    refine bw_callVi (e := d - 1) (as := [_, _]) rfl (by omega) rfl rfl (Nat.le_of_ble_eq_true rfl) (Nat.le_of_ble_eq_true rfl) rfl (m_number hR hP hz (by omega)) (fun r79 M79 hM79 => ?_)
    obtain ⟨u79, v79, w79⟩ := hM79
    obtain ⟨y79, e79⟩ : ∃ y, y = nuS a n 0 9 y71.1 := ⟨_, rfl⟩
    rw [← e79] at v79 w79
    have b79 : 0 ≤ y79.2 ∧ y79.2 ≤ 9 := by rw [e79]; exact nuS_in (by decide)
    subst w79
    have hR := u79.RF hR
    have hP := v79.1
    have hz := v79.2
    have hC := hC.f5 u79
    have hF := hF.trans (u79.mono (fun _ k => k.elim) (fun _ k => k))
    have p3 := hP.he
    refine bw_istore (ls2 := [_, _, _, _, _]) rfl rfl (Nat.le_of_ble_eq_true rfl) rfl ?_
    refine bw_aload rfl rfl ?_
    refine bw_getr rfl rfl (hR _ _) ?_
    refine bw_iload rfl rfl ?_
    refine bw_push rfl ?_
    refine bw_iadd rfl ⟨by omega, by omega⟩ ?_
    refine bw_iload rfl rfl ?_
    refine bw_push rfl ?_
    refine bw_icne rfl (fun c94 => ?_) (fun c94 => ?_)
    · skip
      refine bw_iload rfl rfl ?_
      refine bw_cast (st2 := [vi (if y71.2 = 15 then -y79.2 else y79.2), vi (1340 + 5 * S 3 + 4), vr (some 568)]) ?_ rfl (by first | (rw [if_pos (by omega)]) | (rw [if_neg (by omega)])) rfl
      refine bw_asti rfl (by first | rfl | assumption) (by omega) (by omega) ?_
      generalize hG105 : sI M79 568 (1340 + 5 * S 3 + 4) (if y71.2 = 15 then -y79.2 else y79.2) = G105
      have hR : RF r G105 := by rw [← hG105]; exact hR
      have hP : PS G105 a n := by rw [← hG105]; exact PS_8 hP
      have hz : rs G105 a n y79.1 := by rw [← hG105]; exact rs_8 hz
      obtain ⟨T105, f105⟩ : ∃ T, T = up T65 (334 + 5 * S 3 + 4) (if y71.2 = 15 then -y79.2 else y79.2) := ⟨_, rfl⟩
      have hC : SC M G105 T105 := by rw [← hG105, f105]; exact hC.w (by omega) (by omega)
      have hF : s5 p8 qP M G105 := by rw [← hG105]; exact hF.wr _ _ rfl (by decide)
      refine bw_aload rfl rfl ?_
      refine bw_getr rfl rfl (hR _ _) ?_
      refine bw_push rfl ?_
      refine bw_dup2 rfl ?_
      have k114 : 0 ≤ T105 3 ∧ T105 3 ≤ 100 := by rw [f105, up_ne (by omega), f65, up_ne (by omega), k26]; omega
      refine bw_aldi rfl (by first | rfl | assumption) (by omega) (by omega) ?_
      rw [show gI G105 568 1009 = T105 3 from hC.1 3 (by decide) (by decide)]
      refine bw_push rfl ?_
      refine bw_iadd rfl ⟨by omega, by omega⟩ ?_
      refine bw_asti rfl (by first | rfl | assumption) (by omega) (by omega) ?_
      generalize hG117 : sI G105 568 (1009) (T105 3 + 1) = G117
      have hR : RF r G117 := by rw [← hG117]; exact hR
      have hP : PS G117 a n := by rw [← hG117]; exact PS_8 hP
      have hz : rs G117 a n y79.1 := by rw [← hG117]; exact rs_8 hz
      obtain ⟨T117, f117⟩ : ∃ T, T = up T105 (3) (T105 3 + 1) := ⟨_, rfl⟩
      have hC : SC M G117 T117 := by rw [← hG117, f117]; exact hC.w (by omega) (by omega)
      have hF : s5 p8 qP M G117 := by rw [← hG117]; exact hF.wr _ _ rfl (by decide)
      refine bw_retv rfl rfl ?_
      subst f117 f105 e79 e71 f65 e42 e34 e26 f21 e18
      exact ⟨rfl, rfl, hF, ⟨hP, hz⟩, hC⟩
    · skip
      refine bw_iload rfl rfl ?_
      refine bw_ineg rfl ⟨by omega, by omega⟩ ?_
      refine bw_goto rfl ?_
      refine bw_cast (st2 := [vi (if y71.2 = 15 then -y79.2 else y79.2), vi (1340 + 5 * S 3 + 4), vr (some 568)]) ?_ rfl (by first | (rw [if_pos (by omega)]) | (rw [if_neg (by omega)])) rfl
      refine bw_asti rfl (by first | rfl | assumption) (by omega) (by omega) ?_
      generalize hG105 : sI M79 568 (1340 + 5 * S 3 + 4) (if y71.2 = 15 then -y79.2 else y79.2) = G105
      have hR : RF r G105 := by rw [← hG105]; exact hR
      have hP : PS G105 a n := by rw [← hG105]; exact PS_8 hP
      have hz : rs G105 a n y79.1 := by rw [← hG105]; exact rs_8 hz
      obtain ⟨T105, f105⟩ : ∃ T, T = up T65 (334 + 5 * S 3 + 4) (if y71.2 = 15 then -y79.2 else y79.2) := ⟨_, rfl⟩
      have hC : SC M G105 T105 := by rw [← hG105, f105]; exact hC.w (by omega) (by omega)
      have hF : s5 p8 qP M G105 := by rw [← hG105]; exact hF.wr _ _ rfl (by decide)
      refine bw_aload rfl rfl ?_
      refine bw_getr rfl rfl (hR _ _) ?_
      refine bw_push rfl ?_
      refine bw_dup2 rfl ?_
      have k114 : 0 ≤ T105 3 ∧ T105 3 ≤ 100 := by rw [f105, up_ne (by omega), f65, up_ne (by omega), k26]; omega
      refine bw_aldi rfl (by first | rfl | assumption) (by omega) (by omega) ?_
      rw [show gI G105 568 1009 = T105 3 from hC.1 3 (by decide) (by decide)]
      refine bw_push rfl ?_
      refine bw_iadd rfl ⟨by omega, by omega⟩ ?_
      refine bw_asti rfl (by first | rfl | assumption) (by omega) (by omega) ?_
      generalize hG117 : sI G105 568 (1009) (T105 3 + 1) = G117
      have hR : RF r G117 := by rw [← hG117]; exact hR
      have hP : PS G117 a n := by rw [← hG117]; exact PS_8 hP
      have hz : rs G117 a n y79.1 := by rw [← hG117]; exact rs_8 hz
      obtain ⟨T117, f117⟩ : ∃ T, T = up T105 (3) (T105 3 + 1) := ⟨_, rfl⟩
      have hC : SC M G117 T117 := by rw [← hG117, f117]; exact hC.w (by omega) (by omega)
      have hF : s5 p8 qP M G117 := by rw [← hG117]; exact hF.wr _ _ rfl (by decide)
      refine bw_retv rfl rfl ?_
      subst f117 f105 e79 e71 f65 e42 e34 e26 f21 e18
      exact ⟨rfl, rfl, hF, ⟨hP, hz⟩, hC⟩
noncomputable def hdS (S a : Int → Int) (n : Int) (z : Rp) : Rp × (Int → Int) := ((spS (up S (394 + 3 * S 4) (owS S a n z).2) a n (394 + 3 * S 4 + 1) (owS S a n z).1).1, up (spS (up S (394 + 3 * S 4) (owS S a n z).2) a n (394 + 3 * S 4 + 1) (owS S a n z).1).2 4 ((spS (up S (394 + 3 * S 4) (owS S a n z).2) a n (394 + 3 * S 4 + 1) (owS S a n z).1).2 4 + 1))
set_option maxRecDepth 20000 in
set_option maxHeartbeats 4000000 in
theorem m_readsHide {d L : Nat} {M : abMem} {r : abRf} (hR : RF r M) {a : Int → Int} {n : Int} (hP : PS M a n) {z : Rp} (hz : rs M a n z) {S : Int → Int} (hS : SIm (gI M 568) 1006 S) (hl6 : 0 ≤ S 1 ∧ S 1 ≤ 6) (h0 : 1 ≤ S 0 ∧ S 0 ≤ 96) (hk : 0 ≤ S 4 ∧ S 4 ≤ 11) (hd : 7 ≤ d) : abW d (0, 0) 183 0 (abEnt (abL 183) [vr (some 567)]) [] (0, 0) (A0 L) M (qV (A0 L) (fun N => s5 p8 qP M N ∧ RS N a n ((hdS S a n z).1) ∧ SC M N ((hdS S a n z).2))) := by
  have p1 := hP.sz
  have p2 := hP.ok.1
  have p3 := hP.he
  have hF : s5 p8 qP M M := s5_refl _ _ _
  have hC : SC M M S := ⟨hS, fun _ _ => rfl⟩
  show abW d (0, 0) 183 0 [some (vr (some 567)), none] [] (0, 0) (A0 L) M (qV (A0 L) (fun N => s5 p8 qP M N ∧ RS N a n ((hdS S a n z).1) ∧ SC M N ((hdS S a n z).2)))
  refine bw_push rfl ?_
  refine bw_push rfl ?_
  refine bw_aload rfl rfl ?_
  refine bw_push rfl ?_
  refine bw_callVe (e := d - 1) (as := [_]) rfl (by omega) rfl rfl (Nat.le_of_ble_eq_true rfl) (Nat.le_of_ble_eq_true rfl) rfl (m_readOf hR hC.1 (by omega)) ?_
  refine bw_imul rfl ⟨by omega, by omega⟩ ?_
  refine bw_iadd rfl ⟨by omega, by omega⟩ ?_
  refine bw_istore (ls2 := [_, _]) rfl rfl (Nat.le_of_ble_eq_true rfl) rfl ?_
  refine bw_aload rfl rfl ?_
  refine bw_getr rfl rfl (hR _ _) ?_
  refine bw_iload rfl rfl ?_
  refine bw_aload rfl rfl ?_
  refine bw_callVi (e := d - 1) (as := []) rfl (by omega) rfl rfl (Nat.le_of_ble_eq_true rfl) (Nat.le_of_ble_eq_true rfl) rfl (m_toldLayer hR hP hz hC.1 (by omega) (by omega)) (fun r18 M18 hM18 => ?_)
  obtain ⟨u18, v18, w18⟩ := hM18
  obtain ⟨y18, e18⟩ : ∃ y, y = owS S a n z := ⟨_, rfl⟩
  rw [← e18] at v18 w18
  have b18 : 0 ≤ y18.2 ∧ y18.2 ≤ 5 := by rw [e18]; exact owS_in (by omega)
  subst w18
  have hR := u18.RF hR
  have hP := v18.1
  have hz := v18.2
  have hC := hC.f5 u18
  have hF := hF.trans (u18.mono (fun _ k => k.elim) (fun _ k => k))
  have p3 := hP.he
  refine bw_asti rfl (by first | rfl | assumption) (by omega) (by omega) ?_
  generalize hG21 : sI M18 568 (1400 + 3 * S 4) (y18.2) = G21
  have hR : RF r G21 := by rw [← hG21]; exact hR
  have hP : PS G21 a n := by rw [← hG21]; exact PS_8 hP
  have hz : rs G21 a n y18.1 := by rw [← hG21]; exact rs_8 hz
  obtain ⟨T21, f21⟩ : ∃ T, T = up S (394 + 3 * S 4) (y18.2) := ⟨_, rfl⟩
  have hC : SC M G21 T21 := by rw [← hG21, f21]; exact hC.w (by omega) (by omega)
  have hF : s5 p8 qP M G21 := by rw [← hG21]; exact hF.wr _ _ rfl (by decide)
  have k21 : T21 0 = S 0 ∧ T21 4 = S 4 := by rw [f21]; exact ⟨up_ne (by omega), up_ne (by omega)⟩
  refine bw_aload rfl rfl ?_
  refine bw_iload rfl rfl ?_
  refine bw_push rfl ?_
  refine bw_iadd rfl ⟨by omega, by omega⟩ ?_
  refine bw_callVv (e := d - 1) (as := [_]) rfl (by omega) rfl rfl (Nat.le_of_ble_eq_true rfl) (Nat.le_of_ble_eq_true rfl) rfl (m_readsSpan hR hP hz hC.1 (q := 394 + 3 * S 4 + 1) (by omega) (by omega) (by omega) (by omega)) (fun M26 hM26 => ?_)
  obtain ⟨u26, v26, g26⟩ := hM26
  obtain ⟨y26, e26⟩ : ∃ y, y = spS T21 a n (394 + 3 * S 4 + 1) y18.1 := ⟨_, rfl⟩
  rw [← e26] at v26 g26
  have b26 : ∀ j : Int, j ≠ 394 + 3 * S 4 + 1 → j ≠ 394 + 3 * S 4 + 1 + 1 → y26.2 j = T21 j := fun j j1 j2 => by rw [e26]; exact spS_o j1 j2
  have hR : RF r M26 := u26.RF hR
  have hP := v26.1
  have hz := v26.2
  have hC : SC M M26 y26.2 := hC.tr g26
  have hF := hF.trans u26
  have p3 := hP.he
  have k26 : y26.2 4 = S 4 := (b26 4 (by omega) (by omega)).trans k21.2
  refine bw_aload rfl rfl ?_
  refine bw_getr rfl rfl (hR _ _) ?_
  refine bw_push rfl ?_
  refine bw_dup2 rfl ?_
  have k37 : 0 ≤ y26.2 4 ∧ y26.2 4 ≤ 100 := by rw [k26]; omega
  refine bw_aldi rfl (by first | rfl | assumption) (by omega) (by omega) ?_
  rw [show gI M26 568 1010 = y26.2 4 from hC.1 4 (by decide) (by decide)]
  refine bw_push rfl ?_
  refine bw_iadd rfl ⟨by omega, by omega⟩ ?_
  refine bw_asti rfl (by first | rfl | assumption) (by omega) (by omega) ?_
  generalize hG40 : sI M26 568 (1010) (y26.2 4 + 1) = G40
  have hR : RF r G40 := by rw [← hG40]; exact hR
  have hP : PS G40 a n := by rw [← hG40]; exact PS_8 hP
  have hz : rs G40 a n y26.1 := by rw [← hG40]; exact rs_8 hz
  obtain ⟨T40, f40⟩ : ∃ T, T = up y26.2 (4) (y26.2 4 + 1) := ⟨_, rfl⟩
  have hC : SC M G40 T40 := by rw [← hG40, f40]; exact hC.w (by omega) (by omega)
  have hF : s5 p8 qP M G40 := by rw [← hG40]; exact hF.wr _ _ rfl (by decide)
  refine bw_retv rfl rfl ?_
  subst f40 e26 f21 e18
  exact ⟨rfl, rfl, hF, ⟨hP, hz⟩, hC⟩
/-- there is no room for one more -/
def flP (S : Int → Int) (w : Int) : Prop := (w = 1 ∧ S 1 = 6) ∨ (w = 5 ∧ S 2 = 40) ∨ (w = 9 ∧ S 3 = 12) ∨ ((w ≠ 1 ∧ w ≠ 5 ∧ w ≠ 9) ∧ S 4 = 12)
set_option maxRecDepth 20000 in
set_option maxHeartbeats 4000000 in
theorem m_isFull {d L : Nat} {M : abMem} {r : abRf} (hR : RF r M) {S : Int → Int} (hS : SIm (gI M 568) 1006 S) {w : Int} (hd : 1 ≤ d) : abW d (0, 0) 184 0 (abEnt (abL 184) [vr (some 567), vi w]) [] (0, 0) (A0 L) M (qJ (A0 L) M (fun x => flP S w ∧ x = 1 ∨ ¬ flP S w ∧ x = 0)) := by
  show abW d (0, 0) 184 0 [some (vr (some 567)), some (vi w)] [] (0, 0) (A0 L) M (qJ (A0 L) M (fun x => flP S w ∧ x = 1 ∨ ¬ flP S w ∧ x = 0))
  refine bw_iload rfl rfl ?_
  by_cases s1_0 : w = 1
  · refine bw_switch (t := 36) rfl (by rw [s1_0]; rfl) ?_
    refine bw_aload rfl rfl ?_
    refine bw_push rfl ?_
    refine bw_callVe (e := d - 1) (as := [_]) rfl (by omega) rfl rfl (Nat.le_of_ble_eq_true rfl) (Nat.le_of_ble_eq_true rfl) rfl (m_readOf hR hS (by omega)) ?_
    refine bw_push rfl ?_
    refine bw_icne rfl (fun c43 => ?_) (fun c43 => ?_)
    · skip
      refine bw_push rfl ?_
      refine bw_retz rfl rfl (by omega) ?_
      first
      | exact ⟨rfl, rfl, _, rfl, Or.inl ⟨by unfold flP; omega, rfl⟩⟩
      | exact ⟨rfl, rfl, _, rfl, Or.inr ⟨by unfold flP; omega, rfl⟩⟩
    · skip
      refine bw_push rfl ?_
      refine bw_goto rfl ?_
      refine bw_retz rfl rfl (by omega) ?_
      first
      | exact ⟨rfl, rfl, _, rfl, Or.inl ⟨by unfold flP; omega, rfl⟩⟩
      | exact ⟨rfl, rfl, _, rfl, Or.inr ⟨by unfold flP; omega, rfl⟩⟩
  · skip
    by_cases s1_1 : w = 5
    · refine bw_switch (t := 52) rfl (by rw [s1_1]; rfl) ?_
      refine bw_aload rfl rfl ?_
      refine bw_push rfl ?_
      refine bw_callVe (e := d - 1) (as := [_]) rfl (by omega) rfl rfl (Nat.le_of_ble_eq_true rfl) (Nat.le_of_ble_eq_true rfl) rfl (m_readOf hR hS (by omega)) ?_
      refine bw_push rfl ?_
      refine bw_icne rfl (fun c59 => ?_) (fun c59 => ?_)
      · skip
        refine bw_push rfl ?_
        refine bw_retz rfl rfl (by omega) ?_
        first
        | exact ⟨rfl, rfl, _, rfl, Or.inl ⟨by unfold flP; omega, rfl⟩⟩
        | exact ⟨rfl, rfl, _, rfl, Or.inr ⟨by unfold flP; omega, rfl⟩⟩
      · skip
        refine bw_push rfl ?_
        refine bw_goto rfl ?_
        refine bw_retz rfl rfl (by omega) ?_
        first
        | exact ⟨rfl, rfl, _, rfl, Or.inl ⟨by unfold flP; omega, rfl⟩⟩
        | exact ⟨rfl, rfl, _, rfl, Or.inr ⟨by unfold flP; omega, rfl⟩⟩
    · skip
      by_cases s1_2 : w = 9
      · refine bw_switch (t := 68) rfl (by rw [s1_2]; rfl) ?_
        refine bw_aload rfl rfl ?_
        refine bw_push rfl ?_
        refine bw_callVe (e := d - 1) (as := [_]) rfl (by omega) rfl rfl (Nat.le_of_ble_eq_true rfl) (Nat.le_of_ble_eq_true rfl) rfl (m_readOf hR hS (by omega)) ?_
        refine bw_push rfl ?_
        refine bw_icne rfl (fun c75 => ?_) (fun c75 => ?_)
        · skip
          refine bw_push rfl ?_
          refine bw_retz rfl rfl (by omega) ?_
          first
          | exact ⟨rfl, rfl, _, rfl, Or.inl ⟨by unfold flP; omega, rfl⟩⟩
          | exact ⟨rfl, rfl, _, rfl, Or.inr ⟨by unfold flP; omega, rfl⟩⟩
        · skip
          refine bw_push rfl ?_
          refine bw_goto rfl ?_
          refine bw_retz rfl rfl (by omega) ?_
          first
          | exact ⟨rfl, rfl, _, rfl, Or.inl ⟨by unfold flP; omega, rfl⟩⟩
          | exact ⟨rfl, rfl, _, rfl, Or.inr ⟨by unfold flP; omega, rfl⟩⟩
      · skip
        refine bw_switch (t := 84) rfl (by simp [abSwT, abSw, Op.lookupswitch.offset, s1_0, show ¬ ((1 : Int) = w) from fun h => s1_0 h.symm, s1_1, show ¬ ((5 : Int) = w) from fun h => s1_1 h.symm, s1_2, show ¬ ((9 : Int) = w) from fun h => s1_2 h.symm]) ?_
        refine bw_aload rfl rfl ?_
        refine bw_push rfl ?_
        refine bw_callVe (e := d - 1) (as := [_]) rfl (by omega) rfl rfl (Nat.le_of_ble_eq_true rfl) (Nat.le_of_ble_eq_true rfl) rfl (m_readOf hR hS (by omega)) ?_
        refine bw_push rfl ?_
        refine bw_icne rfl (fun c91 => ?_) (fun c91 => ?_)
        · skip
          refine bw_push rfl ?_
          refine bw_retz rfl rfl (by omega) ?_
          first
          | exact ⟨rfl, rfl, _, rfl, Or.inl ⟨by unfold flP; omega, rfl⟩⟩
          | exact ⟨rfl, rfl, _, rfl, Or.inr ⟨by unfold flP; omega, rfl⟩⟩
        · skip
          refine bw_push rfl ?_
          refine bw_goto rfl ?_
          refine bw_retz rfl rfl (by omega) ?_
          first
          | exact ⟨rfl, rfl, _, rfl, Or.inl ⟨by unfold flP; omega, rfl⟩⟩
          | exact ⟨rfl, rfl, _, rfl, Or.inr ⟨by unfold flP; omega, rfl⟩⟩
def enS (S a : Int → Int) (n : Int) (z : Rp) : Rp × (Int → Int) := (siS a n 59 z, up S 5 (S 5 + 1))
set_option maxRecDepth 20000 in
set_option maxHeartbeats 4000000 in
theorem m_ends {d L : Nat} {M : abMem} {r : abRf} (hR : RF r M) {a : Int → Int} {n : Int} (hP : PS M a n) {z : Rp} (hz : rs M a n z) {S : Int → Int} (hS : SIm (gI M 568) 1006 S) (h5 : 0 ≤ S 5 ∧ S 5 ≤ 100) (hd : 4 ≤ d) : abW d (0, 0) 186 0 (abEnt (abL 186) [vr (some 567)]) [] (0, 0) (A0 L) M (qV (A0 L) (fun N => s5 p8 qP M N ∧ RS N a n ((enS S a n z).1) ∧ SC M N ((enS S a n z).2))) := by
  have p1 := hP.sz
  have p2 := hP.ok.1
  have p3 := hP.he
  have hF : s5 p8 qP M M := s5_refl _ _ _
  have hC : SC M M S := ⟨hS, fun _ _ => rfl⟩
  show abW d (0, 0) 186 0 [some (vr (some 567))] [] (0, 0) (A0 L) M (qV (A0 L) (fun N => s5 p8 qP M N ∧ RS N a n ((enS S a n z).1) ∧ SC M N ((enS S a n z).2)))
  refine bw_aload rfl rfl ?_
  refine bw_push rfl ?_
  refine bw_callVv (e := d - 1) (as := [_]) rfl (by omega) rfl rfl (Nat.le_of_ble_eq_true rfl) (Nat.le_of_ble_eq_true rfl) rfl (m_mustSign hR hP hz (by decide) (by omega)) (fun M3 hM3 => ?_)
  obtain ⟨u3, v3⟩ := hM3
  obtain ⟨y3, e3⟩ : ∃ y, y = siS a n 59 z := ⟨_, rfl⟩
  rw [← e3] at v3
  have hR := u3.RF hR
  have hP := v3.1
  have hz := v3.2
  have hC := hC.f5 u3
  have hF := hF.trans (u3.mono (fun _ k => k.elim) (fun _ k => k))
  have p3 := hP.he
  refine bw_aload rfl rfl ?_
  refine bw_getr rfl rfl (hR _ _) ?_
  refine bw_push rfl ?_
  refine bw_dup2 rfl ?_
  have k14 : 0 ≤ S 5 ∧ S 5 ≤ 100 := by omega
  refine bw_aldi rfl (by first | rfl | assumption) (by omega) (by omega) ?_
  rw [show gI M3 568 1011 = S 5 from hC.1 5 (by decide) (by decide)]
  refine bw_push rfl ?_
  refine bw_iadd rfl ⟨by omega, by omega⟩ ?_
  refine bw_asti rfl (by first | rfl | assumption) (by omega) (by omega) ?_
  generalize hG17 : sI M3 568 (1011) (S 5 + 1) = G17
  have hR : RF r G17 := by rw [← hG17]; exact hR
  have hP : PS G17 a n := by rw [← hG17]; exact PS_8 hP
  have hz : rs G17 a n y3 := by rw [← hG17]; exact rs_8 hz
  obtain ⟨T17, f17⟩ : ∃ T, T = up S (5) (S 5 + 1) := ⟨_, rfl⟩
  have hC : SC M G17 T17 := by rw [← hG17, f17]; exact hC.w (by omega) (by omega)
  have hF : s5 p8 qP M G17 := by rw [← hG17]; exact hF.wr _ _ rfl (by decide)
  refine bw_retv rfl rfl ?_
  subst f17 e3
  exact ⟨rfl, rfl, hF, ⟨hP, hz⟩, hC⟩
