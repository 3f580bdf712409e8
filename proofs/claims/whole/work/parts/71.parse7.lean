theorem si_f {a : Int → Int} {n c q : Int} {e : Int × Int} (h : siS a n c (.inr q) = .inl e) : a q ≠ c ∧ e = (1, q) := by
  by_cases g : a q = c
  · rw [siS_y g] at h; cases h
  · rw [siS_n g] at h; cases h; exact ⟨g, rfl⟩
theorem si_g {a : Int → Int} {n c q k : Int} (h : siS a n c (.inr q) = .inr k) : a q = c ∧ k = sk a n (q + 1) := by
  by_cases g : a q = c
  · rw [siS_y g] at h; cases h; exact ⟨g, rfl⟩
  · rw [siS_n g] at h; cases h
set_option maxRecDepth 20000 in
set_option maxHeartbeats 4000000 in
theorem c_readOpening {d L : Nat} {M : abMem} {r : abRf} (hR : RF r M) {a : Int → Int} {n : Int} (hT : TP M a n) {fr on : Int} {s : LnS} (hL : CL M fr on s) (hA : TA M a n (lsP s)) (hV : LV a n s) (hon : 1 ≤ on ∧ on ≤ 24) (hw : a (lsP s) = 40 ∨ wo a n (lsP s) = 18) (hd : 6 ≤ d) : abW d (0, 0) 45 0 (abEnt (abL 45) [vr (some 3)]) [] (0, 0) (A0 L) M (qI (A0 L) (fun x N => (∃ e : Int × Int, ptS a n on s = .inl e ∧ x = 0 ∧ FA pW M a n e N) ∨ (∃ (t : LnS) (w : Int), ptS a n on s = .inr (t, w) ∧ w ≠ 2 ∧ x = 1 ∧ GO pW M a n (lsP t) N ∧ CL N fr on t))) := by
  have hF := sq_refl pW M
  have hp : prP a n (lsP s) := by unfold prP; omega
  have v3 := hV.2.2.1
  have v5 := hV.2.2.2.2.1
  have a1 := hA.1.1
  have tc := tk_c hT.ok (p := lsP s) (by have := hA.2; omega)
  have wn : ¬ (97 ≤ a (lsP s) ∧ a (lsP s) ≤ 122) → wo a n (lsP s) = -1 := fun h => ow_none (by omega)
  have hnd : ¬ (48 ≤ a (lsP s) ∧ a (lsP s) ≤ 57) := by omega
  have h17 : wo a n (lsP s) ≠ 17 := by omega
  clear tc
  show abW d (0, 0) 45 0 [some (vr (some 3)), none, none] [] (0, 0) (A0 L) M (qI (A0 L) (fun x N => (∃ e : Int × Int, ptS a n on s = .inl e ∧ x = 0 ∧ FA pW M a n e N) ∨ (∃ (t : LnS) (w : Int), ptS a n on s = .inr (t, w) ∧ w ≠ 2 ∧ x = 1 ∧ GO pW M a n (lsP t) N ∧ CL N fr on t)))
  refine bw_aload rfl rfl ?_
  refine bw_getr rfl rfl (hR _ _) ?_
  refine bw_getI rfl rfl ?_
  rw [hL.f8]
  refine bw_push rfl ?_
  refine bw_icne rfl (fun c9 => ?_) (fun c9 => ?_)
  · skip
    refine bw_aload rfl rfl ?_
    refine bw_getr rfl rfl (hR _ _) ?_
    first | refine bw_dup rfl ?_ | refine bw_dupi rfl ?_
    refine bw_getI rfl rfl ?_
    rw [hL.f8]
    refine bw_push rfl ?_
    refine bw_iadd rfl ⟨by omega, by omega⟩ ?_
    refine bw_putI rfl rfl ?_
    obtain ⟨u9, hR, hT, hA, hL⟩ := st8 hR hT hA hL
    have hF := hF.trans ((sq_of u9 (by decide)).mono a4_W)
    refine bw_aload rfl rfl ?_
    refine bw_getr rfl rfl (hR _ _) ?_
    refine bw_ldcs rfl ?_
    refine bw_callVNi (e := d - 1) (as := [_]) rfl (by omega) rfl rfl (Nat.le_of_ble_eq_true rfl) (Nat.le_of_ble_eq_true rfl) rfl (c_takeWord (i := 9) hR hT hA (by decide) (by omega)) (fun r44 M44 hM44 => ?_)
    rcases hM44 with ⟨h44, rfl, g44⟩ | ⟨h44, rfl, e44⟩
    · have h44 : wo a n (lsP s) = 18 := h44
      have g44 := go_of g44
      have hF := hF.trans (g44.1.mono T_W)
      have hR := g44.1.RF hR
      have hL := CL_sm hL g44.1.1 (fun c c0 c1 => no_T4 c0)
      have hT := g44.2.1
      have hA := g44.2.2
      have eo : opQ a n s = sk a n (we a n (lsP s)) := by unfold opQ; rw [if_pos h44]
      rw [← eo] at hA
      have ew : (if wo a n (lsP s) = 18 then (1 : Int) else 0) = 1 := if_pos h44
      refine bw_istore (ls2 := [_, _, _]) rfl rfl (Nat.le_of_ble_eq_true rfl) rfl ?_
      refine bw_aload rfl rfl ?_
      refine bw_getr rfl rfl (hR _ _) ?_
      refine bw_getI rfl rfl ?_
      rw [hA.1.1]
      refine bw_istore (ls2 := [_, _, _]) rfl rfl (Nat.le_of_ble_eq_true rfl) rfl ?_
      refine bw_aload rfl rfl ?_
      refine bw_push rfl ?_
      refine bw_callVi (e := d - 1) (as := [_]) rfl (by omega) rfl rfl (Nat.le_of_ble_eq_true rfl) (Nat.le_of_ble_eq_true rfl) rfl (c_needSign hR hT hA (by decide) (by omega)) (fun r59 M59 hM59 => ?_)
      rcases hM59 with ⟨e, h59, rfl, f59⟩ | ⟨q59, h59, rfl, g59⟩
      · have hz : ptS a n on s = .inl e := by rw [pt_o hp hnd (by omega) h17, op_1 (si_f h59).1, (si_f h59).2]
        have hX := FA.tr (s := pW) hF.1 f59 (fun _ k => k) P_W
        refine bw_ifne rfl (fun c62 => ?_) (fun c62 => ?_)
        · first
          | (exfalso; omega)
          | (refine bw_aload rfl rfl ?_
             refine bw_getr rfl rfl (hR _ _) ?_
             refine bw_getI rfl rfl ?_
             rw [show gI _ 4 9 = lsK s from hL.f9]
             refine bw_push rfl ?_
             refine bw_icne rfl (fun c75 => ?_) (fun c75 => ?_)
             · skip
               refine bw_aload rfl rfl ?_
               refine bw_getr rfl rfl (hR _ _) ?_
               refine bw_iload rfl rfl ?_
               refine bw_callVNv (e := d - 1) (as := [_]) rfl (by omega) rfl rfl (Nat.le_of_ble_eq_true rfl) (Nat.le_of_ble_eq_true rfl) rfl (c_openGroup (k := lsK s) hR hL.cr (by omega) ⟨hL.f9, by omega, by omega⟩) (fun M90 hM90 => ?_)
               refine bw_push rfl ?_
               refine bw_retz rfl rfl (by omega) ?_
               obtain ⟨u, kC, k4, ⟨k9, k10⟩, k7, k8⟩ := hM90
               have eC := (pt_o (on := on) hp hnd (by omega) h17).trans (op_g s59.1 (by omega))
               rw [ew, ← s59.2] at eC
               refine ⟨rfl, _, rfl, Or.inr ⟨_, _, eC, by decide, rfl, ⟨hF.trans ((sq_of u (by decide)).mono Lo_W), TP_s2 hT u (by decide) (by decide), TA_sm hA u (by decide)⟩, CL_mk kC ((k4 5 (by decide) (by decide)).trans hL.f5) ((k4 8 (by decide) (by decide)).trans hL.f8) k9 k10 (fun j j0 j1 => ?_)⟩⟩
               have j1 : j < lsK s + 1 := j1
               rw [k7, k8, k4 6 (by decide) (by decide), k4 7 (by decide) (by decide)]
               show (0 ≤ up _ (lsK s) _ j ∧ up _ (lsK s) _ j ≤ _) ∧ (up _ (lsK s) _ j = up (lsF s) (lsK s) (lsH s).1 j ∨ _) ∧ up _ (lsK s) _ j = up (lsW s) (lsK s) _ j
               by_cases q : j = lsK s
               · rw [up_eq q, up_eq q, up_eq q, up_eq q]
                 have c := hL.cr
                 exact ⟨⟨c.2.2.1.1, Int.le_refl _⟩, c.2.2.2.2.2.1, rfl⟩
               · rw [up_ne q, up_ne q, up_ne q, up_ne q]
                 exact hL.gr j j0 (by show j < lsK s; omega)
             · skip
               refine bw_aload rfl rfl ?_
               refine bw_push rfl ?_
               refine bw_iload rfl rfl ?_
               refine bw_callVi (e := d - 1) (as := [_, _]) rfl (by omega) rfl rfl (Nat.le_of_ble_eq_true rfl) (Nat.le_of_ble_eq_true rfl) rfl (c_fail hR) (fun r81 M81 hM81 => ?_)
               obtain ⟨rfl, rfl⟩ := hM81
               refine bw_retz rfl rfl (by omega) ?_
               exact ⟨rfl, _, rfl, Or.inl ⟨_, by rw [pt_o hp hnd (by omega) h17]; exact op_4 s59.1 (by omega), rfl, FA.tr (s := pW) hF.1 (fa_of hT) (fun _ k => k) P_W⟩⟩)
        · first
          | (exfalso; omega)
          | (refine bw_push rfl ?_
             refine bw_retz rfl rfl (by omega) ?_
             exact ⟨rfl, _, rfl, Or.inl ⟨e, hz, rfl, hX⟩⟩)
      · have s59 := si_g h59
        have hF := hF.trans (g59.1.mono T_W)
        have hR := g59.1.RF hR
        have hL := CL_sm hL g59.1.1 (fun c c0 c1 => no_T4 c0)
        have hT := g59.2.1
        have hA := g59.2.2
        refine bw_ifne rfl (fun c62 => ?_) (fun c62 => ?_)
        · first
          | (exfalso; omega)
          | (refine bw_aload rfl rfl ?_
             refine bw_getr rfl rfl (hR _ _) ?_
             refine bw_getI rfl rfl ?_
             rw [show gI _ 4 9 = lsK s from hL.f9]
             refine bw_push rfl ?_
             refine bw_icne rfl (fun c75 => ?_) (fun c75 => ?_)
             · skip
               refine bw_aload rfl rfl ?_
               refine bw_getr rfl rfl (hR _ _) ?_
               refine bw_iload rfl rfl ?_
               refine bw_callVNv (e := d - 1) (as := [_]) rfl (by omega) rfl rfl (Nat.le_of_ble_eq_true rfl) (Nat.le_of_ble_eq_true rfl) rfl (c_openGroup (k := lsK s) hR hL.cr (by omega) ⟨hL.f9, by omega, by omega⟩) (fun M90 hM90 => ?_)
               refine bw_push rfl ?_
               refine bw_retz rfl rfl (by omega) ?_
               obtain ⟨u, kC, k4, ⟨k9, k10⟩, k7, k8⟩ := hM90
               have eC := (pt_o (on := on) hp hnd (by omega) h17).trans (op_g s59.1 (by omega))
               rw [ew, ← s59.2] at eC
               refine ⟨rfl, _, rfl, Or.inr ⟨_, _, eC, by decide, rfl, ⟨hF.trans ((sq_of u (by decide)).mono Lo_W), TP_s2 hT u (by decide) (by decide), TA_sm hA u (by decide)⟩, CL_mk kC ((k4 5 (by decide) (by decide)).trans hL.f5) ((k4 8 (by decide) (by decide)).trans hL.f8) k9 k10 (fun j j0 j1 => ?_)⟩⟩
               have j1 : j < lsK s + 1 := j1
               rw [k7, k8, k4 6 (by decide) (by decide), k4 7 (by decide) (by decide)]
               show (0 ≤ up _ (lsK s) _ j ∧ up _ (lsK s) _ j ≤ _) ∧ (up _ (lsK s) _ j = up (lsF s) (lsK s) (lsH s).1 j ∨ _) ∧ up _ (lsK s) _ j = up (lsW s) (lsK s) _ j
               by_cases q : j = lsK s
               · rw [up_eq q, up_eq q, up_eq q, up_eq q]
                 have c := hL.cr
                 exact ⟨⟨c.2.2.1.1, Int.le_refl _⟩, c.2.2.2.2.2.1, rfl⟩
               · rw [up_ne q, up_ne q, up_ne q, up_ne q]
                 exact hL.gr j j0 (by show j < lsK s; omega)
             · skip
               refine bw_aload rfl rfl ?_
               refine bw_push rfl ?_
               refine bw_iload rfl rfl ?_
               refine bw_callVi (e := d - 1) (as := [_, _]) rfl (by omega) rfl rfl (Nat.le_of_ble_eq_true rfl) (Nat.le_of_ble_eq_true rfl) rfl (c_fail hR) (fun r81 M81 hM81 => ?_)
               obtain ⟨rfl, rfl⟩ := hM81
               refine bw_retz rfl rfl (by omega) ?_
               exact ⟨rfl, _, rfl, Or.inl ⟨_, by rw [pt_o hp hnd (by omega) h17]; exact op_4 s59.1 (by omega), rfl, FA.tr (s := pW) hF.1 (fa_of hT) (fun _ k => k) P_W⟩⟩)
        · first
          | (exfalso; omega)
          | (refine bw_push rfl ?_
             refine bw_retz rfl rfl (by omega) ?_
             exact ⟨rfl, _, rfl, Or.inl ⟨e, hz, rfl, hX⟩⟩)
    · have h44 : wo a n (lsP s) ≠ 18 := h44
      have g44 := go_n hT hA e44
      have hF := hF.trans (g44.1.mono T_W)
      have hR := g44.1.RF hR
      have hL := CL_sm hL g44.1.1 (fun c c0 c1 => no_T4 c0)
      have hT := g44.2.1
      have hA := g44.2.2
      have eo : opQ a n s = lsP s := by unfold opQ; rw [if_neg h44]
      rw [← eo] at hA
      have ew : (if wo a n (lsP s) = 18 then (1 : Int) else 0) = 0 := if_neg h44
      refine bw_istore (ls2 := [_, _, _]) rfl rfl (Nat.le_of_ble_eq_true rfl) rfl ?_
      refine bw_aload rfl rfl ?_
      refine bw_getr rfl rfl (hR _ _) ?_
      refine bw_getI rfl rfl ?_
      rw [hA.1.1]
      refine bw_istore (ls2 := [_, _, _]) rfl rfl (Nat.le_of_ble_eq_true rfl) rfl ?_
      refine bw_aload rfl rfl ?_
      refine bw_push rfl ?_
      refine bw_callVi (e := d - 1) (as := [_]) rfl (by omega) rfl rfl (Nat.le_of_ble_eq_true rfl) (Nat.le_of_ble_eq_true rfl) rfl (c_needSign hR hT hA (by decide) (by omega)) (fun r59 M59 hM59 => ?_)
      rcases hM59 with ⟨e, h59, rfl, f59⟩ | ⟨q59, h59, rfl, g59⟩
      · have hz : ptS a n on s = .inl e := by rw [pt_o hp hnd (by omega) h17, op_1 (si_f h59).1, (si_f h59).2]
        have hX := FA.tr (s := pW) hF.1 f59 (fun _ k => k) P_W
        refine bw_ifne rfl (fun c62 => ?_) (fun c62 => ?_)
        · first
          | (exfalso; omega)
          | (refine bw_aload rfl rfl ?_
             refine bw_getr rfl rfl (hR _ _) ?_
             refine bw_getI rfl rfl ?_
             rw [show gI _ 4 9 = lsK s from hL.f9]
             refine bw_push rfl ?_
             refine bw_icne rfl (fun c75 => ?_) (fun c75 => ?_)
             · skip
               refine bw_aload rfl rfl ?_
               refine bw_getr rfl rfl (hR _ _) ?_
               refine bw_iload rfl rfl ?_
               refine bw_callVNv (e := d - 1) (as := [_]) rfl (by omega) rfl rfl (Nat.le_of_ble_eq_true rfl) (Nat.le_of_ble_eq_true rfl) rfl (c_openGroup (k := lsK s) hR hL.cr (by omega) ⟨hL.f9, by omega, by omega⟩) (fun M90 hM90 => ?_)
               refine bw_push rfl ?_
               refine bw_retz rfl rfl (by omega) ?_
               obtain ⟨u, kC, k4, ⟨k9, k10⟩, k7, k8⟩ := hM90
               have eC := (pt_o (on := on) hp hnd (by omega) h17).trans (op_g s59.1 (by omega))
               rw [ew, ← s59.2] at eC
               refine ⟨rfl, _, rfl, Or.inr ⟨_, _, eC, by decide, rfl, ⟨hF.trans ((sq_of u (by decide)).mono Lo_W), TP_s2 hT u (by decide) (by decide), TA_sm hA u (by decide)⟩, CL_mk kC ((k4 5 (by decide) (by decide)).trans hL.f5) ((k4 8 (by decide) (by decide)).trans hL.f8) k9 k10 (fun j j0 j1 => ?_)⟩⟩
               have j1 : j < lsK s + 1 := j1
               rw [k7, k8, k4 6 (by decide) (by decide), k4 7 (by decide) (by decide)]
               show (0 ≤ up _ (lsK s) _ j ∧ up _ (lsK s) _ j ≤ _) ∧ (up _ (lsK s) _ j = up (lsF s) (lsK s) (lsH s).1 j ∨ _) ∧ up _ (lsK s) _ j = up (lsW s) (lsK s) _ j
               by_cases q : j = lsK s
               · rw [up_eq q, up_eq q, up_eq q, up_eq q]
                 have c := hL.cr
                 exact ⟨⟨c.2.2.1.1, Int.le_refl _⟩, c.2.2.2.2.2.1, rfl⟩
               · rw [up_ne q, up_ne q, up_ne q, up_ne q]
                 exact hL.gr j j0 (by show j < lsK s; omega)
             · skip
               refine bw_aload rfl rfl ?_
               refine bw_push rfl ?_
               refine bw_iload rfl rfl ?_
               refine bw_callVi (e := d - 1) (as := [_, _]) rfl (by omega) rfl rfl (Nat.le_of_ble_eq_true rfl) (Nat.le_of_ble_eq_true rfl) rfl (c_fail hR) (fun r81 M81 hM81 => ?_)
               obtain ⟨rfl, rfl⟩ := hM81
               refine bw_retz rfl rfl (by omega) ?_
               exact ⟨rfl, _, rfl, Or.inl ⟨_, by rw [pt_o hp hnd (by omega) h17]; exact op_4 s59.1 (by omega), rfl, FA.tr (s := pW) hF.1 (fa_of hT) (fun _ k => k) P_W⟩⟩)
        · first
          | (exfalso; omega)
          | (refine bw_push rfl ?_
             refine bw_retz rfl rfl (by omega) ?_
             exact ⟨rfl, _, rfl, Or.inl ⟨e, hz, rfl, hX⟩⟩)
      · have s59 := si_g h59
        have hF := hF.trans (g59.1.mono T_W)
        have hR := g59.1.RF hR
        have hL := CL_sm hL g59.1.1 (fun c c0 c1 => no_T4 c0)
        have hT := g59.2.1
        have hA := g59.2.2
        refine bw_ifne rfl (fun c62 => ?_) (fun c62 => ?_)
        · first
          | (exfalso; omega)
          | (refine bw_aload rfl rfl ?_
             refine bw_getr rfl rfl (hR _ _) ?_
             refine bw_getI rfl rfl ?_
             rw [show gI _ 4 9 = lsK s from hL.f9]
             refine bw_push rfl ?_
             refine bw_icne rfl (fun c75 => ?_) (fun c75 => ?_)
             · skip
               refine bw_aload rfl rfl ?_
               refine bw_getr rfl rfl (hR _ _) ?_
               refine bw_iload rfl rfl ?_
               refine bw_callVNv (e := d - 1) (as := [_]) rfl (by omega) rfl rfl (Nat.le_of_ble_eq_true rfl) (Nat.le_of_ble_eq_true rfl) rfl (c_openGroup (k := lsK s) hR hL.cr (by omega) ⟨hL.f9, by omega, by omega⟩) (fun M90 hM90 => ?_)
               refine bw_push rfl ?_
               refine bw_retz rfl rfl (by omega) ?_
               obtain ⟨u, kC, k4, ⟨k9, k10⟩, k7, k8⟩ := hM90
               have eC := (pt_o (on := on) hp hnd (by omega) h17).trans (op_g s59.1 (by omega))
               rw [ew, ← s59.2] at eC
               refine ⟨rfl, _, rfl, Or.inr ⟨_, _, eC, by decide, rfl, ⟨hF.trans ((sq_of u (by decide)).mono Lo_W), TP_s2 hT u (by decide) (by decide), TA_sm hA u (by decide)⟩, CL_mk kC ((k4 5 (by decide) (by decide)).trans hL.f5) ((k4 8 (by decide) (by decide)).trans hL.f8) k9 k10 (fun j j0 j1 => ?_)⟩⟩
               have j1 : j < lsK s + 1 := j1
               rw [k7, k8, k4 6 (by decide) (by decide), k4 7 (by decide) (by decide)]
               show (0 ≤ up _ (lsK s) _ j ∧ up _ (lsK s) _ j ≤ _) ∧ (up _ (lsK s) _ j = up (lsF s) (lsK s) (lsH s).1 j ∨ _) ∧ up _ (lsK s) _ j = up (lsW s) (lsK s) _ j
               by_cases q : j = lsK s
               · rw [up_eq q, up_eq q, up_eq q, up_eq q]
                 have c := hL.cr
                 exact ⟨⟨c.2.2.1.1, Int.le_refl _⟩, c.2.2.2.2.2.1, rfl⟩
               · rw [up_ne q, up_ne q, up_ne q, up_ne q]
                 exact hL.gr j j0 (by show j < lsK s; omega)
             · skip
               refine bw_aload rfl rfl ?_
               refine bw_push rfl ?_
               refine bw_iload rfl rfl ?_
               refine bw_callVi (e := d - 1) (as := [_, _]) rfl (by omega) rfl rfl (Nat.le_of_ble_eq_true rfl) (Nat.le_of_ble_eq_true rfl) rfl (c_fail hR) (fun r81 M81 hM81 => ?_)
               obtain ⟨rfl, rfl⟩ := hM81
               refine bw_retz rfl rfl (by omega) ?_
               exact ⟨rfl, _, rfl, Or.inl ⟨_, by rw [pt_o hp hnd (by omega) h17]; exact op_4 s59.1 (by omega), rfl, FA.tr (s := pW) hF.1 (fa_of hT) (fun _ k => k) P_W⟩⟩)
        · first
          | (exfalso; omega)
          | (refine bw_push rfl ?_
             refine bw_retz rfl rfl (by omega) ?_
             exact ⟨rfl, _, rfl, Or.inl ⟨e, hz, rfl, hX⟩⟩)
  · skip
    refine bw_aload rfl rfl ?_
    refine bw_push rfl ?_
    refine bw_aload rfl rfl ?_
    refine bw_getr rfl rfl (hR _ _) ?_
    refine bw_getI rfl rfl ?_
    refine bw_callVi (e := d - 1) (as := [_, _]) rfl (by omega) rfl rfl (Nat.le_of_ble_eq_true rfl) (Nat.le_of_ble_eq_true rfl) rfl (c_fail hR) (fun r21 M21 hM21 => ?_)
    obtain ⟨rfl, rfl⟩ := hM21
    refine bw_retz rfl rfl (by omega) ?_
    exact ⟨rfl, _, rfl, Or.inl ⟨_, pt_4 hp hnd (by omega), rfl, by rw [← a1]; exact FA.tr (s := pW) hF.1 (fa_of hT) (fun _ k => k) P_W⟩⟩
set_option maxRecDepth 20000 in
set_option maxHeartbeats 4000000 in
theorem c_readClosing {d L : Nat} {M : abMem} {r : abRf} (hR : RF r M) {a : Int → Int} {n : Int} (hT : TP M a n) {fr on : Int} {s : LnS} (hL : CL M fr on s) (hA : TA M a n (lsP s)) (hV : LV a n s) (hon : 1 ≤ on ∧ on ≤ 24) (h41 : a (lsP s) = 41) (hK : 0 < lsK s) (hd : 6 ≤ d) : abW d (0, 0) 46 0 (abEnt (abL 46) [vr (some 3)]) [] (0, 0) (A0 L) M (qI (A0 L) (fun x N => (∃ e : Int × Int, csS a n s = .inl e ∧ x = 0 ∧ FA pW M a n e N) ∨ (∃ (t : LnS) (w : Int), csS a n s = .inr (t, w) ∧ w ≠ 2 ∧ x = 1 ∧ GO pW M a n (lsP t) N ∧ CL N fr on t))) := by
  have hF := sq_refl pW M
  have v3 := hV.2.2.1
  have vF := (hV.2.2.2.1 (lsK s - 1) (by omega) (by omega)).1
  have a3 := hA.1.2.2
  have a4 := hA.2
  have t1 := hT.le
  have tc := tk_c hT.ok (p := lsP s) (by omega)
  show abW d (0, 0) 46 0 [some (vr (some 3))] [] (0, 0) (A0 L) M (qI (A0 L) (fun x N => (∃ e : Int × Int, csS a n s = .inl e ∧ x = 0 ∧ FA pW M a n e N) ∨ (∃ (t : LnS) (w : Int), csS a n s = .inr (t, w) ∧ w ≠ 2 ∧ x = 1 ∧ GO pW M a n (lsP t) N ∧ CL N fr on t)))
  refine bw_aload rfl rfl ?_
  refine bw_getr rfl rfl (hR _ _) ?_
  refine bw_callVNv (e := d - 1) (as := []) rfl (by omega) rfl rfl (Nat.le_of_ble_eq_true rfl) (Nat.le_of_ble_eq_true rfl) rfl (c_advance (s := lsP s + 1) hR hT ⟨by omega, by omega, by omega⟩) (fun M4 hM4 => ?_)
  have g4 := go_of hM4
  skip
  have hF := hF.trans (g4.1.mono T_W)
  have hR := g4.1.RF hR
  have hL := CL_sm hL g4.1.1 (fun c c0 c1 => no_T4 c0)
  have hT := g4.2.1
  have hA := g4.2.2
  refine bw_aload rfl rfl ?_
  refine bw_getr rfl rfl (hR _ _) ?_
  refine bw_push rfl ?_
  refine bw_push rfl ?_
  refine bw_asti rfl (by first | rfl | assumption) (by omega) (by omega) ?_
  obtain ⟨u9, hR, hT, hA, hL⟩ := st9 2 (1) hR hT hA hL
  have hF := hF.trans ((sq_of u9 (by decide)).mono a9_W)
  have n2 := n9_w hL
  refine bw_aload rfl rfl ?_
  refine bw_getr rfl rfl (hR _ _) ?_
  refine bw_ldcs rfl ?_
  refine bw_callVNi (e := d - 1) (as := [_]) rfl (by omega) rfl rfl (Nat.le_of_ble_eq_true rfl) (Nat.le_of_ble_eq_true rfl) rfl (c_takeWord (i := 8) hR hT hA (by decide) (by omega)) (fun r20 M20 hM20 => ?_)
  rcases hM20 with ⟨h20, rfl, g20⟩ | ⟨h20, rfl, e20⟩
  · have h20 : wo a n (sk a n (lsP s + 1)) = 19 := h20
    have g20 := go_of g20
    have hF := hF.trans (g20.1.mono T_W)
    have hR := g20.1.RF hR
    have hL := CL_sm hL g20.1.1 (fun c c0 c1 => no_T4 c0)
    have n2 := (congrFun (g20.1.at 9 (by decide)) 2).trans n2
    have hT := g20.2.1
    have hA := g20.2.2
    refine bw_ifeq rfl (fun c23 => ?_) (fun c23 => ?_)
    · first
      | (exfalso; omega)
      | (refine bw_aload rfl rfl ?_
         refine bw_getr rfl rfl (hR _ _) ?_
         refine bw_aload rfl rfl ?_
         refine bw_getr rfl rfl (hR _ _) ?_
         refine bw_push rfl ?_
         refine bw_aldi rfl (by first | rfl | assumption) (by omega) (by omega) ?_
         rw [n2]
         have gr := hL.gr (lsK s - 1) (by omega) (by omega)
         refine bw_callVNv (e := d - 1) (as := [_]) rfl (by omega) rfl rfl (Nat.le_of_ble_eq_true rfl) (Nat.le_of_ble_eq_true rfl) rfl (c_closeGroup (k := lsK s) hR hL.cr ⟨hL.f9, by omega, by omega⟩ ⟨rfl, gr.1⟩ ⟨vF, gr.2.1⟩ gr.2.2 m1 (by omega)) (fun M49 hM49 => ?_)
         refine bw_push rfl ?_
         refine bw_retz rfl rfl (by omega) ?_
         obtain ⟨u, k4, ⟨k9, k10⟩, kC, k6, k7⟩ := hM49
         have eC := cs_g (s := s) (by rw [ht])
         rw [ht] at eC
         refine ⟨rfl, _, rfl, Or.inr ⟨_, _, eC, by decide, rfl, ⟨hF.trans ((sq_of u (by decide)).mono Ln_W), TP_s2 hT u (by decide) (by decide), TA_sm hA u (by decide)⟩, CL_mk kC ((k4 5 (by decide) (by decide) (by decide) (by decide)).trans hL.f5) ((k4 8 (by decide) (by decide) (by decide) (by decide)).trans hL.f8) k9 k10 (fun j j0 j1 => ?_)⟩⟩
         have j1 : j < lsK s - 1 := j1
         have gr := hL.gr j j0 (by omega)
         rw [u.at 7 (by decide), u.at 8 (by decide)]
         refine ⟨⟨gr.1.1, by omega⟩, ?_, gr.2.2⟩
         rcases gr.2.1 with h | h
         · exact Or.inl h
         · exact Or.inr (by omega))
    · first
      | (exfalso; omega)
      | (refine bw_aload rfl rfl ?_
         refine bw_push rfl ?_
         refine bw_push rfl ?_
         refine bw_push rfl ?_
         refine bw_callVi (e := d - 1) (as := [_, _, _]) rfl (by omega) rfl rfl (Nat.le_of_ble_eq_true rfl) (Nat.le_of_ble_eq_true rfl) rfl (c_needNumber hR hT hA (by omega) (by omega)) (fun r31 M31 hM31 => ?_)
         rcases hM31 with ⟨e, h31, rfl, f31⟩ | ⟨q31, v31, h31, rfl, g31, b31, k31⟩
         · have hz : csS a n s = .inl e := by (exact cs_f (by rw [tm_y h20, h31]))
           have hX := FA.tr (s := pW) hF.1 f31 (fun _ k => k) P_W
           refine bw_ifne rfl (fun c34 => ?_) (fun c34 => ?_)
           · first
             | (exfalso; omega)
             | (refine bw_aload rfl rfl ?_
                refine bw_getr rfl rfl (hR _ _) ?_
                refine bw_aload rfl rfl ?_
                refine bw_getr rfl rfl (hR _ _) ?_
                refine bw_push rfl ?_
                refine bw_aldi rfl (by first | rfl | assumption) (by omega) (by omega) ?_
                rw [n2]
                have gr := hL.gr (lsK s - 1) (by omega) (by omega)
                refine bw_callVNv (e := d - 1) (as := [_]) rfl (by omega) rfl rfl (Nat.le_of_ble_eq_true rfl) (Nat.le_of_ble_eq_true rfl) rfl (c_closeGroup (k := lsK s) hR hL.cr ⟨hL.f9, by omega, by omega⟩ ⟨rfl, gr.1⟩ ⟨vF, gr.2.1⟩ gr.2.2 m1 (by omega)) (fun M49 hM49 => ?_)
                refine bw_push rfl ?_
                refine bw_retz rfl rfl (by omega) ?_
                obtain ⟨u, k4, ⟨k9, k10⟩, kC, k6, k7⟩ := hM49
                have eC := cs_g (s := s) (by rw [ht])
                rw [ht] at eC
                refine ⟨rfl, _, rfl, Or.inr ⟨_, _, eC, by decide, rfl, ⟨hF.trans ((sq_of u (by decide)).mono Ln_W), TP_s2 hT u (by decide) (by decide), TA_sm hA u (by decide)⟩, CL_mk kC ((k4 5 (by decide) (by decide) (by decide) (by decide)).trans hL.f5) ((k4 8 (by decide) (by decide) (by decide) (by decide)).trans hL.f8) k9 k10 (fun j j0 j1 => ?_)⟩⟩
                have j1 : j < lsK s - 1 := j1
                have gr := hL.gr j j0 (by omega)
                rw [u.at 7 (by decide), u.at 8 (by decide)]
                refine ⟨⟨gr.1.1, by omega⟩, ?_, gr.2.2⟩
                rcases gr.2.1 with h | h
                · exact Or.inl h
                · exact Or.inr (by omega))
           · first
             | (exfalso; omega)
             | (refine bw_push rfl ?_
                refine bw_retz rfl rfl (by omega) ?_
                exact ⟨rfl, _, rfl, Or.inl ⟨e, hz, rfl, hX⟩⟩)
         · skip
           have hF := hF.trans (g31.1.mono N_W)
           have hR := g31.1.RF hR
           have hL := CL_sm hL g31.1.1 (fun c c0 c1 => no_N4 c0 c1)
           have n2 := (congrFun k31 2).trans (up_eq rfl)
           have hT := g31.2.1
           have hA := g31.2.2
           have ht := (tm_y (u := 1) h20).trans h31
           have m1 := b31
           refine bw_ifne rfl (fun c34 => ?_) (fun c34 => ?_)
           · first
             | (exfalso; omega)
             | (refine bw_aload rfl rfl ?_
                refine bw_getr rfl rfl (hR _ _) ?_
                refine bw_aload rfl rfl ?_
                refine bw_getr rfl rfl (hR _ _) ?_
                refine bw_push rfl ?_
                refine bw_aldi rfl (by first | rfl | assumption) (by omega) (by omega) ?_
                rw [n2]
                have gr := hL.gr (lsK s - 1) (by omega) (by omega)
                refine bw_callVNv (e := d - 1) (as := [_]) rfl (by omega) rfl rfl (Nat.le_of_ble_eq_true rfl) (Nat.le_of_ble_eq_true rfl) rfl (c_closeGroup (k := lsK s) hR hL.cr ⟨hL.f9, by omega, by omega⟩ ⟨rfl, gr.1⟩ ⟨vF, gr.2.1⟩ gr.2.2 m1 (by omega)) (fun M49 hM49 => ?_)
                refine bw_push rfl ?_
                refine bw_retz rfl rfl (by omega) ?_
                obtain ⟨u, k4, ⟨k9, k10⟩, kC, k6, k7⟩ := hM49
                have eC := cs_g (s := s) (by rw [ht])
                rw [ht] at eC
                refine ⟨rfl, _, rfl, Or.inr ⟨_, _, eC, by decide, rfl, ⟨hF.trans ((sq_of u (by decide)).mono Ln_W), TP_s2 hT u (by decide) (by decide), TA_sm hA u (by decide)⟩, CL_mk kC ((k4 5 (by decide) (by decide) (by decide) (by decide)).trans hL.f5) ((k4 8 (by decide) (by decide) (by decide) (by decide)).trans hL.f8) k9 k10 (fun j j0 j1 => ?_)⟩⟩
                have j1 : j < lsK s - 1 := j1
                have gr := hL.gr j j0 (by omega)
                rw [u.at 7 (by decide), u.at 8 (by decide)]
                refine ⟨⟨gr.1.1, by omega⟩, ?_, gr.2.2⟩
                rcases gr.2.1 with h | h
                · exact Or.inl h
                · exact Or.inr (by omega))
           · first
             | (exfalso; omega)
             | (refine bw_push rfl ?_
                refine bw_retz rfl rfl (by omega) ?_
                exact ⟨rfl, _, rfl, Or.inl ⟨e, hz, rfl, hX⟩⟩))
  · have h20 : wo a n (sk a n (lsP s + 1)) ≠ 19 := h20
    have g20 := go_n hT hA e20
    have hF := hF.trans (g20.1.mono T_W)
    have hR := g20.1.RF hR
    have hL := CL_sm hL g20.1.1 (fun c c0 c1 => no_T4 c0)
    have n2 := (congrFun (g20.1.at 9 (by decide)) 2).trans n2
    have hT := g20.2.1
    have hA := g20.2.2
    have ht := tm_n (u := 1) h20
    have m1 : (1 : Int) ≤ 1 ∧ (1 : Int) ≤ 96 := by decide
    refine bw_ifeq rfl (fun c23 => ?_) (fun c23 => ?_)
    · first
      | (exfalso; omega)
      | (refine bw_aload rfl rfl ?_
         refine bw_getr rfl rfl (hR _ _) ?_
         refine bw_aload rfl rfl ?_
         refine bw_getr rfl rfl (hR _ _) ?_
         refine bw_push rfl ?_
         refine bw_aldi rfl (by first | rfl | assumption) (by omega) (by omega) ?_
         rw [n2]
         have gr := hL.gr (lsK s - 1) (by omega) (by omega)
         refine bw_callVNv (e := d - 1) (as := [_]) rfl (by omega) rfl rfl (Nat.le_of_ble_eq_true rfl) (Nat.le_of_ble_eq_true rfl) rfl (c_closeGroup (k := lsK s) hR hL.cr ⟨hL.f9, by omega, by omega⟩ ⟨rfl, gr.1⟩ ⟨vF, gr.2.1⟩ gr.2.2 m1 (by omega)) (fun M49 hM49 => ?_)
         refine bw_push rfl ?_
         refine bw_retz rfl rfl (by omega) ?_
         obtain ⟨u, k4, ⟨k9, k10⟩, kC, k6, k7⟩ := hM49
         have eC := cs_g (s := s) (by rw [ht])
         rw [ht] at eC
         refine ⟨rfl, _, rfl, Or.inr ⟨_, _, eC, by decide, rfl, ⟨hF.trans ((sq_of u (by decide)).mono Ln_W), TP_s2 hT u (by decide) (by decide), TA_sm hA u (by decide)⟩, CL_mk kC ((k4 5 (by decide) (by decide) (by decide) (by decide)).trans hL.f5) ((k4 8 (by decide) (by decide) (by decide) (by decide)).trans hL.f8) k9 k10 (fun j j0 j1 => ?_)⟩⟩
         have j1 : j < lsK s - 1 := j1
         have gr := hL.gr j j0 (by omega)
         rw [u.at 7 (by decide), u.at 8 (by decide)]
         refine ⟨⟨gr.1.1, by omega⟩, ?_, gr.2.2⟩
         rcases gr.2.1 with h | h
         · exact Or.inl h
         · exact Or.inr (by omega))
    · first
      | (exfalso; omega)
      | (refine bw_aload rfl rfl ?_
         refine bw_push rfl ?_
         refine bw_push rfl ?_
         refine bw_push rfl ?_
         refine bw_callVi (e := d - 1) (as := [_, _, _]) rfl (by omega) rfl rfl (Nat.le_of_ble_eq_true rfl) (Nat.le_of_ble_eq_true rfl) rfl (c_needNumber hR hT hA (by omega) (by omega)) (fun r31 M31 hM31 => ?_)
         rcases hM31 with ⟨e, h31, rfl, f31⟩ | ⟨q31, v31, h31, rfl, g31, b31, k31⟩
         · have hz : csS a n s = .inl e := by (exact cs_f (by rw [tm_y h20, h31]))
           have hX := FA.tr (s := pW) hF.1 f31 (fun _ k => k) P_W
           refine bw_ifne rfl (fun c34 => ?_) (fun c34 => ?_)
           · first
             | (exfalso; omega)
             | (refine bw_aload rfl rfl ?_
                refine bw_getr rfl rfl (hR _ _) ?_
                refine bw_aload rfl rfl ?_
                refine bw_getr rfl rfl (hR _ _) ?_
                refine bw_push rfl ?_
                refine bw_aldi rfl (by first | rfl | assumption) (by omega) (by omega) ?_
                rw [n2]
                have gr := hL.gr (lsK s - 1) (by omega) (by omega)
                refine bw_callVNv (e := d - 1) (as := [_]) rfl (by omega) rfl rfl (Nat.le_of_ble_eq_true rfl) (Nat.le_of_ble_eq_true rfl) rfl (c_closeGroup (k := lsK s) hR hL.cr ⟨hL.f9, by omega, by omega⟩ ⟨rfl, gr.1⟩ ⟨vF, gr.2.1⟩ gr.2.2 m1 (by omega)) (fun M49 hM49 => ?_)
                refine bw_push rfl ?_
                refine bw_retz rfl rfl (by omega) ?_
                obtain ⟨u, k4, ⟨k9, k10⟩, kC, k6, k7⟩ := hM49
                have eC := cs_g (s := s) (by rw [ht])
                rw [ht] at eC
                refine ⟨rfl, _, rfl, Or.inr ⟨_, _, eC, by decide, rfl, ⟨hF.trans ((sq_of u (by decide)).mono Ln_W), TP_s2 hT u (by decide) (by decide), TA_sm hA u (by decide)⟩, CL_mk kC ((k4 5 (by decide) (by decide) (by decide) (by decide)).trans hL.f5) ((k4 8 (by decide) (by decide) (by decide) (by decide)).trans hL.f8) k9 k10 (fun j j0 j1 => ?_)⟩⟩
                have j1 : j < lsK s - 1 := j1
                have gr := hL.gr j j0 (by omega)
                rw [u.at 7 (by decide), u.at 8 (by decide)]
                refine ⟨⟨gr.1.1, by omega⟩, ?_, gr.2.2⟩
                rcases gr.2.1 with h | h
                · exact Or.inl h
                · exact Or.inr (by omega))
           · first
             | (exfalso; omega)
             | (refine bw_push rfl ?_
                refine bw_retz rfl rfl (by omega) ?_
                exact ⟨rfl, _, rfl, Or.inl ⟨e, hz, rfl, hX⟩⟩)
         · skip
           have hF := hF.trans (g31.1.mono N_W)
           have hR := g31.1.RF hR
           have hL := CL_sm hL g31.1.1 (fun c c0 c1 => no_N4 c0 c1)
           have n2 := (congrFun k31 2).trans (up_eq rfl)
           have hT := g31.2.1
           have hA := g31.2.2
           have ht := (tm_y (u := 1) h20).trans h31
           have m1 := b31
           refine bw_ifne rfl (fun c34 => ?_) (fun c34 => ?_)
           · first
             | (exfalso; omega)
             | (refine bw_aload rfl rfl ?_
                refine bw_getr rfl rfl (hR _ _) ?_
                refine bw_aload rfl rfl ?_
                refine bw_getr rfl rfl (hR _ _) ?_
                refine bw_push rfl ?_
                refine bw_aldi rfl (by first | rfl | assumption) (by omega) (by omega) ?_
                rw [n2]
                have gr := hL.gr (lsK s - 1) (by omega) (by omega)
                refine bw_callVNv (e := d - 1) (as := [_]) rfl (by omega) rfl rfl (Nat.le_of_ble_eq_true rfl) (Nat.le_of_ble_eq_true rfl) rfl (c_closeGroup (k := lsK s) hR hL.cr ⟨hL.f9, by omega, by omega⟩ ⟨rfl, gr.1⟩ ⟨vF, gr.2.1⟩ gr.2.2 m1 (by omega)) (fun M49 hM49 => ?_)
                refine bw_push rfl ?_
                refine bw_retz rfl rfl (by omega) ?_
                obtain ⟨u, k4, ⟨k9, k10⟩, kC, k6, k7⟩ := hM49
                have eC := cs_g (s := s) (by rw [ht])
                rw [ht] at eC
                refine ⟨rfl, _, rfl, Or.inr ⟨_, _, eC, by decide, rfl, ⟨hF.trans ((sq_of u (by decide)).mono Ln_W), TP_s2 hT u (by decide) (by decide), TA_sm hA u (by decide)⟩, CL_mk kC ((k4 5 (by decide) (by decide) (by decide) (by decide)).trans hL.f5) ((k4 8 (by decide) (by decide) (by decide) (by decide)).trans hL.f8) k9 k10 (fun j j0 j1 => ?_)⟩⟩
                have j1 : j < lsK s - 1 := j1
                have gr := hL.gr j j0 (by omega)
                rw [u.at 7 (by decide), u.at 8 (by decide)]
                refine ⟨⟨gr.1.1, by omega⟩, ?_, gr.2.2⟩
                rcases gr.2.1 with h | h
                · exact Or.inl h
                · exact Or.inr (by omega))
           · first
             | (exfalso; omega)
             | (refine bw_push rfl ?_
                refine bw_retz rfl rfl (by omega) ?_
                exact ⟨rfl, _, rfl, Or.inl ⟨e, hz, rfl, hX⟩⟩))
set_option maxRecDepth 20000 in
set_option maxHeartbeats 4000000 in
theorem c_readEnding {d L : Nat} {M : abMem} {r : abRf} (hR : RF r M) {a : Int → Int} {n : Int} (hT : TP M a n) {p : Int} (hA : TA M a n p) (hd : 6 ≤ d) : abW d (0, 0) 42 0 (abEnt (abL 42) [vr (some 3)]) [] (0, 0) (A0 L) M (qI (A0 L) (fun x N => x = (enW a n p).2 ∧ ∃ q : Int, (enW a n p).1 = .inr q ∧ GO pT M a n q N)) := by
  show abW d (0, 0) 42 0 [some (vr (some 3))] [] (0, 0) (A0 L) M (qI (A0 L) (fun x N => x = (enW a n p).2 ∧ ∃ q : Int, (enW a n p).1 = .inr q ∧ GO pT M a n q N))
  refine bw_aload rfl rfl ?_
  refine bw_getr rfl rfl (hR _ _) ?_
  refine bw_ldcs rfl ?_
  refine bw_callVNi (e := d - 1) (as := [_]) rfl (by omega) rfl rfl (Nat.le_of_ble_eq_true rfl) (Nat.le_of_ble_eq_true rfl) rfl (c_takeWord (i := 10) hR hT hA (by decide) (by omega)) (fun r6 M6 hM6 => ?_)
  rcases hM6 with ⟨h6, rfl, g6⟩ | ⟨h6, rfl, e6⟩
  · have h6 : wo a n p = 3 := h6
    have g6 := go_of g6
    refine bw_ifeq rfl (fun c9 => ?_) (fun c9 => ?_)
    · first
      | (exfalso; omega)
      | (refine bw_aload rfl rfl ?_
         refine bw_getr rfl rfl (hR _ _) ?_
         refine bw_ldcs rfl ?_
         refine bw_callVNi (e := d - 1) (as := [_]) rfl (by omega) rfl rfl (Nat.le_of_ble_eq_true rfl) (Nat.le_of_ble_eq_true rfl) rfl (c_takeWord (i := 11) hR hT hA (by decide) (by omega)) (fun r20 M20 hM20 => ?_)
         rcases hM20 with ⟨h20, rfl, g20⟩ | ⟨h20, rfl, e20⟩
         · have h20 : wo a n p = 4 := h20
           have g20 := go_of g20
           refine bw_ifeq rfl (fun c23 => ?_) (fun c23 => ?_)
           · first
             | (exfalso; omega)
             | (refine bw_push rfl ?_
                refine bw_ret rfl rfl ?_
                first
                | exact ⟨rfl, _, rfl, by unfold enW; rw [tak_n h6]; show _ = (if (0 : Int) = 1 then _ else _ : Rp × Int).2; rw [if_neg (by decide), tak_y h20]; rfl, _, by unfold enW; rw [tak_n h6]; show (if (0 : Int) = 1 then _ else _ : Rp × Int).1 = _; rw [if_neg (by decide), tak_y h20]; rfl, GO.tr g6.1 g20 (fun _ k => k) (fun _ k => k)⟩
                | exact ⟨rfl, _, rfl, by unfold enW; rw [tak_n h6]; show _ = (if (0 : Int) = 1 then _ else _ : Rp × Int).2; rw [if_neg (by decide), tak_n h20]; rfl, _, by unfold enW; rw [tak_n h6]; show (if (0 : Int) = 1 then _ else _ : Rp × Int).1 = _; rw [if_neg (by decide), tak_n h20]; rfl, GO.tr g6.1 g20 (fun _ k => k) (fun _ k => k)⟩)
           · first
             | (exfalso; omega)
             | (refine bw_push rfl ?_
                refine bw_goto rfl ?_
                refine bw_ret rfl rfl ?_
                first
                | exact ⟨rfl, _, rfl, by unfold enW; rw [tak_n h6]; show _ = (if (0 : Int) = 1 then _ else _ : Rp × Int).2; rw [if_neg (by decide), tak_y h20]; rfl, _, by unfold enW; rw [tak_n h6]; show (if (0 : Int) = 1 then _ else _ : Rp × Int).1 = _; rw [if_neg (by decide), tak_y h20]; rfl, GO.tr g6.1 g20 (fun _ k => k) (fun _ k => k)⟩
                | exact ⟨rfl, _, rfl, by unfold enW; rw [tak_n h6]; show _ = (if (0 : Int) = 1 then _ else _ : Rp × Int).2; rw [if_neg (by decide), tak_n h20]; rfl, _, by unfold enW; rw [tak_n h6]; show (if (0 : Int) = 1 then _ else _ : Rp × Int).1 = _; rw [if_neg (by decide), tak_n h20]; rfl, GO.tr g6.1 g20 (fun _ k => k) (fun _ k => k)⟩)
         · have h20 : wo a n p ≠ 4 := h20
           have g20 := go_n hT hA e20
           refine bw_ifeq rfl (fun c23 => ?_) (fun c23 => ?_)
           · first
             | (exfalso; omega)
             | (refine bw_push rfl ?_
                refine bw_ret rfl rfl ?_
                first
                | exact ⟨rfl, _, rfl, by unfold enW; rw [tak_n h6]; show _ = (if (0 : Int) = 1 then _ else _ : Rp × Int).2; rw [if_neg (by decide), tak_y h20]; rfl, _, by unfold enW; rw [tak_n h6]; show (if (0 : Int) = 1 then _ else _ : Rp × Int).1 = _; rw [if_neg (by decide), tak_y h20]; rfl, GO.tr g6.1 g20 (fun _ k => k) (fun _ k => k)⟩
                | exact ⟨rfl, _, rfl, by unfold enW; rw [tak_n h6]; show _ = (if (0 : Int) = 1 then _ else _ : Rp × Int).2; rw [if_neg (by decide), tak_n h20]; rfl, _, by unfold enW; rw [tak_n h6]; show (if (0 : Int) = 1 then _ else _ : Rp × Int).1 = _; rw [if_neg (by decide), tak_n h20]; rfl, GO.tr g6.1 g20 (fun _ k => k) (fun _ k => k)⟩)
           · first
             | (exfalso; omega)
             | (refine bw_push rfl ?_
                refine bw_goto rfl ?_
                refine bw_ret rfl rfl ?_
                first
                | exact ⟨rfl, _, rfl, by unfold enW; rw [tak_n h6]; show _ = (if (0 : Int) = 1 then _ else _ : Rp × Int).2; rw [if_neg (by decide), tak_y h20]; rfl, _, by unfold enW; rw [tak_n h6]; show (if (0 : Int) = 1 then _ else _ : Rp × Int).1 = _; rw [if_neg (by decide), tak_y h20]; rfl, GO.tr g6.1 g20 (fun _ k => k) (fun _ k => k)⟩
                | exact ⟨rfl, _, rfl, by unfold enW; rw [tak_n h6]; show _ = (if (0 : Int) = 1 then _ else _ : Rp × Int).2; rw [if_neg (by decide), tak_n h20]; rfl, _, by unfold enW; rw [tak_n h6]; show (if (0 : Int) = 1 then _ else _ : Rp × Int).1 = _; rw [if_neg (by decide), tak_n h20]; rfl, GO.tr g6.1 g20 (fun _ k => k) (fun _ k => k)⟩))
    · first
      | (exfalso; omega)
      | (refine bw_push rfl ?_
         refine bw_ret rfl rfl ?_
         exact ⟨rfl, _, rfl, by unfold enW; rw [tak_y h6]; rfl, _, by unfold enW; rw [tak_y h6]; rfl, g6⟩)
  · have h6 : wo a n p ≠ 3 := h6
    have g6 := go_n hT hA e6
    have hR := g6.1.RF hR
    have hT := g6.2.1
    have hA := g6.2.2
    refine bw_ifeq rfl (fun c9 => ?_) (fun c9 => ?_)
    · first
      | (exfalso; omega)
      | (refine bw_aload rfl rfl ?_
         refine bw_getr rfl rfl (hR _ _) ?_
         refine bw_ldcs rfl ?_
         refine bw_callVNi (e := d - 1) (as := [_]) rfl (by omega) rfl rfl (Nat.le_of_ble_eq_true rfl) (Nat.le_of_ble_eq_true rfl) rfl (c_takeWord (i := 11) hR hT hA (by decide) (by omega)) (fun r20 M20 hM20 => ?_)
         rcases hM20 with ⟨h20, rfl, g20⟩ | ⟨h20, rfl, e20⟩
         · have h20 : wo a n p = 4 := h20
           have g20 := go_of g20
           refine bw_ifeq rfl (fun c23 => ?_) (fun c23 => ?_)
           · first
             | (exfalso; omega)
             | (refine bw_push rfl ?_
                refine bw_ret rfl rfl ?_
                first
                | exact ⟨rfl, _, rfl, by unfold enW; rw [tak_n h6]; show _ = (if (0 : Int) = 1 then _ else _ : Rp × Int).2; rw [if_neg (by decide), tak_y h20]; rfl, _, by unfold enW; rw [tak_n h6]; show (if (0 : Int) = 1 then _ else _ : Rp × Int).1 = _; rw [if_neg (by decide), tak_y h20]; rfl, GO.tr g6.1 g20 (fun _ k => k) (fun _ k => k)⟩
                | exact ⟨rfl, _, rfl, by unfold enW; rw [tak_n h6]; show _ = (if (0 : Int) = 1 then _ else _ : Rp × Int).2; rw [if_neg (by decide), tak_n h20]; rfl, _, by unfold enW; rw [tak_n h6]; show (if (0 : Int) = 1 then _ else _ : Rp × Int).1 = _; rw [if_neg (by decide), tak_n h20]; rfl, GO.tr g6.1 g20 (fun _ k => k) (fun _ k => k)⟩)
           · first
             | (exfalso; omega)
             | (refine bw_push rfl ?_
                refine bw_goto rfl ?_
                refine bw_ret rfl rfl ?_
                first
                | exact ⟨rfl, _, rfl, by unfold enW; rw [tak_n h6]; show _ = (if (0 : Int) = 1 then _ else _ : Rp × Int).2; rw [if_neg (by decide), tak_y h20]; rfl, _, by unfold enW; rw [tak_n h6]; show (if (0 : Int) = 1 then _ else _ : Rp × Int).1 = _; rw [if_neg (by decide), tak_y h20]; rfl, GO.tr g6.1 g20 (fun _ k => k) (fun _ k => k)⟩
                | exact ⟨rfl, _, rfl, by unfold enW; rw [tak_n h6]; show _ = (if (0 : Int) = 1 then _ else _ : Rp × Int).2; rw [if_neg (by decide), tak_n h20]; rfl, _, by unfold enW; rw [tak_n h6]; show (if (0 : Int) = 1 then _ else _ : Rp × Int).1 = _; rw [if_neg (by decide), tak_n h20]; rfl, GO.tr g6.1 g20 (fun _ k => k) (fun _ k => k)⟩)
         · have h20 : wo a n p ≠ 4 := h20
           have g20 := go_n hT hA e20
           refine bw_ifeq rfl (fun c23 => ?_) (fun c23 => ?_)
           · first
             | (exfalso; omega)
             | (refine bw_push rfl ?_
                refine bw_ret rfl rfl ?_
                first
                | exact ⟨rfl, _, rfl, by unfold enW; rw [tak_n h6]; show _ = (if (0 : Int) = 1 then _ else _ : Rp × Int).2; rw [if_neg (by decide), tak_y h20]; rfl, _, by unfold enW; rw [tak_n h6]; show (if (0 : Int) = 1 then _ else _ : Rp × Int).1 = _; rw [if_neg (by decide), tak_y h20]; rfl, GO.tr g6.1 g20 (fun _ k => k) (fun _ k => k)⟩
                | exact ⟨rfl, _, rfl, by unfold enW; rw [tak_n h6]; show _ = (if (0 : Int) = 1 then _ else _ : Rp × Int).2; rw [if_neg (by decide), tak_n h20]; rfl, _, by unfold enW; rw [tak_n h6]; show (if (0 : Int) = 1 then _ else _ : Rp × Int).1 = _; rw [if_neg (by decide), tak_n h20]; rfl, GO.tr g6.1 g20 (fun _ k => k) (fun _ k => k)⟩)
           · first
             | (exfalso; omega)
             | (refine bw_push rfl ?_
                refine bw_goto rfl ?_
                refine bw_ret rfl rfl ?_
                first
                | exact ⟨rfl, _, rfl, by unfold enW; rw [tak_n h6]; show _ = (if (0 : Int) = 1 then _ else _ : Rp × Int).2; rw [if_neg (by decide), tak_y h20]; rfl, _, by unfold enW; rw [tak_n h6]; show (if (0 : Int) = 1 then _ else _ : Rp × Int).1 = _; rw [if_neg (by decide), tak_y h20]; rfl, GO.tr g6.1 g20 (fun _ k => k) (fun _ k => k)⟩
                | exact ⟨rfl, _, rfl, by unfold enW; rw [tak_n h6]; show _ = (if (0 : Int) = 1 then _ else _ : Rp × Int).2; rw [if_neg (by decide), tak_n h20]; rfl, _, by unfold enW; rw [tak_n h6]; show (if (0 : Int) = 1 then _ else _ : Rp × Int).1 = _; rw [if_neg (by decide), tak_n h20]; rfl, GO.tr g6.1 g20 (fun _ k => k) (fun _ k => k)⟩))
    · first
      | (exfalso; omega)
      | (refine bw_push rfl ?_
         refine bw_ret rfl rfl ?_
         exact ⟨rfl, _, rfl, by unfold enW; rw [tak_y h6]; rfl, _, by unfold enW; rw [tak_y h6]; rfl, g6⟩)
