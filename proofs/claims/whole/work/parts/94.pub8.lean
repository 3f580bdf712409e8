/-- what is saved on a layer -/
noncomputable def svV (M : abMem) (w l : Int) : Int := if w = 1 then cN (pF (mR M 0 l)) (gI M 568 0).toNat - cN (pXE 0 (mR M 0 l)) (gI M 568 0).toNat else if w = 2 then cN (pXE 0 (mR M 0 l)) (gI M 568 0).toNat - cN (pU (mR M 0 l)) (gI M 568 0).toNat else cN (pXE 1 (mR M 0 l)) (gI M 568 0).toNat - mkV (mR M 0 l) (gI M 568 0)
theorem svV_e {M N : abMem} (e8 : gI N 568 = gI M 568) (e9 : gI N 569 = gI M 569) (w l : Int) : svV N w l = svV M w l := by
  unfold svV
  rw [mR_e e9, e8]
set_option maxRecDepth 20000 in
set_option maxHeartbeats 4000000 in
theorem c_savedOf {d L : Nat} {M : abMem} {r : abRf} (hR : RF r M) {s : Nat} (hs : s = 372 ∨ s = 459) (hc : cur r = s) {k : Int} (h : INV r M k) {l w : Int} (hl : 0 ≤ l ∧ l < gI M 568 1) (hd : 5 ≤ d) : abW d (0, 0) 135 0 (abEnt (abL 135) [vr (some 0), vi l, vi w]) [] (0, 0) (A0 L) M (qI (A0 L) (fun x N => sm pMq M N ∧ INV r N k ∧ x = svV M w l ∧ -96 ≤ x ∧ x ≤ 96)) := by
  rcases hs with rfl | rfl
  · have hS : SR M 372 (gI M 568) := by have q := h.sr; rw [hc] at q; exact q
    have b1 := h.fr
    have b2 := h.la
    have hrf := hR
    show abW d (0, 0) 135 0 [some (vr (some 0)), some (vi l), some (vi w), none] [] (0, 0) (A0 L) M (qI (A0 L) (fun x N => sm pMq M N ∧ INV r N k ∧ x = svV M w l ∧ -96 ≤ x ∧ x ≤ 96))
    refine bw_aload rfl rfl ?_
    refine bw_getr rfl rfl (hR _ _) ?_
    refine bw_getr rfl rfl (hR _ _) ?_
    refine bw_iload rfl rfl ?_
    refine bw_aldr rfl (by first | rfl | assumption) (by decide) (by omega) (by omega) ((hR _ _).trans (rr_row (fun _ => rfl) (by omega) (by omega) (by omega))) ?_
    refine bw_astore (ls2 := [_, _, _, _]) rfl rfl (Nat.le_of_ble_eq_true rfl) rfl ?_
    refine bw_iload rfl rfl ?_
    by_cases s11_0 : w = 1
    · refine bw_switch (t := 36) rfl (by rw [s11_0]; rfl) ?_
      refine bw_aload rfl rfl ?_
      refine bw_aload rfl rfl ?_
      refine bw_getr rfl rfl (cur_r hR hc) ?_
      refine bw_getI rfl rfl ?_
      rw [show gI M 372 0 = gI M 568 0 from hS.c0]
      refine bw_callSNe (e := d - 1) (as := [_, _]) rfl (by omega) rfl rfl (Nat.le_of_ble_eq_true rfl) (Nat.le_of_ble_eq_true rfl) (c_filled (z := 96) (by decide) (kfa (L := L) (b := 12) (n := 6) (v := (20, 96)) (by decide) (by decide) ⟨by omega, by omega⟩) (by omega)) ?_
      rw [pF_cg (g := mR M 0 l) (fun j j0 j1 => h.row ⟨by omega, by omega⟩ ⟨j0, j1⟩)]
      have b8 := cN_z (pF (mR M 0 l)) (k := gI M 568 0) (by omega)
      refine bw_aload rfl rfl ?_
      refine bw_aload rfl rfl ?_
      refine bw_getr rfl rfl (cur_r hR hc) ?_
      refine bw_getI rfl rfl ?_
      rw [show gI M 372 0 = gI M 568 0 from hS.c0]
      refine bw_callSNe (e := d - 1) (as := [_, _]) rfl (by omega) rfl rfl (Nat.le_of_ble_eq_true rfl) (Nat.le_of_ble_eq_true rfl) (c_filledExposures (z := 96) (by decide) (kfa (L := L) (b := 12) (n := 6) (v := (20, 96)) (by decide) (by decide) ⟨by omega, by omega⟩) (by omega)) ?_
      rw [pFE_cg (g := mR M 0 l) (fun j j0 j1 => h.row ⟨by omega, by omega⟩ ⟨j0, j1⟩)]
      have b9 := cN_z (pFE (mR M 0 l)) (k := gI M 568 0) (by omega)
      refine bw_isub rfl ⟨by omega, by omega⟩ ?_
      refine bw_ret rfl rfl ?_
      first
      | exact ⟨rfl, _, rfl, sm_refl _ _, h, by unfold svV; rw [if_pos (by omega), pXE_0], by omega, by omega⟩
      | exact ⟨rfl, _, rfl, sm_refl _ _, h, by unfold svV; rw [if_neg (by omega), if_pos (by omega), pXE_0], by omega, by omega⟩
      | exact ⟨rfl, _, rfl, u97, i97, by unfold svV; rw [if_neg (by omega), if_neg (by omega), pXE_1 (by decide), mkV_eq v97], by omega, by omega⟩
    · skip
      by_cases s11_1 : w = 2
      · refine bw_switch (t := 60) rfl (by rw [s11_1]; rfl) ?_
        refine bw_aload rfl rfl ?_
        refine bw_aload rfl rfl ?_
        refine bw_getr rfl rfl (cur_r hR hc) ?_
        refine bw_getI rfl rfl ?_
        rw [show gI M 372 0 = gI M 568 0 from hS.c0]
        refine bw_callSNe (e := d - 1) (as := [_, _]) rfl (by omega) rfl rfl (Nat.le_of_ble_eq_true rfl) (Nat.le_of_ble_eq_true rfl) (c_filledExposures (z := 96) (by decide) (kfa (L := L) (b := 12) (n := 6) (v := (20, 96)) (by decide) (by decide) ⟨by omega, by omega⟩) (by omega)) ?_
        rw [pFE_cg (g := mR M 0 l) (fun j j0 j1 => h.row ⟨by omega, by omega⟩ ⟨j0, j1⟩)]
        have b9 := cN_z (pFE (mR M 0 l)) (k := gI M 568 0) (by omega)
        refine bw_aload rfl rfl ?_
        refine bw_aload rfl rfl ?_
        refine bw_getr rfl rfl (cur_r hR hc) ?_
        refine bw_getI rfl rfl ?_
        rw [show gI M 372 0 = gI M 568 0 from hS.c0]
        refine bw_callSNe (e := d - 1) (as := [_, _]) rfl (by omega) rfl rfl (Nat.le_of_ble_eq_true rfl) (Nat.le_of_ble_eq_true rfl) (c_unlike (z := 96) (by decide) (kfa (L := L) (b := 12) (n := 6) (v := (20, 96)) (by decide) (by decide) ⟨by omega, by omega⟩) (by omega) (fun j j0 j1 => h.rv ⟨by omega, by omega⟩ ⟨j0, j1⟩) (by omega)) ?_
        rw [pU_cg (g := mR M 0 l) (fun j j0 j1 => h.row ⟨by omega, by omega⟩ ⟨j0, j1⟩)]
        have b8 := cN_z (pU (mR M 0 l)) (k := gI M 568 0) (by omega)
        refine bw_isub rfl ⟨by omega, by omega⟩ ?_
        refine bw_ret rfl rfl ?_
        first
        | exact ⟨rfl, _, rfl, sm_refl _ _, h, by unfold svV; rw [if_pos (by omega), pXE_0], by omega, by omega⟩
        | exact ⟨rfl, _, rfl, sm_refl _ _, h, by unfold svV; rw [if_neg (by omega), if_pos (by omega), pXE_0], by omega, by omega⟩
        | exact ⟨rfl, _, rfl, u97, i97, by unfold svV; rw [if_neg (by omega), if_neg (by omega), pXE_1 (by decide), mkV_eq v97], by omega, by omega⟩
      · skip
        refine bw_switch (t := 84) rfl (by simp [abSwT, abSw, Op.lookupswitch.offset, s11_0, show ¬ ((1 : Int) = w) from fun h => s11_0 h.symm, s11_1, show ¬ ((2 : Int) = w) from fun h => s11_1 h.symm]) ?_
        refine bw_aload rfl rfl ?_
        refine bw_aload rfl rfl ?_
        refine bw_getr rfl rfl (cur_r hR hc) ?_
        refine bw_getI rfl rfl ?_
        rw [show gI M 372 0 = gI M 568 0 from hS.c0]
        refine bw_callSNe (e := d - 1) (as := [_, _]) rfl (by omega) rfl rfl (Nat.le_of_ble_eq_true rfl) (Nat.le_of_ble_eq_true rfl) (c_exposures (z := 96) (by decide) (kfa (L := L) (b := 12) (n := 6) (v := (20, 96)) (by decide) (by decide) ⟨by omega, by omega⟩) (by omega)) ?_
        rw [pE_cg (g := mR M 0 l) (fun j j0 j1 => h.row ⟨by omega, by omega⟩ ⟨j0, j1⟩)]
        have b8 := cN_z (pE (mR M 0 l)) (k := gI M 568 0) (by omega)
        refine bw_aload rfl rfl ?_
        refine bw_iload rfl rfl ?_
        refine bw_callVi (e := d - 1) (as := [_]) rfl (by omega) rfl rfl (Nat.le_of_ble_eq_true rfl) (Nat.le_of_ble_eq_true rfl) rfl (x_marks hR (by first | exact Or.inl rfl | exact Or.inr rfl) hc h (by omega)) (fun r97 M97 hM97 => ?_)
        obtain ⟨u97, i97, v97⟩ := hM97
        have v97 := (v97.resolve_right (fun z => z.1 (by omega))).2
        have b9 := isMk_in v97 (by omega)
        refine bw_isub rfl ⟨by omega, by omega⟩ ?_
        refine bw_ret rfl rfl ?_
        first
        | exact ⟨rfl, _, rfl, sm_refl _ _, h, by unfold svV; rw [if_pos (by omega), pXE_0], by omega, by omega⟩
        | exact ⟨rfl, _, rfl, sm_refl _ _, h, by unfold svV; rw [if_neg (by omega), if_pos (by omega), pXE_0], by omega, by omega⟩
        | exact ⟨rfl, _, rfl, u97, i97, by unfold svV; rw [if_neg (by omega), if_neg (by omega), pXE_1 (by decide), mkV_eq v97], by omega, by omega⟩
  · have hS : SR M 459 (gI M 568) := by have q := h.sr; rw [hc] at q; exact q
    have b1 := h.fr
    have b2 := h.la
    have hrf := hR
    show abW d (0, 0) 135 0 [some (vr (some 0)), some (vi l), some (vi w), none] [] (0, 0) (A0 L) M (qI (A0 L) (fun x N => sm pMq M N ∧ INV r N k ∧ x = svV M w l ∧ -96 ≤ x ∧ x ≤ 96))
    refine bw_aload rfl rfl ?_
    refine bw_getr rfl rfl (hR _ _) ?_
    refine bw_getr rfl rfl (hR _ _) ?_
    refine bw_iload rfl rfl ?_
    refine bw_aldr rfl (by first | rfl | assumption) (by decide) (by omega) (by omega) ((hR _ _).trans (rr_row (fun _ => rfl) (by omega) (by omega) (by omega))) ?_
    refine bw_astore (ls2 := [_, _, _, _]) rfl rfl (Nat.le_of_ble_eq_true rfl) rfl ?_
    refine bw_iload rfl rfl ?_
    by_cases s11_0 : w = 1
    · refine bw_switch (t := 36) rfl (by rw [s11_0]; rfl) ?_
      refine bw_aload rfl rfl ?_
      refine bw_aload rfl rfl ?_
      refine bw_getr rfl rfl (cur_r hR hc) ?_
      refine bw_getI rfl rfl ?_
      rw [show gI M 459 0 = gI M 568 0 from hS.c0]
      refine bw_callSNe (e := d - 1) (as := [_, _]) rfl (by omega) rfl rfl (Nat.le_of_ble_eq_true rfl) (Nat.le_of_ble_eq_true rfl) (c_filled (z := 96) (by decide) (kfa (L := L) (b := 12) (n := 6) (v := (20, 96)) (by decide) (by decide) ⟨by omega, by omega⟩) (by omega)) ?_
      rw [pF_cg (g := mR M 0 l) (fun j j0 j1 => h.row ⟨by omega, by omega⟩ ⟨j0, j1⟩)]
      have b8 := cN_z (pF (mR M 0 l)) (k := gI M 568 0) (by omega)
      refine bw_aload rfl rfl ?_
      refine bw_aload rfl rfl ?_
      refine bw_getr rfl rfl (cur_r hR hc) ?_
      refine bw_getI rfl rfl ?_
      rw [show gI M 459 0 = gI M 568 0 from hS.c0]
      refine bw_callSNe (e := d - 1) (as := [_, _]) rfl (by omega) rfl rfl (Nat.le_of_ble_eq_true rfl) (Nat.le_of_ble_eq_true rfl) (c_filledExposures (z := 96) (by decide) (kfa (L := L) (b := 12) (n := 6) (v := (20, 96)) (by decide) (by decide) ⟨by omega, by omega⟩) (by omega)) ?_
      rw [pFE_cg (g := mR M 0 l) (fun j j0 j1 => h.row ⟨by omega, by omega⟩ ⟨j0, j1⟩)]
      have b9 := cN_z (pFE (mR M 0 l)) (k := gI M 568 0) (by omega)
      refine bw_isub rfl ⟨by omega, by omega⟩ ?_
      refine bw_ret rfl rfl ?_
      first
      | exact ⟨rfl, _, rfl, sm_refl _ _, h, by unfold svV; rw [if_pos (by omega), pXE_0], by omega, by omega⟩
      | exact ⟨rfl, _, rfl, sm_refl _ _, h, by unfold svV; rw [if_neg (by omega), if_pos (by omega), pXE_0], by omega, by omega⟩
      | exact ⟨rfl, _, rfl, u97, i97, by unfold svV; rw [if_neg (by omega), if_neg (by omega), pXE_1 (by decide), mkV_eq v97], by omega, by omega⟩
    · skip
      by_cases s11_1 : w = 2
      · refine bw_switch (t := 60) rfl (by rw [s11_1]; rfl) ?_
        refine bw_aload rfl rfl ?_
        refine bw_aload rfl rfl ?_
        refine bw_getr rfl rfl (cur_r hR hc) ?_
        refine bw_getI rfl rfl ?_
        rw [show gI M 459 0 = gI M 568 0 from hS.c0]
        refine bw_callSNe (e := d - 1) (as := [_, _]) rfl (by omega) rfl rfl (Nat.le_of_ble_eq_true rfl) (Nat.le_of_ble_eq_true rfl) (c_filledExposures (z := 96) (by decide) (kfa (L := L) (b := 12) (n := 6) (v := (20, 96)) (by decide) (by decide) ⟨by omega, by omega⟩) (by omega)) ?_
        rw [pFE_cg (g := mR M 0 l) (fun j j0 j1 => h.row ⟨by omega, by omega⟩ ⟨j0, j1⟩)]
        have b9 := cN_z (pFE (mR M 0 l)) (k := gI M 568 0) (by omega)
        refine bw_aload rfl rfl ?_
        refine bw_aload rfl rfl ?_
        refine bw_getr rfl rfl (cur_r hR hc) ?_
        refine bw_getI rfl rfl ?_
        rw [show gI M 459 0 = gI M 568 0 from hS.c0]
        refine bw_callSNe (e := d - 1) (as := [_, _]) rfl (by omega) rfl rfl (Nat.le_of_ble_eq_true rfl) (Nat.le_of_ble_eq_true rfl) (c_unlike (z := 96) (by decide) (kfa (L := L) (b := 12) (n := 6) (v := (20, 96)) (by decide) (by decide) ⟨by omega, by omega⟩) (by omega) (fun j j0 j1 => h.rv ⟨by omega, by omega⟩ ⟨j0, j1⟩) (by omega)) ?_
        rw [pU_cg (g := mR M 0 l) (fun j j0 j1 => h.row ⟨by omega, by omega⟩ ⟨j0, j1⟩)]
        have b8 := cN_z (pU (mR M 0 l)) (k := gI M 568 0) (by omega)
        refine bw_isub rfl ⟨by omega, by omega⟩ ?_
        refine bw_ret rfl rfl ?_
        first
        | exact ⟨rfl, _, rfl, sm_refl _ _, h, by unfold svV; rw [if_pos (by omega), pXE_0], by omega, by omega⟩
        | exact ⟨rfl, _, rfl, sm_refl _ _, h, by unfold svV; rw [if_neg (by omega), if_pos (by omega), pXE_0], by omega, by omega⟩
        | exact ⟨rfl, _, rfl, u97, i97, by unfold svV; rw [if_neg (by omega), if_neg (by omega), pXE_1 (by decide), mkV_eq v97], by omega, by omega⟩
      · skip
        refine bw_switch (t := 84) rfl (by simp [abSwT, abSw, Op.lookupswitch.offset, s11_0, show ¬ ((1 : Int) = w) from fun h => s11_0 h.symm, s11_1, show ¬ ((2 : Int) = w) from fun h => s11_1 h.symm]) ?_
        refine bw_aload rfl rfl ?_
        refine bw_aload rfl rfl ?_
        refine bw_getr rfl rfl (cur_r hR hc) ?_
        refine bw_getI rfl rfl ?_
        rw [show gI M 459 0 = gI M 568 0 from hS.c0]
        refine bw_callSNe (e := d - 1) (as := [_, _]) rfl (by omega) rfl rfl (Nat.le_of_ble_eq_true rfl) (Nat.le_of_ble_eq_true rfl) (c_exposures (z := 96) (by decide) (kfa (L := L) (b := 12) (n := 6) (v := (20, 96)) (by decide) (by decide) ⟨by omega, by omega⟩) (by omega)) ?_
        rw [pE_cg (g := mR M 0 l) (fun j j0 j1 => h.row ⟨by omega, by omega⟩ ⟨j0, j1⟩)]
        have b8 := cN_z (pE (mR M 0 l)) (k := gI M 568 0) (by omega)
        refine bw_aload rfl rfl ?_
        refine bw_iload rfl rfl ?_
        refine bw_callVi (e := d - 1) (as := [_]) rfl (by omega) rfl rfl (Nat.le_of_ble_eq_true rfl) (Nat.le_of_ble_eq_true rfl) rfl (x_marks hR (by first | exact Or.inl rfl | exact Or.inr rfl) hc h (by omega)) (fun r97 M97 hM97 => ?_)
        obtain ⟨u97, i97, v97⟩ := hM97
        have v97 := (v97.resolve_right (fun z => z.1 (by omega))).2
        have b9 := isMk_in v97 (by omega)
        refine bw_isub rfl ⟨by omega, by omega⟩ ?_
        refine bw_ret rfl rfl ?_
        first
        | exact ⟨rfl, _, rfl, sm_refl _ _, h, by unfold svV; rw [if_pos (by omega), pXE_0], by omega, by omega⟩
        | exact ⟨rfl, _, rfl, sm_refl _ _, h, by unfold svV; rw [if_neg (by omega), if_pos (by omega), pXE_0], by omega, by omega⟩
        | exact ⟨rfl, _, rfl, u97, i97, by unfold svV; rw [if_neg (by omega), if_neg (by omega), pXE_1 (by decide), mkV_eq v97], by omega, by omega⟩
set_option maxRecDepth 20000 in
set_option maxHeartbeats 4000000 in
theorem x_saved {d L : Nat} {M : abMem} {r : abRf} (hR : RF r M) {s : Nat} (hs : s = 372 ∨ s = 459) (hc : cur r = s) {k : Int} (h : INV r M k) {w : Int} (hk : k ≤ 900000) (hd : 7 ≤ d) : abW d (0, 0) 110 0 (abEnt (abL 110) [vr (some 0), vi w]) [] (0, 0) (A0 L) M (qI (A0 L) (fun x N => OKP r M N (k + 1) ∧ ((gI M 568 0 ≠ 0 ∧ 0 ≤ w ∧ w ≤ 3) ∧ (w = 0 ∧ x = gI M 568 0 - tk M 0 ∨ w = 1 ∧ x = sN (fun l => cN (pF (mR M 0 l)) (gI M 568 0).toNat - cN (pXE 0 (mR M 0 l)) (gI M 568 0).toNat) (gI M 568 1).toNat ∨ w = 2 ∧ x = sN (fun l => cN (pXE 0 (mR M 0 l)) (gI M 568 0).toNat - cN (pU (mR M 0 l)) (gI M 568 0).toNat) (gI M 568 1).toNat ∨ w = 3 ∧ x = sN (fun l => cN (pXE 1 (mR M 0 l)) (gI M 568 0).toNat - mkV (mR M 0 l) (gI M 568 0)) (gI M 568 1).toNat) ∨ ¬ (gI M 568 0 ≠ 0 ∧ 0 ≤ w ∧ w ≤ 3) ∧ x = -1))) := by
  rcases hs with rfl | rfl
  · have hS : SR M 372 (gI M 568) := by have q := h.sr; rw [hc] at q; exact q
    have b1 := h.fr
    have b2 := h.la
    have hrf := hR
    have L46 : ∀ (kf : Nat) (N : abMem) (c l : Int), (sm pMq M N) → (INV r N k) → (c = sN (svV M w) l.toNat ∧ -(96 * l) ≤ c ∧ c ≤ 96 * l) → (0 ≤ l ∧ l ≤ gI M 568 1) → ((gI M 568 0 ≠ 0 ∧ 0 ≤ w ∧ w ≤ 3) ∧ w ≠ 0) → ((gI M 568 1 - l).toNat) < kf → abW d (0, 0) 110 46 [some (vr (some 0)), some (vi w), some (vi c), some (vi l)] [] (0, 0) (A0 L) (N) (qI (A0 L) (fun x N => OKP r M N (k + 1) ∧ ((gI M 568 0 ≠ 0 ∧ 0 ≤ w ∧ w ≤ 3) ∧ (w = 0 ∧ x = gI M 568 0 - tk M 0 ∨ w = 1 ∧ x = sN (fun l => cN (pF (mR M 0 l)) (gI M 568 0).toNat - cN (pXE 0 (mR M 0 l)) (gI M 568 0).toNat) (gI M 568 1).toNat ∨ w = 2 ∧ x = sN (fun l => cN (pXE 0 (mR M 0 l)) (gI M 568 0).toNat - cN (pU (mR M 0 l)) (gI M 568 0).toNat) (gI M 568 1).toNat ∨ w = 3 ∧ x = sN (fun l => cN (pXE 1 (mR M 0 l)) (gI M 568 0).toNat - mkV (mR M 0 l) (gI M 568 0)) (gI M 568 1).toNat) ∨ ¬ (gI M 568 0 ≠ 0 ∧ 0 ≤ w ∧ w ≤ 3) ∧ x = -1))) := by
      intro kf
      induction kf with
      | zero => intro N  c l  g1 g2 g3 g4 g5 hm9; exact absurd hm9 (Nat.not_lt_zero _)
      | succ kf ih46 =>
        intro N  c l  g1 g2 g3 g4 g5 hm46
        have ih := ih46
        have hR := g1.RF hR
        have hS := SR_sm hS g1 (fun a a0 a1 z => by omega)
        have e8 : gI N 568 = gI M 568 := g1.at 568 (fun z => by omega)
        have e9 : gI N 569 = gI M 569 := g1.at 569 (fun z => by omega)
        refine bw_iload rfl rfl ?_
        refine bw_aload rfl rfl ?_
        refine bw_getr rfl rfl (cur_r hR hc) ?_
        refine bw_getI rfl rfl ?_
        rw [show gI N 372 2 = gI M 568 1 from hS.c2]
        refine bw_icge rfl (fun c54 => ?_) (fun c54 => ?_)
        · skip
          refine bw_iload rfl rfl ?_
          refine bw_ret rfl rfl ?_
          obtain rfl : l = gI M 568 1 := by omega
          have hOK : OKP r M N (k + 1) := ⟨r, rfl, INV_sx g2 g2.rf rfl (sx_refl (fun _ => False) N) (fun _ z => z.elim) g2.mk g2.pc (cmrO_le g2.cm (by omega)), rfS_sx g1.sc.sx (fun a z => by omega)⟩
          have sv : ∀ f : Int → Int, (∀ l : Int, svV M w l = f l) → c = sN f (gI M 568 1).toNat := fun f e => by
            rw [g3.1]
            exact sN_congr _ (fun j _ _ => e j)
          refine ⟨rfl, _, rfl, hOK, Or.inl ⟨g5.1, ?_⟩⟩
          have w9 := g5.2
          by_cases z1 : w = 1
          · exact Or.inr (Or.inl ⟨z1, sv _ (fun l => by unfold svV; rw [if_pos z1])⟩)
          · by_cases z2 : w = 2
            · exact Or.inr (Or.inr (Or.inl ⟨z2, sv _ (fun l => by unfold svV; rw [if_neg z1, if_pos z2])⟩))
            · exact Or.inr (Or.inr (Or.inr ⟨by omega, sv _ (fun l => by unfold svV; rw [if_neg z1, if_neg z2])⟩))
        · skip
          refine bw_iload rfl rfl ?_
          refine bw_aload rfl rfl ?_
          refine bw_iload rfl rfl ?_
          refine bw_iload rfl rfl ?_
          refine bw_callVi (e := d - 1) (as := [_, _]) rfl (by omega) rfl rfl (Nat.le_of_ble_eq_true rfl) (Nat.le_of_ble_eq_true rfl) rfl (c_savedOf (M := N) hR (by first | exact Or.inl rfl | exact Or.inr rfl) hc g2 (by rw [e8]; omega) (by omega)) (fun r61 M61 hM61 => ?_)
          obtain ⟨u61, i61, v61, w61⟩ := hM61
          rw [svV_e e8 e9] at v61
          refine bw_iadd rfl ⟨by omega, by omega⟩ ?_
          refine bw_istore (ls2 := [_, _, _, _]) rfl rfl (Nat.le_of_ble_eq_true rfl) rfl ?_
          refine bw_iinc (ls2 := [_, _, _, _]) rfl rfl rfl ⟨by omega, by omega⟩ rfl ?_
          refine bw_goto rfl ?_
          exact ih _ _ _ (g1.trans u61) i61 ⟨by rw [sN_s _ (by omega), ← g3.1, v61], by omega, by omega⟩ (by omega) g5 (by omega)
    show abW d (0, 0) 110 0 [some (vr (some 0)), some (vi w), none, none] [] (0, 0) (A0 L) M (qI (A0 L) (fun x N => OKP r M N (k + 1) ∧ ((gI M 568 0 ≠ 0 ∧ 0 ≤ w ∧ w ≤ 3) ∧ (w = 0 ∧ x = gI M 568 0 - tk M 0 ∨ w = 1 ∧ x = sN (fun l => cN (pF (mR M 0 l)) (gI M 568 0).toNat - cN (pXE 0 (mR M 0 l)) (gI M 568 0).toNat) (gI M 568 1).toNat ∨ w = 2 ∧ x = sN (fun l => cN (pXE 0 (mR M 0 l)) (gI M 568 0).toNat - cN (pU (mR M 0 l)) (gI M 568 0).toNat) (gI M 568 1).toNat ∨ w = 3 ∧ x = sN (fun l => cN (pXE 1 (mR M 0 l)) (gI M 568 0).toNat - mkV (mR M 0 l) (gI M 568 0)) (gI M 568 1).toNat) ∨ ¬ (gI M 568 0 ≠ 0 ∧ 0 ≤ w ∧ w ≤ 3) ∧ x = -1)))
    refine bw_aload rfl rfl ?_
    refine bw_getr rfl rfl (cur_r hR hc) ?_
    refine bw_getI rfl rfl ?_
    rw [show gI M 372 0 = gI M 568 0 from hS.c0]
    refine bw_ifeq rfl (fun c7 => ?_) (fun c7 => ?_)
    · skip
      refine bw_push rfl ?_
      refine bw_ret rfl rfl ?_
      exact ⟨rfl, _, rfl, OKP_refl h (by omega), Or.inr ⟨by omega, rfl⟩⟩
    · skip
      refine bw_iload rfl rfl ?_
      refine bw_iflt rfl (fun c11 => ?_) (fun c11 => ?_)
      · skip
        refine bw_push rfl ?_
        refine bw_ret rfl rfl ?_
        exact ⟨rfl, _, rfl, OKP_refl h (by omega), Or.inr ⟨by omega, rfl⟩⟩
      · skip
        refine bw_iload rfl rfl ?_
        refine bw_push rfl ?_
        refine bw_icle rfl (fun c16 => ?_) (fun c16 => ?_)
        · skip
          refine bw_iload rfl rfl ?_
          refine bw_ifne rfl (fun c22 => ?_) (fun c22 => ?_)
          · skip
            refine bw_push rfl ?_
            refine bw_istore (ls2 := [_, _, _, _]) rfl rfl (Nat.le_of_ble_eq_true rfl) rfl ?_
            refine bw_push rfl ?_
            refine bw_istore (ls2 := [_, _, _, _]) rfl rfl (Nat.le_of_ble_eq_true rfl) rfl ?_
            exact L46 8 M 0 0 (sm_refl _ _) h ⟨rfl, by decide, by decide⟩ (by omega) (by omega) (by omega)
          · skip
            refine bw_aload rfl rfl ?_
            refine bw_callVv (e := d - 1) (as := []) rfl (by omega) rfl rfl (Nat.le_of_ble_eq_true rfl) (Nat.le_of_ble_eq_true rfl) rfl (c_findPictures hR (by first | exact Or.inl rfl | exact Or.inr rfl) hc h (by omega) (by omega)) (fun M26 hM26 => ?_)
            obtain ⟨⟨r2, q2, i2, f2⟩, p2⟩ := hM26
            have hR := i2.rf
            have e8 : gI M26 568 = gI M 568 := f2 568 (by decide)
            have e9 : gI M26 569 = gI M 569 := f2 569 (by decide)
            have hpO := (i2.pc.resolve_left (by omega)).2
            have hc2 : cur r2 = 372 := by rw [← hc]; unfold cur; rw [q2]
            have hS : SR M26 372 (gI M 568) := by have q := i2.sr; rw [hc2, e8] at q; exact q
            have eA := alk_e e8 e9
            have hc := hc2
            have hOK : OKP r M M26 (k + 1) := ⟨r2, q2, i2, f2⟩
            refine bw_aload rfl rfl ?_
            refine bw_getr rfl rfl (cur_r hR hc) ?_
            refine bw_getI rfl rfl ?_
            rw [show gI M26 372 0 = gI M 568 0 from hS.c0]
            refine bw_aload rfl rfl ?_
            refine bw_getI rfl rfl ?_
            rw [hpO.1, tk_eq e8 e9]
            have tb := tk_in (a := 0) h.rb
            refine bw_isub rfl ⟨by omega, by omega⟩ ?_
            refine bw_ret rfl rfl ?_
            exact ⟨rfl, _, rfl, hOK, Or.inl ⟨by omega, Or.inl ⟨by omega, rfl⟩⟩⟩
        · skip
          refine bw_push rfl ?_
          refine bw_ret rfl rfl ?_
          exact ⟨rfl, _, rfl, OKP_refl h (by omega), Or.inr ⟨by omega, rfl⟩⟩
  · have hS : SR M 459 (gI M 568) := by have q := h.sr; rw [hc] at q; exact q
    have b1 := h.fr
    have b2 := h.la
    have hrf := hR
    have L46 : ∀ (kf : Nat) (N : abMem) (c l : Int), (sm pMq M N) → (INV r N k) → (c = sN (svV M w) l.toNat ∧ -(96 * l) ≤ c ∧ c ≤ 96 * l) → (0 ≤ l ∧ l ≤ gI M 568 1) → ((gI M 568 0 ≠ 0 ∧ 0 ≤ w ∧ w ≤ 3) ∧ w ≠ 0) → ((gI M 568 1 - l).toNat) < kf → abW d (0, 0) 110 46 [some (vr (some 0)), some (vi w), some (vi c), some (vi l)] [] (0, 0) (A0 L) (N) (qI (A0 L) (fun x N => OKP r M N (k + 1) ∧ ((gI M 568 0 ≠ 0 ∧ 0 ≤ w ∧ w ≤ 3) ∧ (w = 0 ∧ x = gI M 568 0 - tk M 0 ∨ w = 1 ∧ x = sN (fun l => cN (pF (mR M 0 l)) (gI M 568 0).toNat - cN (pXE 0 (mR M 0 l)) (gI M 568 0).toNat) (gI M 568 1).toNat ∨ w = 2 ∧ x = sN (fun l => cN (pXE 0 (mR M 0 l)) (gI M 568 0).toNat - cN (pU (mR M 0 l)) (gI M 568 0).toNat) (gI M 568 1).toNat ∨ w = 3 ∧ x = sN (fun l => cN (pXE 1 (mR M 0 l)) (gI M 568 0).toNat - mkV (mR M 0 l) (gI M 568 0)) (gI M 568 1).toNat) ∨ ¬ (gI M 568 0 ≠ 0 ∧ 0 ≤ w ∧ w ≤ 3) ∧ x = -1))) := by
      intro kf
      induction kf with
      | zero => intro N  c l  g1 g2 g3 g4 g5 hm9; exact absurd hm9 (Nat.not_lt_zero _)
      | succ kf ih46 =>
        intro N  c l  g1 g2 g3 g4 g5 hm46
        have ih := ih46
        have hR := g1.RF hR
        have hS := SR_sm hS g1 (fun a a0 a1 z => by omega)
        have e8 : gI N 568 = gI M 568 := g1.at 568 (fun z => by omega)
        have e9 : gI N 569 = gI M 569 := g1.at 569 (fun z => by omega)
        refine bw_iload rfl rfl ?_
        refine bw_aload rfl rfl ?_
        refine bw_getr rfl rfl (cur_r hR hc) ?_
        refine bw_getI rfl rfl ?_
        rw [show gI N 459 2 = gI M 568 1 from hS.c2]
        refine bw_icge rfl (fun c54 => ?_) (fun c54 => ?_)
        · skip
          refine bw_iload rfl rfl ?_
          refine bw_ret rfl rfl ?_
          obtain rfl : l = gI M 568 1 := by omega
          have hOK : OKP r M N (k + 1) := ⟨r, rfl, INV_sx g2 g2.rf rfl (sx_refl (fun _ => False) N) (fun _ z => z.elim) g2.mk g2.pc (cmrO_le g2.cm (by omega)), rfS_sx g1.sc.sx (fun a z => by omega)⟩
          have sv : ∀ f : Int → Int, (∀ l : Int, svV M w l = f l) → c = sN f (gI M 568 1).toNat := fun f e => by
            rw [g3.1]
            exact sN_congr _ (fun j _ _ => e j)
          refine ⟨rfl, _, rfl, hOK, Or.inl ⟨g5.1, ?_⟩⟩
          have w9 := g5.2
          by_cases z1 : w = 1
          · exact Or.inr (Or.inl ⟨z1, sv _ (fun l => by unfold svV; rw [if_pos z1])⟩)
          · by_cases z2 : w = 2
            · exact Or.inr (Or.inr (Or.inl ⟨z2, sv _ (fun l => by unfold svV; rw [if_neg z1, if_pos z2])⟩))
            · exact Or.inr (Or.inr (Or.inr ⟨by omega, sv _ (fun l => by unfold svV; rw [if_neg z1, if_neg z2])⟩))
        · skip
          refine bw_iload rfl rfl ?_
          refine bw_aload rfl rfl ?_
          refine bw_iload rfl rfl ?_
          refine bw_iload rfl rfl ?_
          refine bw_callVi (e := d - 1) (as := [_, _]) rfl (by omega) rfl rfl (Nat.le_of_ble_eq_true rfl) (Nat.le_of_ble_eq_true rfl) rfl (c_savedOf (M := N) hR (by first | exact Or.inl rfl | exact Or.inr rfl) hc g2 (by rw [e8]; omega) (by omega)) (fun r61 M61 hM61 => ?_)
          obtain ⟨u61, i61, v61, w61⟩ := hM61
          rw [svV_e e8 e9] at v61
          refine bw_iadd rfl ⟨by omega, by omega⟩ ?_
          refine bw_istore (ls2 := [_, _, _, _]) rfl rfl (Nat.le_of_ble_eq_true rfl) rfl ?_
          refine bw_iinc (ls2 := [_, _, _, _]) rfl rfl rfl ⟨by omega, by omega⟩ rfl ?_
          refine bw_goto rfl ?_
          exact ih _ _ _ (g1.trans u61) i61 ⟨by rw [sN_s _ (by omega), ← g3.1, v61], by omega, by omega⟩ (by omega) g5 (by omega)
    show abW d (0, 0) 110 0 [some (vr (some 0)), some (vi w), none, none] [] (0, 0) (A0 L) M (qI (A0 L) (fun x N => OKP r M N (k + 1) ∧ ((gI M 568 0 ≠ 0 ∧ 0 ≤ w ∧ w ≤ 3) ∧ (w = 0 ∧ x = gI M 568 0 - tk M 0 ∨ w = 1 ∧ x = sN (fun l => cN (pF (mR M 0 l)) (gI M 568 0).toNat - cN (pXE 0 (mR M 0 l)) (gI M 568 0).toNat) (gI M 568 1).toNat ∨ w = 2 ∧ x = sN (fun l => cN (pXE 0 (mR M 0 l)) (gI M 568 0).toNat - cN (pU (mR M 0 l)) (gI M 568 0).toNat) (gI M 568 1).toNat ∨ w = 3 ∧ x = sN (fun l => cN (pXE 1 (mR M 0 l)) (gI M 568 0).toNat - mkV (mR M 0 l) (gI M 568 0)) (gI M 568 1).toNat) ∨ ¬ (gI M 568 0 ≠ 0 ∧ 0 ≤ w ∧ w ≤ 3) ∧ x = -1)))
    refine bw_aload rfl rfl ?_
    refine bw_getr rfl rfl (cur_r hR hc) ?_
    refine bw_getI rfl rfl ?_
    rw [show gI M 459 0 = gI M 568 0 from hS.c0]
    refine bw_ifeq rfl (fun c7 => ?_) (fun c7 => ?_)
    · skip
      refine bw_push rfl ?_
      refine bw_ret rfl rfl ?_
      exact ⟨rfl, _, rfl, OKP_refl h (by omega), Or.inr ⟨by omega, rfl⟩⟩
    · skip
      refine bw_iload rfl rfl ?_
      refine bw_iflt rfl (fun c11 => ?_) (fun c11 => ?_)
      · skip
        refine bw_push rfl ?_
        refine bw_ret rfl rfl ?_
        exact ⟨rfl, _, rfl, OKP_refl h (by omega), Or.inr ⟨by omega, rfl⟩⟩
      · skip
        refine bw_iload rfl rfl ?_
        refine bw_push rfl ?_
        refine bw_icle rfl (fun c16 => ?_) (fun c16 => ?_)
        · skip
          refine bw_iload rfl rfl ?_
          refine bw_ifne rfl (fun c22 => ?_) (fun c22 => ?_)
          · skip
            refine bw_push rfl ?_
            refine bw_istore (ls2 := [_, _, _, _]) rfl rfl (Nat.le_of_ble_eq_true rfl) rfl ?_
            refine bw_push rfl ?_
            refine bw_istore (ls2 := [_, _, _, _]) rfl rfl (Nat.le_of_ble_eq_true rfl) rfl ?_
            exact L46 8 M 0 0 (sm_refl _ _) h ⟨rfl, by decide, by decide⟩ (by omega) (by omega) (by omega)
          · skip
            refine bw_aload rfl rfl ?_
            refine bw_callVv (e := d - 1) (as := []) rfl (by omega) rfl rfl (Nat.le_of_ble_eq_true rfl) (Nat.le_of_ble_eq_true rfl) rfl (c_findPictures hR (by first | exact Or.inl rfl | exact Or.inr rfl) hc h (by omega) (by omega)) (fun M26 hM26 => ?_)
            obtain ⟨⟨r2, q2, i2, f2⟩, p2⟩ := hM26
            have hR := i2.rf
            have e8 : gI M26 568 = gI M 568 := f2 568 (by decide)
            have e9 : gI M26 569 = gI M 569 := f2 569 (by decide)
            have hpO := (i2.pc.resolve_left (by omega)).2
            have hc2 : cur r2 = 459 := by rw [← hc]; unfold cur; rw [q2]
            have hS : SR M26 459 (gI M 568) := by have q := i2.sr; rw [hc2, e8] at q; exact q
            have eA := alk_e e8 e9
            have hc := hc2
            have hOK : OKP r M M26 (k + 1) := ⟨r2, q2, i2, f2⟩
            refine bw_aload rfl rfl ?_
            refine bw_getr rfl rfl (cur_r hR hc) ?_
            refine bw_getI rfl rfl ?_
            rw [show gI M26 459 0 = gI M 568 0 from hS.c0]
            refine bw_aload rfl rfl ?_
            refine bw_getI rfl rfl ?_
            rw [hpO.1, tk_eq e8 e9]
            have tb := tk_in (a := 0) h.rb
            refine bw_isub rfl ⟨by omega, by omega⟩ ?_
            refine bw_ret rfl rfl ?_
            exact ⟨rfl, _, rfl, hOK, Or.inl ⟨by omega, Or.inl ⟨by omega, rfl⟩⟩⟩
        · skip
          refine bw_push rfl ?_
          refine bw_ret rfl rfl ?_
          exact ⟨rfl, _, rfl, OKP_refl h (by omega), Or.inr ⟨by omega, rfl⟩⟩
