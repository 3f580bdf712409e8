set_option maxRecDepth 20000 in
set_option maxHeartbeats 4000000 in
theorem c_readCel {d L : Nat} {M : abMem} {r : abRf} (hR : RF r M) {a : Int → Int} {n : Int} (hT : TP M a n) {p : Int} (hA : TA M a n p) {s : Nat} (hs : s = 372 ∨ s = 459) {S : Int → Int} (hS : SR M s S) (hr : r.2.1 = some s) (h2 : S 2 ≤ 39) (hd : 7 ≤ d) : abW d (0, 0) 47 0 (abEnt (abL 47) [vr (some 3)]) [] (0, 0) (A0 L) M (qI (A0 L) (fun x N => (∃ e : Int × Int, (clS S a n (.inr p)).1 = .inl e ∧ x = 0 ∧ FA pG M a n e N) ∨ (∃ q : Int, (clS S a n (.inr p)).1 = .inr q ∧ x = 1 ∧ GO (pGs s) M a n q N ∧ SR N s (clS S a n (.inr p)).2))) := by
  rcases hs with rfl | rfl
  · have w0 := hS.sw.fr
    have w1 := hS.sw.la
    have w2 := hS.sw.bo
    have w3 := hS.sw.sl
    have w4 := hS.sw.hi
    have w5 := hS.sw.st
    have hF : sq pG M M := sq_refl _ _
    have hRM := hR
    have hSM := hS
    show abW d (0, 0) 47 0 [some (vr (some 3)), none] [] (0, 0) (A0 L) M (qI (A0 L) (fun x N => (∃ e : Int × Int, (clS S a n (.inr p)).1 = .inl e ∧ x = 0 ∧ FA pG M a n e N) ∨ (∃ q : Int, (clS S a n (.inr p)).1 = .inr q ∧ x = 1 ∧ GO (pGs 372) M a n q N ∧ SR N 372 (clS S a n (.inr p)).2)))
    refine bw_aload rfl rfl ?_
    refine bw_callVi (e := d - 1) (as := []) rfl (by omega) rfl rfl (Nat.le_of_ble_eq_true rfl) (Nat.le_of_ble_eq_true rfl) rfl (c_needOwner hR hT hA (by first | exact Or.inl rfl | exact Or.inr rfl) hS hr (by omega)) (fun r1 M1 hM1 => ?_)
    rcases hM1 with ⟨e, h1, rfl, f1⟩ | ⟨q1, l1, h1, rfl, g1, o4, b1⟩
    · skip
      have hz : (clS S a n (.inr p)).1 = .inl e := by simp only [clS, cl6, cl5, cl4, cl3, cl2, cl1, cl0, h1, woS_l, nuS_l]
      have hX : FA pG M a n e M1 := ⟨hF.1.trans (f1.1.mono pP_R), f1.2⟩
      refine bw_ifne rfl (fun c => absurd c (by decide)) (fun _ => ?_)
      refine bw_push rfl ?_
      refine bw_retz rfl rfl (by omega) ?_
      exact ⟨rfl, _, rfl, Or.inl ⟨e, hz, rfl, hX⟩⟩
    · skip
      have hS := SR_sm hS g1.1.1 (fun c c0 c1 => no_P (by omega))
      have hF := hF.trans (g1.1.mono pP_R)
      have hR := g1.1.RF hR
      have hT := g1.2.1
      have hA := g1.2.2
      refine bw_ifne rfl (fun _ => ?_) (fun c => (c (by decide)).elim)
      refine bw_aload rfl rfl ?_
      refine bw_getr rfl rfl (hR _ _) ?_
      refine bw_push rfl ?_
      refine bw_aload rfl rfl ?_
      refine bw_getI rfl rfl ?_
      rw [o4]
      refine bw_asti rfl (by first | rfl | assumption) (by omega) (by omega) ?_
      obtain ⟨G, hG⟩ : ∃ G, G = sI M1 9 0 l1 := ⟨_, rfl⟩
      rw [← hG]
      have v18 : sm (fun c => c = 9) M1 G := by rw [hG]; exact (sm_refl _ _).sI 0 _ rfl
      have hR := v18.RF hR
      have hT := TP_s2 hT v18 (by decide) (by decide)
      have hA := TA_sm hA v18 (by decide)
      have hS := SR_sm hS v18 (fun c c0 c1 k => by have : c = 9 := k; omega)
      have hF := hF.trans ((sq_of v18 (by decide)).mono (fun c k => Or.inr (Or.inr k)))
      have n0 : gI G 9 0 = l1 := by rw [hG, gI_sI_eq]
      refine bw_aload rfl rfl ?_
      refine bw_push rfl ?_
      refine bw_push rfl ?_
      refine bw_push rfl ?_
      refine bw_callVi (e := d - 1) (as := [_, _, _]) rfl (by omega) rfl rfl (Nat.le_of_ble_eq_true rfl) (Nat.le_of_ble_eq_true rfl) rfl (c_needNumber hR hT hA (by omega) (by omega)) (fun r24 M24 hM24 => ?_)
      rcases hM24 with ⟨e, h24, rfl, f24⟩ | ⟨q24, v24, h24, rfl, g24, b24, k24⟩
      · skip
        have hz : (clS S a n (.inr p)).1 = .inl e := by simp only [clS, cl6, cl5, cl4, cl3, cl2, cl1, cl0, h1, h24, woS_l, nuS_l]
        have hX : FA pG M a n e M24 := ⟨hF.1.trans (f24.1.mono pP_R), f24.2⟩
        refine bw_ifeq rfl (fun _ => ?_) (fun c => (c (by decide)).elim)
        refine bw_push rfl ?_
        refine bw_istore (ls2 := [_, _]) rfl rfl (Nat.le_of_ble_eq_true rfl) rfl ?_
        refine bw_iload rfl rfl ?_
        refine bw_ifeq rfl (fun c120 => ?_) (fun c120 => ?_)
        · first
          | (exfalso; omega)
          | (refine bw_iload rfl rfl ?_
             refine bw_retz rfl rfl (by omega) ?_
             first
             | exact ⟨rfl, _, rfl, Or.inl ⟨e, hz, rfl, hX⟩⟩
             | exact ⟨rfl, _, rfl, Or.inr ⟨q107, by rw [eH], rfl, ⟨hF.mono (fun c k => Or.inl k) |>.trans ((sq_of hM131.1 (fun k => by have := k.1; omega)).mono (fun c k => Or.inr k)), TP_s2 hT hM131.1 (fun k => by have := k.1; omega) (fun k => by have := k.1; omega), TA_sm hA hM131.1 (fun k => by have := k.1; omega)⟩, by rw [eH]; exact hM131.2⟩⟩)
        · first
          | (exfalso; omega)
          | (refine bw_aload rfl rfl ?_
             refine bw_getr rfl rfl ((hR _ _).trans hr) ?_
             refine bw_aload rfl rfl ?_
             refine bw_getr rfl rfl (hR _ _) ?_
             have eH : clS S a n (.inr p) = (.inr q107, up (bxU S l1 v24 v44 v55 v75 v86 v107) 2 (S 2 + 1)) := by
               have e : clU S a n (.inr p) = bxU S l1 v24 v44 v55 v75 v86 v107 := by unfold clU; simp only [cl6, cl5, cl4, cl3, cl2, cl1, cl0, h1, h24, h33, h44, h55, h64, h75, h86, h95, h107]
               unfold clS
               rw [e, bxU_lo w2.1 (by decide)]
               simp only [cl6, cl5, cl4, cl3, cl2, cl1, cl0, h1, h24, h33, h44, h55, h64, h75, h86, h95, h107]
             have hW := sw_bx hS.sw h2 b1 b24 b44 b55 b75 b86 b107
             refine bw_callVNv (e := d - 1) (as := [_]) rfl (by omega) rfl rfl (Nat.le_of_ble_eq_true rfl) (Nat.le_of_ble_eq_true rfl) rfl (c_addBox (M := M107) hR (by first | exact Or.inl rfl | exact Or.inr rfl) hS (by rw [n0, n1, n2, n3, n4, n5, n6]; exact hW) h2 (by rw [n0]; exact b1) (by rw [n1]; exact b24) (by omega)) (fun M131 hM131 => ?_)
             rw [n0, n1, n2, n3, n4, n5, n6] at hM131
             refine bw_iload rfl rfl ?_
             refine bw_retz rfl rfl (by omega) ?_
             first
             | exact ⟨rfl, _, rfl, Or.inl ⟨e, hz, rfl, hX⟩⟩
             | exact ⟨rfl, _, rfl, Or.inr ⟨q107, by rw [eH], rfl, ⟨hF.mono (fun c k => Or.inl k) |>.trans ((sq_of hM131.1 (fun k => by have := k.1; omega)).mono (fun c k => Or.inr k)), TP_s2 hT hM131.1 (fun k => by have := k.1; omega) (fun k => by have := k.1; omega), TA_sm hA hM131.1 (fun k => by have := k.1; omega)⟩, by rw [eH]; exact hM131.2⟩⟩)
      · skip
        have n0 : gI M24 9 0 = l1 := by rw [k24, up_ne (by decide)]; exact n0
        have n1 : gI M24 9 1 = v24 := by rw [k24, up_eq rfl]
        have hS := SR_sm hS g24.1.1 (fun c c0 c1 => no_N (by omega))
        have hF := hF.trans (g24.1.mono pN_R)
        have hR := g24.1.RF hR
        have hT := g24.2.1
        have hA := g24.2.2
        refine bw_ifeq rfl (fun c => absurd c (by decide)) (fun _ => ?_)
        refine bw_aload rfl rfl ?_
        refine bw_ldcs rfl ?_
        refine bw_callVi (e := d - 1) (as := [_]) rfl (by omega) rfl rfl (Nat.le_of_ble_eq_true rfl) (Nat.le_of_ble_eq_true rfl) rfl (c_needWord (i := 12) hR hT hA (by decide) (by omega)) (fun r33 M33 hM33 => ?_)
        rcases hM33 with ⟨e, h33, rfl, f33⟩ | ⟨q33, h33, rfl, g33⟩
        · have h33 : woS a n 6 (.inr q24) = .inl e := h33
          have hz : (clS S a n (.inr p)).1 = .inl e := by simp only [clS, cl6, cl5, cl4, cl3, cl2, cl1, cl0, h1, h24, h33, woS_l, nuS_l]
          have hX : FA pG M a n e M33 := ⟨hF.1.trans (f33.1.mono pP_R), f33.2⟩
          refine bw_ifeq rfl (fun _ => ?_) (fun c => (c (by decide)).elim)
          refine bw_push rfl ?_
          refine bw_istore (ls2 := [_, _]) rfl rfl (Nat.le_of_ble_eq_true rfl) rfl ?_
          refine bw_iload rfl rfl ?_
          refine bw_ifeq rfl (fun c120 => ?_) (fun c120 => ?_)
          · first
            | (exfalso; omega)
            | (refine bw_iload rfl rfl ?_
               refine bw_retz rfl rfl (by omega) ?_
               first
               | exact ⟨rfl, _, rfl, Or.inl ⟨e, hz, rfl, hX⟩⟩
               | exact ⟨rfl, _, rfl, Or.inr ⟨q107, by rw [eH], rfl, ⟨hF.mono (fun c k => Or.inl k) |>.trans ((sq_of hM131.1 (fun k => by have := k.1; omega)).mono (fun c k => Or.inr k)), TP_s2 hT hM131.1 (fun k => by have := k.1; omega) (fun k => by have := k.1; omega), TA_sm hA hM131.1 (fun k => by have := k.1; omega)⟩, by rw [eH]; exact hM131.2⟩⟩)
          · first
            | (exfalso; omega)
            | (refine bw_aload rfl rfl ?_
               refine bw_getr rfl rfl ((hR _ _).trans hr) ?_
               refine bw_aload rfl rfl ?_
               refine bw_getr rfl rfl (hR _ _) ?_
               have eH : clS S a n (.inr p) = (.inr q107, up (bxU S l1 v24 v44 v55 v75 v86 v107) 2 (S 2 + 1)) := by
                 have e : clU S a n (.inr p) = bxU S l1 v24 v44 v55 v75 v86 v107 := by unfold clU; simp only [cl6, cl5, cl4, cl3, cl2, cl1, cl0, h1, h24, h33, h44, h55, h64, h75, h86, h95, h107]
                 unfold clS
                 rw [e, bxU_lo w2.1 (by decide)]
                 simp only [cl6, cl5, cl4, cl3, cl2, cl1, cl0, h1, h24, h33, h44, h55, h64, h75, h86, h95, h107]
               have hW := sw_bx hS.sw h2 b1 b24 b44 b55 b75 b86 b107
               refine bw_callVNv (e := d - 1) (as := [_]) rfl (by omega) rfl rfl (Nat.le_of_ble_eq_true rfl) (Nat.le_of_ble_eq_true rfl) rfl (c_addBox (M := M107) hR (by first | exact Or.inl rfl | exact Or.inr rfl) hS (by rw [n0, n1, n2, n3, n4, n5, n6]; exact hW) h2 (by rw [n0]; exact b1) (by rw [n1]; exact b24) (by omega)) (fun M131 hM131 => ?_)
               rw [n0, n1, n2, n3, n4, n5, n6] at hM131
               refine bw_iload rfl rfl ?_
               refine bw_retz rfl rfl (by omega) ?_
               first
               | exact ⟨rfl, _, rfl, Or.inl ⟨e, hz, rfl, hX⟩⟩
               | exact ⟨rfl, _, rfl, Or.inr ⟨q107, by rw [eH], rfl, ⟨hF.mono (fun c k => Or.inl k) |>.trans ((sq_of hM131.1 (fun k => by have := k.1; omega)).mono (fun c k => Or.inr k)), TP_s2 hT hM131.1 (fun k => by have := k.1; omega) (fun k => by have := k.1; omega), TA_sm hA hM131.1 (fun k => by have := k.1; omega)⟩, by rw [eH]; exact hM131.2⟩⟩)
        · have h33 : woS a n 6 (.inr q24) = .inr q33 := h33
          have n0 : gI M33 9 0 = l1 := by rw [g33.1.at 9 (by decide)]; exact n0
          have n1 : gI M33 9 1 = v24 := by rw [g33.1.at 9 (by decide)]; exact n1
          have hS := SR_sm hS g33.1.1 (fun c c0 c1 => no_T (by omega))
          have hF := hF.trans (g33.1.mono pT_R)
          have hR := g33.1.RF hR
          have hT := g33.2.1
          have hA := g33.2.2
          refine bw_ifeq rfl (fun c => absurd c (by decide)) (fun _ => ?_)
          refine bw_aload rfl rfl ?_
          refine bw_push rfl ?_
          refine bw_push rfl ?_
          refine bw_push rfl ?_
          refine bw_callVi (e := d - 1) (as := [_, _, _]) rfl (by omega) rfl rfl (Nat.le_of_ble_eq_true rfl) (Nat.le_of_ble_eq_true rfl) rfl (c_needNumber hR hT hA (by omega) (by omega)) (fun r44 M44 hM44 => ?_)
          rcases hM44 with ⟨e, h44, rfl, f44⟩ | ⟨q44, v44, h44, rfl, g44, b44, k44⟩
          · skip
            have hz : (clS S a n (.inr p)).1 = .inl e := by simp only [clS, cl6, cl5, cl4, cl3, cl2, cl1, cl0, h1, h24, h33, h44, woS_l, nuS_l]
            have hX : FA pG M a n e M44 := ⟨hF.1.trans (f44.1.mono pP_R), f44.2⟩
            refine bw_ifeq rfl (fun _ => ?_) (fun c => (c (by decide)).elim)
            refine bw_push rfl ?_
            refine bw_istore (ls2 := [_, _]) rfl rfl (Nat.le_of_ble_eq_true rfl) rfl ?_
            refine bw_iload rfl rfl ?_
            refine bw_ifeq rfl (fun c120 => ?_) (fun c120 => ?_)
            · first
              | (exfalso; omega)
              | (refine bw_iload rfl rfl ?_
                 refine bw_retz rfl rfl (by omega) ?_
                 first
                 | exact ⟨rfl, _, rfl, Or.inl ⟨e, hz, rfl, hX⟩⟩
                 | exact ⟨rfl, _, rfl, Or.inr ⟨q107, by rw [eH], rfl, ⟨hF.mono (fun c k => Or.inl k) |>.trans ((sq_of hM131.1 (fun k => by have := k.1; omega)).mono (fun c k => Or.inr k)), TP_s2 hT hM131.1 (fun k => by have := k.1; omega) (fun k => by have := k.1; omega), TA_sm hA hM131.1 (fun k => by have := k.1; omega)⟩, by rw [eH]; exact hM131.2⟩⟩)
            · first
              | (exfalso; omega)
              | (refine bw_aload rfl rfl ?_
                 refine bw_getr rfl rfl ((hR _ _).trans hr) ?_
                 refine bw_aload rfl rfl ?_
                 refine bw_getr rfl rfl (hR _ _) ?_
                 have eH : clS S a n (.inr p) = (.inr q107, up (bxU S l1 v24 v44 v55 v75 v86 v107) 2 (S 2 + 1)) := by
                   have e : clU S a n (.inr p) = bxU S l1 v24 v44 v55 v75 v86 v107 := by unfold clU; simp only [cl6, cl5, cl4, cl3, cl2, cl1, cl0, h1, h24, h33, h44, h55, h64, h75, h86, h95, h107]
                   unfold clS
                   rw [e, bxU_lo w2.1 (by decide)]
                   simp only [cl6, cl5, cl4, cl3, cl2, cl1, cl0, h1, h24, h33, h44, h55, h64, h75, h86, h95, h107]
                 have hW := sw_bx hS.sw h2 b1 b24 b44 b55 b75 b86 b107
                 refine bw_callVNv (e := d - 1) (as := [_]) rfl (by omega) rfl rfl (Nat.le_of_ble_eq_true rfl) (Nat.le_of_ble_eq_true rfl) rfl (c_addBox (M := M107) hR (by first | exact Or.inl rfl | exact Or.inr rfl) hS (by rw [n0, n1, n2, n3, n4, n5, n6]; exact hW) h2 (by rw [n0]; exact b1) (by rw [n1]; exact b24) (by omega)) (fun M131 hM131 => ?_)
                 rw [n0, n1, n2, n3, n4, n5, n6] at hM131
                 refine bw_iload rfl rfl ?_
                 refine bw_retz rfl rfl (by omega) ?_
                 first
                 | exact ⟨rfl, _, rfl, Or.inl ⟨e, hz, rfl, hX⟩⟩
                 | exact ⟨rfl, _, rfl, Or.inr ⟨q107, by rw [eH], rfl, ⟨hF.mono (fun c k => Or.inl k) |>.trans ((sq_of hM131.1 (fun k => by have := k.1; omega)).mono (fun c k => Or.inr k)), TP_s2 hT hM131.1 (fun k => by have := k.1; omega) (fun k => by have := k.1; omega), TA_sm hA hM131.1 (fun k => by have := k.1; omega)⟩, by rw [eH]; exact hM131.2⟩⟩)
          · skip
            have n0 : gI M44 9 0 = l1 := by rw [k44, up_ne (by decide)]; exact n0
            have n1 : gI M44 9 1 = v24 := by rw [k44, up_ne (by decide)]; exact n1
            have n2 : gI M44 9 2 = v44 := by rw [k44, up_eq rfl]
            have hS := SR_sm hS g44.1.1 (fun c c0 c1 => no_N (by omega))
            have hF := hF.trans (g44.1.mono pN_R)
            have hR := g44.1.RF hR
            have hT := g44.2.1
            have hA := g44.2.2
            refine bw_ifeq rfl (fun c => absurd c (by decide)) (fun _ => ?_)
            refine bw_aload rfl rfl ?_
            refine bw_push rfl ?_
            refine bw_push rfl ?_
            refine bw_push rfl ?_
            refine bw_callVi (e := d - 1) (as := [_, _, _]) rfl (by omega) rfl rfl (Nat.le_of_ble_eq_true rfl) (Nat.le_of_ble_eq_true rfl) rfl (c_needNumber hR hT hA (by omega) (by omega)) (fun r55 M55 hM55 => ?_)
            rcases hM55 with ⟨e, h55, rfl, f55⟩ | ⟨q55, v55, h55, rfl, g55, b55, k55⟩
            · skip
              have hz : (clS S a n (.inr p)).1 = .inl e := by simp only [clS, cl6, cl5, cl4, cl3, cl2, cl1, cl0, h1, h24, h33, h44, h55, woS_l, nuS_l]
              have hX : FA pG M a n e M55 := ⟨hF.1.trans (f55.1.mono pP_R), f55.2⟩
              refine bw_ifeq rfl (fun _ => ?_) (fun c => (c (by decide)).elim)
              refine bw_push rfl ?_
              refine bw_istore (ls2 := [_, _]) rfl rfl (Nat.le_of_ble_eq_true rfl) rfl ?_
              refine bw_iload rfl rfl ?_
              refine bw_ifeq rfl (fun c120 => ?_) (fun c120 => ?_)
              · first
                | (exfalso; omega)
                | (refine bw_iload rfl rfl ?_
                   refine bw_retz rfl rfl (by omega) ?_
                   first
                   | exact ⟨rfl, _, rfl, Or.inl ⟨e, hz, rfl, hX⟩⟩
                   | exact ⟨rfl, _, rfl, Or.inr ⟨q107, by rw [eH], rfl, ⟨hF.mono (fun c k => Or.inl k) |>.trans ((sq_of hM131.1 (fun k => by have := k.1; omega)).mono (fun c k => Or.inr k)), TP_s2 hT hM131.1 (fun k => by have := k.1; omega) (fun k => by have := k.1; omega), TA_sm hA hM131.1 (fun k => by have := k.1; omega)⟩, by rw [eH]; exact hM131.2⟩⟩)
              · first
                | (exfalso; omega)
                | (refine bw_aload rfl rfl ?_
                   refine bw_getr rfl rfl ((hR _ _).trans hr) ?_
                   refine bw_aload rfl rfl ?_
                   refine bw_getr rfl rfl (hR _ _) ?_
                   have eH : clS S a n (.inr p) = (.inr q107, up (bxU S l1 v24 v44 v55 v75 v86 v107) 2 (S 2 + 1)) := by
                     have e : clU S a n (.inr p) = bxU S l1 v24 v44 v55 v75 v86 v107 := by unfold clU; simp only [cl6, cl5, cl4, cl3, cl2, cl1, cl0, h1, h24, h33, h44, h55, h64, h75, h86, h95, h107]
                     unfold clS
                     rw [e, bxU_lo w2.1 (by decide)]
                     simp only [cl6, cl5, cl4, cl3, cl2, cl1, cl0, h1, h24, h33, h44, h55, h64, h75, h86, h95, h107]
                   have hW := sw_bx hS.sw h2 b1 b24 b44 b55 b75 b86 b107
                   refine bw_callVNv (e := d - 1) (as := [_]) rfl (by omega) rfl rfl (Nat.le_of_ble_eq_true rfl) (Nat.le_of_ble_eq_true rfl) rfl (c_addBox (M := M107) hR (by first | exact Or.inl rfl | exact Or.inr rfl) hS (by rw [n0, n1, n2, n3, n4, n5, n6]; exact hW) h2 (by rw [n0]; exact b1) (by rw [n1]; exact b24) (by omega)) (fun M131 hM131 => ?_)
                   rw [n0, n1, n2, n3, n4, n5, n6] at hM131
                   refine bw_iload rfl rfl ?_
                   refine bw_retz rfl rfl (by omega) ?_
                   first
                   | exact ⟨rfl, _, rfl, Or.inl ⟨e, hz, rfl, hX⟩⟩
                   | exact ⟨rfl, _, rfl, Or.inr ⟨q107, by rw [eH], rfl, ⟨hF.mono (fun c k => Or.inl k) |>.trans ((sq_of hM131.1 (fun k => by have := k.1; omega)).mono (fun c k => Or.inr k)), TP_s2 hT hM131.1 (fun k => by have := k.1; omega) (fun k => by have := k.1; omega), TA_sm hA hM131.1 (fun k => by have := k.1; omega)⟩, by rw [eH]; exact hM131.2⟩⟩)
            · skip
              have n0 : gI M55 9 0 = l1 := by rw [k55, up_ne (by decide)]; exact n0
              have n1 : gI M55 9 1 = v24 := by rw [k55, up_ne (by decide)]; exact n1
              have n2 : gI M55 9 2 = v44 := by rw [k55, up_ne (by decide)]; exact n2
              have n3 : gI M55 9 3 = v55 := by rw [k55, up_eq rfl]
              have hS := SR_sm hS g55.1.1 (fun c c0 c1 => no_N (by omega))
              have hF := hF.trans (g55.1.mono pN_R)
              have hR := g55.1.RF hR
              have hT := g55.2.1
              have hA := g55.2.2
              refine bw_ifeq rfl (fun c => absurd c (by decide)) (fun _ => ?_)
              refine bw_aload rfl rfl ?_
              refine bw_ldcs rfl ?_
              refine bw_callVi (e := d - 1) (as := [_]) rfl (by omega) rfl rfl (Nat.le_of_ble_eq_true rfl) (Nat.le_of_ble_eq_true rfl) rfl (c_needWord (i := 13) hR hT hA (by decide) (by omega)) (fun r64 M64 hM64 => ?_)
              rcases hM64 with ⟨e, h64, rfl, f64⟩ | ⟨q64, h64, rfl, g64⟩
              · have h64 : woS a n 7 (.inr q55) = .inl e := h64
                have hz : (clS S a n (.inr p)).1 = .inl e := by simp only [clS, cl6, cl5, cl4, cl3, cl2, cl1, cl0, h1, h24, h33, h44, h55, h64, woS_l, nuS_l]
                have hX : FA pG M a n e M64 := ⟨hF.1.trans (f64.1.mono pP_R), f64.2⟩
                refine bw_ifeq rfl (fun _ => ?_) (fun c => (c (by decide)).elim)
                refine bw_push rfl ?_
                refine bw_istore (ls2 := [_, _]) rfl rfl (Nat.le_of_ble_eq_true rfl) rfl ?_
                refine bw_iload rfl rfl ?_
                refine bw_ifeq rfl (fun c120 => ?_) (fun c120 => ?_)
                · first
                  | (exfalso; omega)
                  | (refine bw_iload rfl rfl ?_
                     refine bw_retz rfl rfl (by omega) ?_
                     first
                     | exact ⟨rfl, _, rfl, Or.inl ⟨e, hz, rfl, hX⟩⟩
                     | exact ⟨rfl, _, rfl, Or.inr ⟨q107, by rw [eH], rfl, ⟨hF.mono (fun c k => Or.inl k) |>.trans ((sq_of hM131.1 (fun k => by have := k.1; omega)).mono (fun c k => Or.inr k)), TP_s2 hT hM131.1 (fun k => by have := k.1; omega) (fun k => by have := k.1; omega), TA_sm hA hM131.1 (fun k => by have := k.1; omega)⟩, by rw [eH]; exact hM131.2⟩⟩)
                · first
                  | (exfalso; omega)
                  | (refine bw_aload rfl rfl ?_
                     refine bw_getr rfl rfl ((hR _ _).trans hr) ?_
                     refine bw_aload rfl rfl ?_
                     refine bw_getr rfl rfl (hR _ _) ?_
                     have eH : clS S a n (.inr p) = (.inr q107, up (bxU S l1 v24 v44 v55 v75 v86 v107) 2 (S 2 + 1)) := by
                       have e : clU S a n (.inr p) = bxU S l1 v24 v44 v55 v75 v86 v107 := by unfold clU; simp only [cl6, cl5, cl4, cl3, cl2, cl1, cl0, h1, h24, h33, h44, h55, h64, h75, h86, h95, h107]
                       unfold clS
                       rw [e, bxU_lo w2.1 (by decide)]
                       simp only [cl6, cl5, cl4, cl3, cl2, cl1, cl0, h1, h24, h33, h44, h55, h64, h75, h86, h95, h107]
                     have hW := sw_bx hS.sw h2 b1 b24 b44 b55 b75 b86 b107
                     refine bw_callVNv (e := d - 1) (as := [_]) rfl (by omega) rfl rfl (Nat.le_of_ble_eq_true rfl) (Nat.le_of_ble_eq_true rfl) rfl (c_addBox (M := M107) hR (by first | exact Or.inl rfl | exact Or.inr rfl) hS (by rw [n0, n1, n2, n3, n4, n5, n6]; exact hW) h2 (by rw [n0]; exact b1) (by rw [n1]; exact b24) (by omega)) (fun M131 hM131 => ?_)
                     rw [n0, n1, n2, n3, n4, n5, n6] at hM131
                     refine bw_iload rfl rfl ?_
                     refine bw_retz rfl rfl (by omega) ?_
                     first
                     | exact ⟨rfl, _, rfl, Or.inl ⟨e, hz, rfl, hX⟩⟩
                     | exact ⟨rfl, _, rfl, Or.inr ⟨q107, by rw [eH], rfl, ⟨hF.mono (fun c k => Or.inl k) |>.trans ((sq_of hM131.1 (fun k => by have := k.1; omega)).mono (fun c k => Or.inr k)), TP_s2 hT hM131.1 (fun k => by have := k.1; omega) (fun k => by have := k.1; omega), TA_sm hA hM131.1 (fun k => by have := k.1; omega)⟩, by rw [eH]; exact hM131.2⟩⟩)
              · have h64 : woS a n 7 (.inr q55) = .inr q64 := h64
                have n0 : gI M64 9 0 = l1 := by rw [g64.1.at 9 (by decide)]; exact n0
                have n1 : gI M64 9 1 = v24 := by rw [g64.1.at 9 (by decide)]; exact n1
                have n2 : gI M64 9 2 = v44 := by rw [g64.1.at 9 (by decide)]; exact n2
                have n3 : gI M64 9 3 = v55 := by rw [g64.1.at 9 (by decide)]; exact n3
                have hS := SR_sm hS g64.1.1 (fun c c0 c1 => no_T (by omega))
                have hF := hF.trans (g64.1.mono pT_R)
                have hR := g64.1.RF hR
                have hT := g64.2.1
                have hA := g64.2.2
                refine bw_ifeq rfl (fun c => absurd c (by decide)) (fun _ => ?_)
                refine bw_aload rfl rfl ?_
                refine bw_push rfl ?_
                refine bw_push rfl ?_
                refine bw_push rfl ?_
                refine bw_callVi (e := d - 1) (as := [_, _, _]) rfl (by omega) rfl rfl (Nat.le_of_ble_eq_true rfl) (Nat.le_of_ble_eq_true rfl) rfl (c_needNumber hR hT hA (by omega) (by omega)) (fun r75 M75 hM75 => ?_)
                rcases hM75 with ⟨e, h75, rfl, f75⟩ | ⟨q75, v75, h75, rfl, g75, b75, k75⟩
                · skip
                  have hz : (clS S a n (.inr p)).1 = .inl e := by simp only [clS, cl6, cl5, cl4, cl3, cl2, cl1, cl0, h1, h24, h33, h44, h55, h64, h75, woS_l, nuS_l]
                  have hX : FA pG M a n e M75 := ⟨hF.1.trans (f75.1.mono pP_R), f75.2⟩
                  refine bw_ifeq rfl (fun _ => ?_) (fun c => (c (by decide)).elim)
                  refine bw_push rfl ?_
                  refine bw_istore (ls2 := [_, _]) rfl rfl (Nat.le_of_ble_eq_true rfl) rfl ?_
                  refine bw_iload rfl rfl ?_
                  refine bw_ifeq rfl (fun c120 => ?_) (fun c120 => ?_)
                  · first
                    | (exfalso; omega)
                    | (refine bw_iload rfl rfl ?_
                       refine bw_retz rfl rfl (by omega) ?_
                       first
                       | exact ⟨rfl, _, rfl, Or.inl ⟨e, hz, rfl, hX⟩⟩
                       | exact ⟨rfl, _, rfl, Or.inr ⟨q107, by rw [eH], rfl, ⟨hF.mono (fun c k => Or.inl k) |>.trans ((sq_of hM131.1 (fun k => by have := k.1; omega)).mono (fun c k => Or.inr k)), TP_s2 hT hM131.1 (fun k => by have := k.1; omega) (fun k => by have := k.1; omega), TA_sm hA hM131.1 (fun k => by have := k.1; omega)⟩, by rw [eH]; exact hM131.2⟩⟩)
                  · first
                    | (exfalso; omega)
                    | (refine bw_aload rfl rfl ?_
                       refine bw_getr rfl rfl ((hR _ _).trans hr) ?_
                       refine bw_aload rfl rfl ?_
                       refine bw_getr rfl rfl (hR _ _) ?_
                       have eH : clS S a n (.inr p) = (.inr q107, up (bxU S l1 v24 v44 v55 v75 v86 v107) 2 (S 2 + 1)) := by
                         have e : clU S a n (.inr p) = bxU S l1 v24 v44 v55 v75 v86 v107 := by unfold clU; simp only [cl6, cl5, cl4, cl3, cl2, cl1, cl0, h1, h24, h33, h44, h55, h64, h75, h86, h95, h107]
                         unfold clS
                         rw [e, bxU_lo w2.1 (by decide)]
                         simp only [cl6, cl5, cl4, cl3, cl2, cl1, cl0, h1, h24, h33, h44, h55, h64, h75, h86, h95, h107]
                       have hW := sw_bx hS.sw h2 b1 b24 b44 b55 b75 b86 b107
                       refine bw_callVNv (e := d - 1) (as := [_]) rfl (by omega) rfl rfl (Nat.le_of_ble_eq_true rfl) (Nat.le_of_ble_eq_true rfl) rfl (c_addBox (M := M107) hR (by first | exact Or.inl rfl | exact Or.inr rfl) hS (by rw [n0, n1, n2, n3, n4, n5, n6]; exact hW) h2 (by rw [n0]; exact b1) (by rw [n1]; exact b24) (by omega)) (fun M131 hM131 => ?_)
                       rw [n0, n1, n2, n3, n4, n5, n6] at hM131
                       refine bw_iload rfl rfl ?_
                       refine bw_retz rfl rfl (by omega) ?_
                       first
                       | exact ⟨rfl, _, rfl, Or.inl ⟨e, hz, rfl, hX⟩⟩
                       | exact ⟨rfl, _, rfl, Or.inr ⟨q107, by rw [eH], rfl, ⟨hF.mono (fun c k => Or.inl k) |>.trans ((sq_of hM131.1 (fun k => by have := k.1; omega)).mono (fun c k => Or.inr k)), TP_s2 hT hM131.1 (fun k => by have := k.1; omega) (fun k => by have := k.1; omega), TA_sm hA hM131.1 (fun k => by have := k.1; omega)⟩, by rw [eH]; exact hM131.2⟩⟩)
                · skip
                  have n0 : gI M75 9 0 = l1 := by rw [k75, up_ne (by decide)]; exact n0
                  have n1 : gI M75 9 1 = v24 := by rw [k75, up_ne (by decide)]; exact n1
                  have n2 : gI M75 9 2 = v44 := by rw [k75, up_ne (by decide)]; exact n2
                  have n3 : gI M75 9 3 = v55 := by rw [k75, up_ne (by decide)]; exact n3
                  have n4 : gI M75 9 4 = v75 := by rw [k75, up_eq rfl]
                  have hS := SR_sm hS g75.1.1 (fun c c0 c1 => no_N (by omega))
                  have hF := hF.trans (g75.1.mono pN_R)
                  have hR := g75.1.RF hR
                  have hT := g75.2.1
                  have hA := g75.2.2
                  refine bw_ifeq rfl (fun c => absurd c (by decide)) (fun _ => ?_)
                  refine bw_aload rfl rfl ?_
                  refine bw_push rfl ?_
                  refine bw_push rfl ?_
                  refine bw_push rfl ?_
                  refine bw_callVi (e := d - 1) (as := [_, _, _]) rfl (by omega) rfl rfl (Nat.le_of_ble_eq_true rfl) (Nat.le_of_ble_eq_true rfl) rfl (c_needNumber hR hT hA (by omega) (by omega)) (fun r86 M86 hM86 => ?_)
                  rcases hM86 with ⟨e, h86, rfl, f86⟩ | ⟨q86, v86, h86, rfl, g86, b86, k86⟩
                  · skip
                    have hz : (clS S a n (.inr p)).1 = .inl e := by simp only [clS, cl6, cl5, cl4, cl3, cl2, cl1, cl0, h1, h24, h33, h44, h55, h64, h75, h86, woS_l, nuS_l]
                    have hX : FA pG M a n e M86 := ⟨hF.1.trans (f86.1.mono pP_R), f86.2⟩
                    refine bw_ifeq rfl (fun _ => ?_) (fun c => (c (by decide)).elim)
                    refine bw_push rfl ?_
                    refine bw_istore (ls2 := [_, _]) rfl rfl (Nat.le_of_ble_eq_true rfl) rfl ?_
                    refine bw_iload rfl rfl ?_
                    refine bw_ifeq rfl (fun c120 => ?_) (fun c120 => ?_)
                    · first
                      | (exfalso; omega)
                      | (refine bw_iload rfl rfl ?_
                         refine bw_retz rfl rfl (by omega) ?_
                         first
                         | exact ⟨rfl, _, rfl, Or.inl ⟨e, hz, rfl, hX⟩⟩
                         | exact ⟨rfl, _, rfl, Or.inr ⟨q107, by rw [eH], rfl, ⟨hF.mono (fun c k => Or.inl k) |>.trans ((sq_of hM131.1 (fun k => by have := k.1; omega)).mono (fun c k => Or.inr k)), TP_s2 hT hM131.1 (fun k => by have := k.1; omega) (fun k => by have := k.1; omega), TA_sm hA hM131.1 (fun k => by have := k.1; omega)⟩, by rw [eH]; exact hM131.2⟩⟩)
                    · first
                      | (exfalso; omega)
                      | (refine bw_aload rfl rfl ?_
                         refine bw_getr rfl rfl ((hR _ _).trans hr) ?_
                         refine bw_aload rfl rfl ?_
                         refine bw_getr rfl rfl (hR _ _) ?_
                         have eH : clS S a n (.inr p) = (.inr q107, up (bxU S l1 v24 v44 v55 v75 v86 v107) 2 (S 2 + 1)) := by
                           have e : clU S a n (.inr p) = bxU S l1 v24 v44 v55 v75 v86 v107 := by unfold clU; simp only [cl6, cl5, cl4, cl3, cl2, cl1, cl0, h1, h24, h33, h44, h55, h64, h75, h86, h95, h107]
                           unfold clS
                           rw [e, bxU_lo w2.1 (by decide)]
                           simp only [cl6, cl5, cl4, cl3, cl2, cl1, cl0, h1, h24, h33, h44, h55, h64, h75, h86, h95, h107]
                         have hW := sw_bx hS.sw h2 b1 b24 b44 b55 b75 b86 b107
                         refine bw_callVNv (e := d - 1) (as := [_]) rfl (by omega) rfl rfl (Nat.le_of_ble_eq_true rfl) (Nat.le_of_ble_eq_true rfl) rfl (c_addBox (M := M107) hR (by first | exact Or.inl rfl | exact Or.inr rfl) hS (by rw [n0, n1, n2, n3, n4, n5, n6]; exact hW) h2 (by rw [n0]; exact b1) (by rw [n1]; exact b24) (by omega)) (fun M131 hM131 => ?_)
                         rw [n0, n1, n2, n3, n4, n5, n6] at hM131
                         refine bw_iload rfl rfl ?_
                         refine bw_retz rfl rfl (by omega) ?_
                         first
                         | exact ⟨rfl, _, rfl, Or.inl ⟨e, hz, rfl, hX⟩⟩
                         | exact ⟨rfl, _, rfl, Or.inr ⟨q107, by rw [eH], rfl, ⟨hF.mono (fun c k => Or.inl k) |>.trans ((sq_of hM131.1 (fun k => by have := k.1; omega)).mono (fun c k => Or.inr k)), TP_s2 hT hM131.1 (fun k => by have := k.1; omega) (fun k => by have := k.1; omega), TA_sm hA hM131.1 (fun k => by have := k.1; omega)⟩, by rw [eH]; exact hM131.2⟩⟩)
                  · skip
                    have n0 : gI M86 9 0 = l1 := by rw [k86, up_ne (by decide)]; exact n0
                    have n1 : gI M86 9 1 = v24 := by rw [k86, up_ne (by decide)]; exact n1
                    have n2 : gI M86 9 2 = v44 := by rw [k86, up_ne (by decide)]; exact n2
                    have n3 : gI M86 9 3 = v55 := by rw [k86, up_ne (by decide)]; exact n3
                    have n4 : gI M86 9 4 = v75 := by rw [k86, up_ne (by decide)]; exact n4
                    have n5 : gI M86 9 5 = v86 := by rw [k86, up_eq rfl]
                    have hS := SR_sm hS g86.1.1 (fun c c0 c1 => no_N (by omega))
                    have hF := hF.trans (g86.1.mono pN_R)
                    have hR := g86.1.RF hR
                    have hT := g86.2.1
                    have hA := g86.2.2
                    refine bw_ifeq rfl (fun c => absurd c (by decide)) (fun _ => ?_)
                    refine bw_aload rfl rfl ?_
                    refine bw_ldcs rfl ?_
                    refine bw_callVi (e := d - 1) (as := [_]) rfl (by omega) rfl rfl (Nat.le_of_ble_eq_true rfl) (Nat.le_of_ble_eq_true rfl) rfl (c_needWord (i := 14) hR hT hA (by decide) (by omega)) (fun r95 M95 hM95 => ?_)
                    rcases hM95 with ⟨e, h95, rfl, f95⟩ | ⟨q95, h95, rfl, g95⟩
                    · have h95 : woS a n 8 (.inr q86) = .inl e := h95
                      have hz : (clS S a n (.inr p)).1 = .inl e := by simp only [clS, cl6, cl5, cl4, cl3, cl2, cl1, cl0, h1, h24, h33, h44, h55, h64, h75, h86, h95, woS_l, nuS_l]
                      have hX : FA pG M a n e M95 := ⟨hF.1.trans (f95.1.mono pP_R), f95.2⟩
                      refine bw_ifeq rfl (fun _ => ?_) (fun c => (c (by decide)).elim)
                      refine bw_push rfl ?_
                      refine bw_istore (ls2 := [_, _]) rfl rfl (Nat.le_of_ble_eq_true rfl) rfl ?_
                      refine bw_iload rfl rfl ?_
                      refine bw_ifeq rfl (fun c120 => ?_) (fun c120 => ?_)
                      · first
                        | (exfalso; omega)
                        | (refine bw_iload rfl rfl ?_
                           refine bw_retz rfl rfl (by omega) ?_
                           first
                           | exact ⟨rfl, _, rfl, Or.inl ⟨e, hz, rfl, hX⟩⟩
                           | exact ⟨rfl, _, rfl, Or.inr ⟨q107, by rw [eH], rfl, ⟨hF.mono (fun c k => Or.inl k) |>.trans ((sq_of hM131.1 (fun k => by have := k.1; omega)).mono (fun c k => Or.inr k)), TP_s2 hT hM131.1 (fun k => by have := k.1; omega) (fun k => by have := k.1; omega), TA_sm hA hM131.1 (fun k => by have := k.1; omega)⟩, by rw [eH]; exact hM131.2⟩⟩)
                      · first
                        | (exfalso; omega)
                        | (refine bw_aload rfl rfl ?_
                           refine bw_getr rfl rfl ((hR _ _).trans hr) ?_
                           refine bw_aload rfl rfl ?_
                           refine bw_getr rfl rfl (hR _ _) ?_
                           have eH : clS S a n (.inr p) = (.inr q107, up (bxU S l1 v24 v44 v55 v75 v86 v107) 2 (S 2 + 1)) := by
                             have e : clU S a n (.inr p) = bxU S l1 v24 v44 v55 v75 v86 v107 := by unfold clU; simp only [cl6, cl5, cl4, cl3, cl2, cl1, cl0, h1, h24, h33, h44, h55, h64, h75, h86, h95, h107]
                             unfold clS
                             rw [e, bxU_lo w2.1 (by decide)]
                             simp only [cl6, cl5, cl4, cl3, cl2, cl1, cl0, h1, h24, h33, h44, h55, h64, h75, h86, h95, h107]
                           have hW := sw_bx hS.sw h2 b1 b24 b44 b55 b75 b86 b107
                           refine bw_callVNv (e := d - 1) (as := [_]) rfl (by omega) rfl rfl (Nat.le_of_ble_eq_true rfl) (Nat.le_of_ble_eq_true rfl) rfl (c_addBox (M := M107) hR (by first | exact Or.inl rfl | exact Or.inr rfl) hS (by rw [n0, n1, n2, n3, n4, n5, n6]; exact hW) h2 (by rw [n0]; exact b1) (by rw [n1]; exact b24) (by omega)) (fun M131 hM131 => ?_)
                           rw [n0, n1, n2, n3, n4, n5, n6] at hM131
                           refine bw_iload rfl rfl ?_
                           refine bw_retz rfl rfl (by omega) ?_
                           first
                           | exact ⟨rfl, _, rfl, Or.inl ⟨e, hz, rfl, hX⟩⟩
                           | exact ⟨rfl, _, rfl, Or.inr ⟨q107, by rw [eH], rfl, ⟨hF.mono (fun c k => Or.inl k) |>.trans ((sq_of hM131.1 (fun k => by have := k.1; omega)).mono (fun c k => Or.inr k)), TP_s2 hT hM131.1 (fun k => by have := k.1; omega) (fun k => by have := k.1; omega), TA_sm hA hM131.1 (fun k => by have := k.1; omega)⟩, by rw [eH]; exact hM131.2⟩⟩)
                    · have h95 : woS a n 8 (.inr q86) = .inr q95 := h95
                      have n0 : gI M95 9 0 = l1 := by rw [g95.1.at 9 (by decide)]; exact n0
                      have n1 : gI M95 9 1 = v24 := by rw [g95.1.at 9 (by decide)]; exact n1
                      have n2 : gI M95 9 2 = v44 := by rw [g95.1.at 9 (by decide)]; exact n2
                      have n3 : gI M95 9 3 = v55 := by rw [g95.1.at 9 (by decide)]; exact n3
                      have n4 : gI M95 9 4 = v75 := by rw [g95.1.at 9 (by decide)]; exact n4
                      have n5 : gI M95 9 5 = v86 := by rw [g95.1.at 9 (by decide)]; exact n5
                      have hS := SR_sm hS g95.1.1 (fun c c0 c1 => no_T (by omega))
                      have hF := hF.trans (g95.1.mono pT_R)
                      have hR := g95.1.RF hR
                      have hT := g95.2.1
                      have hA := g95.2.2
                      refine bw_ifeq rfl (fun c => absurd c (by decide)) (fun _ => ?_)
                      refine bw_aload rfl rfl ?_
                      refine bw_push rfl ?_
                      refine bw_push rfl ?_
                      refine bw_push rfl ?_
                      refine bw_callVi (e := d - 1) (as := [_, _, _]) rfl (by omega) rfl rfl (Nat.le_of_ble_eq_true rfl) (Nat.le_of_ble_eq_true rfl) rfl (c_needNumber hR hT hA (by omega) (by omega)) (fun r107 M107 hM107 => ?_)
                      rcases hM107 with ⟨e, h107, rfl, f107⟩ | ⟨q107, v107, h107, rfl, g107, b107, k107⟩
                      · skip
                        have hz : (clS S a n (.inr p)).1 = .inl e := by simp only [clS, cl6, cl5, cl4, cl3, cl2, cl1, cl0, h1, h24, h33, h44, h55, h64, h75, h86, h95, h107, woS_l, nuS_l]
                        have hX : FA pG M a n e M107 := ⟨hF.1.trans (f107.1.mono pP_R), f107.2⟩
                        refine bw_ifeq rfl (fun _ => ?_) (fun c => (c (by decide)).elim)
                        refine bw_push rfl ?_
                        refine bw_istore (ls2 := [_, _]) rfl rfl (Nat.le_of_ble_eq_true rfl) rfl ?_
                        refine bw_iload rfl rfl ?_
                        refine bw_ifeq rfl (fun c120 => ?_) (fun c120 => ?_)
                        · first
                          | (exfalso; omega)
                          | (refine bw_iload rfl rfl ?_
                             refine bw_retz rfl rfl (by omega) ?_
                             first
                             | exact ⟨rfl, _, rfl, Or.inl ⟨e, hz, rfl, hX⟩⟩
                             | exact ⟨rfl, _, rfl, Or.inr ⟨q107, by rw [eH], rfl, ⟨hF.mono (fun c k => Or.inl k) |>.trans ((sq_of hM131.1 (fun k => by have := k.1; omega)).mono (fun c k => Or.inr k)), TP_s2 hT hM131.1 (fun k => by have := k.1; omega) (fun k => by have := k.1; omega), TA_sm hA hM131.1 (fun k => by have := k.1; omega)⟩, by rw [eH]; exact hM131.2⟩⟩)
                        · first
                          | (exfalso; omega)
                          | (refine bw_aload rfl rfl ?_
                             refine bw_getr rfl rfl ((hR _ _).trans hr) ?_
                             refine bw_aload rfl rfl ?_
                             refine bw_getr rfl rfl (hR _ _) ?_
                             have eH : clS S a n (.inr p) = (.inr q107, up (bxU S l1 v24 v44 v55 v75 v86 v107) 2 (S 2 + 1)) := by
                               have e : clU S a n (.inr p) = bxU S l1 v24 v44 v55 v75 v86 v107 := by unfold clU; simp only [cl6, cl5, cl4, cl3, cl2, cl1, cl0, h1, h24, h33, h44, h55, h64, h75, h86, h95, h107]
                               unfold clS
                               rw [e, bxU_lo w2.1 (by decide)]
                               simp only [cl6, cl5, cl4, cl3, cl2, cl1, cl0, h1, h24, h33, h44, h55, h64, h75, h86, h95, h107]
                             have hW := sw_bx hS.sw h2 b1 b24 b44 b55 b75 b86 b107
                             refine bw_callVNv (e := d - 1) (as := [_]) rfl (by omega) rfl rfl (Nat.le_of_ble_eq_true rfl) (Nat.le_of_ble_eq_true rfl) rfl (c_addBox (M := M107) hR (by first | exact Or.inl rfl | exact Or.inr rfl) hS (by rw [n0, n1, n2, n3, n4, n5, n6]; exact hW) h2 (by rw [n0]; exact b1) (by rw [n1]; exact b24) (by omega)) (fun M131 hM131 => ?_)
                             rw [n0, n1, n2, n3, n4, n5, n6] at hM131
                             refine bw_iload rfl rfl ?_
                             refine bw_retz rfl rfl (by omega) ?_
                             first
                             | exact ⟨rfl, _, rfl, Or.inl ⟨e, hz, rfl, hX⟩⟩
                             | exact ⟨rfl, _, rfl, Or.inr ⟨q107, by rw [eH], rfl, ⟨hF.mono (fun c k => Or.inl k) |>.trans ((sq_of hM131.1 (fun k => by have := k.1; omega)).mono (fun c k => Or.inr k)), TP_s2 hT hM131.1 (fun k => by have := k.1; omega) (fun k => by have := k.1; omega), TA_sm hA hM131.1 (fun k => by have := k.1; omega)⟩, by rw [eH]; exact hM131.2⟩⟩)
                      · skip
                        have n0 : gI M107 9 0 = l1 := by rw [k107, up_ne (by decide)]; exact n0
                        have n1 : gI M107 9 1 = v24 := by rw [k107, up_ne (by decide)]; exact n1
                        have n2 : gI M107 9 2 = v44 := by rw [k107, up_ne (by decide)]; exact n2
                        have n3 : gI M107 9 3 = v55 := by rw [k107, up_ne (by decide)]; exact n3
                        have n4 : gI M107 9 4 = v75 := by rw [k107, up_ne (by decide)]; exact n4
                        have n5 : gI M107 9 5 = v86 := by rw [k107, up_ne (by decide)]; exact n5
                        have n6 : gI M107 9 6 = v107 := by rw [k107, up_eq rfl]
                        have hS := SR_sm hS g107.1.1 (fun c c0 c1 => no_N (by omega))
                        have hF := hF.trans (g107.1.mono pN_R)
                        have hR := g107.1.RF hR
                        have hT := g107.2.1
                        have hA := g107.2.2
                        refine bw_ifeq rfl (fun c => absurd c (by decide)) (fun _ => ?_)
                        refine bw_push rfl ?_
                        refine bw_goto rfl ?_
                        refine bw_istore (ls2 := [_, _]) rfl rfl (Nat.le_of_ble_eq_true rfl) rfl ?_
                        refine bw_iload rfl rfl ?_
                        refine bw_ifeq rfl (fun c120 => ?_) (fun c120 => ?_)
                        · first
                          | (exfalso; omega)
                          | (refine bw_iload rfl rfl ?_
                             refine bw_retz rfl rfl (by omega) ?_
                             first
                             | exact ⟨rfl, _, rfl, Or.inl ⟨e, hz, rfl, hX⟩⟩
                             | exact ⟨rfl, _, rfl, Or.inr ⟨q107, by rw [eH], rfl, ⟨hF.mono (fun c k => Or.inl k) |>.trans ((sq_of hM131.1 (fun k => by have := k.1; omega)).mono (fun c k => Or.inr k)), TP_s2 hT hM131.1 (fun k => by have := k.1; omega) (fun k => by have := k.1; omega), TA_sm hA hM131.1 (fun k => by have := k.1; omega)⟩, by rw [eH]; exact hM131.2⟩⟩)
                        · first
                          | (exfalso; omega)
                          | (refine bw_aload rfl rfl ?_
                             refine bw_getr rfl rfl ((hR _ _).trans hr) ?_
                             refine bw_aload rfl rfl ?_
                             refine bw_getr rfl rfl (hR _ _) ?_
                             have eH : clS S a n (.inr p) = (.inr q107, up (bxU S l1 v24 v44 v55 v75 v86 v107) 2 (S 2 + 1)) := by
                               have e : clU S a n (.inr p) = bxU S l1 v24 v44 v55 v75 v86 v107 := by unfold clU; simp only [cl6, cl5, cl4, cl3, cl2, cl1, cl0, h1, h24, h33, h44, h55, h64, h75, h86, h95, h107]
                               unfold clS
                               rw [e, bxU_lo w2.1 (by decide)]
                               simp only [cl6, cl5, cl4, cl3, cl2, cl1, cl0, h1, h24, h33, h44, h55, h64, h75, h86, h95, h107]
                             have hW := sw_bx hS.sw h2 b1 b24 b44 b55 b75 b86 b107
                             refine bw_callVNv (e := d - 1) (as := [_]) rfl (by omega) rfl rfl (Nat.le_of_ble_eq_true rfl) (Nat.le_of_ble_eq_true rfl) rfl (c_addBox (M := M107) hR (by first | exact Or.inl rfl | exact Or.inr rfl) hS (by rw [n0, n1, n2, n3, n4, n5, n6]; exact hW) h2 (by rw [n0]; exact b1) (by rw [n1]; exact b24) (by omega)) (fun M131 hM131 => ?_)
                             rw [n0, n1, n2, n3, n4, n5, n6] at hM131
                             refine bw_iload rfl rfl ?_
                             refine bw_retz rfl rfl (by omega) ?_
                             first
                             | exact ⟨rfl, _, rfl, Or.inl ⟨e, hz, rfl, hX⟩⟩
                             | exact ⟨rfl, _, rfl, Or.inr ⟨q107, by rw [eH], rfl, ⟨hF.mono (fun c k => Or.inl k) |>.trans ((sq_of hM131.1 (fun k => by have := k.1; omega)).mono (fun c k => Or.inr k)), TP_s2 hT hM131.1 (fun k => by have := k.1; omega) (fun k => by have := k.1; omega), TA_sm hA hM131.1 (fun k => by have := k.1; omega)⟩, by rw [eH]; exact hM131.2⟩⟩)
  · have w0 := hS.sw.fr
    have w1 := hS.sw.la
    have w2 := hS.sw.bo
    have w3 := hS.sw.sl
    have w4 := hS.sw.hi
    have w5 := hS.sw.st
    have hF : sq pG M M := sq_refl _ _
    have hRM := hR
    have hSM := hS
    show abW d (0, 0) 47 0 [some (vr (some 3)), none] [] (0, 0) (A0 L) M (qI (A0 L) (fun x N => (∃ e : Int × Int, (clS S a n (.inr p)).1 = .inl e ∧ x = 0 ∧ FA pG M a n e N) ∨ (∃ q : Int, (clS S a n (.inr p)).1 = .inr q ∧ x = 1 ∧ GO (pGs 459) M a n q N ∧ SR N 459 (clS S a n (.inr p)).2)))
    refine bw_aload rfl rfl ?_
    refine bw_callVi (e := d - 1) (as := []) rfl (by omega) rfl rfl (Nat.le_of_ble_eq_true rfl) (Nat.le_of_ble_eq_true rfl) rfl (c_needOwner hR hT hA (by first | exact Or.inl rfl | exact Or.inr rfl) hS hr (by omega)) (fun r1 M1 hM1 => ?_)
    rcases hM1 with ⟨e, h1, rfl, f1⟩ | ⟨q1, l1, h1, rfl, g1, o4, b1⟩
    · skip
      have hz : (clS S a n (.inr p)).1 = .inl e := by simp only [clS, cl6, cl5, cl4, cl3, cl2, cl1, cl0, h1, woS_l, nuS_l]
      have hX : FA pG M a n e M1 := ⟨hF.1.trans (f1.1.mono pP_R), f1.2⟩
      refine bw_ifne rfl (fun c => absurd c (by decide)) (fun _ => ?_)
      refine bw_push rfl ?_
      refine bw_retz rfl rfl (by omega) ?_
      exact ⟨rfl, _, rfl, Or.inl ⟨e, hz, rfl, hX⟩⟩
    · skip
      have hS := SR_sm hS g1.1.1 (fun c c0 c1 => no_P (by omega))
      have hF := hF.trans (g1.1.mono pP_R)
      have hR := g1.1.RF hR
      have hT := g1.2.1
      have hA := g1.2.2
      refine bw_ifne rfl (fun _ => ?_) (fun c => (c (by decide)).elim)
      refine bw_aload rfl rfl ?_
      refine bw_getr rfl rfl (hR _ _) ?_
      refine bw_push rfl ?_
      refine bw_aload rfl rfl ?_
      refine bw_getI rfl rfl ?_
      rw [o4]
      refine bw_asti rfl (by first | rfl | assumption) (by omega) (by omega) ?_
      obtain ⟨G, hG⟩ : ∃ G, G = sI M1 9 0 l1 := ⟨_, rfl⟩
      rw [← hG]
      have v18 : sm (fun c => c = 9) M1 G := by rw [hG]; exact (sm_refl _ _).sI 0 _ rfl
      have hR := v18.RF hR
      have hT := TP_s2 hT v18 (by decide) (by decide)
      have hA := TA_sm hA v18 (by decide)
      have hS := SR_sm hS v18 (fun c c0 c1 k => by have : c = 9 := k; omega)
      have hF := hF.trans ((sq_of v18 (by decide)).mono (fun c k => Or.inr (Or.inr k)))
      have n0 : gI G 9 0 = l1 := by rw [hG, gI_sI_eq]
      refine bw_aload rfl rfl ?_
      refine bw_push rfl ?_
      refine bw_push rfl ?_
      refine bw_push rfl ?_
      refine bw_callVi (e := d - 1) (as := [_, _, _]) rfl (by omega) rfl rfl (Nat.le_of_ble_eq_true rfl) (Nat.le_of_ble_eq_true rfl) rfl (c_needNumber hR hT hA (by omega) (by omega)) (fun r24 M24 hM24 => ?_)
      rcases hM24 with ⟨e, h24, rfl, f24⟩ | ⟨q24, v24, h24, rfl, g24, b24, k24⟩
      · skip
        have hz : (clS S a n (.inr p)).1 = .inl e := by simp only [clS, cl6, cl5, cl4, cl3, cl2, cl1, cl0, h1, h24, woS_l, nuS_l]
        have hX : FA pG M a n e M24 := ⟨hF.1.trans (f24.1.mono pP_R), f24.2⟩
        refine bw_ifeq rfl (fun _ => ?_) (fun c => (c (by decide)).elim)
        refine bw_push rfl ?_
        refine bw_istore (ls2 := [_, _]) rfl rfl (Nat.le_of_ble_eq_true rfl) rfl ?_
        refine bw_iload rfl rfl ?_
        refine bw_ifeq rfl (fun c120 => ?_) (fun c120 => ?_)
        · first
          | (exfalso; omega)
          | (refine bw_iload rfl rfl ?_
             refine bw_retz rfl rfl (by omega) ?_
             first
             | exact ⟨rfl, _, rfl, Or.inl ⟨e, hz, rfl, hX⟩⟩
             | exact ⟨rfl, _, rfl, Or.inr ⟨q107, by rw [eH], rfl, ⟨hF.mono (fun c k => Or.inl k) |>.trans ((sq_of hM131.1 (fun k => by have := k.1; omega)).mono (fun c k => Or.inr k)), TP_s2 hT hM131.1 (fun k => by have := k.1; omega) (fun k => by have := k.1; omega), TA_sm hA hM131.1 (fun k => by have := k.1; omega)⟩, by rw [eH]; exact hM131.2⟩⟩)
        · first
          | (exfalso; omega)
          | (refine bw_aload rfl rfl ?_
             refine bw_getr rfl rfl ((hR _ _).trans hr) ?_
             refine bw_aload rfl rfl ?_
             refine bw_getr rfl rfl (hR _ _) ?_
             have eH : clS S a n (.inr p) = (.inr q107, up (bxU S l1 v24 v44 v55 v75 v86 v107) 2 (S 2 + 1)) := by
               have e : clU S a n (.inr p) = bxU S l1 v24 v44 v55 v75 v86 v107 := by unfold clU; simp only [cl6, cl5, cl4, cl3, cl2, cl1, cl0, h1, h24, h33, h44, h55, h64, h75, h86, h95, h107]
               unfold clS
               rw [e, bxU_lo w2.1 (by decide)]
               simp only [cl6, cl5, cl4, cl3, cl2, cl1, cl0, h1, h24, h33, h44, h55, h64, h75, h86, h95, h107]
             have hW := sw_bx hS.sw h2 b1 b24 b44 b55 b75 b86 b107
             refine bw_callVNv (e := d - 1) (as := [_]) rfl (by omega) rfl rfl (Nat.le_of_ble_eq_true rfl) (Nat.le_of_ble_eq_true rfl) rfl (c_addBox (M := M107) hR (by first | exact Or.inl rfl | exact Or.inr rfl) hS (by rw [n0, n1, n2, n3, n4, n5, n6]; exact hW) h2 (by rw [n0]; exact b1) (by rw [n1]; exact b24) (by omega)) (fun M131 hM131 => ?_)
             rw [n0, n1, n2, n3, n4, n5, n6] at hM131
             refine bw_iload rfl rfl ?_
             refine bw_retz rfl rfl (by omega) ?_
             first
             | exact ⟨rfl, _, rfl, Or.inl ⟨e, hz, rfl, hX⟩⟩
             | exact ⟨rfl, _, rfl, Or.inr ⟨q107, by rw [eH], rfl, ⟨hF.mono (fun c k => Or.inl k) |>.trans ((sq_of hM131.1 (fun k => by have := k.1; omega)).mono (fun c k => Or.inr k)), TP_s2 hT hM131.1 (fun k => by have := k.1; omega) (fun k => by have := k.1; omega), TA_sm hA hM131.1 (fun k => by have := k.1; omega)⟩, by rw [eH]; exact hM131.2⟩⟩)
      · skip
        have n0 : gI M24 9 0 = l1 := by rw [k24, up_ne (by decide)]; exact n0
        have n1 : gI M24 9 1 = v24 := by rw [k24, up_eq rfl]
        have hS := SR_sm hS g24.1.1 (fun c c0 c1 => no_N (by omega))
        have hF := hF.trans (g24.1.mono pN_R)
        have hR := g24.1.RF hR
        have hT := g24.2.1
        have hA := g24.2.2
        refine bw_ifeq rfl (fun c => absurd c (by decide)) (fun _ => ?_)
        refine bw_aload rfl rfl ?_
        refine bw_ldcs rfl ?_
        refine bw_callVi (e := d - 1) (as := [_]) rfl (by omega) rfl rfl (Nat.le_of_ble_eq_true rfl) (Nat.le_of_ble_eq_true rfl) rfl (c_needWord (i := 12) hR hT hA (by decide) (by omega)) (fun r33 M33 hM33 => ?_)
        rcases hM33 with ⟨e, h33, rfl, f33⟩ | ⟨q33, h33, rfl, g33⟩
        · have h33 : woS a n 6 (.inr q24) = .inl e := h33
          have hz : (clS S a n (.inr p)).1 = .inl e := by simp only [clS, cl6, cl5, cl4, cl3, cl2, cl1, cl0, h1, h24, h33, woS_l, nuS_l]
          have hX : FA pG M a n e M33 := ⟨hF.1.trans (f33.1.mono pP_R), f33.2⟩
          refine bw_ifeq rfl (fun _ => ?_) (fun c => (c (by decide)).elim)
          refine bw_push rfl ?_
          refine bw_istore (ls2 := [_, _]) rfl rfl (Nat.le_of_ble_eq_true rfl) rfl ?_
          refine bw_iload rfl rfl ?_
          refine bw_ifeq rfl (fun c120 => ?_) (fun c120 => ?_)
          · first
            | (exfalso; omega)
            | (refine bw_iload rfl rfl ?_
               refine bw_retz rfl rfl (by omega) ?_
               first
               | exact ⟨rfl, _, rfl, Or.inl ⟨e, hz, rfl, hX⟩⟩
               | exact ⟨rfl, _, rfl, Or.inr ⟨q107, by rw [eH], rfl, ⟨hF.mono (fun c k => Or.inl k) |>.trans ((sq_of hM131.1 (fun k => by have := k.1; omega)).mono (fun c k => Or.inr k)), TP_s2 hT hM131.1 (fun k => by have := k.1; omega) (fun k => by have := k.1; omega), TA_sm hA hM131.1 (fun k => by have := k.1; omega)⟩, by rw [eH]; exact hM131.2⟩⟩)
          · first
            | (exfalso; omega)
            | (refine bw_aload rfl rfl ?_
               refine bw_getr rfl rfl ((hR _ _).trans hr) ?_
               refine bw_aload rfl rfl ?_
               refine bw_getr rfl rfl (hR _ _) ?_
               have eH : clS S a n (.inr p) = (.inr q107, up (bxU S l1 v24 v44 v55 v75 v86 v107) 2 (S 2 + 1)) := by
                 have e : clU S a n (.inr p) = bxU S l1 v24 v44 v55 v75 v86 v107 := by unfold clU; simp only [cl6, cl5, cl4, cl3, cl2, cl1, cl0, h1, h24, h33, h44, h55, h64, h75, h86, h95, h107]
                 unfold clS
                 rw [e, bxU_lo w2.1 (by decide)]
                 simp only [cl6, cl5, cl4, cl3, cl2, cl1, cl0, h1, h24, h33, h44, h55, h64, h75, h86, h95, h107]
               have hW := sw_bx hS.sw h2 b1 b24 b44 b55 b75 b86 b107
               refine bw_callVNv (e := d - 1) (as := [_]) rfl (by omega) rfl rfl (Nat.le_of_ble_eq_true rfl) (Nat.le_of_ble_eq_true rfl) rfl (c_addBox (M := M107) hR (by first | exact Or.inl rfl | exact Or.inr rfl) hS (by rw [n0, n1, n2, n3, n4, n5, n6]; exact hW) h2 (by rw [n0]; exact b1) (by rw [n1]; exact b24) (by omega)) (fun M131 hM131 => ?_)
               rw [n0, n1, n2, n3, n4, n5, n6] at hM131
               refine bw_iload rfl rfl ?_
               refine bw_retz rfl rfl (by omega) ?_
               first
               | exact ⟨rfl, _, rfl, Or.inl ⟨e, hz, rfl, hX⟩⟩
               | exact ⟨rfl, _, rfl, Or.inr ⟨q107, by rw [eH], rfl, ⟨hF.mono (fun c k => Or.inl k) |>.trans ((sq_of hM131.1 (fun k => by have := k.1; omega)).mono (fun c k => Or.inr k)), TP_s2 hT hM131.1 (fun k => by have := k.1; omega) (fun k => by have := k.1; omega), TA_sm hA hM131.1 (fun k => by have := k.1; omega)⟩, by rw [eH]; exact hM131.2⟩⟩)
        · have h33 : woS a n 6 (.inr q24) = .inr q33 := h33
          have n0 : gI M33 9 0 = l1 := by rw [g33.1.at 9 (by decide)]; exact n0
          have n1 : gI M33 9 1 = v24 := by rw [g33.1.at 9 (by decide)]; exact n1
          have hS := SR_sm hS g33.1.1 (fun c c0 c1 => no_T (by omega))
          have hF := hF.trans (g33.1.mono pT_R)
          have hR := g33.1.RF hR
          have hT := g33.2.1
          have hA := g33.2.2
          refine bw_ifeq rfl (fun c => absurd c (by decide)) (fun _ => ?_)
          refine bw_aload rfl rfl ?_
          refine bw_push rfl ?_
          refine bw_push rfl ?_
          refine bw_push rfl ?_
          refine bw_callVi (e := d - 1) (as := [_, _, _]) rfl (by omega) rfl rfl (Nat.le_of_ble_eq_true rfl) (Nat.le_of_ble_eq_true rfl) rfl (c_needNumber hR hT hA (by omega) (by omega)) (fun r44 M44 hM44 => ?_)
          rcases hM44 with ⟨e, h44, rfl, f44⟩ | ⟨q44, v44, h44, rfl, g44, b44, k44⟩
          · skip
            have hz : (clS S a n (.inr p)).1 = .inl e := by simp only [clS, cl6, cl5, cl4, cl3, cl2, cl1, cl0, h1, h24, h33, h44, woS_l, nuS_l]
            have hX : FA pG M a n e M44 := ⟨hF.1.trans (f44.1.mono pP_R), f44.2⟩
            refine bw_ifeq rfl (fun _ => ?_) (fun c => (c (by decide)).elim)
            refine bw_push rfl ?_
            refine bw_istore (ls2 := [_, _]) rfl rfl (Nat.le_of_ble_eq_true rfl) rfl ?_
            refine bw_iload rfl rfl ?_
            refine bw_ifeq rfl (fun c120 => ?_) (fun c120 => ?_)
            · first
              | (exfalso; omega)
              | (refine bw_iload rfl rfl ?_
                 refine bw_retz rfl rfl (by omega) ?_
                 first
                 | exact ⟨rfl, _, rfl, Or.inl ⟨e, hz, rfl, hX⟩⟩
                 | exact ⟨rfl, _, rfl, Or.inr ⟨q107, by rw [eH], rfl, ⟨hF.mono (fun c k => Or.inl k) |>.trans ((sq_of hM131.1 (fun k => by have := k.1; omega)).mono (fun c k => Or.inr k)), TP_s2 hT hM131.1 (fun k => by have := k.1; omega) (fun k => by have := k.1; omega), TA_sm hA hM131.1 (fun k => by have := k.1; omega)⟩, by rw [eH]; exact hM131.2⟩⟩)
            · first
              | (exfalso; omega)
              | (refine bw_aload rfl rfl ?_
                 refine bw_getr rfl rfl ((hR _ _).trans hr) ?_
                 refine bw_aload rfl rfl ?_
                 refine bw_getr rfl rfl (hR _ _) ?_
                 have eH : clS S a n (.inr p) = (.inr q107, up (bxU S l1 v24 v44 v55 v75 v86 v107) 2 (S 2 + 1)) := by
                   have e : clU S a n (.inr p) = bxU S l1 v24 v44 v55 v75 v86 v107 := by unfold clU; simp only [cl6, cl5, cl4, cl3, cl2, cl1, cl0, h1, h24, h33, h44, h55, h64, h75, h86, h95, h107]
                   unfold clS
                   rw [e, bxU_lo w2.1 (by decide)]
                   simp only [cl6, cl5, cl4, cl3, cl2, cl1, cl0, h1, h24, h33, h44, h55, h64, h75, h86, h95, h107]
                 have hW := sw_bx hS.sw h2 b1 b24 b44 b55 b75 b86 b107
                 refine bw_callVNv (e := d - 1) (as := [_]) rfl (by omega) rfl rfl (Nat.le_of_ble_eq_true rfl) (Nat.le_of_ble_eq_true rfl) rfl (c_addBox (M := M107) hR (by first | exact Or.inl rfl | exact Or.inr rfl) hS (by rw [n0, n1, n2, n3, n4, n5, n6]; exact hW) h2 (by rw [n0]; exact b1) (by rw [n1]; exact b24) (by omega)) (fun M131 hM131 => ?_)
                 rw [n0, n1, n2, n3, n4, n5, n6] at hM131
                 refine bw_iload rfl rfl ?_
                 refine bw_retz rfl rfl (by omega) ?_
                 first
                 | exact ⟨rfl, _, rfl, Or.inl ⟨e, hz, rfl, hX⟩⟩
                 | exact ⟨rfl, _, rfl, Or.inr ⟨q107, by rw [eH], rfl, ⟨hF.mono (fun c k => Or.inl k) |>.trans ((sq_of hM131.1 (fun k => by have := k.1; omega)).mono (fun c k => Or.inr k)), TP_s2 hT hM131.1 (fun k => by have := k.1; omega) (fun k => by have := k.1; omega), TA_sm hA hM131.1 (fun k => by have := k.1; omega)⟩, by rw [eH]; exact hM131.2⟩⟩)
          · skip
            have n0 : gI M44 9 0 = l1 := by rw [k44, up_ne (by decide)]; exact n0
            have n1 : gI M44 9 1 = v24 := by rw [k44, up_ne (by decide)]; exact n1
            have n2 : gI M44 9 2 = v44 := by rw [k44, up_eq rfl]
            have hS := SR_sm hS g44.1.1 (fun c c0 c1 => no_N (by omega))
            have hF := hF.trans (g44.1.mono pN_R)
            have hR := g44.1.RF hR
            have hT := g44.2.1
            have hA := g44.2.2
            refine bw_ifeq rfl (fun c => absurd c (by decide)) (fun _ => ?_)
            refine bw_aload rfl rfl ?_
            refine bw_push rfl ?_
            refine bw_push rfl ?_
            refine bw_push rfl ?_
            refine bw_callVi (e := d - 1) (as := [_, _, _]) rfl (by omega) rfl rfl (Nat.le_of_ble_eq_true rfl) (Nat.le_of_ble_eq_true rfl) rfl (c_needNumber hR hT hA (by omega) (by omega)) (fun r55 M55 hM55 => ?_)
            rcases hM55 with ⟨e, h55, rfl, f55⟩ | ⟨q55, v55, h55, rfl, g55, b55, k55⟩
            · skip
              have hz : (clS S a n (.inr p)).1 = .inl e := by simp only [clS, cl6, cl5, cl4, cl3, cl2, cl1, cl0, h1, h24, h33, h44, h55, woS_l, nuS_l]
              have hX : FA pG M a n e M55 := ⟨hF.1.trans (f55.1.mono pP_R), f55.2⟩
              refine bw_ifeq rfl (fun _ => ?_) (fun c => (c (by decide)).elim)
              refine bw_push rfl ?_
              refine bw_istore (ls2 := [_, _]) rfl rfl (Nat.le_of_ble_eq_true rfl) rfl ?_
              refine bw_iload rfl rfl ?_
              refine bw_ifeq rfl (fun c120 => ?_) (fun c120 => ?_)
              · first
                | (exfalso; omega)
                | (refine bw_iload rfl rfl ?_
                   refine bw_retz rfl rfl (by omega) ?_
                   first
                   | exact ⟨rfl, _, rfl, Or.inl ⟨e, hz, rfl, hX⟩⟩
                   | exact ⟨rfl, _, rfl, Or.inr ⟨q107, by rw [eH], rfl, ⟨hF.mono (fun c k => Or.inl k) |>.trans ((sq_of hM131.1 (fun k => by have := k.1; omega)).mono (fun c k => Or.inr k)), TP_s2 hT hM131.1 (fun k => by have := k.1; omega) (fun k => by have := k.1; omega), TA_sm hA hM131.1 (fun k => by have := k.1; omega)⟩, by rw [eH]; exact hM131.2⟩⟩)
              · first
                | (exfalso; omega)
                | (refine bw_aload rfl rfl ?_
                   refine bw_getr rfl rfl ((hR _ _).trans hr) ?_
                   refine bw_aload rfl rfl ?_
                   refine bw_getr rfl rfl (hR _ _) ?_
                   have eH : clS S a n (.inr p) = (.inr q107, up (bxU S l1 v24 v44 v55 v75 v86 v107) 2 (S 2 + 1)) := by
                     have e : clU S a n (.inr p) = bxU S l1 v24 v44 v55 v75 v86 v107 := by unfold clU; simp only [cl6, cl5, cl4, cl3, cl2, cl1, cl0, h1, h24, h33, h44, h55, h64, h75, h86, h95, h107]
                     unfold clS
                     rw [e, bxU_lo w2.1 (by decide)]
                     simp only [cl6, cl5, cl4, cl3, cl2, cl1, cl0, h1, h24, h33, h44, h55, h64, h75, h86, h95, h107]
                   have hW := sw_bx hS.sw h2 b1 b24 b44 b55 b75 b86 b107
                   refine bw_callVNv (e := d - 1) (as := [_]) rfl (by omega) rfl rfl (Nat.le_of_ble_eq_true rfl) (Nat.le_of_ble_eq_true rfl) rfl (c_addBox (M := M107) hR (by first | exact Or.inl rfl | exact Or.inr rfl) hS (by rw [n0, n1, n2, n3, n4, n5, n6]; exact hW) h2 (by rw [n0]; exact b1) (by rw [n1]; exact b24) (by omega)) (fun M131 hM131 => ?_)
                   rw [n0, n1, n2, n3, n4, n5, n6] at hM131
                   refine bw_iload rfl rfl ?_
                   refine bw_retz rfl rfl (by omega) ?_
                   first
                   | exact ⟨rfl, _, rfl, Or.inl ⟨e, hz, rfl, hX⟩⟩
                   | exact ⟨rfl, _, rfl, Or.inr ⟨q107, by rw [eH], rfl, ⟨hF.mono (fun c k => Or.inl k) |>.trans ((sq_of hM131.1 (fun k => by have := k.1; omega)).mono (fun c k => Or.inr k)), TP_s2 hT hM131.1 (fun k => by have := k.1; omega) (fun k => by have := k.1; omega), TA_sm hA hM131.1 (fun k => by have := k.1; omega)⟩, by rw [eH]; exact hM131.2⟩⟩)
            · skip
              have n0 : gI M55 9 0 = l1 := by rw [k55, up_ne (by decide)]; exact n0
              have n1 : gI M55 9 1 = v24 := by rw [k55, up_ne (by decide)]; exact n1
              have n2 : gI M55 9 2 = v44 := by rw [k55, up_ne (by decide)]; exact n2
              have n3 : gI M55 9 3 = v55 := by rw [k55, up_eq rfl]
              have hS := SR_sm hS g55.1.1 (fun c c0 c1 => no_N (by omega))
              have hF := hF.trans (g55.1.mono pN_R)
              have hR := g55.1.RF hR
              have hT := g55.2.1
              have hA := g55.2.2
              refine bw_ifeq rfl (fun c => absurd c (by decide)) (fun _ => ?_)
              refine bw_aload rfl rfl ?_
              refine bw_ldcs rfl ?_
              refine bw_callVi (e := d - 1) (as := [_]) rfl (by omega) rfl rfl (Nat.le_of_ble_eq_true rfl) (Nat.le_of_ble_eq_true rfl) rfl (c_needWord (i := 13) hR hT hA (by decide) (by omega)) (fun r64 M64 hM64 => ?_)
              rcases hM64 with ⟨e, h64, rfl, f64⟩ | ⟨q64, h64, rfl, g64⟩
              · have h64 : woS a n 7 (.inr q55) = .inl e := h64
                have hz : (clS S a n (.inr p)).1 = .inl e := by simp only [clS, cl6, cl5, cl4, cl3, cl2, cl1, cl0, h1, h24, h33, h44, h55, h64, woS_l, nuS_l]
                have hX : FA pG M a n e M64 := ⟨hF.1.trans (f64.1.mono pP_R), f64.2⟩
                refine bw_ifeq rfl (fun _ => ?_) (fun c => (c (by decide)).elim)
                refine bw_push rfl ?_
                refine bw_istore (ls2 := [_, _]) rfl rfl (Nat.le_of_ble_eq_true rfl) rfl ?_
                refine bw_iload rfl rfl ?_
                refine bw_ifeq rfl (fun c120 => ?_) (fun c120 => ?_)
                · first
                  | (exfalso; omega)
                  | (refine bw_iload rfl rfl ?_
                     refine bw_retz rfl rfl (by omega) ?_
                     first
                     | exact ⟨rfl, _, rfl, Or.inl ⟨e, hz, rfl, hX⟩⟩
                     | exact ⟨rfl, _, rfl, Or.inr ⟨q107, by rw [eH], rfl, ⟨hF.mono (fun c k => Or.inl k) |>.trans ((sq_of hM131.1 (fun k => by have := k.1; omega)).mono (fun c k => Or.inr k)), TP_s2 hT hM131.1 (fun k => by have := k.1; omega) (fun k => by have := k.1; omega), TA_sm hA hM131.1 (fun k => by have := k.1; omega)⟩, by rw [eH]; exact hM131.2⟩⟩)
                · first
                  | (exfalso; omega)
                  | (refine bw_aload rfl rfl ?_
                     refine bw_getr rfl rfl ((hR _ _).trans hr) ?_
                     refine bw_aload rfl rfl ?_
                     refine bw_getr rfl rfl (hR _ _) ?_
                     have eH : clS S a n (.inr p) = (.inr q107, up (bxU S l1 v24 v44 v55 v75 v86 v107) 2 (S 2 + 1)) := by
                       have e : clU S a n (.inr p) = bxU S l1 v24 v44 v55 v75 v86 v107 := by unfold clU; simp only [cl6, cl5, cl4, cl3, cl2, cl1, cl0, h1, h24, h33, h44, h55, h64, h75, h86, h95, h107]
                       unfold clS
                       rw [e, bxU_lo w2.1 (by decide)]
                       simp only [cl6, cl5, cl4, cl3, cl2, cl1, cl0, h1, h24, h33, h44, h55, h64, h75, h86, h95, h107]
                     have hW := sw_bx hS.sw h2 b1 b24 b44 b55 b75 b86 b107
                     refine bw_callVNv (e := d - 1) (as := [_]) rfl (by omega) rfl rfl (Nat.le_of_ble_eq_true rfl) (Nat.le_of_ble_eq_true rfl) rfl (c_addBox (M := M107) hR (by first | exact Or.inl rfl | exact Or.inr rfl) hS (by rw [n0, n1, n2, n3, n4, n5, n6]; exact hW) h2 (by rw [n0]; exact b1) (by rw [n1]; exact b24) (by omega)) (fun M131 hM131 => ?_)
                     rw [n0, n1, n2, n3, n4, n5, n6] at hM131
                     refine bw_iload rfl rfl ?_
                     refine bw_retz rfl rfl (by omega) ?_
                     first
                     | exact ⟨rfl, _, rfl, Or.inl ⟨e, hz, rfl, hX⟩⟩
                     | exact ⟨rfl, _, rfl, Or.inr ⟨q107, by rw [eH], rfl, ⟨hF.mono (fun c k => Or.inl k) |>.trans ((sq_of hM131.1 (fun k => by have := k.1; omega)).mono (fun c k => Or.inr k)), TP_s2 hT hM131.1 (fun k => by have := k.1; omega) (fun k => by have := k.1; omega), TA_sm hA hM131.1 (fun k => by have := k.1; omega)⟩, by rw [eH]; exact hM131.2⟩⟩)
              · have h64 : woS a n 7 (.inr q55) = .inr q64 := h64
                have n0 : gI M64 9 0 = l1 := by rw [g64.1.at 9 (by decide)]; exact n0
                have n1 : gI M64 9 1 = v24 := by rw [g64.1.at 9 (by decide)]; exact n1
                have n2 : gI M64 9 2 = v44 := by rw [g64.1.at 9 (by decide)]; exact n2
                have n3 : gI M64 9 3 = v55 := by rw [g64.1.at 9 (by decide)]; exact n3
                have hS := SR_sm hS g64.1.1 (fun c c0 c1 => no_T (by omega))
                have hF := hF.trans (g64.1.mono pT_R)
                have hR := g64.1.RF hR
                have hT := g64.2.1
                have hA := g64.2.2
                refine bw_ifeq rfl (fun c => absurd c (by decide)) (fun _ => ?_)
                refine bw_aload rfl rfl ?_
                refine bw_push rfl ?_
                refine bw_push rfl ?_
                refine bw_push rfl ?_
                refine bw_callVi (e := d - 1) (as := [_, _, _]) rfl (by omega) rfl rfl (Nat.le_of_ble_eq_true rfl) (Nat.le_of_ble_eq_true rfl) rfl (c_needNumber hR hT hA (by omega) (by omega)) (fun r75 M75 hM75 => ?_)
                rcases hM75 with ⟨e, h75, rfl, f75⟩ | ⟨q75, v75, h75, rfl, g75, b75, k75⟩
                · skip
                  have hz : (clS S a n (.inr p)).1 = .inl e := by simp only [clS, cl6, cl5, cl4, cl3, cl2, cl1, cl0, h1, h24, h33, h44, h55, h64, h75, woS_l, nuS_l]
                  have hX : FA pG M a n e M75 := ⟨hF.1.trans (f75.1.mono pP_R), f75.2⟩
                  refine bw_ifeq rfl (fun _ => ?_) (fun c => (c (by decide)).elim)
                  refine bw_push rfl ?_
                  refine bw_istore (ls2 := [_, _]) rfl rfl (Nat.le_of_ble_eq_true rfl) rfl ?_
                  refine bw_iload rfl rfl ?_
                  refine bw_ifeq rfl (fun c120 => ?_) (fun c120 => ?_)
                  · first
                    | (exfalso; omega)
                    | (refine bw_iload rfl rfl ?_
                       refine bw_retz rfl rfl (by omega) ?_
                       first
                       | exact ⟨rfl, _, rfl, Or.inl ⟨e, hz, rfl, hX⟩⟩
                       | exact ⟨rfl, _, rfl, Or.inr ⟨q107, by rw [eH], rfl, ⟨hF.mono (fun c k => Or.inl k) |>.trans ((sq_of hM131.1 (fun k => by have := k.1; omega)).mono (fun c k => Or.inr k)), TP_s2 hT hM131.1 (fun k => by have := k.1; omega) (fun k => by have := k.1; omega), TA_sm hA hM131.1 (fun k => by have := k.1; omega)⟩, by rw [eH]; exact hM131.2⟩⟩)
                  · first
                    | (exfalso; omega)
                    | (refine bw_aload rfl rfl ?_
                       refine bw_getr rfl rfl ((hR _ _).trans hr) ?_
                       refine bw_aload rfl rfl ?_
                       refine bw_getr rfl rfl (hR _ _) ?_
                       have eH : clS S a n (.inr p) = (.inr q107, up (bxU S l1 v24 v44 v55 v75 v86 v107) 2 (S 2 + 1)) := by
                         have e : clU S a n (.inr p) = bxU S l1 v24 v44 v55 v75 v86 v107 := by unfold clU; simp only [cl6, cl5, cl4, cl3, cl2, cl1, cl0, h1, h24, h33, h44, h55, h64, h75, h86, h95, h107]
                         unfold clS
                         rw [e, bxU_lo w2.1 (by decide)]
                         simp only [cl6, cl5, cl4, cl3, cl2, cl1, cl0, h1, h24, h33, h44, h55, h64, h75, h86, h95, h107]
                       have hW := sw_bx hS.sw h2 b1 b24 b44 b55 b75 b86 b107
                       refine bw_callVNv (e := d - 1) (as := [_]) rfl (by omega) rfl rfl (Nat.le_of_ble_eq_true rfl) (Nat.le_of_ble_eq_true rfl) rfl (c_addBox (M := M107) hR (by first | exact Or.inl rfl | exact Or.inr rfl) hS (by rw [n0, n1, n2, n3, n4, n5, n6]; exact hW) h2 (by rw [n0]; exact b1) (by rw [n1]; exact b24) (by omega)) (fun M131 hM131 => ?_)
                       rw [n0, n1, n2, n3, n4, n5, n6] at hM131
                       refine bw_iload rfl rfl ?_
                       refine bw_retz rfl rfl (by omega) ?_
                       first
                       | exact ⟨rfl, _, rfl, Or.inl ⟨e, hz, rfl, hX⟩⟩
                       | exact ⟨rfl, _, rfl, Or.inr ⟨q107, by rw [eH], rfl, ⟨hF.mono (fun c k => Or.inl k) |>.trans ((sq_of hM131.1 (fun k => by have := k.1; omega)).mono (fun c k => Or.inr k)), TP_s2 hT hM131.1 (fun k => by have := k.1; omega) (fun k => by have := k.1; omega), TA_sm hA hM131.1 (fun k => by have := k.1; omega)⟩, by rw [eH]; exact hM131.2⟩⟩)
                · skip
                  have n0 : gI M75 9 0 = l1 := by rw [k75, up_ne (by decide)]; exact n0
                  have n1 : gI M75 9 1 = v24 := by rw [k75, up_ne (by decide)]; exact n1
                  have n2 : gI M75 9 2 = v44 := by rw [k75, up_ne (by decide)]; exact n2
                  have n3 : gI M75 9 3 = v55 := by rw [k75, up_ne (by decide)]; exact n3
                  have n4 : gI M75 9 4 = v75 := by rw [k75, up_eq rfl]
                  have hS := SR_sm hS g75.1.1 (fun c c0 c1 => no_N (by omega))
                  have hF := hF.trans (g75.1.mono pN_R)
                  have hR := g75.1.RF hR
                  have hT := g75.2.1
                  have hA := g75.2.2
                  refine bw_ifeq rfl (fun c => absurd c (by decide)) (fun _ => ?_)
                  refine bw_aload rfl rfl ?_
                  refine bw_push rfl ?_
                  refine bw_push rfl ?_
                  refine bw_push rfl ?_
                  refine bw_callVi (e := d - 1) (as := [_, _, _]) rfl (by omega) rfl rfl (Nat.le_of_ble_eq_true rfl) (Nat.le_of_ble_eq_true rfl) rfl (c_needNumber hR hT hA (by omega) (by omega)) (fun r86 M86 hM86 => ?_)
                  rcases hM86 with ⟨e, h86, rfl, f86⟩ | ⟨q86, v86, h86, rfl, g86, b86, k86⟩
                  · skip
                    have hz : (clS S a n (.inr p)).1 = .inl e := by simp only [clS, cl6, cl5, cl4, cl3, cl2, cl1, cl0, h1, h24, h33, h44, h55, h64, h75, h86, woS_l, nuS_l]
                    have hX : FA pG M a n e M86 := ⟨hF.1.trans (f86.1.mono pP_R), f86.2⟩
                    refine bw_ifeq rfl (fun _ => ?_) (fun c => (c (by decide)).elim)
                    refine bw_push rfl ?_
                    refine bw_istore (ls2 := [_, _]) rfl rfl (Nat.le_of_ble_eq_true rfl) rfl ?_
                    refine bw_iload rfl rfl ?_
                    refine bw_ifeq rfl (fun c120 => ?_) (fun c120 => ?_)
                    · first
                      | (exfalso; omega)
                      | (refine bw_iload rfl rfl ?_
                         refine bw_retz rfl rfl (by omega) ?_
                         first
                         | exact ⟨rfl, _, rfl, Or.inl ⟨e, hz, rfl, hX⟩⟩
                         | exact ⟨rfl, _, rfl, Or.inr ⟨q107, by rw [eH], rfl, ⟨hF.mono (fun c k => Or.inl k) |>.trans ((sq_of hM131.1 (fun k => by have := k.1; omega)).mono (fun c k => Or.inr k)), TP_s2 hT hM131.1 (fun k => by have := k.1; omega) (fun k => by have := k.1; omega), TA_sm hA hM131.1 (fun k => by have := k.1; omega)⟩, by rw [eH]; exact hM131.2⟩⟩)
                    · first
                      | (exfalso; omega)
                      | (refine bw_aload rfl rfl ?_
                         refine bw_getr rfl rfl ((hR _ _).trans hr) ?_
                         refine bw_aload rfl rfl ?_
                         refine bw_getr rfl rfl (hR _ _) ?_
                         have eH : clS S a n (.inr p) = (.inr q107, up (bxU S l1 v24 v44 v55 v75 v86 v107) 2 (S 2 + 1)) := by
                           have e : clU S a n (.inr p) = bxU S l1 v24 v44 v55 v75 v86 v107 := by unfold clU; simp only [cl6, cl5, cl4, cl3, cl2, cl1, cl0, h1, h24, h33, h44, h55, h64, h75, h86, h95, h107]
                           unfold clS
                           rw [e, bxU_lo w2.1 (by decide)]
                           simp only [cl6, cl5, cl4, cl3, cl2, cl1, cl0, h1, h24, h33, h44, h55, h64, h75, h86, h95, h107]
                         have hW := sw_bx hS.sw h2 b1 b24 b44 b55 b75 b86 b107
                         refine bw_callVNv (e := d - 1) (as := [_]) rfl (by omega) rfl rfl (Nat.le_of_ble_eq_true rfl) (Nat.le_of_ble_eq_true rfl) rfl (c_addBox (M := M107) hR (by first | exact Or.inl rfl | exact Or.inr rfl) hS (by rw [n0, n1, n2, n3, n4, n5, n6]; exact hW) h2 (by rw [n0]; exact b1) (by rw [n1]; exact b24) (by omega)) (fun M131 hM131 => ?_)
                         rw [n0, n1, n2, n3, n4, n5, n6] at hM131
                         refine bw_iload rfl rfl ?_
                         refine bw_retz rfl rfl (by omega) ?_
                         first
                         | exact ⟨rfl, _, rfl, Or.inl ⟨e, hz, rfl, hX⟩⟩
                         | exact ⟨rfl, _, rfl, Or.inr ⟨q107, by rw [eH], rfl, ⟨hF.mono (fun c k => Or.inl k) |>.trans ((sq_of hM131.1 (fun k => by have := k.1; omega)).mono (fun c k => Or.inr k)), TP_s2 hT hM131.1 (fun k => by have := k.1; omega) (fun k => by have := k.1; omega), TA_sm hA hM131.1 (fun k => by have := k.1; omega)⟩, by rw [eH]; exact hM131.2⟩⟩)
                  · skip
                    have n0 : gI M86 9 0 = l1 := by rw [k86, up_ne (by decide)]; exact n0
                    have n1 : gI M86 9 1 = v24 := by rw [k86, up_ne (by decide)]; exact n1
                    have n2 : gI M86 9 2 = v44 := by rw [k86, up_ne (by decide)]; exact n2
                    have n3 : gI M86 9 3 = v55 := by rw [k86, up_ne (by decide)]; exact n3
                    have n4 : gI M86 9 4 = v75 := by rw [k86, up_ne (by decide)]; exact n4
                    have n5 : gI M86 9 5 = v86 := by rw [k86, up_eq rfl]
                    have hS := SR_sm hS g86.1.1 (fun c c0 c1 => no_N (by omega))
                    have hF := hF.trans (g86.1.mono pN_R)
                    have hR := g86.1.RF hR
                    have hT := g86.2.1
                    have hA := g86.2.2
                    refine bw_ifeq rfl (fun c => absurd c (by decide)) (fun _ => ?_)
                    refine bw_aload rfl rfl ?_
                    refine bw_ldcs rfl ?_
                    refine bw_callVi (e := d - 1) (as := [_]) rfl (by omega) rfl rfl (Nat.le_of_ble_eq_true rfl) (Nat.le_of_ble_eq_true rfl) rfl (c_needWord (i := 14) hR hT hA (by decide) (by omega)) (fun r95 M95 hM95 => ?_)
                    rcases hM95 with ⟨e, h95, rfl, f95⟩ | ⟨q95, h95, rfl, g95⟩
                    · have h95 : woS a n 8 (.inr q86) = .inl e := h95
                      have hz : (clS S a n (.inr p)).1 = .inl e := by simp only [clS, cl6, cl5, cl4, cl3, cl2, cl1, cl0, h1, h24, h33, h44, h55, h64, h75, h86, h95, woS_l, nuS_l]
                      have hX : FA pG M a n e M95 := ⟨hF.1.trans (f95.1.mono pP_R), f95.2⟩
                      refine bw_ifeq rfl (fun _ => ?_) (fun c => (c (by decide)).elim)
                      refine bw_push rfl ?_
                      refine bw_istore (ls2 := [_, _]) rfl rfl (Nat.le_of_ble_eq_true rfl) rfl ?_
                      refine bw_iload rfl rfl ?_
                      refine bw_ifeq rfl (fun c120 => ?_) (fun c120 => ?_)
                      · first
                        | (exfalso; omega)
                        | (refine bw_iload rfl rfl ?_
                           refine bw_retz rfl rfl (by omega) ?_
                           first
                           | exact ⟨rfl, _, rfl, Or.inl ⟨e, hz, rfl, hX⟩⟩
                           | exact ⟨rfl, _, rfl, Or.inr ⟨q107, by rw [eH], rfl, ⟨hF.mono (fun c k => Or.inl k) |>.trans ((sq_of hM131.1 (fun k => by have := k.1; omega)).mono (fun c k => Or.inr k)), TP_s2 hT hM131.1 (fun k => by have := k.1; omega) (fun k => by have := k.1; omega), TA_sm hA hM131.1 (fun k => by have := k.1; omega)⟩, by rw [eH]; exact hM131.2⟩⟩)
                      · first
                        | (exfalso; omega)
                        | (refine bw_aload rfl rfl ?_
                           refine bw_getr rfl rfl ((hR _ _).trans hr) ?_
                           refine bw_aload rfl rfl ?_
                           refine bw_getr rfl rfl (hR _ _) ?_
                           have eH : clS S a n (.inr p) = (.inr q107, up (bxU S l1 v24 v44 v55 v75 v86 v107) 2 (S 2 + 1)) := by
                             have e : clU S a n (.inr p) = bxU S l1 v24 v44 v55 v75 v86 v107 := by unfold clU; simp only [cl6, cl5, cl4, cl3, cl2, cl1, cl0, h1, h24, h33, h44, h55, h64, h75, h86, h95, h107]
                             unfold clS
                             rw [e, bxU_lo w2.1 (by decide)]
                             simp only [cl6, cl5, cl4, cl3, cl2, cl1, cl0, h1, h24, h33, h44, h55, h64, h75, h86, h95, h107]
                           have hW := sw_bx hS.sw h2 b1 b24 b44 b55 b75 b86 b107
                           refine bw_callVNv (e := d - 1) (as := [_]) rfl (by omega) rfl rfl (Nat.le_of_ble_eq_true rfl) (Nat.le_of_ble_eq_true rfl) rfl (c_addBox (M := M107) hR (by first | exact Or.inl rfl | exact Or.inr rfl) hS (by rw [n0, n1, n2, n3, n4, n5, n6]; exact hW) h2 (by rw [n0]; exact b1) (by rw [n1]; exact b24) (by omega)) (fun M131 hM131 => ?_)
                           rw [n0, n1, n2, n3, n4, n5, n6] at hM131
                           refine bw_iload rfl rfl ?_
                           refine bw_retz rfl rfl (by omega) ?_
                           first
                           | exact ⟨rfl, _, rfl, Or.inl ⟨e, hz, rfl, hX⟩⟩
                           | exact ⟨rfl, _, rfl, Or.inr ⟨q107, by rw [eH], rfl, ⟨hF.mono (fun c k => Or.inl k) |>.trans ((sq_of hM131.1 (fun k => by have := k.1; omega)).mono (fun c k => Or.inr k)), TP_s2 hT hM131.1 (fun k => by have := k.1; omega) (fun k => by have := k.1; omega), TA_sm hA hM131.1 (fun k => by have := k.1; omega)⟩, by rw [eH]; exact hM131.2⟩⟩)
                    · have h95 : woS a n 8 (.inr q86) = .inr q95 := h95
                      have n0 : gI M95 9 0 = l1 := by rw [g95.1.at 9 (by decide)]; exact n0
                      have n1 : gI M95 9 1 = v24 := by rw [g95.1.at 9 (by decide)]; exact n1
                      have n2 : gI M95 9 2 = v44 := by rw [g95.1.at 9 (by decide)]; exact n2
                      have n3 : gI M95 9 3 = v55 := by rw [g95.1.at 9 (by decide)]; exact n3
                      have n4 : gI M95 9 4 = v75 := by rw [g95.1.at 9 (by decide)]; exact n4
                      have n5 : gI M95 9 5 = v86 := by rw [g95.1.at 9 (by decide)]; exact n5
                      have hS := SR_sm hS g95.1.1 (fun c c0 c1 => no_T (by omega))
                      have hF := hF.trans (g95.1.mono pT_R)
                      have hR := g95.1.RF hR
                      have hT := g95.2.1
                      have hA := g95.2.2
                      refine bw_ifeq rfl (fun c => absurd c (by decide)) (fun _ => ?_)
                      refine bw_aload rfl rfl ?_
                      refine bw_push rfl ?_
                      refine bw_push rfl ?_
                      refine bw_push rfl ?_
                      refine bw_callVi (e := d - 1) (as := [_, _, _]) rfl (by omega) rfl rfl (Nat.le_of_ble_eq_true rfl) (Nat.le_of_ble_eq_true rfl) rfl (c_needNumber hR hT hA (by omega) (by omega)) (fun r107 M107 hM107 => ?_)
                      rcases hM107 with ⟨e, h107, rfl, f107⟩ | ⟨q107, v107, h107, rfl, g107, b107, k107⟩
                      · skip
                        have hz : (clS S a n (.inr p)).1 = .inl e := by simp only [clS, cl6, cl5, cl4, cl3, cl2, cl1, cl0, h1, h24, h33, h44, h55, h64, h75, h86, h95, h107, woS_l, nuS_l]
                        have hX : FA pG M a n e M107 := ⟨hF.1.trans (f107.1.mono pP_R), f107.2⟩
                        refine bw_ifeq rfl (fun _ => ?_) (fun c => (c (by decide)).elim)
                        refine bw_push rfl ?_
                        refine bw_istore (ls2 := [_, _]) rfl rfl (Nat.le_of_ble_eq_true rfl) rfl ?_
                        refine bw_iload rfl rfl ?_
                        refine bw_ifeq rfl (fun c120 => ?_) (fun c120 => ?_)
                        · first
                          | (exfalso; omega)
                          | (refine bw_iload rfl rfl ?_
                             refine bw_retz rfl rfl (by omega) ?_
                             first
                             | exact ⟨rfl, _, rfl, Or.inl ⟨e, hz, rfl, hX⟩⟩
                             | exact ⟨rfl, _, rfl, Or.inr ⟨q107, by rw [eH], rfl, ⟨hF.mono (fun c k => Or.inl k) |>.trans ((sq_of hM131.1 (fun k => by have := k.1; omega)).mono (fun c k => Or.inr k)), TP_s2 hT hM131.1 (fun k => by have := k.1; omega) (fun k => by have := k.1; omega), TA_sm hA hM131.1 (fun k => by have := k.1; omega)⟩, by rw [eH]; exact hM131.2⟩⟩)
                        · first
                          | (exfalso; omega)
                          | (refine bw_aload rfl rfl ?_
                             refine bw_getr rfl rfl ((hR _ _).trans hr) ?_
                             refine bw_aload rfl rfl ?_
                             refine bw_getr rfl rfl (hR _ _) ?_
                             have eH : clS S a n (.inr p) = (.inr q107, up (bxU S l1 v24 v44 v55 v75 v86 v107) 2 (S 2 + 1)) := by
                               have e : clU S a n (.inr p) = bxU S l1 v24 v44 v55 v75 v86 v107 := by unfold clU; simp only [cl6, cl5, cl4, cl3, cl2, cl1, cl0, h1, h24, h33, h44, h55, h64, h75, h86, h95, h107]
                               unfold clS
                               rw [e, bxU_lo w2.1 (by decide)]
                               simp only [cl6, cl5, cl4, cl3, cl2, cl1, cl0, h1, h24, h33, h44, h55, h64, h75, h86, h95, h107]
                             have hW := sw_bx hS.sw h2 b1 b24 b44 b55 b75 b86 b107
                             refine bw_callVNv (e := d - 1) (as := [_]) rfl (by omega) rfl rfl (Nat.le_of_ble_eq_true rfl) (Nat.le_of_ble_eq_true rfl) rfl (c_addBox (M := M107) hR (by first | exact Or.inl rfl | exact Or.inr rfl) hS (by rw [n0, n1, n2, n3, n4, n5, n6]; exact hW) h2 (by rw [n0]; exact b1) (by rw [n1]; exact b24) (by omega)) (fun M131 hM131 => ?_)
                             rw [n0, n1, n2, n3, n4, n5, n6] at hM131
                             refine bw_iload rfl rfl ?_
                             refine bw_retz rfl rfl (by omega) ?_
                             first
                             | exact ⟨rfl, _, rfl, Or.inl ⟨e, hz, rfl, hX⟩⟩
                             | exact ⟨rfl, _, rfl, Or.inr ⟨q107, by rw [eH], rfl, ⟨hF.mono (fun c k => Or.inl k) |>.trans ((sq_of hM131.1 (fun k => by have := k.1; omega)).mono (fun c k => Or.inr k)), TP_s2 hT hM131.1 (fun k => by have := k.1; omega) (fun k => by have := k.1; omega), TA_sm hA hM131.1 (fun k => by have := k.1; omega)⟩, by rw [eH]; exact hM131.2⟩⟩)
                      · skip
                        have n0 : gI M107 9 0 = l1 := by rw [k107, up_ne (by decide)]; exact n0
                        have n1 : gI M107 9 1 = v24 := by rw [k107, up_ne (by decide)]; exact n1
                        have n2 : gI M107 9 2 = v44 := by rw [k107, up_ne (by decide)]; exact n2
                        have n3 : gI M107 9 3 = v55 := by rw [k107, up_ne (by decide)]; exact n3
                        have n4 : gI M107 9 4 = v75 := by rw [k107, up_ne (by decide)]; exact n4
                        have n5 : gI M107 9 5 = v86 := by rw [k107, up_ne (by decide)]; exact n5
                        have n6 : gI M107 9 6 = v107 := by rw [k107, up_eq rfl]
                        have hS := SR_sm hS g107.1.1 (fun c c0 c1 => no_N (by omega))
                        have hF := hF.trans (g107.1.mono pN_R)
                        have hR := g107.1.RF hR
                        have hT := g107.2.1
                        have hA := g107.2.2
                        refine bw_ifeq rfl (fun c => absurd c (by decide)) (fun _ => ?_)
                        refine bw_push rfl ?_
                        refine bw_goto rfl ?_
                        refine bw_istore (ls2 := [_, _]) rfl rfl (Nat.le_of_ble_eq_true rfl) rfl ?_
                        refine bw_iload rfl rfl ?_
                        refine bw_ifeq rfl (fun c120 => ?_) (fun c120 => ?_)
                        · first
                          | (exfalso; omega)
                          | (refine bw_iload rfl rfl ?_
                             refine bw_retz rfl rfl (by omega) ?_
                             first
                             | exact ⟨rfl, _, rfl, Or.inl ⟨e, hz, rfl, hX⟩⟩
                             | exact ⟨rfl, _, rfl, Or.inr ⟨q107, by rw [eH], rfl, ⟨hF.mono (fun c k => Or.inl k) |>.trans ((sq_of hM131.1 (fun k => by have := k.1; omega)).mono (fun c k => Or.inr k)), TP_s2 hT hM131.1 (fun k => by have := k.1; omega) (fun k => by have := k.1; omega), TA_sm hA hM131.1 (fun k => by have := k.1; omega)⟩, by rw [eH]; exact hM131.2⟩⟩)
                        · first
                          | (exfalso; omega)
                          | (refine bw_aload rfl rfl ?_
                             refine bw_getr rfl rfl ((hR _ _).trans hr) ?_
                             refine bw_aload rfl rfl ?_
                             refine bw_getr rfl rfl (hR _ _) ?_
                             have eH : clS S a n (.inr p) = (.inr q107, up (bxU S l1 v24 v44 v55 v75 v86 v107) 2 (S 2 + 1)) := by
                               have e : clU S a n (.inr p) = bxU S l1 v24 v44 v55 v75 v86 v107 := by unfold clU; simp only [cl6, cl5, cl4, cl3, cl2, cl1, cl0, h1, h24, h33, h44, h55, h64, h75, h86, h95, h107]
                               unfold clS
                               rw [e, bxU_lo w2.1 (by decide)]
                               simp only [cl6, cl5, cl4, cl3, cl2, cl1, cl0, h1, h24, h33, h44, h55, h64, h75, h86, h95, h107]
                             have hW := sw_bx hS.sw h2 b1 b24 b44 b55 b75 b86 b107
                             refine bw_callVNv (e := d - 1) (as := [_]) rfl (by omega) rfl rfl (Nat.le_of_ble_eq_true rfl) (Nat.le_of_ble_eq_true rfl) rfl (c_addBox (M := M107) hR (by first | exact Or.inl rfl | exact Or.inr rfl) hS (by rw [n0, n1, n2, n3, n4, n5, n6]; exact hW) h2 (by rw [n0]; exact b1) (by rw [n1]; exact b24) (by omega)) (fun M131 hM131 => ?_)
                             rw [n0, n1, n2, n3, n4, n5, n6] at hM131
                             refine bw_iload rfl rfl ?_
                             refine bw_retz rfl rfl (by omega) ?_
                             first
                             | exact ⟨rfl, _, rfl, Or.inl ⟨e, hz, rfl, hX⟩⟩
                             | exact ⟨rfl, _, rfl, Or.inr ⟨q107, by rw [eH], rfl, ⟨hF.mono (fun c k => Or.inl k) |>.trans ((sq_of hM131.1 (fun k => by have := k.1; omega)).mono (fun c k => Or.inr k)), TP_s2 hT hM131.1 (fun k => by have := k.1; omega) (fun k => by have := k.1; omega), TA_sm hA hM131.1 (fun k => by have := k.1; omega)⟩, by rw [eH]; exact hM131.2⟩⟩)
theorem SW_en {S T : Int → Int} (h : SW S) (h5 : S 5 ≤ 59) (o : ∀ j : Int, j ≠ 5 → T j = S j) (n5 : T 5 = S 5 + 1) : SW T := by
  have f1 := h.la
  have f2 := h.bo
  have f3 := h.sl
  have f4 := h.hi
  exact ⟨by rw [o 0 (by omega)]; exact h.fr, by rw [o 1 (by omega)]; exact h.la, by rw [o 2 (by omega)]; exact h.bo, by rw [o 3 (by omega)]; exact h.sl, by rw [o 4 (by omega)]; exact h.hi, by rw [n5]; have := h.st; omega, fun l l0 l1 => by rw [o 1 (by omega)] at l1; rw [o (6 + l) (by omega)]; exact h.on l l0 l1, fun l l0 l1 => by rw [o 1 (by omega)] at l1; rw [o (12 + 7 * l) (by omega)]; exact h.nm l l0 l1, fun l i l0 l1 i0 i1 => by rw [o 1 (by omega)] at l1; rw [o (12 + 7 * l) (by omega)] at i1; have := (h.nm l l0 l1).2; rw [o (13 + 7 * l + i) (by omega)]; exact h.le l i l0 l1 i0 i1, fun k k0 k1 => by rw [o 2 (by omega)] at k1; rw [o 1 (by omega), o (54 + 7 * k) (by omega), o (54 + 7 * k + 1) (by omega), o (54 + 7 * k + 2) (by omega), o (54 + 7 * k + 3) (by omega), o (54 + 7 * k + 4) (by omega), o (54 + 7 * k + 5) (by omega), o (54 + 7 * k + 6) (by omega)]; exact h.bx k k0 k1, fun k k0 k1 => by rw [o 3 (by omega)] at k1; rw [o 1 (by omega), o 0 (by omega), o (334 + 5 * k) (by omega), o (334 + 5 * k + 1) (by omega), o (334 + 5 * k + 2) (by omega), o (334 + 5 * k + 3) (by omega), o (334 + 5 * k + 4) (by omega)]; exact h.sd k k0 k1, fun k k0 k1 => by rw [o 4 (by omega)] at k1; rw [o 1 (by omega), o 0 (by omega), o (394 + 3 * k) (by omega), o (394 + 3 * k + 1) (by omega), o (394 + 3 * k + 2) (by omega)]; exact h.hd k k0 k1, fun j j0 j1 => by rw [o (430 + j) (by omega)]; exact h.td j j0 j1⟩
theorem SR_en {M N : abMem} {s : Nat} {S T : Int → Int} (hS : SR M s S) (h59 : S 5 ≤ 59) (o : ∀ j : Int, j ≠ 5 → T j = S j) (n5 : T 5 = S 5 + 1) (hc : ∀ c : Nat, c ≠ s → gI N c = gI M c) (h0 : ∀ j : Int, j ≠ 1 → gI N s j = gI M s j) (h5 : gI N s 1 = T 5) : SR N s T := by
  have hT := SW_en hS.sw h59 o n5
  have w0 := hS.sw.fr
  have w1 := hS.sw.la
  have w2 := hS.sw.bo
  have w3 := hS.sw.sl
  have w4 := hS.sw.hi
  have em : ∀ i f t : Int, (t = 0 ∨ t = 1) → mv T i f t = mv S i f t := fun i f t ht => mv_congr (o 3 (by omega)) (fun j j0 j1 => o j (by omega)) i f t ht
  have eh : ∀ i f : Int, (hid T i f) = (hid S i f) := fun i f => propext (hid_congr (o 4 (by omega)) (fun j j0 j1 => o j (by omega)) i f)
  have en : ∀ {i v k x : Int}, isNx S i v k x → isNx T i v k x := fun h => nx_congr (o 2 (by omega)) (fun j j0 j1 => o j (by omega)) h
  exact ⟨hT, by rw [h0 0 (by omega), o 0 (by omega)]; exact hS.c0, by rw [h5], by rw [h0 2 (by omega), o 1 (by omega)]; exact hS.c2, by rw [h0 3 (by omega), o 2 (by omega)]; exact hS.c3, by rw [h0 4 (by omega), o 3 (by omega)]; exact hS.c4, by rw [h0 5 (by omega), o 4 (by omega)]; exact hS.c5, fun i i0 i1 => by rw [o 1 (by omega)] at i1; rw [hc (s + 1) (by omega), o (6 + i) (by omega)]; exact hS.on i i0 i1, fun i i0 i1 => by rw [o 1 (by omega)] at i1; rw [hc (s + 2) (by omega), o (12 + 7 * i) (by omega)]; exact hS.nl i i0 i1, fun i j i0 i1 j0 j1 => by rw [o 1 (by omega)] at i1; rw [o (12 + 7 * i) (by omega)] at j1; have := (hS.sw.nm i i0 i1).2; rw [hc (s + 4 + i.toNat) (by omega), o (13 + 7 * i + j) (by omega)]; exact hS.nm i j i0 i1 j0 j1, fun i f i0 i1 f0 f1 => by rw [o 1 (by omega)] at i1; rw [o 0 (by omega)] at f1; rw [hc (s + 11 + i.toNat) (by omega), o (430 + 96 * i + f) (by omega)]; exact hS.rw i f i0 i1 f0 f1, fun i f i0 i1 f0 f1 => by rw [o 1 (by omega)] at i1; rw [o 0 (by omega)] at f1; rw [hc (s + 18 + i.toNat) (by omega), em i f 0 (by omega)]; exact hS.rt i f i0 i1 f0 f1, fun i f i0 i1 f0 f1 => by rw [o 1 (by omega)] at i1; rw [o 0 (by omega)] at f1; rw [hc (s + 25 + i.toNat) (by omega), em i f 1 (by omega)]; exact hS.dn i f i0 i1 f0 f1, fun i f i0 i1 f0 f1 => by rw [o 1 (by omega)] at i1; rw [o 0 (by omega)] at f1; rw [hc (s + 32 + i.toNat) (by omega), eh i f]; exact hS.cv i f i0 i1 f0 f1, fun i j i0 i1 j0 j1 => by rw [o 2 (by omega)] at i1; rw [hc (s + 39 + i.toNat) (by omega), o (54 + 7 * i + j) (by omega)]; exact hS.bx i j i0 i1 j0 j1, fun i v i0 i1 v0 v1 => by rw [o 1 (by omega)] at i1; rw [hc (s + 80 + i.toNat) (by omega)]; exact en (hS.fb i v i0 i1 v0 v1), fun i i0 i1 => by rw [o 2 (by omega)] at i1; rw [hc (s + 86) (by omega), o (54 + 7 * i) (by omega), o (54 + 7 * i + 1) (by omega)]; exact en (hS.nb i i0 i1)⟩
set_option maxRecDepth 20000 in
set_option maxHeartbeats 4000000 in
theorem c_endStatement {d L : Nat} {M : abMem} {r : abRf} (hR : RF r M) {a : Int → Int} {n : Int} (hT : TP M a n) {p : Int} (hA : TA M a n p) {s : Nat} (hs : s = 372 ∨ s = 459) {S : Int → Int} (hS : SR M s S) (hr : r.2.1 = some s) (h5 : S 5 ≤ 59) (hd : 3 ≤ d) : abW d (0, 0) 39 0 (abEnt (abL 39) [vr (some 3)]) [] (0, 0) (A0 L) M (qI (A0 L) (fun x N => (∃ e : Int × Int, siS a n 59 (.inr p) = .inl e ∧ x = 0 ∧ FA (pGs s) M a n e N) ∨ (∃ q : Int, siS a n 59 (.inr p) = .inr q ∧ x = 1 ∧ GO (pGs s) M a n q N ∧ SR N s (up S 5 (S 5 + 1))))) := by
  rcases hs with rfl | rfl
  · have w0 := hS.sw.fr
    have w1 := hS.sw.la
    have w2 := hS.sw.bo
    have w3 := hS.sw.sl
    have w4 := hS.sw.hi
    have w5 := hS.sw.st
    show abW d (0, 0) 39 0 [some (vr (some 3))] [] (0, 0) (A0 L) M (qI (A0 L) (fun x N => (∃ e : Int × Int, siS a n 59 (.inr p) = .inl e ∧ x = 0 ∧ FA (pGs 372) M a n e N) ∨ (∃ q : Int, siS a n 59 (.inr p) = .inr q ∧ x = 1 ∧ GO (pGs 372) M a n q N ∧ SR N 372 (up S 5 (S 5 + 1)))))
    refine bw_aload rfl rfl ?_
    refine bw_getr rfl rfl ((hR _ _).trans hr) ?_
    first | refine bw_dup rfl ?_ | refine bw_dupi rfl ?_
    refine bw_getI rfl rfl ?_
    rw [show gI M 372 1 = S 5 from hS.c1]
    refine bw_push rfl ?_
    refine bw_iadd rfl ⟨by omega, by omega⟩ ?_
    refine bw_putI rfl rfl ?_
    have v10 : sm (fun c => c = 372) M (sI M 372 1 (S 5 + 1)) := (sm_refl _ _).sI 1 _ rfl
    have hS2 : SR (sI M 372 1 (S 5 + 1)) 372 (up S 5 (S 5 + 1)) := SR_en hS h5 (fun j hj => up_ne hj) (up_eq rfl) (fun c hc => gI_sI_ne hc) (fun j hj => gI_sI_nj hj) (by rw [gI_sI_eq, up_eq rfl])
    generalize sI M 372 1 (S 5 + 1) = G at v10 hS2
    have hT := TP_s2 hT v10 (by decide) (by decide)
    have hA := TA_sm hA v10 (by decide)
    have hR := v10.RF hR
    refine bw_aload rfl rfl ?_
    refine bw_push rfl ?_
    refine bw_callVi (e := d - 1) (as := [_]) rfl (by omega) rfl rfl (Nat.le_of_ble_eq_true rfl) (Nat.le_of_ble_eq_true rfl) rfl (c_needSign hR hT hA (by decide) (by omega)) (fun r16 M16 hM16 => ?_)
    refine bw_retz rfl rfl (by omega) ?_
    have v11 := v10.mono (q := pGs 372) (fun c k => Or.inr ⟨by have : c = 372 := k; omega, by have : c = 372 := k; omega⟩)
    rcases hM16 with ⟨e, h1, h2, h3⟩ | ⟨q, h1, h2, h3⟩
    · exact ⟨rfl, _, rfl, Or.inl ⟨e, h1, h2, FA.tr v11 h3 (fun _ k => k) (fun c k => Or.inl (pP_R c k))⟩⟩
    · exact ⟨rfl, _, rfl, Or.inr ⟨q, h1, h2, GO.tr ((sq_of v10 (by decide)).mono (q := pGs 372) (fun c k => Or.inr ⟨by have : c = 372 := k; omega, by have : c = 372 := k; omega⟩)) h3 (fun _ k => k) (fun c k => Or.inl (pT_R c k)), SR_sm hS2 h3.1.1 (fun c c0 c1 => no_T (by omega))⟩⟩
  · have w0 := hS.sw.fr
    have w1 := hS.sw.la
    have w2 := hS.sw.bo
    have w3 := hS.sw.sl
    have w4 := hS.sw.hi
    have w5 := hS.sw.st
    show abW d (0, 0) 39 0 [some (vr (some 3))] [] (0, 0) (A0 L) M (qI (A0 L) (fun x N => (∃ e : Int × Int, siS a n 59 (.inr p) = .inl e ∧ x = 0 ∧ FA (pGs 459) M a n e N) ∨ (∃ q : Int, siS a n 59 (.inr p) = .inr q ∧ x = 1 ∧ GO (pGs 459) M a n q N ∧ SR N 459 (up S 5 (S 5 + 1)))))
    refine bw_aload rfl rfl ?_
    refine bw_getr rfl rfl ((hR _ _).trans hr) ?_
    first | refine bw_dup rfl ?_ | refine bw_dupi rfl ?_
    refine bw_getI rfl rfl ?_
    rw [show gI M 459 1 = S 5 from hS.c1]
    refine bw_push rfl ?_
    refine bw_iadd rfl ⟨by omega, by omega⟩ ?_
    refine bw_putI rfl rfl ?_
    have v10 : sm (fun c => c = 459) M (sI M 459 1 (S 5 + 1)) := (sm_refl _ _).sI 1 _ rfl
    have hS2 : SR (sI M 459 1 (S 5 + 1)) 459 (up S 5 (S 5 + 1)) := SR_en hS h5 (fun j hj => up_ne hj) (up_eq rfl) (fun c hc => gI_sI_ne hc) (fun j hj => gI_sI_nj hj) (by rw [gI_sI_eq, up_eq rfl])
    generalize sI M 459 1 (S 5 + 1) = G at v10 hS2
    have hT := TP_s2 hT v10 (by decide) (by decide)
    have hA := TA_sm hA v10 (by decide)
    have hR := v10.RF hR
    refine bw_aload rfl rfl ?_
    refine bw_push rfl ?_
    refine bw_callVi (e := d - 1) (as := [_]) rfl (by omega) rfl rfl (Nat.le_of_ble_eq_true rfl) (Nat.le_of_ble_eq_true rfl) rfl (c_needSign hR hT hA (by decide) (by omega)) (fun r16 M16 hM16 => ?_)
    refine bw_retz rfl rfl (by omega) ?_
    have v11 := v10.mono (q := pGs 459) (fun c k => Or.inr ⟨by have : c = 459 := k; omega, by have : c = 459 := k; omega⟩)
    rcases hM16 with ⟨e, h1, h2, h3⟩ | ⟨q, h1, h2, h3⟩
    · exact ⟨rfl, _, rfl, Or.inl ⟨e, h1, h2, FA.tr v11 h3 (fun _ k => k) (fun c k => Or.inl (pP_R c k))⟩⟩
    · exact ⟨rfl, _, rfl, Or.inr ⟨q, h1, h2, GO.tr ((sq_of v10 (by decide)).mono (q := pGs 459) (fun c k => Or.inr ⟨by have : c = 459 := k; omega, by have : c = 459 := k; omega⟩)) h3 (fun _ k => k) (fun c k => Or.inl (pT_R c k)), SR_sm hS2 h3.1.1 (fun c c0 c1 => no_T (by omega))⟩⟩
