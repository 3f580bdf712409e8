theorem cs_step2 {a : Int → Int} {n w : Int} {s t : LnS} (hA : okA a n) (H : LV a n s) (h41 : a (lsP s) = 41) (hK : 0 < lsK s) (h : csS a n s = .inr (t, w)) : LV a n t ∧ lsP s < lsP t ∧ (lsH s).1 ≤ (lsH t).1 := by
  rcases e : (tmS a n 1 (.inr (sk a n (lsP s + 1)))).1 with x | q
  · rw [cs_f e] at h; cases h
  · rw [cs_g e] at h
    cases h
    have c := cs_step hA H h41 hK e
    exact ⟨c.1, c.2.1, c.2.2⟩
theorem ln_e {a : Int → Int} {n on : Int} {s : LnS} (h : ¬ prP a n (lsP s)) (h1 : ¬ (a (lsP s) = 41 ∧ 0 < lsK s ∧ lsB s = 1)) (h2 : ¬ (lsK s = 0 ∧ lsB s = 1)) : lnS a n on s = .inl (1, lsP s) := by
  unfold lnS
  rw [if_neg h, if_neg h1, if_neg h2]
set_option maxRecDepth 20000 in
set_option maxHeartbeats 4000000 in
theorem c_readLine {d L : Nat} {M : abMem} {r : abRf} (hR : RF r M) {a : Int → Int} {n : Int} (hT : TP M a n) {fr on p : Int} (hL : CL M fr on (ls0 p)) (hA : TA M a n p) (hon : 1 ≤ on ∧ on ≤ 24) (hd : 7 ≤ d) : abW d (0, 0) 43 0 (abEnt (abL 43) [vr (some 3)]) [] (0, 0) (A0 L) M (qI (A0 L) (fun x N => (∃ e : Int × Int, isLr a n on (ls0 p) (.inl e) ∧ x = 0 ∧ FA pW M a n e N) ∨ (∃ t : LnS, isLr a n on (ls0 p) (.inr t) ∧ x = 1 ∧ GO pW M a n (lsP t) N ∧ CL N fr on t ∧ LV a n t ∧ 1 ≤ (lsH t).1))) := by
  have hp0 := hA.2
  have L2 : ∀ (kf : Nat) (N : abMem) (s : LnS) (i : Int), (sq pW M N) → (TP N a n ∧ TA N a n (lsP s)) → (CL N fr on s) → (LV a n s ∧ lsO s) → (0 ≤ i ∧ i ≤ lsP s) → (∀ x, isLr a n on s x → isLr a n on (ls0 p) x) → ((n - lsP s).toNat) < kf → abW d (0, 0) 43 2 [some (vr (some 3)), some (vi i), none] [] (0, 0) (A0 L) (N) (qI (A0 L) (fun x N => (∃ e : Int × Int, isLr a n on (ls0 p) (.inl e) ∧ x = 0 ∧ FA pW M a n e N) ∨ (∃ t : LnS, isLr a n on (ls0 p) (.inr t) ∧ x = 1 ∧ GO pW M a n (lsP t) N ∧ CL N fr on t ∧ LV a n t ∧ 1 ≤ (lsH t).1))) := by
    intro kf
    induction kf with
    | zero => intro N  s  i  g1 g2 g3 g4 g5 g6 hm9; exact absurd hm9 (Nat.not_lt_zero _)
    | succ kf ih2 =>
      intro N  s  i  g1 g2 g3 g4 g5 g6 hm2
      have ih := ih2
      have hR := g1.RF hR
      have hT := g2.1
      have hA := g2.2
      have z1 := g4.1.1
      have z2 := hT.ok.1
      have t1 := hT.le
      have v3 := g4.1.2.2.1
      have v6 := g4.1.2.2.2.2.2
      have a1 := hA.1.1
      have a2 := hA.1.2.1
      have tc : (tkK a n (lsP s) = 2 ∧ (48 ≤ a (lsP s) ∧ a (lsP s) ≤ 57)) ∨ (tkK a n (lsP s) ≠ 2 ∧ ¬ (48 ≤ a (lsP s) ∧ a (lsP s) ≤ 57)) := by have := tk_c hT.ok (p := lsP s) (by omega); omega
      refine bw_iload rfl rfl ?_
      refine bw_push rfl ?_
      refine bw_icgt rfl (fun c6 => ?_) (fun c6 => ?_)
      · first
        | (exfalso; omega)
        | (refine bw_aload rfl rfl ?_
           refine bw_push rfl ?_
           refine bw_aload rfl rfl ?_
           refine bw_getr rfl rfl (hR _ _) ?_
           refine bw_getI rfl rfl ?_
           refine bw_callVi (e := d - 1) (as := [_, _]) rfl (by omega) rfl rfl (Nat.le_of_ble_eq_true rfl) (Nat.le_of_ble_eq_true rfl) rfl (c_fail hR) (fun r168 M168 hM168 => ?_)
           obtain ⟨rfl, rfl⟩ := hM168
           refine bw_retz rfl rfl (by omega) ?_
           skip)
      · first
        | (exfalso; omega)
        | (refine bw_aload rfl rfl ?_
           refine bw_getr rfl rfl (hR _ _) ?_
           refine bw_getI rfl rfl ?_
           refine bw_push rfl ?_
           refine bw_iceq rfl (fun c17 => ?_) (fun c17 => ?_)
           · skip
             refine bw_aload rfl rfl ?_
             refine bw_callVi (e := d - 1) (as := []) rfl (by omega) rfl rfl (Nat.le_of_ble_eq_true rfl) (Nat.le_of_ble_eq_true rfl) rfl (c_readHolds hR hT g3 hA g4.1 hon (by omega) (by omega)) (fun r33 M33 hM33 => ?_)
             rcases hM33 with ⟨e, hz, rfl, hX⟩ | ⟨t, w, hz, hw, rfl, g, hL2⟩
             · have hE : isLr a n on (ls0 p) (.inl e) := g6 _ (isLr_f ((ln_pt (on := on) (Or.inl (by unfold prP; omega))).trans hz))
               have hX := FA.tr (s := pW) g1.1 hX (fun _ k => k) (fun _ k => k)
               refine bw_istore (ls2 := [_, _, _]) rfl rfl (Nat.le_of_ble_eq_true rfl) rfl ?_
               refine bw_goto rfl ?_
               refine bw_iload rfl rfl ?_
               refine bw_ifne rfl (fun c148 => ?_) (fun c148 => ?_)
               · first
                 | (exfalso; omega)
                 | (refine bw_iinc (ls2 := [_, _, _]) rfl rfl rfl ⟨by omega, by omega⟩ rfl ?_
                    refine bw_goto rfl ?_
                    refine bw_forget (ls2 := [some (vr (some 3)), some (vi _), none]) ⟨rfl, rfl, trivial⟩ ?_
                    exact ih _ t _ (g1.trans g.1) ⟨g.2.1, g.2.2⟩ hL2 hV2 (by omega) (fun x h => g6 x (isLr_s hLn hw h)) (by omega))
               · first
                 | (exfalso; omega)
                 | (refine bw_push rfl ?_
                    refine bw_retz rfl rfl (by omega) ?_
                    first
                    | exact ⟨rfl, _, rfl, Or.inl ⟨e, hE, rfl, hX⟩⟩
                    | exact ⟨rfl, _, rfl, Or.inl ⟨_, g6 _ (isLr_f (ln_e (by unfold prP; omega) (by omega) (by omega))), rfl, by rw [← a1]; exact FA.tr (s := pW) g1.1 (fa_of hT) (fun _ k => k) P_W⟩⟩)
             · have hLn := (ln_pt (on := on) (Or.inl (by unfold prP; omega))).trans hz
               have st := pt_step hT.ok (by omega) g4.1 hz
               have hV2 : LV a n t ∧ lsO t := ⟨st.1, st.2.2.2⟩
               have hlt := st.2.1
               refine bw_istore (ls2 := [_, _, _]) rfl rfl (Nat.le_of_ble_eq_true rfl) rfl ?_
               refine bw_goto rfl ?_
               refine bw_iload rfl rfl ?_
               refine bw_ifne rfl (fun c148 => ?_) (fun c148 => ?_)
               · first
                 | (exfalso; omega)
                 | (refine bw_iinc (ls2 := [_, _, _]) rfl rfl rfl ⟨by omega, by omega⟩ rfl ?_
                    refine bw_goto rfl ?_
                    refine bw_forget (ls2 := [some (vr (some 3)), some (vi _), none]) ⟨rfl, rfl, trivial⟩ ?_
                    exact ih _ t _ (g1.trans g.1) ⟨g.2.1, g.2.2⟩ hL2 hV2 (by omega) (fun x h => g6 x (isLr_s hLn hw h)) (by omega))
               · first
                 | (exfalso; omega)
                 | (refine bw_push rfl ?_
                    refine bw_retz rfl rfl (by omega) ?_
                    first
                    | exact ⟨rfl, _, rfl, Or.inl ⟨e, hE, rfl, hX⟩⟩
                    | exact ⟨rfl, _, rfl, Or.inl ⟨_, g6 _ (isLr_f (ln_e (by unfold prP; omega) (by omega) (by omega))), rfl, by rw [← a1]; exact FA.tr (s := pW) g1.1 (fa_of hT) (fun _ k => k) P_W⟩⟩)
           · skip
             refine bw_aload rfl rfl ?_
             refine bw_getr rfl rfl (hR _ _) ?_
             refine bw_ldcs rfl ?_
             refine bw_callVNj (e := d - 1) (as := [_]) rfl (by omega) rfl rfl (Nat.le_of_ble_eq_true rfl) (Nat.le_of_ble_eq_true rfl) rfl (c_isWord (i := 7) hR hT hA (by decide) (by omega)) (fun r26 hr26 => ?_)
             have hr26 : wo a n (lsP s) = 17 ∧ r26 = 1 ∨ ¬ (wo a n (lsP s) = 17) ∧ r26 = 0 := hr26
             refine bw_ifeq rfl (fun c29 => ?_) (fun c29 => ?_)
             · skip
               refine bw_aload rfl rfl ?_
               refine bw_getr rfl rfl (hR _ _) ?_
               refine bw_push rfl ?_
               refine bw_callVNj (e := d - 1) (as := [_]) rfl (by omega) rfl rfl (Nat.le_of_ble_eq_true rfl) (Nat.le_of_ble_eq_true rfl) rfl (c_isSign (c := 40) hR hT hA (by decide)) (fun r46 hr46 => ?_)
               refine bw_ifne rfl (fun c49 => ?_) (fun c49 => ?_)
               · skip
                 refine bw_aload rfl rfl ?_
                 refine bw_callVi (e := d - 1) (as := []) rfl (by omega) rfl rfl (Nat.le_of_ble_eq_true rfl) (Nat.le_of_ble_eq_true rfl) rfl (c_readOpening hR hT g3 hA g4.1 hon (by omega) (by omega)) (fun r65 M65 hM65 => ?_)
                 rcases hM65 with ⟨e, hz, rfl, hX⟩ | ⟨t, w, hz, hw, rfl, g, hL2⟩
                 · have hE : isLr a n on (ls0 p) (.inl e) := g6 _ (isLr_f ((ln_pt (on := on) (Or.inl (by unfold prP; omega))).trans hz))
                   have hX := FA.tr (s := pW) g1.1 hX (fun _ k => k) (fun _ k => k)
                   refine bw_istore (ls2 := [_, _, _]) rfl rfl (Nat.le_of_ble_eq_true rfl) rfl ?_
                   refine bw_goto rfl ?_
                   refine bw_iload rfl rfl ?_
                   refine bw_ifne rfl (fun c148 => ?_) (fun c148 => ?_)
                   · first
                     | (exfalso; omega)
                     | (refine bw_iinc (ls2 := [_, _, _]) rfl rfl rfl ⟨by omega, by omega⟩ rfl ?_
                        refine bw_goto rfl ?_
                        refine bw_forget (ls2 := [some (vr (some 3)), some (vi _), none]) ⟨rfl, rfl, trivial⟩ ?_
                        exact ih _ t _ (g1.trans g.1) ⟨g.2.1, g.2.2⟩ hL2 hV2 (by omega) (fun x h => g6 x (isLr_s hLn hw h)) (by omega))
                   · first
                     | (exfalso; omega)
                     | (refine bw_push rfl ?_
                        refine bw_retz rfl rfl (by omega) ?_
                        first
                        | exact ⟨rfl, _, rfl, Or.inl ⟨e, hE, rfl, hX⟩⟩
                        | exact ⟨rfl, _, rfl, Or.inl ⟨_, g6 _ (isLr_f (ln_e (by unfold prP; omega) (by omega) (by omega))), rfl, by rw [← a1]; exact FA.tr (s := pW) g1.1 (fa_of hT) (fun _ k => k) P_W⟩⟩)
                 · have hLn := (ln_pt (on := on) (Or.inl (by unfold prP; omega))).trans hz
                   have st := pt_step hT.ok (by omega) g4.1 hz
                   have hV2 : LV a n t ∧ lsO t := ⟨st.1, st.2.2.2⟩
                   have hlt := st.2.1
                   refine bw_istore (ls2 := [_, _, _]) rfl rfl (Nat.le_of_ble_eq_true rfl) rfl ?_
                   refine bw_goto rfl ?_
                   refine bw_iload rfl rfl ?_
                   refine bw_ifne rfl (fun c148 => ?_) (fun c148 => ?_)
                   · first
                     | (exfalso; omega)
                     | (refine bw_iinc (ls2 := [_, _, _]) rfl rfl rfl ⟨by omega, by omega⟩ rfl ?_
                        refine bw_goto rfl ?_
                        refine bw_forget (ls2 := [some (vr (some 3)), some (vi _), none]) ⟨rfl, rfl, trivial⟩ ?_
                        exact ih _ t _ (g1.trans g.1) ⟨g.2.1, g.2.2⟩ hL2 hV2 (by omega) (fun x h => g6 x (isLr_s hLn hw h)) (by omega))
                   · first
                     | (exfalso; omega)
                     | (refine bw_push rfl ?_
                        refine bw_retz rfl rfl (by omega) ?_
                        first
                        | exact ⟨rfl, _, rfl, Or.inl ⟨e, hE, rfl, hX⟩⟩
                        | exact ⟨rfl, _, rfl, Or.inl ⟨_, g6 _ (isLr_f (ln_e (by unfold prP; omega) (by omega) (by omega))), rfl, by rw [← a1]; exact FA.tr (s := pW) g1.1 (fa_of hT) (fun _ k => k) P_W⟩⟩)
               · skip
                 refine bw_aload rfl rfl ?_
                 refine bw_getr rfl rfl (hR _ _) ?_
                 refine bw_ldcs rfl ?_
                 refine bw_callVNj (e := d - 1) (as := [_]) rfl (by omega) rfl rfl (Nat.le_of_ble_eq_true rfl) (Nat.le_of_ble_eq_true rfl) rfl (c_isWord (i := 9) hR hT hA (by decide) (by omega)) (fun r58 hr58 => ?_)
                 have hr58 : wo a n (lsP s) = 18 ∧ r58 = 1 ∨ ¬ (wo a n (lsP s) = 18) ∧ r58 = 0 := hr58
                 refine bw_ifeq rfl (fun c61 => ?_) (fun c61 => ?_)
                 · skip
                   refine bw_aload rfl rfl ?_
                   refine bw_getr rfl rfl (hR _ _) ?_
                   refine bw_push rfl ?_
                   refine bw_callVNj (e := d - 1) (as := [_]) rfl (by omega) rfl rfl (Nat.le_of_ble_eq_true rfl) (Nat.le_of_ble_eq_true rfl) rfl (c_isSign (c := 41) hR hT hA (by decide)) (fun r78 hr78 => ?_)
                   refine bw_ifeq rfl (fun c81 => ?_) (fun c81 => ?_)
                   · skip
                     refine bw_aload rfl rfl ?_
                     refine bw_getr rfl rfl (hR _ _) ?_
                     refine bw_getI rfl rfl ?_
                     rw [g3.f9]
                     refine bw_ifne rfl (fun c119 => ?_) (fun c119 => ?_)
                     · skip
                       refine bw_aload rfl rfl ?_
                       refine bw_push rfl ?_
                       refine bw_aload rfl rfl ?_
                       refine bw_getr rfl rfl (hR _ _) ?_
                       refine bw_getI rfl rfl ?_
                       refine bw_callVi (e := d - 1) (as := [_, _]) rfl (by omega) rfl rfl (Nat.le_of_ble_eq_true rfl) (Nat.le_of_ble_eq_true rfl) rfl (c_fail hR) (fun r143 M143 hM143 => ?_)
                       obtain ⟨rfl, rfl⟩ := hM143
                       refine bw_istore (ls2 := [_, _, _]) rfl rfl (Nat.le_of_ble_eq_true rfl) rfl ?_
                       refine bw_iload rfl rfl ?_
                       refine bw_ifne rfl (fun c148 => ?_) (fun c148 => ?_)
                       · first
                         | (exfalso; omega)
                         | (refine bw_iinc (ls2 := [_, _, _]) rfl rfl rfl ⟨by omega, by omega⟩ rfl ?_
                            refine bw_goto rfl ?_
                            refine bw_forget (ls2 := [some (vr (some 3)), some (vi _), none]) ⟨rfl, rfl, trivial⟩ ?_
                            exact ih _ t _ (g1.trans g.1) ⟨g.2.1, g.2.2⟩ hL2 hV2 (by omega) (fun x h => g6 x (isLr_s hLn hw h)) (by omega))
                       · first
                         | (exfalso; omega)
                         | (refine bw_push rfl ?_
                            refine bw_retz rfl rfl (by omega) ?_
                            first
                            | exact ⟨rfl, _, rfl, Or.inl ⟨e, hE, rfl, hX⟩⟩
                            | exact ⟨rfl, _, rfl, Or.inl ⟨_, g6 _ (isLr_f (ln_e (by unfold prP; omega) (by omega) (by omega))), rfl, by rw [← a1]; exact FA.tr (s := pW) g1.1 (fa_of hT) (fun _ k => k) P_W⟩⟩)
                     · skip
                       refine bw_aload rfl rfl ?_
                       refine bw_getr rfl rfl (hR _ _) ?_
                       refine bw_getI rfl rfl ?_
                       rw [g3.fb]
                       refine bw_ifeq rfl (fun c129 => ?_) (fun c129 => ?_)
                       · skip
                         refine bw_aload rfl rfl ?_
                         refine bw_push rfl ?_
                         refine bw_aload rfl rfl ?_
                         refine bw_getr rfl rfl (hR _ _) ?_
                         refine bw_getI rfl rfl ?_
                         refine bw_callVi (e := d - 1) (as := [_, _]) rfl (by omega) rfl rfl (Nat.le_of_ble_eq_true rfl) (Nat.le_of_ble_eq_true rfl) rfl (c_fail hR) (fun r143 M143 hM143 => ?_)
                         obtain ⟨rfl, rfl⟩ := hM143
                         refine bw_istore (ls2 := [_, _, _]) rfl rfl (Nat.le_of_ble_eq_true rfl) rfl ?_
                         refine bw_iload rfl rfl ?_
                         refine bw_ifne rfl (fun c148 => ?_) (fun c148 => ?_)
                         · first
                           | (exfalso; omega)
                           | (refine bw_iinc (ls2 := [_, _, _]) rfl rfl rfl ⟨by omega, by omega⟩ rfl ?_
                              refine bw_goto rfl ?_
                              refine bw_forget (ls2 := [some (vr (some 3)), some (vi _), none]) ⟨rfl, rfl, trivial⟩ ?_
                              exact ih _ t _ (g1.trans g.1) ⟨g.2.1, g.2.2⟩ hL2 hV2 (by omega) (fun x h => g6 x (isLr_s hLn hw h)) (by omega))
                         · first
                           | (exfalso; omega)
                           | (refine bw_push rfl ?_
                              refine bw_retz rfl rfl (by omega) ?_
                              first
                              | exact ⟨rfl, _, rfl, Or.inl ⟨e, hE, rfl, hX⟩⟩
                              | exact ⟨rfl, _, rfl, Or.inl ⟨_, g6 _ (isLr_f (ln_e (by unfold prP; omega) (by omega) (by omega))), rfl, by rw [← a1]; exact FA.tr (s := pW) g1.1 (fa_of hT) (fun _ k => k) P_W⟩⟩)
                       · skip
                         refine bw_push rfl ?_
                         refine bw_retz rfl rfl (by omega) ?_
                         exact ⟨rfl, _, rfl, Or.inr ⟨s, g6 _ (isLr_d (ln_d (by unfold prP; omega) (by omega) (by omega))), rfl, ⟨g1, hT, hA⟩, g3, g4.1, g4.2 (by omega)⟩⟩
                   · skip
                     refine bw_aload rfl rfl ?_
                     refine bw_getr rfl rfl (hR _ _) ?_
                     refine bw_getI rfl rfl ?_
                     rw [g3.f9]
                     refine bw_ifle rfl (fun c91 => ?_) (fun c91 => ?_)
                     · skip
                       refine bw_aload rfl rfl ?_
                       refine bw_getr rfl rfl (hR _ _) ?_
                       refine bw_getI rfl rfl ?_
                       rw [g3.f9]
                       refine bw_ifne rfl (fun c119 => ?_) (fun c119 => ?_)
                       · skip
                         refine bw_aload rfl rfl ?_
                         refine bw_push rfl ?_
                         refine bw_aload rfl rfl ?_
                         refine bw_getr rfl rfl (hR _ _) ?_
                         refine bw_getI rfl rfl ?_
                         refine bw_callVi (e := d - 1) (as := [_, _]) rfl (by omega) rfl rfl (Nat.le_of_ble_eq_true rfl) (Nat.le_of_ble_eq_true rfl) rfl (c_fail hR) (fun r143 M143 hM143 => ?_)
                         obtain ⟨rfl, rfl⟩ := hM143
                         refine bw_istore (ls2 := [_, _, _]) rfl rfl (Nat.le_of_ble_eq_true rfl) rfl ?_
                         refine bw_iload rfl rfl ?_
                         refine bw_ifne rfl (fun c148 => ?_) (fun c148 => ?_)
                         · first
                           | (exfalso; omega)
                           | (refine bw_iinc (ls2 := [_, _, _]) rfl rfl rfl ⟨by omega, by omega⟩ rfl ?_
                              refine bw_goto rfl ?_
                              refine bw_forget (ls2 := [some (vr (some 3)), some (vi _), none]) ⟨rfl, rfl, trivial⟩ ?_
                              exact ih _ t _ (g1.trans g.1) ⟨g.2.1, g.2.2⟩ hL2 hV2 (by omega) (fun x h => g6 x (isLr_s hLn hw h)) (by omega))
                         · first
                           | (exfalso; omega)
                           | (refine bw_push rfl ?_
                              refine bw_retz rfl rfl (by omega) ?_
                              first
                              | exact ⟨rfl, _, rfl, Or.inl ⟨e, hE, rfl, hX⟩⟩
                              | exact ⟨rfl, _, rfl, Or.inl ⟨_, g6 _ (isLr_f (ln_e (by unfold prP; omega) (by omega) (by omega))), rfl, by rw [← a1]; exact FA.tr (s := pW) g1.1 (fa_of hT) (fun _ k => k) P_W⟩⟩)
                       · skip
                         refine bw_aload rfl rfl ?_
                         refine bw_getr rfl rfl (hR _ _) ?_
                         refine bw_getI rfl rfl ?_
                         rw [g3.fb]
                         refine bw_ifeq rfl (fun c129 => ?_) (fun c129 => ?_)
                         · skip
                           refine bw_aload rfl rfl ?_
                           refine bw_push rfl ?_
                           refine bw_aload rfl rfl ?_
                           refine bw_getr rfl rfl (hR _ _) ?_
                           refine bw_getI rfl rfl ?_
                           refine bw_callVi (e := d - 1) (as := [_, _]) rfl (by omega) rfl rfl (Nat.le_of_ble_eq_true rfl) (Nat.le_of_ble_eq_true rfl) rfl (c_fail hR) (fun r143 M143 hM143 => ?_)
                           obtain ⟨rfl, rfl⟩ := hM143
                           refine bw_istore (ls2 := [_, _, _]) rfl rfl (Nat.le_of_ble_eq_true rfl) rfl ?_
                           refine bw_iload rfl rfl ?_
                           refine bw_ifne rfl (fun c148 => ?_) (fun c148 => ?_)
                           · first
                             | (exfalso; omega)
                             | (refine bw_iinc (ls2 := [_, _, _]) rfl rfl rfl ⟨by omega, by omega⟩ rfl ?_
                                refine bw_goto rfl ?_
                                refine bw_forget (ls2 := [some (vr (some 3)), some (vi _), none]) ⟨rfl, rfl, trivial⟩ ?_
                                exact ih _ t _ (g1.trans g.1) ⟨g.2.1, g.2.2⟩ hL2 hV2 (by omega) (fun x h => g6 x (isLr_s hLn hw h)) (by omega))
                           · first
                             | (exfalso; omega)
                             | (refine bw_push rfl ?_
                                refine bw_retz rfl rfl (by omega) ?_
                                first
                                | exact ⟨rfl, _, rfl, Or.inl ⟨e, hE, rfl, hX⟩⟩
                                | exact ⟨rfl, _, rfl, Or.inl ⟨_, g6 _ (isLr_f (ln_e (by unfold prP; omega) (by omega) (by omega))), rfl, by rw [← a1]; exact FA.tr (s := pW) g1.1 (fa_of hT) (fun _ k => k) P_W⟩⟩)
                         · skip
                           refine bw_push rfl ?_
                           refine bw_retz rfl rfl (by omega) ?_
                           exact ⟨rfl, _, rfl, Or.inr ⟨s, g6 _ (isLr_d (ln_d (by unfold prP; omega) (by omega) (by omega))), rfl, ⟨g1, hT, hA⟩, g3, g4.1, g4.2 (by omega)⟩⟩
                     · skip
                       refine bw_aload rfl rfl ?_
                       refine bw_getr rfl rfl (hR _ _) ?_
                       refine bw_getI rfl rfl ?_
                       rw [g3.fb]
                       refine bw_ifeq rfl (fun c101 => ?_) (fun c101 => ?_)
                       · skip
                         refine bw_aload rfl rfl ?_
                         refine bw_getr rfl rfl (hR _ _) ?_
                         refine bw_getI rfl rfl ?_
                         rw [g3.f9]
                         refine bw_ifne rfl (fun c119 => ?_) (fun c119 => ?_)
                         · skip
                           refine bw_aload rfl rfl ?_
                           refine bw_push rfl ?_
                           refine bw_aload rfl rfl ?_
                           refine bw_getr rfl rfl (hR _ _) ?_
                           refine bw_getI rfl rfl ?_
                           refine bw_callVi (e := d - 1) (as := [_, _]) rfl (by omega) rfl rfl (Nat.le_of_ble_eq_true rfl) (Nat.le_of_ble_eq_true rfl) rfl (c_fail hR) (fun r143 M143 hM143 => ?_)
                           obtain ⟨rfl, rfl⟩ := hM143
                           refine bw_istore (ls2 := [_, _, _]) rfl rfl (Nat.le_of_ble_eq_true rfl) rfl ?_
                           refine bw_iload rfl rfl ?_
                           refine bw_ifne rfl (fun c148 => ?_) (fun c148 => ?_)
                           · first
                             | (exfalso; omega)
                             | (refine bw_iinc (ls2 := [_, _, _]) rfl rfl rfl ⟨by omega, by omega⟩ rfl ?_
                                refine bw_goto rfl ?_
                                refine bw_forget (ls2 := [some (vr (some 3)), some (vi _), none]) ⟨rfl, rfl, trivial⟩ ?_
                                exact ih _ t _ (g1.trans g.1) ⟨g.2.1, g.2.2⟩ hL2 hV2 (by omega) (fun x h => g6 x (isLr_s hLn hw h)) (by omega))
                           · first
                             | (exfalso; omega)
                             | (refine bw_push rfl ?_
                                refine bw_retz rfl rfl (by omega) ?_
                                first
                                | exact ⟨rfl, _, rfl, Or.inl ⟨e, hE, rfl, hX⟩⟩
                                | exact ⟨rfl, _, rfl, Or.inl ⟨_, g6 _ (isLr_f (ln_e (by unfold prP; omega) (by omega) (by omega))), rfl, by rw [← a1]; exact FA.tr (s := pW) g1.1 (fa_of hT) (fun _ k => k) P_W⟩⟩)
                         · skip
                           refine bw_aload rfl rfl ?_
                           refine bw_getr rfl rfl (hR _ _) ?_
                           refine bw_getI rfl rfl ?_
                           rw [g3.fb]
                           refine bw_ifeq rfl (fun c129 => ?_) (fun c129 => ?_)
                           · skip
                             refine bw_aload rfl rfl ?_
                             refine bw_push rfl ?_
                             refine bw_aload rfl rfl ?_
                             refine bw_getr rfl rfl (hR _ _) ?_
                             refine bw_getI rfl rfl ?_
                             refine bw_callVi (e := d - 1) (as := [_, _]) rfl (by omega) rfl rfl (Nat.le_of_ble_eq_true rfl) (Nat.le_of_ble_eq_true rfl) rfl (c_fail hR) (fun r143 M143 hM143 => ?_)
                             obtain ⟨rfl, rfl⟩ := hM143
                             refine bw_istore (ls2 := [_, _, _]) rfl rfl (Nat.le_of_ble_eq_true rfl) rfl ?_
                             refine bw_iload rfl rfl ?_
                             refine bw_ifne rfl (fun c148 => ?_) (fun c148 => ?_)
                             · first
                               | (exfalso; omega)
                               | (refine bw_iinc (ls2 := [_, _, _]) rfl rfl rfl ⟨by omega, by omega⟩ rfl ?_
                                  refine bw_goto rfl ?_
                                  refine bw_forget (ls2 := [some (vr (some 3)), some (vi _), none]) ⟨rfl, rfl, trivial⟩ ?_
                                  exact ih _ t _ (g1.trans g.1) ⟨g.2.1, g.2.2⟩ hL2 hV2 (by omega) (fun x h => g6 x (isLr_s hLn hw h)) (by omega))
                             · first
                               | (exfalso; omega)
                               | (refine bw_push rfl ?_
                                  refine bw_retz rfl rfl (by omega) ?_
                                  first
                                  | exact ⟨rfl, _, rfl, Or.inl ⟨e, hE, rfl, hX⟩⟩
                                  | exact ⟨rfl, _, rfl, Or.inl ⟨_, g6 _ (isLr_f (ln_e (by unfold prP; omega) (by omega) (by omega))), rfl, by rw [← a1]; exact FA.tr (s := pW) g1.1 (fa_of hT) (fun _ k => k) P_W⟩⟩)
                           · skip
                             refine bw_push rfl ?_
                             refine bw_retz rfl rfl (by omega) ?_
                             exact ⟨rfl, _, rfl, Or.inr ⟨s, g6 _ (isLr_d (ln_d (by unfold prP; omega) (by omega) (by omega))), rfl, ⟨g1, hT, hA⟩, g3, g4.1, g4.2 (by omega)⟩⟩
                       · skip
                         refine bw_aload rfl rfl ?_
                         refine bw_callVi (e := d - 1) (as := []) rfl (by omega) rfl rfl (Nat.le_of_ble_eq_true rfl) (Nat.le_of_ble_eq_true rfl) rfl (c_readClosing hR hT g3 hA g4.1 hon (by omega) (by omega) (by omega)) (fun r105 M105 hM105 => ?_)
                         rcases hM105 with ⟨e, hz, rfl, hX⟩ | ⟨t, w, hz, hw, rfl, g, hL2⟩
                         · have hE : isLr a n on (ls0 p) (.inl e) := g6 _ (isLr_f ((ln_cs (on := on) (by omega) (by omega) (by omega)).trans hz))
                           have hX := FA.tr (s := pW) g1.1 hX (fun _ k => k) (fun _ k => k)
                           refine bw_istore (ls2 := [_, _, _]) rfl rfl (Nat.le_of_ble_eq_true rfl) rfl ?_
                           refine bw_goto rfl ?_
                           refine bw_iload rfl rfl ?_
                           refine bw_ifne rfl (fun c148 => ?_) (fun c148 => ?_)
                           · first
                             | (exfalso; omega)
                             | (refine bw_iinc (ls2 := [_, _, _]) rfl rfl rfl ⟨by omega, by omega⟩ rfl ?_
                                refine bw_goto rfl ?_
                                refine bw_forget (ls2 := [some (vr (some 3)), some (vi _), none]) ⟨rfl, rfl, trivial⟩ ?_
                                exact ih _ t _ (g1.trans g.1) ⟨g.2.1, g.2.2⟩ hL2 hV2 (by omega) (fun x h => g6 x (isLr_s hLn hw h)) (by omega))
                           · first
                             | (exfalso; omega)
                             | (refine bw_push rfl ?_
                                refine bw_retz rfl rfl (by omega) ?_
                                first
                                | exact ⟨rfl, _, rfl, Or.inl ⟨e, hE, rfl, hX⟩⟩
                                | exact ⟨rfl, _, rfl, Or.inl ⟨_, g6 _ (isLr_f (ln_e (by unfold prP; omega) (by omega) (by omega))), rfl, by rw [← a1]; exact FA.tr (s := pW) g1.1 (fa_of hT) (fun _ k => k) P_W⟩⟩)
                         · have hLn := (ln_cs (on := on) (by omega) (by omega) (by omega)).trans hz
                           have st := cs_step2 hT.ok g4.1 (by omega) (by omega) hz
                           have lo := g4.2 (by omega)
                           have hV2 : LV a n t ∧ lsO t := ⟨st.1, fun _ => by have := st.2.2; omega⟩
                           have hlt := st.2.1
                           refine bw_istore (ls2 := [_, _, _]) rfl rfl (Nat.le_of_ble_eq_true rfl) rfl ?_
                           refine bw_goto rfl ?_
                           refine bw_iload rfl rfl ?_
                           refine bw_ifne rfl (fun c148 => ?_) (fun c148 => ?_)
                           · first
                             | (exfalso; omega)
                             | (refine bw_iinc (ls2 := [_, _, _]) rfl rfl rfl ⟨by omega, by omega⟩ rfl ?_
                                refine bw_goto rfl ?_
                                refine bw_forget (ls2 := [some (vr (some 3)), some (vi _), none]) ⟨rfl, rfl, trivial⟩ ?_
                                exact ih _ t _ (g1.trans g.1) ⟨g.2.1, g.2.2⟩ hL2 hV2 (by omega) (fun x h => g6 x (isLr_s hLn hw h)) (by omega))
                           · first
                             | (exfalso; omega)
                             | (refine bw_push rfl ?_
                                refine bw_retz rfl rfl (by omega) ?_
                                first
                                | exact ⟨rfl, _, rfl, Or.inl ⟨e, hE, rfl, hX⟩⟩
                                | exact ⟨rfl, _, rfl, Or.inl ⟨_, g6 _ (isLr_f (ln_e (by unfold prP; omega) (by omega) (by omega))), rfl, by rw [← a1]; exact FA.tr (s := pW) g1.1 (fa_of hT) (fun _ k => k) P_W⟩⟩)
                 · skip
                   refine bw_aload rfl rfl ?_
                   refine bw_callVi (e := d - 1) (as := []) rfl (by omega) rfl rfl (Nat.le_of_ble_eq_true rfl) (Nat.le_of_ble_eq_true rfl) rfl (c_readOpening hR hT g3 hA g4.1 hon (by omega) (by omega)) (fun r65 M65 hM65 => ?_)
                   rcases hM65 with ⟨e, hz, rfl, hX⟩ | ⟨t, w, hz, hw, rfl, g, hL2⟩
                   · have hE : isLr a n on (ls0 p) (.inl e) := g6 _ (isLr_f ((ln_pt (on := on) (Or.inl (by unfold prP; omega))).trans hz))
                     have hX := FA.tr (s := pW) g1.1 hX (fun _ k => k) (fun _ k => k)
                     refine bw_istore (ls2 := [_, _, _]) rfl rfl (Nat.le_of_ble_eq_true rfl) rfl ?_
                     refine bw_goto rfl ?_
                     refine bw_iload rfl rfl ?_
                     refine bw_ifne rfl (fun c148 => ?_) (fun c148 => ?_)
                     · first
                       | (exfalso; omega)
                       | (refine bw_iinc (ls2 := [_, _, _]) rfl rfl rfl ⟨by omega, by omega⟩ rfl ?_
                          refine bw_goto rfl ?_
                          refine bw_forget (ls2 := [some (vr (some 3)), some (vi _), none]) ⟨rfl, rfl, trivial⟩ ?_
                          exact ih _ t _ (g1.trans g.1) ⟨g.2.1, g.2.2⟩ hL2 hV2 (by omega) (fun x h => g6 x (isLr_s hLn hw h)) (by omega))
                     · first
                       | (exfalso; omega)
                       | (refine bw_push rfl ?_
                          refine bw_retz rfl rfl (by omega) ?_
                          first
                          | exact ⟨rfl, _, rfl, Or.inl ⟨e, hE, rfl, hX⟩⟩
                          | exact ⟨rfl, _, rfl, Or.inl ⟨_, g6 _ (isLr_f (ln_e (by unfold prP; omega) (by omega) (by omega))), rfl, by rw [← a1]; exact FA.tr (s := pW) g1.1 (fa_of hT) (fun _ k => k) P_W⟩⟩)
                   · have hLn := (ln_pt (on := on) (Or.inl (by unfold prP; omega))).trans hz
                     have st := pt_step hT.ok (by omega) g4.1 hz
                     have hV2 : LV a n t ∧ lsO t := ⟨st.1, st.2.2.2⟩
                     have hlt := st.2.1
                     refine bw_istore (ls2 := [_, _, _]) rfl rfl (Nat.le_of_ble_eq_true rfl) rfl ?_
                     refine bw_goto rfl ?_
                     refine bw_iload rfl rfl ?_
                     refine bw_ifne rfl (fun c148 => ?_) (fun c148 => ?_)
                     · first
                       | (exfalso; omega)
                       | (refine bw_iinc (ls2 := [_, _, _]) rfl rfl rfl ⟨by omega, by omega⟩ rfl ?_
                          refine bw_goto rfl ?_
                          refine bw_forget (ls2 := [some (vr (some 3)), some (vi _), none]) ⟨rfl, rfl, trivial⟩ ?_
                          exact ih _ t _ (g1.trans g.1) ⟨g.2.1, g.2.2⟩ hL2 hV2 (by omega) (fun x h => g6 x (isLr_s hLn hw h)) (by omega))
                     · first
                       | (exfalso; omega)
                       | (refine bw_push rfl ?_
                          refine bw_retz rfl rfl (by omega) ?_
                          first
                          | exact ⟨rfl, _, rfl, Or.inl ⟨e, hE, rfl, hX⟩⟩
                          | exact ⟨rfl, _, rfl, Or.inl ⟨_, g6 _ (isLr_f (ln_e (by unfold prP; omega) (by omega) (by omega))), rfl, by rw [← a1]; exact FA.tr (s := pW) g1.1 (fa_of hT) (fun _ k => k) P_W⟩⟩)
             · skip
               refine bw_aload rfl rfl ?_
               refine bw_callVi (e := d - 1) (as := []) rfl (by omega) rfl rfl (Nat.le_of_ble_eq_true rfl) (Nat.le_of_ble_eq_true rfl) rfl (c_readHolds hR hT g3 hA g4.1 hon (by omega) (by omega)) (fun r33 M33 hM33 => ?_)
               rcases hM33 with ⟨e, hz, rfl, hX⟩ | ⟨t, w, hz, hw, rfl, g, hL2⟩
               · have hE : isLr a n on (ls0 p) (.inl e) := g6 _ (isLr_f ((ln_pt (on := on) (Or.inl (by unfold prP; omega))).trans hz))
                 have hX := FA.tr (s := pW) g1.1 hX (fun _ k => k) (fun _ k => k)
                 refine bw_istore (ls2 := [_, _, _]) rfl rfl (Nat.le_of_ble_eq_true rfl) rfl ?_
                 refine bw_goto rfl ?_
                 refine bw_iload rfl rfl ?_
                 refine bw_ifne rfl (fun c148 => ?_) (fun c148 => ?_)
                 · first
                   | (exfalso; omega)
                   | (refine bw_iinc (ls2 := [_, _, _]) rfl rfl rfl ⟨by omega, by omega⟩ rfl ?_
                      refine bw_goto rfl ?_
                      refine bw_forget (ls2 := [some (vr (some 3)), some (vi _), none]) ⟨rfl, rfl, trivial⟩ ?_
                      exact ih _ t _ (g1.trans g.1) ⟨g.2.1, g.2.2⟩ hL2 hV2 (by omega) (fun x h => g6 x (isLr_s hLn hw h)) (by omega))
                 · first
                   | (exfalso; omega)
                   | (refine bw_push rfl ?_
                      refine bw_retz rfl rfl (by omega) ?_
                      first
                      | exact ⟨rfl, _, rfl, Or.inl ⟨e, hE, rfl, hX⟩⟩
                      | exact ⟨rfl, _, rfl, Or.inl ⟨_, g6 _ (isLr_f (ln_e (by unfold prP; omega) (by omega) (by omega))), rfl, by rw [← a1]; exact FA.tr (s := pW) g1.1 (fa_of hT) (fun _ k => k) P_W⟩⟩)
               · have hLn := (ln_pt (on := on) (Or.inl (by unfold prP; omega))).trans hz
                 have st := pt_step hT.ok (by omega) g4.1 hz
                 have hV2 : LV a n t ∧ lsO t := ⟨st.1, st.2.2.2⟩
                 have hlt := st.2.1
                 refine bw_istore (ls2 := [_, _, _]) rfl rfl (Nat.le_of_ble_eq_true rfl) rfl ?_
                 refine bw_goto rfl ?_
                 refine bw_iload rfl rfl ?_
                 refine bw_ifne rfl (fun c148 => ?_) (fun c148 => ?_)
                 · first
                   | (exfalso; omega)
                   | (refine bw_iinc (ls2 := [_, _, _]) rfl rfl rfl ⟨by omega, by omega⟩ rfl ?_
                      refine bw_goto rfl ?_
                      refine bw_forget (ls2 := [some (vr (some 3)), some (vi _), none]) ⟨rfl, rfl, trivial⟩ ?_
                      exact ih _ t _ (g1.trans g.1) ⟨g.2.1, g.2.2⟩ hL2 hV2 (by omega) (fun x h => g6 x (isLr_s hLn hw h)) (by omega))
                 · first
                   | (exfalso; omega)
                   | (refine bw_push rfl ?_
                      refine bw_retz rfl rfl (by omega) ?_
                      first
                      | exact ⟨rfl, _, rfl, Or.inl ⟨e, hE, rfl, hX⟩⟩
                      | exact ⟨rfl, _, rfl, Or.inl ⟨_, g6 _ (isLr_f (ln_e (by unfold prP; omega) (by omega) (by omega))), rfl, by rw [← a1]; exact FA.tr (s := pW) g1.1 (fa_of hT) (fun _ k => k) P_W⟩⟩))
  show abW d (0, 0) 43 0 [some (vr (some 3)), none, none] [] (0, 0) (A0 L) M (qI (A0 L) (fun x N => (∃ e : Int × Int, isLr a n on (ls0 p) (.inl e) ∧ x = 0 ∧ FA pW M a n e N) ∨ (∃ t : LnS, isLr a n on (ls0 p) (.inr t) ∧ x = 1 ∧ GO pW M a n (lsP t) N ∧ CL N fr on t ∧ LV a n t ∧ 1 ≤ (lsH t).1)))
  refine bw_push rfl ?_
  refine bw_istore (ls2 := [_, _, _]) rfl rfl (Nat.le_of_ble_eq_true rfl) rfl ?_
  exact L2 ((n - p).toNat + 1) M (ls0 p) 0 (sq_refl _ _) ⟨hT, hA⟩ hL ⟨ls0_LV hp0, fun k => by have : (0 : Int) = 1 := k; omega⟩ ⟨Int.le_refl _, hp0.1⟩ (fun x h => h) (by show (n - p).toNat < _; omega)
