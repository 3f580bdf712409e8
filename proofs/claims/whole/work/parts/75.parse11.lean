/-- CT, and what a statement that begins here needs, as words that omega doesn't open -/
def CTd (S : Int → Int) : Prop := CT S
def fSt (S a : Int → Int) (n q : Int) : Prop := (wo a n q = 1 → S 1 ≤ 5) ∧ (wo a n q = 5 → S 2 ≤ 39) ∧ (wo a n q = 9 → S 3 ≤ 11) ∧ (wo a n q = 16 → S 4 ≤ 11)
theorem fSt_of {S a : Int → Int} {n q : Int} (h : CT S) (hG : ¬ (S 5 = 60 ∨ flP S (wo a n q))) : fSt S a n q := ⟨fun e => by have := h.2.1; have : ¬ S 1 = 6 := fun k => hG (Or.inr (Or.inl ⟨e, k⟩)); omega, fun e => by have := h.2.2.1; have : ¬ S 2 = 40 := fun k => hG (Or.inr (Or.inr (Or.inl ⟨e, k⟩))); omega, fun e => by have := h.2.2.2.1; have : ¬ S 3 = 12 := fun k => hG (Or.inr (Or.inr (Or.inr (Or.inl ⟨e, k⟩)))); omega, fun e => by have := h.2.2.2.2.1; have : ¬ S 4 = 12 := fun k => hG (Or.inr (Or.inr (Or.inr (Or.inr ⟨⟨by omega, by omega, by omega⟩, k⟩)))); omega⟩
set_option maxRecDepth 20000 in
set_option maxHeartbeats 4000000 in
theorem c_parse {d L : Nat} {M : abMem} {r : abRf} (hR : RF r M) {a : Int → Int} {n : Int} (hT : TP M a n) {s : Nat} (hs : s = 372 ∨ s = 459) (hd : 10 ≤ d) : abW d (0, 0) 35 0 (abEnt (abL 35) [vr (some 3), vr (some s)]) [] (0, 0) (A0 L) M (qI (A0 L) (fun x N => (sm (pA s) (sR M 3 3 (some s)) N ∧ TP N a n ∧ ((∃ e : Int × Int, isTx a n (.inl e) ∧ x = 0 ∧ gI N 3 5 = e.1 ∧ gI N 3 6 = e.2) ∨ (∃ S : Int → Int, isTx a n (.inr S) ∧ x = 1 ∧ SR N s S ∧ gI N 3 5 = 0 ∧ gI N 3 6 = -1))))) := by
  rcases hs with rfl | rfl
  · have L192 : ∀ (kf : Nat) (N : abMem) (S : Int → Int) (x i : Int), (sm (pA 372) (sR M 3 3 (some 372)) N) → (TP N a n) → ((∃ e : Int × Int, isTx a n (.inl e) ∧ x = 0 ∧ gI N 3 5 = e.1 ∧ gI N 3 6 = e.2) ∨ (x = 1 ∧ SR N 372 S ∧ (S 1 = 0 → isTx a n (.inl (5, n))) ∧ (S 1 ≠ 0 → isTx a n (.inr S)) ∧ gI N 3 5 = 0 ∧ gI N 3 6 = -1)) → ((0 : Nat)) < kf → abW d (0, 0) 35 192 [some (vr (some 3)), some (vr (some 372)), some (vi x), some (vi i)] [] (0, 0) (A0 L) (N) (qI (A0 L) (fun x N => (sm (pA 372) (sR M 3 3 (some 372)) N ∧ TP N a n ∧ ((∃ e : Int × Int, isTx a n (.inl e) ∧ x = 0 ∧ gI N 3 5 = e.1 ∧ gI N 3 6 = e.2) ∨ (∃ S : Int → Int, isTx a n (.inr S) ∧ x = 1 ∧ SR N 372 S ∧ gI N 3 5 = 0 ∧ gI N 3 6 = -1))))) := by
      intro kf
      induction kf with
      | zero => intro N  S  x i  k1 k2 k3 hm9; exact absurd hm9 (Nat.not_lt_zero _)
      | succ kf ih192 =>
        intro N  S  x i  k1 k2 k3 hm192
        have ih := ih192
        have hR := k1.RF (RF_3 hR (some 372))
        have hr : ((r.1, (some 372, r.2.2)) : abRf).2.1 = some 372 := rfl
        have hT := k2
        refine bw_iload rfl rfl ?_
        refine bw_ifeq rfl (fun c193 => ?_) (fun c193 => ?_)
        · skip
          refine bw_iload rfl rfl ?_
          refine bw_retz rfl rfl (by omega) ?_
          first
          | exact ⟨rfl, _, rfl, k1, k2, Or.inr ⟨S, k6 c203, rfl, hS, hc5, hc6⟩⟩
          | exact ⟨rfl, _, rfl, k1.trans ((fa_of (k := 5) (p := n) hT).1.mono (fun c k => Or.inl (P_W c k))), (fa_of (k := 5) (p := n) hT).2.1, Or.inl ⟨_, k5 (by omega), rfl, (fa_of (k := 5) (p := n) hT).2.2⟩⟩
          | (rcases k3 with ⟨e, h1, h2, h3⟩ | ⟨h, _⟩
             · exact ⟨rfl, _, rfl, k1, k2, Or.inl ⟨e, h1, h2, h3⟩⟩
             · exfalso; omega)
        · skip
          obtain ⟨rfl, hS, k5, k6, hc5, hc6⟩ : x = 1 ∧ SR N 372 S ∧ (S 1 = 0 → isTx a n (.inl (5, n))) ∧ (S 1 ≠ 0 → isTx a n (.inr S)) ∧ gI N 3 5 = 0 ∧ gI N 3 6 = -1 := by
            rcases k3 with ⟨e, _, h, _⟩ | h
            · omega
            · exact h
          clear k3
          refine bw_aload rfl rfl ?_
          refine bw_getr rfl rfl ((hR _ _).trans hr) ?_
          refine bw_getI rfl rfl ?_
          rw [show gI N 372 2 = S 1 from hS.c2]
          refine bw_ifne rfl (fun c203 => ?_) (fun c203 => ?_)
          · skip
            refine bw_iload rfl rfl ?_
            refine bw_retz rfl rfl (by omega) ?_
            first
            | exact ⟨rfl, _, rfl, k1, k2, Or.inr ⟨S, k6 c203, rfl, hS, hc5, hc6⟩⟩
            | exact ⟨rfl, _, rfl, k1.trans ((fa_of (k := 5) (p := n) hT).1.mono (fun c k => Or.inl (P_W c k))), (fa_of (k := 5) (p := n) hT).2.1, Or.inl ⟨_, k5 (by omega), rfl, (fa_of (k := 5) (p := n) hT).2.2⟩⟩
            | (rcases k3 with ⟨e, h1, h2, h3⟩ | ⟨h, _⟩
               · exact ⟨rfl, _, rfl, k1, k2, Or.inl ⟨e, h1, h2, h3⟩⟩
               · exfalso; omega)
          · skip
            refine bw_aload rfl rfl ?_
            refine bw_push rfl ?_
            refine bw_aload rfl rfl ?_
            refine bw_getr rfl rfl (hR _ _) ?_
            refine bw_getI rfl rfl ?_
            rw [hT.le]
            refine bw_callVi (e := d - 1) (as := [_, _]) rfl (by omega) rfl rfl (Nat.le_of_ble_eq_true rfl) (Nat.le_of_ble_eq_true rfl) rfl (c_fail hR) (fun r215 M215 hM215 => ?_)
            obtain ⟨rfl, rfl⟩ := hM215
            refine bw_istore (ls2 := [_, _, _, _]) rfl rfl (Nat.le_of_ble_eq_true rfl) rfl ?_
            refine bw_iload rfl rfl ?_
            refine bw_retz rfl rfl (by omega) ?_
            first
            | exact ⟨rfl, _, rfl, k1, k2, Or.inr ⟨S, k6 c203, rfl, hS, hc5, hc6⟩⟩
            | exact ⟨rfl, _, rfl, k1.trans ((fa_of (k := 5) (p := n) hT).1.mono (fun c k => Or.inl (P_W c k))), (fa_of (k := 5) (p := n) hT).2.1, Or.inl ⟨_, k5 (by omega), rfl, (fa_of (k := 5) (p := n) hT).2.2⟩⟩
            | (rcases k3 with ⟨e, h1, h2, h3⟩ | ⟨h, _⟩
               · exact ⟨rfl, _, rfl, k1, k2, Or.inl ⟨e, h1, h2, h3⟩⟩
               · exfalso; omega)
    have L36 : ∀ (kf : Nat) (N : abMem) (z : Rp) (S : Int → Int) (x i : Int), (sm (pA 372) (sR M 3 3 (some 372)) N) → (TP N a n) → ((∃ e : Int × Int, z = .inl e ∧ x = 0 ∧ gI N 3 5 = e.1 ∧ gI N 3 6 = e.2) ∨ (∃ q : Int, z = .inr q ∧ x = 1 ∧ TA N a n q ∧ SR N 372 S ∧ CTd S ∧ S 5 = i ∧ gI N 3 5 = 0 ∧ gI N 3 6 = -1)) → (1 ≤ i ∧ i ≤ 61) → (∀ y, isSc a n z S y → isTx a n y) → ((62 - i).toNat) < kf → abW d (0, 0) 35 36 [some (vr (some 3)), some (vr (some 372)), some (vi x), some (vi i)] [] (0, 0) (A0 L) (N) (qI (A0 L) (fun x N => (sm (pA 372) (sR M 3 3 (some 372)) N ∧ TP N a n ∧ ((∃ e : Int × Int, isTx a n (.inl e) ∧ x = 0 ∧ gI N 3 5 = e.1 ∧ gI N 3 6 = e.2) ∨ (∃ S : Int → Int, isTx a n (.inr S) ∧ x = 1 ∧ SR N 372 S ∧ gI N 3 5 = 0 ∧ gI N 3 6 = -1))))) := by
      intro kf
      induction kf with
      | zero => intro N  z  S  x i  g1 g2 g3 g4 g5 hm9; exact absurd hm9 (Nat.not_lt_zero _)
      | succ kf ih36 =>
        intro N  z  S  x i  g1 g2 g3 g4 g5 hm36
        have ih := ih36
        have hR := g1.RF (RF_3 hR (some 372))
        have hr : ((r.1, (some 372, r.2.2)) : abRf).2.1 = some 372 := rfl
        have hT := g2
        refine bw_iload rfl rfl ?_
        refine bw_push rfl ?_
        refine bw_icgt rfl (fun c39 => ?_) (fun c39 => ?_)
        · first
          | (exfalso; omega)
          | (first
             | exact L192 1 N S 1 _ g1 g2 (Or.inr ⟨rfl, hS, fun h => g5 _ (isSc_5 (by omega) h), fun h => g5 _ (isSc_d (by omega) h), hc5, hc6⟩) (by decide)
             | (rcases g3 with ⟨e, h1, h2, h3, h4⟩ | ⟨q, h1, h2, h3, h4, h5, h6⟩
                · exact L192 1 N S x _ g1 g2 (Or.inl ⟨e, g5 _ (by rw [h1]; exact isSc_f), h2, h3, h4⟩) (by decide)
                · exfalso; have := h5.2.2.2.2.2; omega))
        · first
          | (exfalso; omega)
          | (refine bw_iload rfl rfl ?_
             refine bw_ifeq rfl (fun c43 => ?_) (fun c43 => ?_)
             · first
               | (exfalso; omega)
               | (first
                  | exact L192 1 N S 1 _ g1 g2 (Or.inr ⟨rfl, hS, fun h => g5 _ (isSc_5 (by omega) h), fun h => g5 _ (isSc_d (by omega) h), hc5, hc6⟩) (by decide)
                  | (rcases g3 with ⟨e, h1, h2, h3, h4⟩ | ⟨q, h1, h2, h3, h4, h5, h6⟩
                     · exact L192 1 N S x _ g1 g2 (Or.inl ⟨e, g5 _ (by rw [h1]; exact isSc_f), h2, h3, h4⟩) (by decide)
                     · exfalso; have := h5.2.2.2.2.2; omega))
             · first
               | (exfalso; omega)
               | (obtain ⟨q, rfl, rfl, hA, hS, hct, h5, hc5, hc6⟩ : ∃ q : Int, z = .inr q ∧ x = 1 ∧ TA N a n q ∧ SR N 372 S ∧ CTd S ∧ S 5 = i ∧ gI N 3 5 = 0 ∧ gI N 3 6 = -1 := by
                    rcases g3 with ⟨e, _, h, _⟩ | h
                    · omega
                    · exact h
                  clear g3
                  have a2 := hA.1.2.1
                  have tc := tk_c hT.ok (p := q) (by have := hA.2; omega)
                  refine bw_aload rfl rfl ?_
                  refine bw_getr rfl rfl (hR _ _) ?_
                  refine bw_getI rfl rfl ?_
                  refine bw_ifeq rfl (fun c53 => ?_) (fun c53 => ?_)
                  · skip
                    first
                    | exact L192 1 N S 1 _ g1 g2 (Or.inr ⟨rfl, hS, fun h => g5 _ (isSc_5 (by omega) h), fun h => g5 _ (isSc_d (by omega) h), hc5, hc6⟩) (by decide)
                    | (rcases g3 with ⟨e, h1, h2, h3, h4⟩ | ⟨q, h1, h2, h3, h4, h5, h6⟩
                       · exact L192 1 N S x _ g1 g2 (Or.inl ⟨e, g5 _ (by rw [h1]; exact isSc_f), h2, h3, h4⟩) (by decide)
                       · exfalso; have := h5.2.2.2.2.2; omega)
                  · skip
                    refine bw_aload rfl rfl ?_
                    refine bw_callVi (e := d - 1) (as := []) rfl (by omega) rfl rfl (Nat.le_of_ble_eq_true rfl) (Nat.le_of_ble_eq_true rfl) rfl (c_startStatement hR hT hA (by first | exact Or.inl rfl | exact Or.inr rfl) hS hr (by omega)) (fun r57 M57 hM57 => ?_)
                    rcases hM57 with ⟨e, hz, rfl, hX⟩ | ⟨hw, hG, g57⟩
                    · have hX := FA.tr (s := pA 372) g1 hX (fun _ k => k) (fun c k => Or.inl (G_W c k))
                      have hz : (enS (stS S a n q).2 a n (stS S a n q).1).1 = .inl e := by rw [hz]; rfl
                      refine bw_switch (t := 184) rfl (by decide) ?_
                      refine bw_push rfl ?_
                      refine bw_istore (ls2 := [_, _, _, _]) rfl rfl (Nat.le_of_ble_eq_true rfl) rfl ?_
                      refine bw_iinc (ls2 := [_, _, _, _]) rfl rfl rfl ⟨by omega, by omega⟩ rfl ?_
                      refine bw_goto rfl ?_
                      refine bw_forget (ls2 := [some (vr (some 3)), some (vr (some 372)), some (vi _), some (vi _)]) ⟨rfl, rfl, rfl, rfl, trivial⟩ ?_
                      first
                      | exact ih _ (enS (stS S a n q).2 a n (stS S a n q).1).1 (enS (stS S a n q).2 a n (stS S a n q).1).2 _ _ hX.1 hX.2.1 (Or.inl ⟨e, hz, rfl, hX.2.2.1, hX.2.2.2⟩) (by omega) (fun y h => g5 y (isSc_s (by omega) h)) (by omega)
                      | exact ih _ (enS (stS S a n q).2 a n (stS S a n q).1).1 (enS (stS S a n q).2 a n (stS S a n q).1).2 _ _ hF g.2.1 (Or.inr ⟨q3, hz, rfl, g.2.2, hS3, hC2, by omega, hc5, hc6⟩) (by omega) (fun y h => g5 y (isSc_s (by omega) h)) (by omega)
                      | (exfalso; omega)
                    · have hR := g57.1.RF hR
                      have hT := g57.2.1
                      have hA := g57.2.2
                      have hS := SR_sm hS g57.1.1 (fun c c0 c1 => no_R (by omega))
                      have aq : a q ≠ -1 := by omega
                      clear tc
                      have ff : fSt S a n q := fSt_of hct hG
                      have hc5 := g57.1.2.1.trans hc5
                      have hc6 := g57.1.2.2.trans hc6
                      by_cases s60_0 : r57 = 1
                      · refine bw_switch (t := 92) rfl (by rw [s60_0]; rfl) ?_
                        refine bw_aload rfl rfl ?_
                        have eS : stS S a n q = laS S a n (sk a n (we a n q)) := by rw [st_g (by omega) hG]; exact if_pos (by omega)
                        refine bw_callVi (e := d - 1) (as := []) rfl (by omega) rfl rfl (Nat.le_of_ble_eq_true rfl) (Nat.le_of_ble_eq_true rfl) rfl (c_readLayer hR hT hA (by first | exact Or.inl rfl | exact Or.inr rfl) hS hr (ff.1 (by omega)) hct.1.1 (by omega)) (fun r93 M93 hM93 => ?_)
                        rw [← eS] at hM93
                        rcases hM93 with ⟨e, hz, rfl, hX⟩ | ⟨q2, hz, rfl, g, hS2⟩
                        · have hF := g1.trans (g57.1.1.mono (fun c k => Or.inl (G_W c k)))
                          have hX := FA.tr (s := pA 372) hF hX (fun _ k => k) (fun c k => Or.inl k)
                          have hz : (enS (stS S a n q).2 a n (stS S a n q).1).1 = .inl e := by rw [hz]; rfl
                          refine bw_ifeq rfl (fun c96 => ?_) (fun c96 => ?_)
                          · first
                            | (exfalso; omega)
                            | (refine bw_push rfl ?_
                               refine bw_istore (ls2 := [_, _, _, _]) rfl rfl (Nat.le_of_ble_eq_true rfl) rfl ?_
                               refine bw_goto rfl ?_
                               refine bw_iinc (ls2 := [_, _, _, _]) rfl rfl rfl ⟨by omega, by omega⟩ rfl ?_
                               refine bw_goto rfl ?_
                               refine bw_forget (ls2 := [some (vr (some 3)), some (vr (some 372)), some (vi _), some (vi _)]) ⟨rfl, rfl, rfl, rfl, trivial⟩ ?_
                               first
                               | exact ih _ (enS (stS S a n q).2 a n (stS S a n q).1).1 (enS (stS S a n q).2 a n (stS S a n q).1).2 _ _ hX.1 hX.2.1 (Or.inl ⟨e, hz, rfl, hX.2.2.1, hX.2.2.2⟩) (by omega) (fun y h => g5 y (isSc_s (by omega) h)) (by omega)
                               | exact ih _ (enS (stS S a n q).2 a n (stS S a n q).1).1 (enS (stS S a n q).2 a n (stS S a n q).1).2 _ _ hF g.2.1 (Or.inr ⟨q3, hz, rfl, g.2.2, hS3, hC2, by omega, hc5, hc6⟩) (by omega) (fun y h => g5 y (isSc_s (by omega) h)) (by omega)
                               | (exfalso; omega))
                          · first
                            | (exfalso; omega)
                            | (refine bw_aload rfl rfl ?_
                               refine bw_callVi (e := d - 1) (as := []) rfl (by omega) rfl rfl (Nat.le_of_ble_eq_true rfl) (Nat.le_of_ble_eq_true rfl) rfl (c_endStatement hR hT hA (by first | exact Or.inl rfl | exact Or.inr rfl) hS2 hr (by omega) (by omega)) (fun r100 M100 hM100 => ?_)
                               rcases hM100 with ⟨e, hz2, rfl, hX⟩ | ⟨q3, hz2, rfl, g, hS3⟩
                               · have hX := FA.tr (s := pA 372) hF hX (fun _ k => k) (fun c k => Or.elim k (fun k => Or.inl (G_W c k)) Or.inr)
                                 have hz : (enS (stS S a n q).2 a n (stS S a n q).1).1 = .inl e := by rw [hz]; exact hz2
                                 refine bw_ifeq rfl (fun c103 => ?_) (fun c103 => ?_)
                                 · first
                                   | (exfalso; omega)
                                   | (refine bw_push rfl ?_
                                      refine bw_istore (ls2 := [_, _, _, _]) rfl rfl (Nat.le_of_ble_eq_true rfl) rfl ?_
                                      refine bw_goto rfl ?_
                                      refine bw_iinc (ls2 := [_, _, _, _]) rfl rfl rfl ⟨by omega, by omega⟩ rfl ?_
                                      refine bw_goto rfl ?_
                                      refine bw_forget (ls2 := [some (vr (some 3)), some (vr (some 372)), some (vi _), some (vi _)]) ⟨rfl, rfl, rfl, rfl, trivial⟩ ?_
                                      first
                                      | exact ih _ (enS (stS S a n q).2 a n (stS S a n q).1).1 (enS (stS S a n q).2 a n (stS S a n q).1).2 _ _ hX.1 hX.2.1 (Or.inl ⟨e, hz, rfl, hX.2.2.1, hX.2.2.2⟩) (by omega) (fun y h => g5 y (isSc_s (by omega) h)) (by omega)
                                      | exact ih _ (enS (stS S a n q).2 a n (stS S a n q).1).1 (enS (stS S a n q).2 a n (stS S a n q).1).2 _ _ hF g.2.1 (Or.inr ⟨q3, hz, rfl, g.2.2, hS3, hC2, by omega, hc5, hc6⟩) (by omega) (fun y h => g5 y (isSc_s (by omega) h)) (by omega)
                                      | (exfalso; omega))
                                 · first
                                   | (exfalso; omega)
                                   | (refine bw_push rfl ?_
                                      refine bw_goto rfl ?_
                                      refine bw_istore (ls2 := [_, _, _, _]) rfl rfl (Nat.le_of_ble_eq_true rfl) rfl ?_
                                      refine bw_goto rfl ?_
                                      refine bw_iinc (ls2 := [_, _, _, _]) rfl rfl rfl ⟨by omega, by omega⟩ rfl ?_
                                      refine bw_goto rfl ?_
                                      refine bw_forget (ls2 := [some (vr (some 3)), some (vr (some 372)), some (vi _), some (vi _)]) ⟨rfl, rfl, rfl, rfl, trivial⟩ ?_
                                      first
                                      | exact ih _ (enS (stS S a n q).2 a n (stS S a n q).1).1 (enS (stS S a n q).2 a n (stS S a n q).1).2 _ _ hX.1 hX.2.1 (Or.inl ⟨e, hz, rfl, hX.2.2.1, hX.2.2.2⟩) (by omega) (fun y h => g5 y (isSc_s (by omega) h)) (by omega)
                                      | exact ih _ (enS (stS S a n q).2 a n (stS S a n q).1).1 (enS (stS S a n q).2 a n (stS S a n q).1).2 _ _ hF g.2.1 (Or.inr ⟨q3, hz, rfl, g.2.2, hS3, hC2, by omega, hc5, hc6⟩) (by omega) (fun y h => g5 y (isSc_s (by omega) h)) (by omega)
                                      | (exfalso; omega))
                               · have hF := hF.trans (g.1.1.mono (fun c k => Or.elim k (fun k => Or.inl (G_W c k)) Or.inr))
                                 have hz : (enS (stS S a n q).2 a n (stS S a n q).1).1 = .inr q3 := by rw [hz]; exact hz2
                                 have hC2 : CTd (enS (stS S a n q).2 a n (stS S a n q).1).2 := en_ct ct.1 (by omega)
                                 have h55 : (enS (stS S a n q).2 a n (stS S a n q).1).2 5 = S 5 + 1 := by
                                   show up (stS S a n q).2 5 ((stS S a n q).2 5 + 1) 5 = S 5 + 1
                                   rw [up_eq rfl, lo]
                                 have hc5 := g.1.2.1.trans hc5
                                 have hc6 := g.1.2.2.trans hc6
                                 refine bw_ifeq rfl (fun c103 => ?_) (fun c103 => ?_)
                                 · first
                                   | (exfalso; omega)
                                   | (refine bw_push rfl ?_
                                      refine bw_istore (ls2 := [_, _, _, _]) rfl rfl (Nat.le_of_ble_eq_true rfl) rfl ?_
                                      refine bw_goto rfl ?_
                                      refine bw_iinc (ls2 := [_, _, _, _]) rfl rfl rfl ⟨by omega, by omega⟩ rfl ?_
                                      refine bw_goto rfl ?_
                                      refine bw_forget (ls2 := [some (vr (some 3)), some (vr (some 372)), some (vi _), some (vi _)]) ⟨rfl, rfl, rfl, rfl, trivial⟩ ?_
                                      first
                                      | exact ih _ (enS (stS S a n q).2 a n (stS S a n q).1).1 (enS (stS S a n q).2 a n (stS S a n q).1).2 _ _ hX.1 hX.2.1 (Or.inl ⟨e, hz, rfl, hX.2.2.1, hX.2.2.2⟩) (by omega) (fun y h => g5 y (isSc_s (by omega) h)) (by omega)
                                      | exact ih _ (enS (stS S a n q).2 a n (stS S a n q).1).1 (enS (stS S a n q).2 a n (stS S a n q).1).2 _ _ hF g.2.1 (Or.inr ⟨q3, hz, rfl, g.2.2, hS3, hC2, by omega, hc5, hc6⟩) (by omega) (fun y h => g5 y (isSc_s (by omega) h)) (by omega)
                                      | (exfalso; omega))
                                 · first
                                   | (exfalso; omega)
                                   | (refine bw_push rfl ?_
                                      refine bw_goto rfl ?_
                                      refine bw_istore (ls2 := [_, _, _, _]) rfl rfl (Nat.le_of_ble_eq_true rfl) rfl ?_
                                      refine bw_goto rfl ?_
                                      refine bw_iinc (ls2 := [_, _, _, _]) rfl rfl rfl ⟨by omega, by omega⟩ rfl ?_
                                      refine bw_goto rfl ?_
                                      refine bw_forget (ls2 := [some (vr (some 3)), some (vr (some 372)), some (vi _), some (vi _)]) ⟨rfl, rfl, rfl, rfl, trivial⟩ ?_
                                      first
                                      | exact ih _ (enS (stS S a n q).2 a n (stS S a n q).1).1 (enS (stS S a n q).2 a n (stS S a n q).1).2 _ _ hX.1 hX.2.1 (Or.inl ⟨e, hz, rfl, hX.2.2.1, hX.2.2.2⟩) (by omega) (fun y h => g5 y (isSc_s (by omega) h)) (by omega)
                                      | exact ih _ (enS (stS S a n q).2 a n (stS S a n q).1).1 (enS (stS S a n q).2 a n (stS S a n q).1).2 _ _ hF g.2.1 (Or.inr ⟨q3, hz, rfl, g.2.2, hS3, hC2, by omega, hc5, hc6⟩) (by omega) (fun y h => g5 y (isSc_s (by omega) h)) (by omega)
                                      | (exfalso; omega)))
                        · have hF := g1.trans (g57.1.1.mono (fun c k => Or.inl (G_W c k)))
                          have hF := hF.trans (g.1.1.mono (fun c k => Or.elim k Or.inl Or.inr))
                          have hR := g.1.RF hR
                          have hT := g.2.1
                          have hA := g.2.2
                          have ct := st_ct hct hz
                          have lo := st_lo (a := a) (n := n) (p := q) hct (Or.inr rfl)
                          have hc5 := g.1.2.1.trans hc5
                          have hc6 := g.1.2.2.trans hc6
                          refine bw_ifeq rfl (fun c96 => ?_) (fun c96 => ?_)
                          · first
                            | (exfalso; omega)
                            | (refine bw_push rfl ?_
                               refine bw_istore (ls2 := [_, _, _, _]) rfl rfl (Nat.le_of_ble_eq_true rfl) rfl ?_
                               refine bw_goto rfl ?_
                               refine bw_iinc (ls2 := [_, _, _, _]) rfl rfl rfl ⟨by omega, by omega⟩ rfl ?_
                               refine bw_goto rfl ?_
                               refine bw_forget (ls2 := [some (vr (some 3)), some (vr (some 372)), some (vi _), some (vi _)]) ⟨rfl, rfl, rfl, rfl, trivial⟩ ?_
                               first
                               | exact ih _ (enS (stS S a n q).2 a n (stS S a n q).1).1 (enS (stS S a n q).2 a n (stS S a n q).1).2 _ _ hX.1 hX.2.1 (Or.inl ⟨e, hz, rfl, hX.2.2.1, hX.2.2.2⟩) (by omega) (fun y h => g5 y (isSc_s (by omega) h)) (by omega)
                               | exact ih _ (enS (stS S a n q).2 a n (stS S a n q).1).1 (enS (stS S a n q).2 a n (stS S a n q).1).2 _ _ hF g.2.1 (Or.inr ⟨q3, hz, rfl, g.2.2, hS3, hC2, by omega, hc5, hc6⟩) (by omega) (fun y h => g5 y (isSc_s (by omega) h)) (by omega)
                               | (exfalso; omega))
                          · first
                            | (exfalso; omega)
                            | (refine bw_aload rfl rfl ?_
                               refine bw_callVi (e := d - 1) (as := []) rfl (by omega) rfl rfl (Nat.le_of_ble_eq_true rfl) (Nat.le_of_ble_eq_true rfl) rfl (c_endStatement hR hT hA (by first | exact Or.inl rfl | exact Or.inr rfl) hS2 hr (by omega) (by omega)) (fun r100 M100 hM100 => ?_)
                               rcases hM100 with ⟨e, hz2, rfl, hX⟩ | ⟨q3, hz2, rfl, g, hS3⟩
                               · have hX := FA.tr (s := pA 372) hF hX (fun _ k => k) (fun c k => Or.elim k (fun k => Or.inl (G_W c k)) Or.inr)
                                 have hz : (enS (stS S a n q).2 a n (stS S a n q).1).1 = .inl e := by rw [hz]; exact hz2
                                 refine bw_ifeq rfl (fun c103 => ?_) (fun c103 => ?_)
                                 · first
                                   | (exfalso; omega)
                                   | (refine bw_push rfl ?_
                                      refine bw_istore (ls2 := [_, _, _, _]) rfl rfl (Nat.le_of_ble_eq_true rfl) rfl ?_
                                      refine bw_goto rfl ?_
                                      refine bw_iinc (ls2 := [_, _, _, _]) rfl rfl rfl ⟨by omega, by omega⟩ rfl ?_
                                      refine bw_goto rfl ?_
                                      refine bw_forget (ls2 := [some (vr (some 3)), some (vr (some 372)), some (vi _), some (vi _)]) ⟨rfl, rfl, rfl, rfl, trivial⟩ ?_
                                      first
                                      | exact ih _ (enS (stS S a n q).2 a n (stS S a n q).1).1 (enS (stS S a n q).2 a n (stS S a n q).1).2 _ _ hX.1 hX.2.1 (Or.inl ⟨e, hz, rfl, hX.2.2.1, hX.2.2.2⟩) (by omega) (fun y h => g5 y (isSc_s (by omega) h)) (by omega)
                                      | exact ih _ (enS (stS S a n q).2 a n (stS S a n q).1).1 (enS (stS S a n q).2 a n (stS S a n q).1).2 _ _ hF g.2.1 (Or.inr ⟨q3, hz, rfl, g.2.2, hS3, hC2, by omega, hc5, hc6⟩) (by omega) (fun y h => g5 y (isSc_s (by omega) h)) (by omega)
                                      | (exfalso; omega))
                                 · first
                                   | (exfalso; omega)
                                   | (refine bw_push rfl ?_
                                      refine bw_goto rfl ?_
                                      refine bw_istore (ls2 := [_, _, _, _]) rfl rfl (Nat.le_of_ble_eq_true rfl) rfl ?_
                                      refine bw_goto rfl ?_
                                      refine bw_iinc (ls2 := [_, _, _, _]) rfl rfl rfl ⟨by omega, by omega⟩ rfl ?_
                                      refine bw_goto rfl ?_
                                      refine bw_forget (ls2 := [some (vr (some 3)), some (vr (some 372)), some (vi _), some (vi _)]) ⟨rfl, rfl, rfl, rfl, trivial⟩ ?_
                                      first
                                      | exact ih _ (enS (stS S a n q).2 a n (stS S a n q).1).1 (enS (stS S a n q).2 a n (stS S a n q).1).2 _ _ hX.1 hX.2.1 (Or.inl ⟨e, hz, rfl, hX.2.2.1, hX.2.2.2⟩) (by omega) (fun y h => g5 y (isSc_s (by omega) h)) (by omega)
                                      | exact ih _ (enS (stS S a n q).2 a n (stS S a n q).1).1 (enS (stS S a n q).2 a n (stS S a n q).1).2 _ _ hF g.2.1 (Or.inr ⟨q3, hz, rfl, g.2.2, hS3, hC2, by omega, hc5, hc6⟩) (by omega) (fun y h => g5 y (isSc_s (by omega) h)) (by omega)
                                      | (exfalso; omega))
                               · have hF := hF.trans (g.1.1.mono (fun c k => Or.elim k (fun k => Or.inl (G_W c k)) Or.inr))
                                 have hz : (enS (stS S a n q).2 a n (stS S a n q).1).1 = .inr q3 := by rw [hz]; exact hz2
                                 have hC2 : CTd (enS (stS S a n q).2 a n (stS S a n q).1).2 := en_ct ct.1 (by omega)
                                 have h55 : (enS (stS S a n q).2 a n (stS S a n q).1).2 5 = S 5 + 1 := by
                                   show up (stS S a n q).2 5 ((stS S a n q).2 5 + 1) 5 = S 5 + 1
                                   rw [up_eq rfl, lo]
                                 have hc5 := g.1.2.1.trans hc5
                                 have hc6 := g.1.2.2.trans hc6
                                 refine bw_ifeq rfl (fun c103 => ?_) (fun c103 => ?_)
                                 · first
                                   | (exfalso; omega)
                                   | (refine bw_push rfl ?_
                                      refine bw_istore (ls2 := [_, _, _, _]) rfl rfl (Nat.le_of_ble_eq_true rfl) rfl ?_
                                      refine bw_goto rfl ?_
                                      refine bw_iinc (ls2 := [_, _, _, _]) rfl rfl rfl ⟨by omega, by omega⟩ rfl ?_
                                      refine bw_goto rfl ?_
                                      refine bw_forget (ls2 := [some (vr (some 3)), some (vr (some 372)), some (vi _), some (vi _)]) ⟨rfl, rfl, rfl, rfl, trivial⟩ ?_
                                      first
                                      | exact ih _ (enS (stS S a n q).2 a n (stS S a n q).1).1 (enS (stS S a n q).2 a n (stS S a n q).1).2 _ _ hX.1 hX.2.1 (Or.inl ⟨e, hz, rfl, hX.2.2.1, hX.2.2.2⟩) (by omega) (fun y h => g5 y (isSc_s (by omega) h)) (by omega)
                                      | exact ih _ (enS (stS S a n q).2 a n (stS S a n q).1).1 (enS (stS S a n q).2 a n (stS S a n q).1).2 _ _ hF g.2.1 (Or.inr ⟨q3, hz, rfl, g.2.2, hS3, hC2, by omega, hc5, hc6⟩) (by omega) (fun y h => g5 y (isSc_s (by omega) h)) (by omega)
                                      | (exfalso; omega))
                                 · first
                                   | (exfalso; omega)
                                   | (refine bw_push rfl ?_
                                      refine bw_goto rfl ?_
                                      refine bw_istore (ls2 := [_, _, _, _]) rfl rfl (Nat.le_of_ble_eq_true rfl) rfl ?_
                                      refine bw_goto rfl ?_
                                      refine bw_iinc (ls2 := [_, _, _, _]) rfl rfl rfl ⟨by omega, by omega⟩ rfl ?_
                                      refine bw_goto rfl ?_
                                      refine bw_forget (ls2 := [some (vr (some 3)), some (vr (some 372)), some (vi _), some (vi _)]) ⟨rfl, rfl, rfl, rfl, trivial⟩ ?_
                                      first
                                      | exact ih _ (enS (stS S a n q).2 a n (stS S a n q).1).1 (enS (stS S a n q).2 a n (stS S a n q).1).2 _ _ hX.1 hX.2.1 (Or.inl ⟨e, hz, rfl, hX.2.2.1, hX.2.2.2⟩) (by omega) (fun y h => g5 y (isSc_s (by omega) h)) (by omega)
                                      | exact ih _ (enS (stS S a n q).2 a n (stS S a n q).1).1 (enS (stS S a n q).2 a n (stS S a n q).1).2 _ _ hF g.2.1 (Or.inr ⟨q3, hz, rfl, g.2.2, hS3, hC2, by omega, hc5, hc6⟩) (by omega) (fun y h => g5 y (isSc_s (by omega) h)) (by omega)
                                      | (exfalso; omega)))
                      · skip
                        by_cases s60_1 : r57 = 2
                        · refine bw_switch (t := 115) rfl (by rw [s60_1]; rfl) ?_
                          refine bw_aload rfl rfl ?_
                          have eS : stS S a n q = clS S a n (.inr (sk a n (we a n q))) := by rw [st_g (by omega) hG]; rw [if_neg (by omega)]; exact if_pos (by omega)
                          refine bw_callVi (e := d - 1) (as := []) rfl (by omega) rfl rfl (Nat.le_of_ble_eq_true rfl) (Nat.le_of_ble_eq_true rfl) rfl (c_readCel hR hT hA (by first | exact Or.inl rfl | exact Or.inr rfl) hS hr (ff.2.1 (by omega)) (by omega)) (fun r116 M116 hM116 => ?_)
                          rw [← eS] at hM116
                          rcases hM116 with ⟨e, hz, rfl, hX⟩ | ⟨q2, hz, rfl, g, hS2⟩
                          · have hF := g1.trans (g57.1.1.mono (fun c k => Or.inl (G_W c k)))
                            have hX := FA.tr (s := pA 372) hF hX (fun _ k => k) (fun c k => Or.inl (G_W c k))
                            have hz : (enS (stS S a n q).2 a n (stS S a n q).1).1 = .inl e := by rw [hz]; rfl
                            refine bw_ifeq rfl (fun c119 => ?_) (fun c119 => ?_)
                            · first
                              | (exfalso; omega)
                              | (refine bw_push rfl ?_
                                 refine bw_istore (ls2 := [_, _, _, _]) rfl rfl (Nat.le_of_ble_eq_true rfl) rfl ?_
                                 refine bw_goto rfl ?_
                                 refine bw_iinc (ls2 := [_, _, _, _]) rfl rfl rfl ⟨by omega, by omega⟩ rfl ?_
                                 refine bw_goto rfl ?_
                                 refine bw_forget (ls2 := [some (vr (some 3)), some (vr (some 372)), some (vi _), some (vi _)]) ⟨rfl, rfl, rfl, rfl, trivial⟩ ?_
                                 first
                                 | exact ih _ (enS (stS S a n q).2 a n (stS S a n q).1).1 (enS (stS S a n q).2 a n (stS S a n q).1).2 _ _ hX.1 hX.2.1 (Or.inl ⟨e, hz, rfl, hX.2.2.1, hX.2.2.2⟩) (by omega) (fun y h => g5 y (isSc_s (by omega) h)) (by omega)
                                 | exact ih _ (enS (stS S a n q).2 a n (stS S a n q).1).1 (enS (stS S a n q).2 a n (stS S a n q).1).2 _ _ hF g.2.1 (Or.inr ⟨q3, hz, rfl, g.2.2, hS3, hC2, by omega, hc5, hc6⟩) (by omega) (fun y h => g5 y (isSc_s (by omega) h)) (by omega)
                                 | (exfalso; omega))
                            · first
                              | (exfalso; omega)
                              | (refine bw_aload rfl rfl ?_
                                 refine bw_callVi (e := d - 1) (as := []) rfl (by omega) rfl rfl (Nat.le_of_ble_eq_true rfl) (Nat.le_of_ble_eq_true rfl) rfl (c_endStatement hR hT hA (by first | exact Or.inl rfl | exact Or.inr rfl) hS2 hr (by omega) (by omega)) (fun r123 M123 hM123 => ?_)
                                 rcases hM123 with ⟨e, hz2, rfl, hX⟩ | ⟨q3, hz2, rfl, g, hS3⟩
                                 · have hX := FA.tr (s := pA 372) hF hX (fun _ k => k) (fun c k => Or.elim k (fun k => Or.inl (G_W c k)) Or.inr)
                                   have hz : (enS (stS S a n q).2 a n (stS S a n q).1).1 = .inl e := by rw [hz]; exact hz2
                                   refine bw_ifeq rfl (fun c126 => ?_) (fun c126 => ?_)
                                   · first
                                     | (exfalso; omega)
                                     | (refine bw_push rfl ?_
                                        refine bw_istore (ls2 := [_, _, _, _]) rfl rfl (Nat.le_of_ble_eq_true rfl) rfl ?_
                                        refine bw_goto rfl ?_
                                        refine bw_iinc (ls2 := [_, _, _, _]) rfl rfl rfl ⟨by omega, by omega⟩ rfl ?_
                                        refine bw_goto rfl ?_
                                        refine bw_forget (ls2 := [some (vr (some 3)), some (vr (some 372)), some (vi _), some (vi _)]) ⟨rfl, rfl, rfl, rfl, trivial⟩ ?_
                                        first
                                        | exact ih _ (enS (stS S a n q).2 a n (stS S a n q).1).1 (enS (stS S a n q).2 a n (stS S a n q).1).2 _ _ hX.1 hX.2.1 (Or.inl ⟨e, hz, rfl, hX.2.2.1, hX.2.2.2⟩) (by omega) (fun y h => g5 y (isSc_s (by omega) h)) (by omega)
                                        | exact ih _ (enS (stS S a n q).2 a n (stS S a n q).1).1 (enS (stS S a n q).2 a n (stS S a n q).1).2 _ _ hF g.2.1 (Or.inr ⟨q3, hz, rfl, g.2.2, hS3, hC2, by omega, hc5, hc6⟩) (by omega) (fun y h => g5 y (isSc_s (by omega) h)) (by omega)
                                        | (exfalso; omega))
                                   · first
                                     | (exfalso; omega)
                                     | (refine bw_push rfl ?_
                                        refine bw_goto rfl ?_
                                        refine bw_istore (ls2 := [_, _, _, _]) rfl rfl (Nat.le_of_ble_eq_true rfl) rfl ?_
                                        refine bw_goto rfl ?_
                                        refine bw_iinc (ls2 := [_, _, _, _]) rfl rfl rfl ⟨by omega, by omega⟩ rfl ?_
                                        refine bw_goto rfl ?_
                                        refine bw_forget (ls2 := [some (vr (some 3)), some (vr (some 372)), some (vi _), some (vi _)]) ⟨rfl, rfl, rfl, rfl, trivial⟩ ?_
                                        first
                                        | exact ih _ (enS (stS S a n q).2 a n (stS S a n q).1).1 (enS (stS S a n q).2 a n (stS S a n q).1).2 _ _ hX.1 hX.2.1 (Or.inl ⟨e, hz, rfl, hX.2.2.1, hX.2.2.2⟩) (by omega) (fun y h => g5 y (isSc_s (by omega) h)) (by omega)
                                        | exact ih _ (enS (stS S a n q).2 a n (stS S a n q).1).1 (enS (stS S a n q).2 a n (stS S a n q).1).2 _ _ hF g.2.1 (Or.inr ⟨q3, hz, rfl, g.2.2, hS3, hC2, by omega, hc5, hc6⟩) (by omega) (fun y h => g5 y (isSc_s (by omega) h)) (by omega)
                                        | (exfalso; omega))
                                 · have hF := hF.trans (g.1.1.mono (fun c k => Or.elim k (fun k => Or.inl (G_W c k)) Or.inr))
                                   have hz : (enS (stS S a n q).2 a n (stS S a n q).1).1 = .inr q3 := by rw [hz]; exact hz2
                                   have hC2 : CTd (enS (stS S a n q).2 a n (stS S a n q).1).2 := en_ct ct.1 (by omega)
                                   have h55 : (enS (stS S a n q).2 a n (stS S a n q).1).2 5 = S 5 + 1 := by
                                     show up (stS S a n q).2 5 ((stS S a n q).2 5 + 1) 5 = S 5 + 1
                                     rw [up_eq rfl, lo]
                                   have hc5 := g.1.2.1.trans hc5
                                   have hc6 := g.1.2.2.trans hc6
                                   refine bw_ifeq rfl (fun c126 => ?_) (fun c126 => ?_)
                                   · first
                                     | (exfalso; omega)
                                     | (refine bw_push rfl ?_
                                        refine bw_istore (ls2 := [_, _, _, _]) rfl rfl (Nat.le_of_ble_eq_true rfl) rfl ?_
                                        refine bw_goto rfl ?_
                                        refine bw_iinc (ls2 := [_, _, _, _]) rfl rfl rfl ⟨by omega, by omega⟩ rfl ?_
                                        refine bw_goto rfl ?_
                                        refine bw_forget (ls2 := [some (vr (some 3)), some (vr (some 372)), some (vi _), some (vi _)]) ⟨rfl, rfl, rfl, rfl, trivial⟩ ?_
                                        first
                                        | exact ih _ (enS (stS S a n q).2 a n (stS S a n q).1).1 (enS (stS S a n q).2 a n (stS S a n q).1).2 _ _ hX.1 hX.2.1 (Or.inl ⟨e, hz, rfl, hX.2.2.1, hX.2.2.2⟩) (by omega) (fun y h => g5 y (isSc_s (by omega) h)) (by omega)
                                        | exact ih _ (enS (stS S a n q).2 a n (stS S a n q).1).1 (enS (stS S a n q).2 a n (stS S a n q).1).2 _ _ hF g.2.1 (Or.inr ⟨q3, hz, rfl, g.2.2, hS3, hC2, by omega, hc5, hc6⟩) (by omega) (fun y h => g5 y (isSc_s (by omega) h)) (by omega)
                                        | (exfalso; omega))
                                   · first
                                     | (exfalso; omega)
                                     | (refine bw_push rfl ?_
                                        refine bw_goto rfl ?_
                                        refine bw_istore (ls2 := [_, _, _, _]) rfl rfl (Nat.le_of_ble_eq_true rfl) rfl ?_
                                        refine bw_goto rfl ?_
                                        refine bw_iinc (ls2 := [_, _, _, _]) rfl rfl rfl ⟨by omega, by omega⟩ rfl ?_
                                        refine bw_goto rfl ?_
                                        refine bw_forget (ls2 := [some (vr (some 3)), some (vr (some 372)), some (vi _), some (vi _)]) ⟨rfl, rfl, rfl, rfl, trivial⟩ ?_
                                        first
                                        | exact ih _ (enS (stS S a n q).2 a n (stS S a n q).1).1 (enS (stS S a n q).2 a n (stS S a n q).1).2 _ _ hX.1 hX.2.1 (Or.inl ⟨e, hz, rfl, hX.2.2.1, hX.2.2.2⟩) (by omega) (fun y h => g5 y (isSc_s (by omega) h)) (by omega)
                                        | exact ih _ (enS (stS S a n q).2 a n (stS S a n q).1).1 (enS (stS S a n q).2 a n (stS S a n q).1).2 _ _ hF g.2.1 (Or.inr ⟨q3, hz, rfl, g.2.2, hS3, hC2, by omega, hc5, hc6⟩) (by omega) (fun y h => g5 y (isSc_s (by omega) h)) (by omega)
                                        | (exfalso; omega)))
                          · have hF := g1.trans (g57.1.1.mono (fun c k => Or.inl (G_W c k)))
                            have hF := hF.trans (g.1.1.mono (fun c k => Or.elim k (fun k => Or.inl (G_W c k)) Or.inr))
                            have hR := g.1.RF hR
                            have hT := g.2.1
                            have hA := g.2.2
                            have ct := st_ct hct hz
                            have lo := st_lo (a := a) (n := n) (p := q) hct (Or.inr rfl)
                            have hc5 := g.1.2.1.trans hc5
                            have hc6 := g.1.2.2.trans hc6
                            refine bw_ifeq rfl (fun c119 => ?_) (fun c119 => ?_)
                            · first
                              | (exfalso; omega)
                              | (refine bw_push rfl ?_
                                 refine bw_istore (ls2 := [_, _, _, _]) rfl rfl (Nat.le_of_ble_eq_true rfl) rfl ?_
                                 refine bw_goto rfl ?_
                                 refine bw_iinc (ls2 := [_, _, _, _]) rfl rfl rfl ⟨by omega, by omega⟩ rfl ?_
                                 refine bw_goto rfl ?_
                                 refine bw_forget (ls2 := [some (vr (some 3)), some (vr (some 372)), some (vi _), some (vi _)]) ⟨rfl, rfl, rfl, rfl, trivial⟩ ?_
                                 first
                                 | exact ih _ (enS (stS S a n q).2 a n (stS S a n q).1).1 (enS (stS S a n q).2 a n (stS S a n q).1).2 _ _ hX.1 hX.2.1 (Or.inl ⟨e, hz, rfl, hX.2.2.1, hX.2.2.2⟩) (by omega) (fun y h => g5 y (isSc_s (by omega) h)) (by omega)
                                 | exact ih _ (enS (stS S a n q).2 a n (stS S a n q).1).1 (enS (stS S a n q).2 a n (stS S a n q).1).2 _ _ hF g.2.1 (Or.inr ⟨q3, hz, rfl, g.2.2, hS3, hC2, by omega, hc5, hc6⟩) (by omega) (fun y h => g5 y (isSc_s (by omega) h)) (by omega)
                                 | (exfalso; omega))
                            · first
                              | (exfalso; omega)
                              | (refine bw_aload rfl rfl ?_
                                 refine bw_callVi (e := d - 1) (as := []) rfl (by omega) rfl rfl (Nat.le_of_ble_eq_true rfl) (Nat.le_of_ble_eq_true rfl) rfl (c_endStatement hR hT hA (by first | exact Or.inl rfl | exact Or.inr rfl) hS2 hr (by omega) (by omega)) (fun r123 M123 hM123 => ?_)
                                 rcases hM123 with ⟨e, hz2, rfl, hX⟩ | ⟨q3, hz2, rfl, g, hS3⟩
                                 · have hX := FA.tr (s := pA 372) hF hX (fun _ k => k) (fun c k => Or.elim k (fun k => Or.inl (G_W c k)) Or.inr)
                                   have hz : (enS (stS S a n q).2 a n (stS S a n q).1).1 = .inl e := by rw [hz]; exact hz2
                                   refine bw_ifeq rfl (fun c126 => ?_) (fun c126 => ?_)
                                   · first
                                     | (exfalso; omega)
                                     | (refine bw_push rfl ?_
                                        refine bw_istore (ls2 := [_, _, _, _]) rfl rfl (Nat.le_of_ble_eq_true rfl) rfl ?_
                                        refine bw_goto rfl ?_
                                        refine bw_iinc (ls2 := [_, _, _, _]) rfl rfl rfl ⟨by omega, by omega⟩ rfl ?_
                                        refine bw_goto rfl ?_
                                        refine bw_forget (ls2 := [some (vr (some 3)), some (vr (some 372)), some (vi _), some (vi _)]) ⟨rfl, rfl, rfl, rfl, trivial⟩ ?_
                                        first
                                        | exact ih _ (enS (stS S a n q).2 a n (stS S a n q).1).1 (enS (stS S a n q).2 a n (stS S a n q).1).2 _ _ hX.1 hX.2.1 (Or.inl ⟨e, hz, rfl, hX.2.2.1, hX.2.2.2⟩) (by omega) (fun y h => g5 y (isSc_s (by omega) h)) (by omega)
                                        | exact ih _ (enS (stS S a n q).2 a n (stS S a n q).1).1 (enS (stS S a n q).2 a n (stS S a n q).1).2 _ _ hF g.2.1 (Or.inr ⟨q3, hz, rfl, g.2.2, hS3, hC2, by omega, hc5, hc6⟩) (by omega) (fun y h => g5 y (isSc_s (by omega) h)) (by omega)
                                        | (exfalso; omega))
                                   · first
                                     | (exfalso; omega)
                                     | (refine bw_push rfl ?_
                                        refine bw_goto rfl ?_
                                        refine bw_istore (ls2 := [_, _, _, _]) rfl rfl (Nat.le_of_ble_eq_true rfl) rfl ?_
                                        refine bw_goto rfl ?_
                                        refine bw_iinc (ls2 := [_, _, _, _]) rfl rfl rfl ⟨by omega, by omega⟩ rfl ?_
                                        refine bw_goto rfl ?_
                                        refine bw_forget (ls2 := [some (vr (some 3)), some (vr (some 372)), some (vi _), some (vi _)]) ⟨rfl, rfl, rfl, rfl, trivial⟩ ?_
                                        first
                                        | exact ih _ (enS (stS S a n q).2 a n (stS S a n q).1).1 (enS (stS S a n q).2 a n (stS S a n q).1).2 _ _ hX.1 hX.2.1 (Or.inl ⟨e, hz, rfl, hX.2.2.1, hX.2.2.2⟩) (by omega) (fun y h => g5 y (isSc_s (by omega) h)) (by omega)
                                        | exact ih _ (enS (stS S a n q).2 a n (stS S a n q).1).1 (enS (stS S a n q).2 a n (stS S a n q).1).2 _ _ hF g.2.1 (Or.inr ⟨q3, hz, rfl, g.2.2, hS3, hC2, by omega, hc5, hc6⟩) (by omega) (fun y h => g5 y (isSc_s (by omega) h)) (by omega)
                                        | (exfalso; omega))
                                 · have hF := hF.trans (g.1.1.mono (fun c k => Or.elim k (fun k => Or.inl (G_W c k)) Or.inr))
                                   have hz : (enS (stS S a n q).2 a n (stS S a n q).1).1 = .inr q3 := by rw [hz]; exact hz2
                                   have hC2 : CTd (enS (stS S a n q).2 a n (stS S a n q).1).2 := en_ct ct.1 (by omega)
                                   have h55 : (enS (stS S a n q).2 a n (stS S a n q).1).2 5 = S 5 + 1 := by
                                     show up (stS S a n q).2 5 ((stS S a n q).2 5 + 1) 5 = S 5 + 1
                                     rw [up_eq rfl, lo]
                                   have hc5 := g.1.2.1.trans hc5
                                   have hc6 := g.1.2.2.trans hc6
                                   refine bw_ifeq rfl (fun c126 => ?_) (fun c126 => ?_)
                                   · first
                                     | (exfalso; omega)
                                     | (refine bw_push rfl ?_
                                        refine bw_istore (ls2 := [_, _, _, _]) rfl rfl (Nat.le_of_ble_eq_true rfl) rfl ?_
                                        refine bw_goto rfl ?_
                                        refine bw_iinc (ls2 := [_, _, _, _]) rfl rfl rfl ⟨by omega, by omega⟩ rfl ?_
                                        refine bw_goto rfl ?_
                                        refine bw_forget (ls2 := [some (vr (some 3)), some (vr (some 372)), some (vi _), some (vi _)]) ⟨rfl, rfl, rfl, rfl, trivial⟩ ?_
                                        first
                                        | exact ih _ (enS (stS S a n q).2 a n (stS S a n q).1).1 (enS (stS S a n q).2 a n (stS S a n q).1).2 _ _ hX.1 hX.2.1 (Or.inl ⟨e, hz, rfl, hX.2.2.1, hX.2.2.2⟩) (by omega) (fun y h => g5 y (isSc_s (by omega) h)) (by omega)
                                        | exact ih _ (enS (stS S a n q).2 a n (stS S a n q).1).1 (enS (stS S a n q).2 a n (stS S a n q).1).2 _ _ hF g.2.1 (Or.inr ⟨q3, hz, rfl, g.2.2, hS3, hC2, by omega, hc5, hc6⟩) (by omega) (fun y h => g5 y (isSc_s (by omega) h)) (by omega)
                                        | (exfalso; omega))
                                   · first
                                     | (exfalso; omega)
                                     | (refine bw_push rfl ?_
                                        refine bw_goto rfl ?_
                                        refine bw_istore (ls2 := [_, _, _, _]) rfl rfl (Nat.le_of_ble_eq_true rfl) rfl ?_
                                        refine bw_goto rfl ?_
                                        refine bw_iinc (ls2 := [_, _, _, _]) rfl rfl rfl ⟨by omega, by omega⟩ rfl ?_
                                        refine bw_goto rfl ?_
                                        refine bw_forget (ls2 := [some (vr (some 3)), some (vr (some 372)), some (vi _), some (vi _)]) ⟨rfl, rfl, rfl, rfl, trivial⟩ ?_
                                        first
                                        | exact ih _ (enS (stS S a n q).2 a n (stS S a n q).1).1 (enS (stS S a n q).2 a n (stS S a n q).1).2 _ _ hX.1 hX.2.1 (Or.inl ⟨e, hz, rfl, hX.2.2.1, hX.2.2.2⟩) (by omega) (fun y h => g5 y (isSc_s (by omega) h)) (by omega)
                                        | exact ih _ (enS (stS S a n q).2 a n (stS S a n q).1).1 (enS (stS S a n q).2 a n (stS S a n q).1).2 _ _ hF g.2.1 (Or.inr ⟨q3, hz, rfl, g.2.2, hS3, hC2, by omega, hc5, hc6⟩) (by omega) (fun y h => g5 y (isSc_s (by omega) h)) (by omega)
                                        | (exfalso; omega)))
                        · skip
                          by_cases s60_2 : r57 = 3
                          · refine bw_switch (t := 138) rfl (by rw [s60_2]; rfl) ?_
                            refine bw_aload rfl rfl ?_
                            have eS : stS S a n q = slS S a n (.inr (sk a n (we a n q))) := by rw [st_g (by omega) hG]; rw [if_neg (by omega), if_neg (by omega)]; exact if_pos (by omega)
                            refine bw_callVi (e := d - 1) (as := []) rfl (by omega) rfl rfl (Nat.le_of_ble_eq_true rfl) (Nat.le_of_ble_eq_true rfl) rfl (c_readSlide hR hT hA (by first | exact Or.inl rfl | exact Or.inr rfl) hS hr (ff.2.2.1 (by omega)) (by omega)) (fun r139 M139 hM139 => ?_)
                            rw [← eS] at hM139
                            rcases hM139 with ⟨e, hz, rfl, hX⟩ | ⟨q2, hz, rfl, g, hS2⟩
                            · have hF := g1.trans (g57.1.1.mono (fun c k => Or.inl (G_W c k)))
                              have hX := FA.tr (s := pA 372) hF hX (fun _ k => k) (fun c k => Or.inl (G_W c k))
                              have hz : (enS (stS S a n q).2 a n (stS S a n q).1).1 = .inl e := by rw [hz]; rfl
                              refine bw_ifeq rfl (fun c142 => ?_) (fun c142 => ?_)
                              · first
                                | (exfalso; omega)
                                | (refine bw_push rfl ?_
                                   refine bw_istore (ls2 := [_, _, _, _]) rfl rfl (Nat.le_of_ble_eq_true rfl) rfl ?_
                                   refine bw_goto rfl ?_
                                   refine bw_iinc (ls2 := [_, _, _, _]) rfl rfl rfl ⟨by omega, by omega⟩ rfl ?_
                                   refine bw_goto rfl ?_
                                   refine bw_forget (ls2 := [some (vr (some 3)), some (vr (some 372)), some (vi _), some (vi _)]) ⟨rfl, rfl, rfl, rfl, trivial⟩ ?_
                                   first
                                   | exact ih _ (enS (stS S a n q).2 a n (stS S a n q).1).1 (enS (stS S a n q).2 a n (stS S a n q).1).2 _ _ hX.1 hX.2.1 (Or.inl ⟨e, hz, rfl, hX.2.2.1, hX.2.2.2⟩) (by omega) (fun y h => g5 y (isSc_s (by omega) h)) (by omega)
                                   | exact ih _ (enS (stS S a n q).2 a n (stS S a n q).1).1 (enS (stS S a n q).2 a n (stS S a n q).1).2 _ _ hF g.2.1 (Or.inr ⟨q3, hz, rfl, g.2.2, hS3, hC2, by omega, hc5, hc6⟩) (by omega) (fun y h => g5 y (isSc_s (by omega) h)) (by omega)
                                   | (exfalso; omega))
                              · first
                                | (exfalso; omega)
                                | (refine bw_aload rfl rfl ?_
                                   refine bw_callVi (e := d - 1) (as := []) rfl (by omega) rfl rfl (Nat.le_of_ble_eq_true rfl) (Nat.le_of_ble_eq_true rfl) rfl (c_endStatement hR hT hA (by first | exact Or.inl rfl | exact Or.inr rfl) hS2 hr (by omega) (by omega)) (fun r146 M146 hM146 => ?_)
                                   rcases hM146 with ⟨e, hz2, rfl, hX⟩ | ⟨q3, hz2, rfl, g, hS3⟩
                                   · have hX := FA.tr (s := pA 372) hF hX (fun _ k => k) (fun c k => Or.elim k (fun k => Or.inl (G_W c k)) Or.inr)
                                     have hz : (enS (stS S a n q).2 a n (stS S a n q).1).1 = .inl e := by rw [hz]; exact hz2
                                     refine bw_ifeq rfl (fun c149 => ?_) (fun c149 => ?_)
                                     · first
                                       | (exfalso; omega)
                                       | (refine bw_push rfl ?_
                                          refine bw_istore (ls2 := [_, _, _, _]) rfl rfl (Nat.le_of_ble_eq_true rfl) rfl ?_
                                          refine bw_goto rfl ?_
                                          refine bw_iinc (ls2 := [_, _, _, _]) rfl rfl rfl ⟨by omega, by omega⟩ rfl ?_
                                          refine bw_goto rfl ?_
                                          refine bw_forget (ls2 := [some (vr (some 3)), some (vr (some 372)), some (vi _), some (vi _)]) ⟨rfl, rfl, rfl, rfl, trivial⟩ ?_
                                          first
                                          | exact ih _ (enS (stS S a n q).2 a n (stS S a n q).1).1 (enS (stS S a n q).2 a n (stS S a n q).1).2 _ _ hX.1 hX.2.1 (Or.inl ⟨e, hz, rfl, hX.2.2.1, hX.2.2.2⟩) (by omega) (fun y h => g5 y (isSc_s (by omega) h)) (by omega)
                                          | exact ih _ (enS (stS S a n q).2 a n (stS S a n q).1).1 (enS (stS S a n q).2 a n (stS S a n q).1).2 _ _ hF g.2.1 (Or.inr ⟨q3, hz, rfl, g.2.2, hS3, hC2, by omega, hc5, hc6⟩) (by omega) (fun y h => g5 y (isSc_s (by omega) h)) (by omega)
                                          | (exfalso; omega))
                                     · first
                                       | (exfalso; omega)
                                       | (refine bw_push rfl ?_
                                          refine bw_goto rfl ?_
                                          refine bw_istore (ls2 := [_, _, _, _]) rfl rfl (Nat.le_of_ble_eq_true rfl) rfl ?_
                                          refine bw_goto rfl ?_
                                          refine bw_iinc (ls2 := [_, _, _, _]) rfl rfl rfl ⟨by omega, by omega⟩ rfl ?_
                                          refine bw_goto rfl ?_
                                          refine bw_forget (ls2 := [some (vr (some 3)), some (vr (some 372)), some (vi _), some (vi _)]) ⟨rfl, rfl, rfl, rfl, trivial⟩ ?_
                                          first
                                          | exact ih _ (enS (stS S a n q).2 a n (stS S a n q).1).1 (enS (stS S a n q).2 a n (stS S a n q).1).2 _ _ hX.1 hX.2.1 (Or.inl ⟨e, hz, rfl, hX.2.2.1, hX.2.2.2⟩) (by omega) (fun y h => g5 y (isSc_s (by omega) h)) (by omega)
                                          | exact ih _ (enS (stS S a n q).2 a n (stS S a n q).1).1 (enS (stS S a n q).2 a n (stS S a n q).1).2 _ _ hF g.2.1 (Or.inr ⟨q3, hz, rfl, g.2.2, hS3, hC2, by omega, hc5, hc6⟩) (by omega) (fun y h => g5 y (isSc_s (by omega) h)) (by omega)
                                          | (exfalso; omega))
                                   · have hF := hF.trans (g.1.1.mono (fun c k => Or.elim k (fun k => Or.inl (G_W c k)) Or.inr))
                                     have hz : (enS (stS S a n q).2 a n (stS S a n q).1).1 = .inr q3 := by rw [hz]; exact hz2
                                     have hC2 : CTd (enS (stS S a n q).2 a n (stS S a n q).1).2 := en_ct ct.1 (by omega)
                                     have h55 : (enS (stS S a n q).2 a n (stS S a n q).1).2 5 = S 5 + 1 := by
                                       show up (stS S a n q).2 5 ((stS S a n q).2 5 + 1) 5 = S 5 + 1
                                       rw [up_eq rfl, lo]
                                     have hc5 := g.1.2.1.trans hc5
                                     have hc6 := g.1.2.2.trans hc6
                                     refine bw_ifeq rfl (fun c149 => ?_) (fun c149 => ?_)
                                     · first
                                       | (exfalso; omega)
                                       | (refine bw_push rfl ?_
                                          refine bw_istore (ls2 := [_, _, _, _]) rfl rfl (Nat.le_of_ble_eq_true rfl) rfl ?_
                                          refine bw_goto rfl ?_
                                          refine bw_iinc (ls2 := [_, _, _, _]) rfl rfl rfl ⟨by omega, by omega⟩ rfl ?_
                                          refine bw_goto rfl ?_
                                          refine bw_forget (ls2 := [some (vr (some 3)), some (vr (some 372)), some (vi _), some (vi _)]) ⟨rfl, rfl, rfl, rfl, trivial⟩ ?_
                                          first
                                          | exact ih _ (enS (stS S a n q).2 a n (stS S a n q).1).1 (enS (stS S a n q).2 a n (stS S a n q).1).2 _ _ hX.1 hX.2.1 (Or.inl ⟨e, hz, rfl, hX.2.2.1, hX.2.2.2⟩) (by omega) (fun y h => g5 y (isSc_s (by omega) h)) (by omega)
                                          | exact ih _ (enS (stS S a n q).2 a n (stS S a n q).1).1 (enS (stS S a n q).2 a n (stS S a n q).1).2 _ _ hF g.2.1 (Or.inr ⟨q3, hz, rfl, g.2.2, hS3, hC2, by omega, hc5, hc6⟩) (by omega) (fun y h => g5 y (isSc_s (by omega) h)) (by omega)
                                          | (exfalso; omega))
                                     · first
                                       | (exfalso; omega)
                                       | (refine bw_push rfl ?_
                                          refine bw_goto rfl ?_
                                          refine bw_istore (ls2 := [_, _, _, _]) rfl rfl (Nat.le_of_ble_eq_true rfl) rfl ?_
                                          refine bw_goto rfl ?_
                                          refine bw_iinc (ls2 := [_, _, _, _]) rfl rfl rfl ⟨by omega, by omega⟩ rfl ?_
                                          refine bw_goto rfl ?_
                                          refine bw_forget (ls2 := [some (vr (some 3)), some (vr (some 372)), some (vi _), some (vi _)]) ⟨rfl, rfl, rfl, rfl, trivial⟩ ?_
                                          first
                                          | exact ih _ (enS (stS S a n q).2 a n (stS S a n q).1).1 (enS (stS S a n q).2 a n (stS S a n q).1).2 _ _ hX.1 hX.2.1 (Or.inl ⟨e, hz, rfl, hX.2.2.1, hX.2.2.2⟩) (by omega) (fun y h => g5 y (isSc_s (by omega) h)) (by omega)
                                          | exact ih _ (enS (stS S a n q).2 a n (stS S a n q).1).1 (enS (stS S a n q).2 a n (stS S a n q).1).2 _ _ hF g.2.1 (Or.inr ⟨q3, hz, rfl, g.2.2, hS3, hC2, by omega, hc5, hc6⟩) (by omega) (fun y h => g5 y (isSc_s (by omega) h)) (by omega)
                                          | (exfalso; omega)))
                            · have hF := g1.trans (g57.1.1.mono (fun c k => Or.inl (G_W c k)))
                              have hF := hF.trans (g.1.1.mono (fun c k => Or.elim k (fun k => Or.inl (G_W c k)) Or.inr))
                              have hR := g.1.RF hR
                              have hT := g.2.1
                              have hA := g.2.2
                              have ct := st_ct hct hz
                              have lo := st_lo (a := a) (n := n) (p := q) hct (Or.inr rfl)
                              have hc5 := g.1.2.1.trans hc5
                              have hc6 := g.1.2.2.trans hc6
                              refine bw_ifeq rfl (fun c142 => ?_) (fun c142 => ?_)
                              · first
                                | (exfalso; omega)
                                | (refine bw_push rfl ?_
                                   refine bw_istore (ls2 := [_, _, _, _]) rfl rfl (Nat.le_of_ble_eq_true rfl) rfl ?_
                                   refine bw_goto rfl ?_
                                   refine bw_iinc (ls2 := [_, _, _, _]) rfl rfl rfl ⟨by omega, by omega⟩ rfl ?_
                                   refine bw_goto rfl ?_
                                   refine bw_forget (ls2 := [some (vr (some 3)), some (vr (some 372)), some (vi _), some (vi _)]) ⟨rfl, rfl, rfl, rfl, trivial⟩ ?_
                                   first
                                   | exact ih _ (enS (stS S a n q).2 a n (stS S a n q).1).1 (enS (stS S a n q).2 a n (stS S a n q).1).2 _ _ hX.1 hX.2.1 (Or.inl ⟨e, hz, rfl, hX.2.2.1, hX.2.2.2⟩) (by omega) (fun y h => g5 y (isSc_s (by omega) h)) (by omega)
                                   | exact ih _ (enS (stS S a n q).2 a n (stS S a n q).1).1 (enS (stS S a n q).2 a n (stS S a n q).1).2 _ _ hF g.2.1 (Or.inr ⟨q3, hz, rfl, g.2.2, hS3, hC2, by omega, hc5, hc6⟩) (by omega) (fun y h => g5 y (isSc_s (by omega) h)) (by omega)
                                   | (exfalso; omega))
                              · first
                                | (exfalso; omega)
                                | (refine bw_aload rfl rfl ?_
                                   refine bw_callVi (e := d - 1) (as := []) rfl (by omega) rfl rfl (Nat.le_of_ble_eq_true rfl) (Nat.le_of_ble_eq_true rfl) rfl (c_endStatement hR hT hA (by first | exact Or.inl rfl | exact Or.inr rfl) hS2 hr (by omega) (by omega)) (fun r146 M146 hM146 => ?_)
                                   rcases hM146 with ⟨e, hz2, rfl, hX⟩ | ⟨q3, hz2, rfl, g, hS3⟩
                                   · have hX := FA.tr (s := pA 372) hF hX (fun _ k => k) (fun c k => Or.elim k (fun k => Or.inl (G_W c k)) Or.inr)
                                     have hz : (enS (stS S a n q).2 a n (stS S a n q).1).1 = .inl e := by rw [hz]; exact hz2
                                     refine bw_ifeq rfl (fun c149 => ?_) (fun c149 => ?_)
                                     · first
                                       | (exfalso; omega)
                                       | (refine bw_push rfl ?_
                                          refine bw_istore (ls2 := [_, _, _, _]) rfl rfl (Nat.le_of_ble_eq_true rfl) rfl ?_
                                          refine bw_goto rfl ?_
                                          refine bw_iinc (ls2 := [_, _, _, _]) rfl rfl rfl ⟨by omega, by omega⟩ rfl ?_
                                          refine bw_goto rfl ?_
                                          refine bw_forget (ls2 := [some (vr (some 3)), some (vr (some 372)), some (vi _), some (vi _)]) ⟨rfl, rfl, rfl, rfl, trivial⟩ ?_
                                          first
                                          | exact ih _ (enS (stS S a n q).2 a n (stS S a n q).1).1 (enS (stS S a n q).2 a n (stS S a n q).1).2 _ _ hX.1 hX.2.1 (Or.inl ⟨e, hz, rfl, hX.2.2.1, hX.2.2.2⟩) (by omega) (fun y h => g5 y (isSc_s (by omega) h)) (by omega)
                                          | exact ih _ (enS (stS S a n q).2 a n (stS S a n q).1).1 (enS (stS S a n q).2 a n (stS S a n q).1).2 _ _ hF g.2.1 (Or.inr ⟨q3, hz, rfl, g.2.2, hS3, hC2, by omega, hc5, hc6⟩) (by omega) (fun y h => g5 y (isSc_s (by omega) h)) (by omega)
                                          | (exfalso; omega))
                                     · first
                                       | (exfalso; omega)
                                       | (refine bw_push rfl ?_
                                          refine bw_goto rfl ?_
                                          refine bw_istore (ls2 := [_, _, _, _]) rfl rfl (Nat.le_of_ble_eq_true rfl) rfl ?_
                                          refine bw_goto rfl ?_
                                          refine bw_iinc (ls2 := [_, _, _, _]) rfl rfl rfl ⟨by omega, by omega⟩ rfl ?_
                                          refine bw_goto rfl ?_
                                          refine bw_forget (ls2 := [some (vr (some 3)), some (vr (some 372)), some (vi _), some (vi _)]) ⟨rfl, rfl, rfl, rfl, trivial⟩ ?_
                                          first
                                          | exact ih _ (enS (stS S a n q).2 a n (stS S a n q).1).1 (enS (stS S a n q).2 a n (stS S a n q).1).2 _ _ hX.1 hX.2.1 (Or.inl ⟨e, hz, rfl, hX.2.2.1, hX.2.2.2⟩) (by omega) (fun y h => g5 y (isSc_s (by omega) h)) (by omega)
                                          | exact ih _ (enS (stS S a n q).2 a n (stS S a n q).1).1 (enS (stS S a n q).2 a n (stS S a n q).1).2 _ _ hF g.2.1 (Or.inr ⟨q3, hz, rfl, g.2.2, hS3, hC2, by omega, hc5, hc6⟩) (by omega) (fun y h => g5 y (isSc_s (by omega) h)) (by omega)
                                          | (exfalso; omega))
                                   · have hF := hF.trans (g.1.1.mono (fun c k => Or.elim k (fun k => Or.inl (G_W c k)) Or.inr))
                                     have hz : (enS (stS S a n q).2 a n (stS S a n q).1).1 = .inr q3 := by rw [hz]; exact hz2
                                     have hC2 : CTd (enS (stS S a n q).2 a n (stS S a n q).1).2 := en_ct ct.1 (by omega)
                                     have h55 : (enS (stS S a n q).2 a n (stS S a n q).1).2 5 = S 5 + 1 := by
                                       show up (stS S a n q).2 5 ((stS S a n q).2 5 + 1) 5 = S 5 + 1
                                       rw [up_eq rfl, lo]
                                     have hc5 := g.1.2.1.trans hc5
                                     have hc6 := g.1.2.2.trans hc6
                                     refine bw_ifeq rfl (fun c149 => ?_) (fun c149 => ?_)
                                     · first
                                       | (exfalso; omega)
                                       | (refine bw_push rfl ?_
                                          refine bw_istore (ls2 := [_, _, _, _]) rfl rfl (Nat.le_of_ble_eq_true rfl) rfl ?_
                                          refine bw_goto rfl ?_
                                          refine bw_iinc (ls2 := [_, _, _, _]) rfl rfl rfl ⟨by omega, by omega⟩ rfl ?_
                                          refine bw_goto rfl ?_
                                          refine bw_forget (ls2 := [some (vr (some 3)), some (vr (some 372)), some (vi _), some (vi _)]) ⟨rfl, rfl, rfl, rfl, trivial⟩ ?_
                                          first
                                          | exact ih _ (enS (stS S a n q).2 a n (stS S a n q).1).1 (enS (stS S a n q).2 a n (stS S a n q).1).2 _ _ hX.1 hX.2.1 (Or.inl ⟨e, hz, rfl, hX.2.2.1, hX.2.2.2⟩) (by omega) (fun y h => g5 y (isSc_s (by omega) h)) (by omega)
                                          | exact ih _ (enS (stS S a n q).2 a n (stS S a n q).1).1 (enS (stS S a n q).2 a n (stS S a n q).1).2 _ _ hF g.2.1 (Or.inr ⟨q3, hz, rfl, g.2.2, hS3, hC2, by omega, hc5, hc6⟩) (by omega) (fun y h => g5 y (isSc_s (by omega) h)) (by omega)
                                          | (exfalso; omega))
                                     · first
                                       | (exfalso; omega)
                                       | (refine bw_push rfl ?_
                                          refine bw_goto rfl ?_
                                          refine bw_istore (ls2 := [_, _, _, _]) rfl rfl (Nat.le_of_ble_eq_true rfl) rfl ?_
                                          refine bw_goto rfl ?_
                                          refine bw_iinc (ls2 := [_, _, _, _]) rfl rfl rfl ⟨by omega, by omega⟩ rfl ?_
                                          refine bw_goto rfl ?_
                                          refine bw_forget (ls2 := [some (vr (some 3)), some (vr (some 372)), some (vi _), some (vi _)]) ⟨rfl, rfl, rfl, rfl, trivial⟩ ?_
                                          first
                                          | exact ih _ (enS (stS S a n q).2 a n (stS S a n q).1).1 (enS (stS S a n q).2 a n (stS S a n q).1).2 _ _ hX.1 hX.2.1 (Or.inl ⟨e, hz, rfl, hX.2.2.1, hX.2.2.2⟩) (by omega) (fun y h => g5 y (isSc_s (by omega) h)) (by omega)
                                          | exact ih _ (enS (stS S a n q).2 a n (stS S a n q).1).1 (enS (stS S a n q).2 a n (stS S a n q).1).2 _ _ hF g.2.1 (Or.inr ⟨q3, hz, rfl, g.2.2, hS3, hC2, by omega, hc5, hc6⟩) (by omega) (fun y h => g5 y (isSc_s (by omega) h)) (by omega)
                                          | (exfalso; omega)))
                          · skip
                            by_cases s60_3 : r57 = 4
                            · refine bw_switch (t := 161) rfl (by rw [s60_3]; rfl) ?_
                              refine bw_aload rfl rfl ?_
                              have eS : stS S a n q = hdS S a n (.inr (sk a n (we a n q))) := by rw [st_g (by omega) hG]; rw [if_neg (by omega), if_neg (by omega), if_neg (by omega)]
                              refine bw_callVi (e := d - 1) (as := []) rfl (by omega) rfl rfl (Nat.le_of_ble_eq_true rfl) (Nat.le_of_ble_eq_true rfl) rfl (c_readHide hR hT hA (by first | exact Or.inl rfl | exact Or.inr rfl) hS hr (ff.2.2.2 (by omega)) (by omega)) (fun r162 M162 hM162 => ?_)
                              rw [← eS] at hM162
                              rcases hM162 with ⟨e, hz, rfl, hX⟩ | ⟨q2, hz, rfl, g, hS2⟩
                              · have hF := g1.trans (g57.1.1.mono (fun c k => Or.inl (G_W c k)))
                                have hX := FA.tr (s := pA 372) hF hX (fun _ k => k) (fun c k => Or.inl (G_W c k))
                                have hz : (enS (stS S a n q).2 a n (stS S a n q).1).1 = .inl e := by rw [hz]; rfl
                                refine bw_ifeq rfl (fun c165 => ?_) (fun c165 => ?_)
                                · first
                                  | (exfalso; omega)
                                  | (refine bw_push rfl ?_
                                     refine bw_istore (ls2 := [_, _, _, _]) rfl rfl (Nat.le_of_ble_eq_true rfl) rfl ?_
                                     refine bw_goto rfl ?_
                                     refine bw_iinc (ls2 := [_, _, _, _]) rfl rfl rfl ⟨by omega, by omega⟩ rfl ?_
                                     refine bw_goto rfl ?_
                                     refine bw_forget (ls2 := [some (vr (some 3)), some (vr (some 372)), some (vi _), some (vi _)]) ⟨rfl, rfl, rfl, rfl, trivial⟩ ?_
                                     first
                                     | exact ih _ (enS (stS S a n q).2 a n (stS S a n q).1).1 (enS (stS S a n q).2 a n (stS S a n q).1).2 _ _ hX.1 hX.2.1 (Or.inl ⟨e, hz, rfl, hX.2.2.1, hX.2.2.2⟩) (by omega) (fun y h => g5 y (isSc_s (by omega) h)) (by omega)
                                     | exact ih _ (enS (stS S a n q).2 a n (stS S a n q).1).1 (enS (stS S a n q).2 a n (stS S a n q).1).2 _ _ hF g.2.1 (Or.inr ⟨q3, hz, rfl, g.2.2, hS3, hC2, by omega, hc5, hc6⟩) (by omega) (fun y h => g5 y (isSc_s (by omega) h)) (by omega)
                                     | (exfalso; omega))
                                · first
                                  | (exfalso; omega)
                                  | (refine bw_aload rfl rfl ?_
                                     refine bw_callVi (e := d - 1) (as := []) rfl (by omega) rfl rfl (Nat.le_of_ble_eq_true rfl) (Nat.le_of_ble_eq_true rfl) rfl (c_endStatement hR hT hA (by first | exact Or.inl rfl | exact Or.inr rfl) hS2 hr (by omega) (by omega)) (fun r169 M169 hM169 => ?_)
                                     rcases hM169 with ⟨e, hz2, rfl, hX⟩ | ⟨q3, hz2, rfl, g, hS3⟩
                                     · have hX := FA.tr (s := pA 372) hF hX (fun _ k => k) (fun c k => Or.elim k (fun k => Or.inl (G_W c k)) Or.inr)
                                       have hz : (enS (stS S a n q).2 a n (stS S a n q).1).1 = .inl e := by rw [hz]; exact hz2
                                       refine bw_ifeq rfl (fun c172 => ?_) (fun c172 => ?_)
                                       · first
                                         | (exfalso; omega)
                                         | (refine bw_push rfl ?_
                                            refine bw_istore (ls2 := [_, _, _, _]) rfl rfl (Nat.le_of_ble_eq_true rfl) rfl ?_
                                            refine bw_goto rfl ?_
                                            refine bw_iinc (ls2 := [_, _, _, _]) rfl rfl rfl ⟨by omega, by omega⟩ rfl ?_
                                            refine bw_goto rfl ?_
                                            refine bw_forget (ls2 := [some (vr (some 3)), some (vr (some 372)), some (vi _), some (vi _)]) ⟨rfl, rfl, rfl, rfl, trivial⟩ ?_
                                            first
                                            | exact ih _ (enS (stS S a n q).2 a n (stS S a n q).1).1 (enS (stS S a n q).2 a n (stS S a n q).1).2 _ _ hX.1 hX.2.1 (Or.inl ⟨e, hz, rfl, hX.2.2.1, hX.2.2.2⟩) (by omega) (fun y h => g5 y (isSc_s (by omega) h)) (by omega)
                                            | exact ih _ (enS (stS S a n q).2 a n (stS S a n q).1).1 (enS (stS S a n q).2 a n (stS S a n q).1).2 _ _ hF g.2.1 (Or.inr ⟨q3, hz, rfl, g.2.2, hS3, hC2, by omega, hc5, hc6⟩) (by omega) (fun y h => g5 y (isSc_s (by omega) h)) (by omega)
                                            | (exfalso; omega))
                                       · first
                                         | (exfalso; omega)
                                         | (refine bw_push rfl ?_
                                            refine bw_goto rfl ?_
                                            refine bw_istore (ls2 := [_, _, _, _]) rfl rfl (Nat.le_of_ble_eq_true rfl) rfl ?_
                                            refine bw_goto rfl ?_
                                            refine bw_iinc (ls2 := [_, _, _, _]) rfl rfl rfl ⟨by omega, by omega⟩ rfl ?_
                                            refine bw_goto rfl ?_
                                            refine bw_forget (ls2 := [some (vr (some 3)), some (vr (some 372)), some (vi _), some (vi _)]) ⟨rfl, rfl, rfl, rfl, trivial⟩ ?_
                                            first
                                            | exact ih _ (enS (stS S a n q).2 a n (stS S a n q).1).1 (enS (stS S a n q).2 a n (stS S a n q).1).2 _ _ hX.1 hX.2.1 (Or.inl ⟨e, hz, rfl, hX.2.2.1, hX.2.2.2⟩) (by omega) (fun y h => g5 y (isSc_s (by omega) h)) (by omega)
                                            | exact ih _ (enS (stS S a n q).2 a n (stS S a n q).1).1 (enS (stS S a n q).2 a n (stS S a n q).1).2 _ _ hF g.2.1 (Or.inr ⟨q3, hz, rfl, g.2.2, hS3, hC2, by omega, hc5, hc6⟩) (by omega) (fun y h => g5 y (isSc_s (by omega) h)) (by omega)
                                            | (exfalso; omega))
                                     · have hF := hF.trans (g.1.1.mono (fun c k => Or.elim k (fun k => Or.inl (G_W c k)) Or.inr))
                                       have hz : (enS (stS S a n q).2 a n (stS S a n q).1).1 = .inr q3 := by rw [hz]; exact hz2
                                       have hC2 : CTd (enS (stS S a n q).2 a n (stS S a n q).1).2 := en_ct ct.1 (by omega)
                                       have h55 : (enS (stS S a n q).2 a n (stS S a n q).1).2 5 = S 5 + 1 := by
                                         show up (stS S a n q).2 5 ((stS S a n q).2 5 + 1) 5 = S 5 + 1
                                         rw [up_eq rfl, lo]
                                       have hc5 := g.1.2.1.trans hc5
                                       have hc6 := g.1.2.2.trans hc6
                                       refine bw_ifeq rfl (fun c172 => ?_) (fun c172 => ?_)
                                       · first
                                         | (exfalso; omega)
                                         | (refine bw_push rfl ?_
                                            refine bw_istore (ls2 := [_, _, _, _]) rfl rfl (Nat.le_of_ble_eq_true rfl) rfl ?_
                                            refine bw_goto rfl ?_
                                            refine bw_iinc (ls2 := [_, _, _, _]) rfl rfl rfl ⟨by omega, by omega⟩ rfl ?_
                                            refine bw_goto rfl ?_
                                            refine bw_forget (ls2 := [some (vr (some 3)), some (vr (some 372)), some (vi _), some (vi _)]) ⟨rfl, rfl, rfl, rfl, trivial⟩ ?_
                                            first
                                            | exact ih _ (enS (stS S a n q).2 a n (stS S a n q).1).1 (enS (stS S a n q).2 a n (stS S a n q).1).2 _ _ hX.1 hX.2.1 (Or.inl ⟨e, hz, rfl, hX.2.2.1, hX.2.2.2⟩) (by omega) (fun y h => g5 y (isSc_s (by omega) h)) (by omega)
                                            | exact ih _ (enS (stS S a n q).2 a n (stS S a n q).1).1 (enS (stS S a n q).2 a n (stS S a n q).1).2 _ _ hF g.2.1 (Or.inr ⟨q3, hz, rfl, g.2.2, hS3, hC2, by omega, hc5, hc6⟩) (by omega) (fun y h => g5 y (isSc_s (by omega) h)) (by omega)
                                            | (exfalso; omega))
                                       · first
                                         | (exfalso; omega)
                                         | (refine bw_push rfl ?_
                                            refine bw_goto rfl ?_
                                            refine bw_istore (ls2 := [_, _, _, _]) rfl rfl (Nat.le_of_ble_eq_true rfl) rfl ?_
                                            refine bw_goto rfl ?_
                                            refine bw_iinc (ls2 := [_, _, _, _]) rfl rfl rfl ⟨by omega, by omega⟩ rfl ?_
                                            refine bw_goto rfl ?_
                                            refine bw_forget (ls2 := [some (vr (some 3)), some (vr (some 372)), some (vi _), some (vi _)]) ⟨rfl, rfl, rfl, rfl, trivial⟩ ?_
                                            first
                                            | exact ih _ (enS (stS S a n q).2 a n (stS S a n q).1).1 (enS (stS S a n q).2 a n (stS S a n q).1).2 _ _ hX.1 hX.2.1 (Or.inl ⟨e, hz, rfl, hX.2.2.1, hX.2.2.2⟩) (by omega) (fun y h => g5 y (isSc_s (by omega) h)) (by omega)
                                            | exact ih _ (enS (stS S a n q).2 a n (stS S a n q).1).1 (enS (stS S a n q).2 a n (stS S a n q).1).2 _ _ hF g.2.1 (Or.inr ⟨q3, hz, rfl, g.2.2, hS3, hC2, by omega, hc5, hc6⟩) (by omega) (fun y h => g5 y (isSc_s (by omega) h)) (by omega)
                                            | (exfalso; omega)))
                              · have hF := g1.trans (g57.1.1.mono (fun c k => Or.inl (G_W c k)))
                                have hF := hF.trans (g.1.1.mono (fun c k => Or.elim k (fun k => Or.inl (G_W c k)) Or.inr))
                                have hR := g.1.RF hR
                                have hT := g.2.1
                                have hA := g.2.2
                                have ct := st_ct hct hz
                                have lo := st_lo (a := a) (n := n) (p := q) hct (Or.inr rfl)
                                have hc5 := g.1.2.1.trans hc5
                                have hc6 := g.1.2.2.trans hc6
                                refine bw_ifeq rfl (fun c165 => ?_) (fun c165 => ?_)
                                · first
                                  | (exfalso; omega)
                                  | (refine bw_push rfl ?_
                                     refine bw_istore (ls2 := [_, _, _, _]) rfl rfl (Nat.le_of_ble_eq_true rfl) rfl ?_
                                     refine bw_goto rfl ?_
                                     refine bw_iinc (ls2 := [_, _, _, _]) rfl rfl rfl ⟨by omega, by omega⟩ rfl ?_
                                     refine bw_goto rfl ?_
                                     refine bw_forget (ls2 := [some (vr (some 3)), some (vr (some 372)), some (vi _), some (vi _)]) ⟨rfl, rfl, rfl, rfl, trivial⟩ ?_
                                     first
                                     | exact ih _ (enS (stS S a n q).2 a n (stS S a n q).1).1 (enS (stS S a n q).2 a n (stS S a n q).1).2 _ _ hX.1 hX.2.1 (Or.inl ⟨e, hz, rfl, hX.2.2.1, hX.2.2.2⟩) (by omega) (fun y h => g5 y (isSc_s (by omega) h)) (by omega)
                                     | exact ih _ (enS (stS S a n q).2 a n (stS S a n q).1).1 (enS (stS S a n q).2 a n (stS S a n q).1).2 _ _ hF g.2.1 (Or.inr ⟨q3, hz, rfl, g.2.2, hS3, hC2, by omega, hc5, hc6⟩) (by omega) (fun y h => g5 y (isSc_s (by omega) h)) (by omega)
                                     | (exfalso; omega))
                                · first
                                  | (exfalso; omega)
                                  | (refine bw_aload rfl rfl ?_
                                     refine bw_callVi (e := d - 1) (as := []) rfl (by omega) rfl rfl (Nat.le_of_ble_eq_true rfl) (Nat.le_of_ble_eq_true rfl) rfl (c_endStatement hR hT hA (by first | exact Or.inl rfl | exact Or.inr rfl) hS2 hr (by omega) (by omega)) (fun r169 M169 hM169 => ?_)
                                     rcases hM169 with ⟨e, hz2, rfl, hX⟩ | ⟨q3, hz2, rfl, g, hS3⟩
                                     · have hX := FA.tr (s := pA 372) hF hX (fun _ k => k) (fun c k => Or.elim k (fun k => Or.inl (G_W c k)) Or.inr)
                                       have hz : (enS (stS S a n q).2 a n (stS S a n q).1).1 = .inl e := by rw [hz]; exact hz2
                                       refine bw_ifeq rfl (fun c172 => ?_) (fun c172 => ?_)
                                       · first
                                         | (exfalso; omega)
                                         | (refine bw_push rfl ?_
                                            refine bw_istore (ls2 := [_, _, _, _]) rfl rfl (Nat.le_of_ble_eq_true rfl) rfl ?_
                                            refine bw_goto rfl ?_
                                            refine bw_iinc (ls2 := [_, _, _, _]) rfl rfl rfl ⟨by omega, by omega⟩ rfl ?_
                                            refine bw_goto rfl ?_
                                            refine bw_forget (ls2 := [some (vr (some 3)), some (vr (some 372)), some (vi _), some (vi _)]) ⟨rfl, rfl, rfl, rfl, trivial⟩ ?_
                                            first
                                            | exact ih _ (enS (stS S a n q).2 a n (stS S a n q).1).1 (enS (stS S a n q).2 a n (stS S a n q).1).2 _ _ hX.1 hX.2.1 (Or.inl ⟨e, hz, rfl, hX.2.2.1, hX.2.2.2⟩) (by omega) (fun y h => g5 y (isSc_s (by omega) h)) (by omega)
                                            | exact ih _ (enS (stS S a n q).2 a n (stS S a n q).1).1 (enS (stS S a n q).2 a n (stS S a n q).1).2 _ _ hF g.2.1 (Or.inr ⟨q3, hz, rfl, g.2.2, hS3, hC2, by omega, hc5, hc6⟩) (by omega) (fun y h => g5 y (isSc_s (by omega) h)) (by omega)
                                            | (exfalso; omega))
                                       · first
                                         | (exfalso; omega)
                                         | (refine bw_push rfl ?_
                                            refine bw_goto rfl ?_
                                            refine bw_istore (ls2 := [_, _, _, _]) rfl rfl (Nat.le_of_ble_eq_true rfl) rfl ?_
                                            refine bw_goto rfl ?_
                                            refine bw_iinc (ls2 := [_, _, _, _]) rfl rfl rfl ⟨by omega, by omega⟩ rfl ?_
                                            refine bw_goto rfl ?_
                                            refine bw_forget (ls2 := [some (vr (some 3)), some (vr (some 372)), some (vi _), some (vi _)]) ⟨rfl, rfl, rfl, rfl, trivial⟩ ?_
                                            first
                                            | exact ih _ (enS (stS S a n q).2 a n (stS S a n q).1).1 (enS (stS S a n q).2 a n (stS S a n q).1).2 _ _ hX.1 hX.2.1 (Or.inl ⟨e, hz, rfl, hX.2.2.1, hX.2.2.2⟩) (by omega) (fun y h => g5 y (isSc_s (by omega) h)) (by omega)
                                            | exact ih _ (enS (stS S a n q).2 a n (stS S a n q).1).1 (enS (stS S a n q).2 a n (stS S a n q).1).2 _ _ hF g.2.1 (Or.inr ⟨q3, hz, rfl, g.2.2, hS3, hC2, by omega, hc5, hc6⟩) (by omega) (fun y h => g5 y (isSc_s (by omega) h)) (by omega)
                                            | (exfalso; omega))
                                     · have hF := hF.trans (g.1.1.mono (fun c k => Or.elim k (fun k => Or.inl (G_W c k)) Or.inr))
                                       have hz : (enS (stS S a n q).2 a n (stS S a n q).1).1 = .inr q3 := by rw [hz]; exact hz2
                                       have hC2 : CTd (enS (stS S a n q).2 a n (stS S a n q).1).2 := en_ct ct.1 (by omega)
                                       have h55 : (enS (stS S a n q).2 a n (stS S a n q).1).2 5 = S 5 + 1 := by
                                         show up (stS S a n q).2 5 ((stS S a n q).2 5 + 1) 5 = S 5 + 1
                                         rw [up_eq rfl, lo]
                                       have hc5 := g.1.2.1.trans hc5
                                       have hc6 := g.1.2.2.trans hc6
                                       refine bw_ifeq rfl (fun c172 => ?_) (fun c172 => ?_)
                                       · first
                                         | (exfalso; omega)
                                         | (refine bw_push rfl ?_
                                            refine bw_istore (ls2 := [_, _, _, _]) rfl rfl (Nat.le_of_ble_eq_true rfl) rfl ?_
                                            refine bw_goto rfl ?_
                                            refine bw_iinc (ls2 := [_, _, _, _]) rfl rfl rfl ⟨by omega, by omega⟩ rfl ?_
                                            refine bw_goto rfl ?_
                                            refine bw_forget (ls2 := [some (vr (some 3)), some (vr (some 372)), some (vi _), some (vi _)]) ⟨rfl, rfl, rfl, rfl, trivial⟩ ?_
                                            first
                                            | exact ih _ (enS (stS S a n q).2 a n (stS S a n q).1).1 (enS (stS S a n q).2 a n (stS S a n q).1).2 _ _ hX.1 hX.2.1 (Or.inl ⟨e, hz, rfl, hX.2.2.1, hX.2.2.2⟩) (by omega) (fun y h => g5 y (isSc_s (by omega) h)) (by omega)
                                            | exact ih _ (enS (stS S a n q).2 a n (stS S a n q).1).1 (enS (stS S a n q).2 a n (stS S a n q).1).2 _ _ hF g.2.1 (Or.inr ⟨q3, hz, rfl, g.2.2, hS3, hC2, by omega, hc5, hc6⟩) (by omega) (fun y h => g5 y (isSc_s (by omega) h)) (by omega)
                                            | (exfalso; omega))
                                       · first
                                         | (exfalso; omega)
                                         | (refine bw_push rfl ?_
                                            refine bw_goto rfl ?_
                                            refine bw_istore (ls2 := [_, _, _, _]) rfl rfl (Nat.le_of_ble_eq_true rfl) rfl ?_
                                            refine bw_goto rfl ?_
                                            refine bw_iinc (ls2 := [_, _, _, _]) rfl rfl rfl ⟨by omega, by omega⟩ rfl ?_
                                            refine bw_goto rfl ?_
                                            refine bw_forget (ls2 := [some (vr (some 3)), some (vr (some 372)), some (vi _), some (vi _)]) ⟨rfl, rfl, rfl, rfl, trivial⟩ ?_
                                            first
                                            | exact ih _ (enS (stS S a n q).2 a n (stS S a n q).1).1 (enS (stS S a n q).2 a n (stS S a n q).1).2 _ _ hX.1 hX.2.1 (Or.inl ⟨e, hz, rfl, hX.2.2.1, hX.2.2.2⟩) (by omega) (fun y h => g5 y (isSc_s (by omega) h)) (by omega)
                                            | exact ih _ (enS (stS S a n q).2 a n (stS S a n q).1).1 (enS (stS S a n q).2 a n (stS S a n q).1).2 _ _ hF g.2.1 (Or.inr ⟨q3, hz, rfl, g.2.2, hS3, hC2, by omega, hc5, hc6⟩) (by omega) (fun y h => g5 y (isSc_s (by omega) h)) (by omega)
                                            | (exfalso; omega)))
                            · skip
                              refine bw_switch (t := 184) rfl (by show (if (r57) < (1 : Int) ∨ (4 : Int) < (r57) then _ else _) = _; rw [if_pos (by omega)]; rfl) ?_
                              refine bw_push rfl ?_
                              refine bw_istore (ls2 := [_, _, _, _]) rfl rfl (Nat.le_of_ble_eq_true rfl) rfl ?_
                              refine bw_iinc (ls2 := [_, _, _, _]) rfl rfl rfl ⟨by omega, by omega⟩ rfl ?_
                              refine bw_goto rfl ?_
                              refine bw_forget (ls2 := [some (vr (some 3)), some (vr (some 372)), some (vi _), some (vi _)]) ⟨rfl, rfl, rfl, rfl, trivial⟩ ?_
                              first
                              | exact ih _ (enS (stS S a n q).2 a n (stS S a n q).1).1 (enS (stS S a n q).2 a n (stS S a n q).1).2 _ _ hX.1 hX.2.1 (Or.inl ⟨e, hz, rfl, hX.2.2.1, hX.2.2.2⟩) (by omega) (fun y h => g5 y (isSc_s (by omega) h)) (by omega)
                              | exact ih _ (enS (stS S a n q).2 a n (stS S a n q).1).1 (enS (stS S a n q).2 a n (stS S a n q).1).2 _ _ hF g.2.1 (Or.inr ⟨q3, hz, rfl, g.2.2, hS3, hC2, by omega, hc5, hc6⟩) (by omega) (fun y h => g5 y (isSc_s (by omega) h)) (by omega)
                              | (exfalso; omega)))
    show abW d (0, 0) 35 0 [some (vr (some 3)), some (vr (some 372)), none, none] [] (0, 0) (A0 L) M (qI (A0 L) (fun x N => (sm (pA 372) (sR M 3 3 (some 372)) N ∧ TP N a n ∧ ((∃ e : Int × Int, isTx a n (.inl e) ∧ x = 0 ∧ gI N 3 5 = e.1 ∧ gI N 3 6 = e.2) ∨ (∃ S : Int → Int, isTx a n (.inr S) ∧ x = 1 ∧ SR N 372 S ∧ gI N 3 5 = 0 ∧ gI N 3 6 = -1)))))
    refine bw_aload rfl rfl ?_
    refine bw_aload rfl rfl ?_
    refine bw_putR rfl rfl ?_
    obtain ⟨K, hK⟩ : ∃ K, K = sR M 3 3 (some 372) := ⟨_, rfl⟩
    rw [← hK]
    have hR := RF_3 hR (some 372)
    rw [← hK] at hR
    have hr : ((r.1, (some 372, r.2.2)) : abRf).2.1 = some 372 := rfl
    have hT : TP K a n := by rw [hK]; exact hT
    refine bw_aload rfl rfl ?_
    refine bw_getr rfl rfl ((hR _ _).trans hr) ?_
    refine bw_callVNv (e := d - 1) (as := []) rfl (by omega) rfl rfl (Nat.le_of_ble_eq_true rfl) (Nat.le_of_ble_eq_true rfl) rfl (c_clear hR (by first | exact Or.inl rfl | exact Or.inr rfl)) (fun M9 hM9 => ?_)
    have hF := (hM9.1.mono (q := pA 372) (fun c k => Or.inr k))
    have hS := hM9.2
    have hT := TP_s2 hT hM9.1 (fun k => by have := k.1; omega) (fun k => by have := k.1; omega)
    have hR := hM9.1.RF hR
    refine bw_aload rfl rfl ?_
    refine bw_push rfl ?_
    refine bw_putI rfl rfl ?_
    refine bw_aload rfl rfl ?_
    refine bw_push rfl ?_
    refine bw_putI rfl rfl ?_
    obtain ⟨G, hG⟩ : ∃ G, G = sI (sI M9 3 5 0) 3 6 (-1) := ⟨_, rfl⟩
    rw [← hG]
    have u19 : sm p3 M9 G := by rw [hG]; exact ((sm_refl p3 M9).sI (a := 3) 5 _ rfl).sI (a := 3) 6 _ rfl
    have hR := u19.RF hR
    have hc5 : gI G 3 5 = 0 := by rw [hG, gI_sI_nj (by decide), gI_sI_eq]
    have hc6 : gI G 3 6 = -1 := by rw [hG, gI_sI_eq]
    have hF := hF.trans (u19.mono (q := pA 372) (fun c k => Or.inl (P_W c (Or.inr k))))
    have hT := TP_s2 hT u19 (by decide) (by decide)
    have hS := SR_sm hS u19 (fun c c0 c1 k => by have : c = 3 := k; omega)
    refine bw_aload rfl rfl ?_
    refine bw_getr rfl rfl (hR _ _) ?_
    refine bw_callVNv (e := d - 1) (as := []) rfl (by omega) rfl rfl (Nat.le_of_ble_eq_true rfl) (Nat.le_of_ble_eq_true rfl) rfl (c_start hR hT (by omega)) (fun M26 hM26 => ?_)
    have hF := hF.trans (hM26.1.mono (fun c k => Or.inl (T_W c k)))
    have hR := hM26.1.RF hR
    have hc5 : gI M26 3 5 = 0 := by rw [hM26.1.at 3 (by decide)]; exact hc5
    have hc6 : gI M26 3 6 = -1 := by rw [hM26.1.at 3 (by decide)]; exact hc6
    have hT := hM26.2.1
    have hA := hM26.2.2
    have hS := SR_sm hS hM26.1 (fun c c0 c1 => no_T (by omega))
    refine bw_aload rfl rfl ?_
    refine bw_callVi (e := d - 1) (as := []) rfl (by omega) rfl rfl (Nat.le_of_ble_eq_true rfl) (Nat.le_of_ble_eq_true rfl) rfl (c_readFrames hR hT hA (by first | exact Or.inl rfl | exact Or.inr rfl) hS hr (by omega)) (fun r30 M30 hM30 => ?_)
    have hR3 := hR
    refine bw_istore (ls2 := [_, _, _, _]) rfl rfl (Nat.le_of_ble_eq_true rfl) rfl ?_
    refine bw_push rfl ?_
    refine bw_istore (ls2 := [_, _, _, _]) rfl rfl (Nat.le_of_ble_eq_true rfl) rfl ?_
    subst hK
    rcases hM30 with ⟨e, hz, rfl, hX⟩ | ⟨q, hz, rfl, g, hS2⟩
    · exact L36 62 _ (sc1 a n).1 (sc1 a n).2 _ _ (hF.trans (hX.1.mono (fun c k => Or.elim k (fun k => Or.inl (G_W c k)) Or.inr))) hX.2.1 (Or.inl ⟨e, hz, rfl, hX.2.2.1, hX.2.2.2⟩) (by decide) (fun y h => h) (by decide)
    · have c0 := sc0_ct (a := a) (n := n)
      exact L36 62 _ (sc1 a n).1 (sc1 a n).2 _ _ (hF.trans (g.1.1.mono (fun c k => Or.elim k (fun k => Or.inl (G_W c k)) Or.inr))) g.2.1 (Or.inr ⟨q, hz, rfl, g.2.2, hS2, en_ct c0.1 (by omega), (by show up (sc0 a n).2 5 ((sc0 a n).2 5 + 1) 5 = 1; rw [up_eq rfl, c0.2]; rfl), g.1.2.1.trans hc5, g.1.2.2.trans hc6⟩) (by decide) (fun y h => h) (by decide)
  · have L192 : ∀ (kf : Nat) (N : abMem) (S : Int → Int) (x i : Int), (sm (pA 459) (sR M 3 3 (some 459)) N) → (TP N a n) → ((∃ e : Int × Int, isTx a n (.inl e) ∧ x = 0 ∧ gI N 3 5 = e.1 ∧ gI N 3 6 = e.2) ∨ (x = 1 ∧ SR N 459 S ∧ (S 1 = 0 → isTx a n (.inl (5, n))) ∧ (S 1 ≠ 0 → isTx a n (.inr S)) ∧ gI N 3 5 = 0 ∧ gI N 3 6 = -1)) → ((0 : Nat)) < kf → abW d (0, 0) 35 192 [some (vr (some 3)), some (vr (some 459)), some (vi x), some (vi i)] [] (0, 0) (A0 L) (N) (qI (A0 L) (fun x N => (sm (pA 459) (sR M 3 3 (some 459)) N ∧ TP N a n ∧ ((∃ e : Int × Int, isTx a n (.inl e) ∧ x = 0 ∧ gI N 3 5 = e.1 ∧ gI N 3 6 = e.2) ∨ (∃ S : Int → Int, isTx a n (.inr S) ∧ x = 1 ∧ SR N 459 S ∧ gI N 3 5 = 0 ∧ gI N 3 6 = -1))))) := by
      intro kf
      induction kf with
      | zero => intro N  S  x i  k1 k2 k3 hm9; exact absurd hm9 (Nat.not_lt_zero _)
      | succ kf ih192 =>
        intro N  S  x i  k1 k2 k3 hm192
        have ih := ih192
        have hR := k1.RF (RF_3 hR (some 459))
        have hr : ((r.1, (some 459, r.2.2)) : abRf).2.1 = some 459 := rfl
        have hT := k2
        refine bw_iload rfl rfl ?_
        refine bw_ifeq rfl (fun c193 => ?_) (fun c193 => ?_)
        · skip
          refine bw_iload rfl rfl ?_
          refine bw_retz rfl rfl (by omega) ?_
          first
          | exact ⟨rfl, _, rfl, k1, k2, Or.inr ⟨S, k6 c203, rfl, hS, hc5, hc6⟩⟩
          | exact ⟨rfl, _, rfl, k1.trans ((fa_of (k := 5) (p := n) hT).1.mono (fun c k => Or.inl (P_W c k))), (fa_of (k := 5) (p := n) hT).2.1, Or.inl ⟨_, k5 (by omega), rfl, (fa_of (k := 5) (p := n) hT).2.2⟩⟩
          | (rcases k3 with ⟨e, h1, h2, h3⟩ | ⟨h, _⟩
             · exact ⟨rfl, _, rfl, k1, k2, Or.inl ⟨e, h1, h2, h3⟩⟩
             · exfalso; omega)
        · skip
          obtain ⟨rfl, hS, k5, k6, hc5, hc6⟩ : x = 1 ∧ SR N 459 S ∧ (S 1 = 0 → isTx a n (.inl (5, n))) ∧ (S 1 ≠ 0 → isTx a n (.inr S)) ∧ gI N 3 5 = 0 ∧ gI N 3 6 = -1 := by
            rcases k3 with ⟨e, _, h, _⟩ | h
            · omega
            · exact h
          clear k3
          refine bw_aload rfl rfl ?_
          refine bw_getr rfl rfl ((hR _ _).trans hr) ?_
          refine bw_getI rfl rfl ?_
          rw [show gI N 459 2 = S 1 from hS.c2]
          refine bw_ifne rfl (fun c203 => ?_) (fun c203 => ?_)
          · skip
            refine bw_iload rfl rfl ?_
            refine bw_retz rfl rfl (by omega) ?_
            first
            | exact ⟨rfl, _, rfl, k1, k2, Or.inr ⟨S, k6 c203, rfl, hS, hc5, hc6⟩⟩
            | exact ⟨rfl, _, rfl, k1.trans ((fa_of (k := 5) (p := n) hT).1.mono (fun c k => Or.inl (P_W c k))), (fa_of (k := 5) (p := n) hT).2.1, Or.inl ⟨_, k5 (by omega), rfl, (fa_of (k := 5) (p := n) hT).2.2⟩⟩
            | (rcases k3 with ⟨e, h1, h2, h3⟩ | ⟨h, _⟩
               · exact ⟨rfl, _, rfl, k1, k2, Or.inl ⟨e, h1, h2, h3⟩⟩
               · exfalso; omega)
          · skip
            refine bw_aload rfl rfl ?_
            refine bw_push rfl ?_
            refine bw_aload rfl rfl ?_
            refine bw_getr rfl rfl (hR _ _) ?_
            refine bw_getI rfl rfl ?_
            rw [hT.le]
            refine bw_callVi (e := d - 1) (as := [_, _]) rfl (by omega) rfl rfl (Nat.le_of_ble_eq_true rfl) (Nat.le_of_ble_eq_true rfl) rfl (c_fail hR) (fun r215 M215 hM215 => ?_)
            obtain ⟨rfl, rfl⟩ := hM215
            refine bw_istore (ls2 := [_, _, _, _]) rfl rfl (Nat.le_of_ble_eq_true rfl) rfl ?_
            refine bw_iload rfl rfl ?_
            refine bw_retz rfl rfl (by omega) ?_
            first
            | exact ⟨rfl, _, rfl, k1, k2, Or.inr ⟨S, k6 c203, rfl, hS, hc5, hc6⟩⟩
            | exact ⟨rfl, _, rfl, k1.trans ((fa_of (k := 5) (p := n) hT).1.mono (fun c k => Or.inl (P_W c k))), (fa_of (k := 5) (p := n) hT).2.1, Or.inl ⟨_, k5 (by omega), rfl, (fa_of (k := 5) (p := n) hT).2.2⟩⟩
            | (rcases k3 with ⟨e, h1, h2, h3⟩ | ⟨h, _⟩
               · exact ⟨rfl, _, rfl, k1, k2, Or.inl ⟨e, h1, h2, h3⟩⟩
               · exfalso; omega)
    have L36 : ∀ (kf : Nat) (N : abMem) (z : Rp) (S : Int → Int) (x i : Int), (sm (pA 459) (sR M 3 3 (some 459)) N) → (TP N a n) → ((∃ e : Int × Int, z = .inl e ∧ x = 0 ∧ gI N 3 5 = e.1 ∧ gI N 3 6 = e.2) ∨ (∃ q : Int, z = .inr q ∧ x = 1 ∧ TA N a n q ∧ SR N 459 S ∧ CTd S ∧ S 5 = i ∧ gI N 3 5 = 0 ∧ gI N 3 6 = -1)) → (1 ≤ i ∧ i ≤ 61) → (∀ y, isSc a n z S y → isTx a n y) → ((62 - i).toNat) < kf → abW d (0, 0) 35 36 [some (vr (some 3)), some (vr (some 459)), some (vi x), some (vi i)] [] (0, 0) (A0 L) (N) (qI (A0 L) (fun x N => (sm (pA 459) (sR M 3 3 (some 459)) N ∧ TP N a n ∧ ((∃ e : Int × Int, isTx a n (.inl e) ∧ x = 0 ∧ gI N 3 5 = e.1 ∧ gI N 3 6 = e.2) ∨ (∃ S : Int → Int, isTx a n (.inr S) ∧ x = 1 ∧ SR N 459 S ∧ gI N 3 5 = 0 ∧ gI N 3 6 = -1))))) := by
      intro kf
      induction kf with
      | zero => intro N  z  S  x i  g1 g2 g3 g4 g5 hm9; exact absurd hm9 (Nat.not_lt_zero _)
      | succ kf ih36 =>
        intro N  z  S  x i  g1 g2 g3 g4 g5 hm36
        have ih := ih36
        have hR := g1.RF (RF_3 hR (some 459))
        have hr : ((r.1, (some 459, r.2.2)) : abRf).2.1 = some 459 := rfl
        have hT := g2
        refine bw_iload rfl rfl ?_
        refine bw_push rfl ?_
        refine bw_icgt rfl (fun c39 => ?_) (fun c39 => ?_)
        · first
          | (exfalso; omega)
          | (first
             | exact L192 1 N S 1 _ g1 g2 (Or.inr ⟨rfl, hS, fun h => g5 _ (isSc_5 (by omega) h), fun h => g5 _ (isSc_d (by omega) h), hc5, hc6⟩) (by decide)
             | (rcases g3 with ⟨e, h1, h2, h3, h4⟩ | ⟨q, h1, h2, h3, h4, h5, h6⟩
                · exact L192 1 N S x _ g1 g2 (Or.inl ⟨e, g5 _ (by rw [h1]; exact isSc_f), h2, h3, h4⟩) (by decide)
                · exfalso; have := h5.2.2.2.2.2; omega))
        · first
          | (exfalso; omega)
          | (refine bw_iload rfl rfl ?_
             refine bw_ifeq rfl (fun c43 => ?_) (fun c43 => ?_)
             · first
               | (exfalso; omega)
               | (first
                  | exact L192 1 N S 1 _ g1 g2 (Or.inr ⟨rfl, hS, fun h => g5 _ (isSc_5 (by omega) h), fun h => g5 _ (isSc_d (by omega) h), hc5, hc6⟩) (by decide)
                  | (rcases g3 with ⟨e, h1, h2, h3, h4⟩ | ⟨q, h1, h2, h3, h4, h5, h6⟩
                     · exact L192 1 N S x _ g1 g2 (Or.inl ⟨e, g5 _ (by rw [h1]; exact isSc_f), h2, h3, h4⟩) (by decide)
                     · exfalso; have := h5.2.2.2.2.2; omega))
             · first
               | (exfalso; omega)
               | (obtain ⟨q, rfl, rfl, hA, hS, hct, h5, hc5, hc6⟩ : ∃ q : Int, z = .inr q ∧ x = 1 ∧ TA N a n q ∧ SR N 459 S ∧ CTd S ∧ S 5 = i ∧ gI N 3 5 = 0 ∧ gI N 3 6 = -1 := by
                    rcases g3 with ⟨e, _, h, _⟩ | h
                    · omega
                    · exact h
                  clear g3
                  have a2 := hA.1.2.1
                  have tc := tk_c hT.ok (p := q) (by have := hA.2; omega)
                  refine bw_aload rfl rfl ?_
                  refine bw_getr rfl rfl (hR _ _) ?_
                  refine bw_getI rfl rfl ?_
                  refine bw_ifeq rfl (fun c53 => ?_) (fun c53 => ?_)
                  · skip
                    first
                    | exact L192 1 N S 1 _ g1 g2 (Or.inr ⟨rfl, hS, fun h => g5 _ (isSc_5 (by omega) h), fun h => g5 _ (isSc_d (by omega) h), hc5, hc6⟩) (by decide)
                    | (rcases g3 with ⟨e, h1, h2, h3, h4⟩ | ⟨q, h1, h2, h3, h4, h5, h6⟩
                       · exact L192 1 N S x _ g1 g2 (Or.inl ⟨e, g5 _ (by rw [h1]; exact isSc_f), h2, h3, h4⟩) (by decide)
                       · exfalso; have := h5.2.2.2.2.2; omega)
                  · skip
                    refine bw_aload rfl rfl ?_
                    refine bw_callVi (e := d - 1) (as := []) rfl (by omega) rfl rfl (Nat.le_of_ble_eq_true rfl) (Nat.le_of_ble_eq_true rfl) rfl (c_startStatement hR hT hA (by first | exact Or.inl rfl | exact Or.inr rfl) hS hr (by omega)) (fun r57 M57 hM57 => ?_)
                    rcases hM57 with ⟨e, hz, rfl, hX⟩ | ⟨hw, hG, g57⟩
                    · have hX := FA.tr (s := pA 459) g1 hX (fun _ k => k) (fun c k => Or.inl (G_W c k))
                      have hz : (enS (stS S a n q).2 a n (stS S a n q).1).1 = .inl e := by rw [hz]; rfl
                      refine bw_switch (t := 184) rfl (by decide) ?_
                      refine bw_push rfl ?_
                      refine bw_istore (ls2 := [_, _, _, _]) rfl rfl (Nat.le_of_ble_eq_true rfl) rfl ?_
                      refine bw_iinc (ls2 := [_, _, _, _]) rfl rfl rfl ⟨by omega, by omega⟩ rfl ?_
                      refine bw_goto rfl ?_
                      refine bw_forget (ls2 := [some (vr (some 3)), some (vr (some 459)), some (vi _), some (vi _)]) ⟨rfl, rfl, rfl, rfl, trivial⟩ ?_
                      first
                      | exact ih _ (enS (stS S a n q).2 a n (stS S a n q).1).1 (enS (stS S a n q).2 a n (stS S a n q).1).2 _ _ hX.1 hX.2.1 (Or.inl ⟨e, hz, rfl, hX.2.2.1, hX.2.2.2⟩) (by omega) (fun y h => g5 y (isSc_s (by omega) h)) (by omega)
                      | exact ih _ (enS (stS S a n q).2 a n (stS S a n q).1).1 (enS (stS S a n q).2 a n (stS S a n q).1).2 _ _ hF g.2.1 (Or.inr ⟨q3, hz, rfl, g.2.2, hS3, hC2, by omega, hc5, hc6⟩) (by omega) (fun y h => g5 y (isSc_s (by omega) h)) (by omega)
                      | (exfalso; omega)
                    · have hR := g57.1.RF hR
                      have hT := g57.2.1
                      have hA := g57.2.2
                      have hS := SR_sm hS g57.1.1 (fun c c0 c1 => no_R (by omega))
                      have aq : a q ≠ -1 := by omega
                      clear tc
                      have ff : fSt S a n q := fSt_of hct hG
                      have hc5 := g57.1.2.1.trans hc5
                      have hc6 := g57.1.2.2.trans hc6
                      by_cases s60_0 : r57 = 1
                      · refine bw_switch (t := 92) rfl (by rw [s60_0]; rfl) ?_
                        refine bw_aload rfl rfl ?_
                        have eS : stS S a n q = laS S a n (sk a n (we a n q)) := by rw [st_g (by omega) hG]; exact if_pos (by omega)
                        refine bw_callVi (e := d - 1) (as := []) rfl (by omega) rfl rfl (Nat.le_of_ble_eq_true rfl) (Nat.le_of_ble_eq_true rfl) rfl (c_readLayer hR hT hA (by first | exact Or.inl rfl | exact Or.inr rfl) hS hr (ff.1 (by omega)) hct.1.1 (by omega)) (fun r93 M93 hM93 => ?_)
                        rw [← eS] at hM93
                        rcases hM93 with ⟨e, hz, rfl, hX⟩ | ⟨q2, hz, rfl, g, hS2⟩
                        · have hF := g1.trans (g57.1.1.mono (fun c k => Or.inl (G_W c k)))
                          have hX := FA.tr (s := pA 459) hF hX (fun _ k => k) (fun c k => Or.inl k)
                          have hz : (enS (stS S a n q).2 a n (stS S a n q).1).1 = .inl e := by rw [hz]; rfl
                          refine bw_ifeq rfl (fun c96 => ?_) (fun c96 => ?_)
                          · first
                            | (exfalso; omega)
                            | (refine bw_push rfl ?_
                               refine bw_istore (ls2 := [_, _, _, _]) rfl rfl (Nat.le_of_ble_eq_true rfl) rfl ?_
                               refine bw_goto rfl ?_
                               refine bw_iinc (ls2 := [_, _, _, _]) rfl rfl rfl ⟨by omega, by omega⟩ rfl ?_
                               refine bw_goto rfl ?_
                               refine bw_forget (ls2 := [some (vr (some 3)), some (vr (some 459)), some (vi _), some (vi _)]) ⟨rfl, rfl, rfl, rfl, trivial⟩ ?_
                               first
                               | exact ih _ (enS (stS S a n q).2 a n (stS S a n q).1).1 (enS (stS S a n q).2 a n (stS S a n q).1).2 _ _ hX.1 hX.2.1 (Or.inl ⟨e, hz, rfl, hX.2.2.1, hX.2.2.2⟩) (by omega) (fun y h => g5 y (isSc_s (by omega) h)) (by omega)
                               | exact ih _ (enS (stS S a n q).2 a n (stS S a n q).1).1 (enS (stS S a n q).2 a n (stS S a n q).1).2 _ _ hF g.2.1 (Or.inr ⟨q3, hz, rfl, g.2.2, hS3, hC2, by omega, hc5, hc6⟩) (by omega) (fun y h => g5 y (isSc_s (by omega) h)) (by omega)
                               | (exfalso; omega))
                          · first
                            | (exfalso; omega)
                            | (refine bw_aload rfl rfl ?_
                               refine bw_callVi (e := d - 1) (as := []) rfl (by omega) rfl rfl (Nat.le_of_ble_eq_true rfl) (Nat.le_of_ble_eq_true rfl) rfl (c_endStatement hR hT hA (by first | exact Or.inl rfl | exact Or.inr rfl) hS2 hr (by omega) (by omega)) (fun r100 M100 hM100 => ?_)
                               rcases hM100 with ⟨e, hz2, rfl, hX⟩ | ⟨q3, hz2, rfl, g, hS3⟩
                               · have hX := FA.tr (s := pA 459) hF hX (fun _ k => k) (fun c k => Or.elim k (fun k => Or.inl (G_W c k)) Or.inr)
                                 have hz : (enS (stS S a n q).2 a n (stS S a n q).1).1 = .inl e := by rw [hz]; exact hz2
                                 refine bw_ifeq rfl (fun c103 => ?_) (fun c103 => ?_)
                                 · first
                                   | (exfalso; omega)
                                   | (refine bw_push rfl ?_
                                      refine bw_istore (ls2 := [_, _, _, _]) rfl rfl (Nat.le_of_ble_eq_true rfl) rfl ?_
                                      refine bw_goto rfl ?_
                                      refine bw_iinc (ls2 := [_, _, _, _]) rfl rfl rfl ⟨by omega, by omega⟩ rfl ?_
                                      refine bw_goto rfl ?_
                                      refine bw_forget (ls2 := [some (vr (some 3)), some (vr (some 459)), some (vi _), some (vi _)]) ⟨rfl, rfl, rfl, rfl, trivial⟩ ?_
                                      first
                                      | exact ih _ (enS (stS S a n q).2 a n (stS S a n q).1).1 (enS (stS S a n q).2 a n (stS S a n q).1).2 _ _ hX.1 hX.2.1 (Or.inl ⟨e, hz, rfl, hX.2.2.1, hX.2.2.2⟩) (by omega) (fun y h => g5 y (isSc_s (by omega) h)) (by omega)
                                      | exact ih _ (enS (stS S a n q).2 a n (stS S a n q).1).1 (enS (stS S a n q).2 a n (stS S a n q).1).2 _ _ hF g.2.1 (Or.inr ⟨q3, hz, rfl, g.2.2, hS3, hC2, by omega, hc5, hc6⟩) (by omega) (fun y h => g5 y (isSc_s (by omega) h)) (by omega)
                                      | (exfalso; omega))
                                 · first
                                   | (exfalso; omega)
                                   | (refine bw_push rfl ?_
                                      refine bw_goto rfl ?_
                                      refine bw_istore (ls2 := [_, _, _, _]) rfl rfl (Nat.le_of_ble_eq_true rfl) rfl ?_
                                      refine bw_goto rfl ?_
                                      refine bw_iinc (ls2 := [_, _, _, _]) rfl rfl rfl ⟨by omega, by omega⟩ rfl ?_
                                      refine bw_goto rfl ?_
                                      refine bw_forget (ls2 := [some (vr (some 3)), some (vr (some 459)), some (vi _), some (vi _)]) ⟨rfl, rfl, rfl, rfl, trivial⟩ ?_
                                      first
                                      | exact ih _ (enS (stS S a n q).2 a n (stS S a n q).1).1 (enS (stS S a n q).2 a n (stS S a n q).1).2 _ _ hX.1 hX.2.1 (Or.inl ⟨e, hz, rfl, hX.2.2.1, hX.2.2.2⟩) (by omega) (fun y h => g5 y (isSc_s (by omega) h)) (by omega)
                                      | exact ih _ (enS (stS S a n q).2 a n (stS S a n q).1).1 (enS (stS S a n q).2 a n (stS S a n q).1).2 _ _ hF g.2.1 (Or.inr ⟨q3, hz, rfl, g.2.2, hS3, hC2, by omega, hc5, hc6⟩) (by omega) (fun y h => g5 y (isSc_s (by omega) h)) (by omega)
                                      | (exfalso; omega))
                               · have hF := hF.trans (g.1.1.mono (fun c k => Or.elim k (fun k => Or.inl (G_W c k)) Or.inr))
                                 have hz : (enS (stS S a n q).2 a n (stS S a n q).1).1 = .inr q3 := by rw [hz]; exact hz2
                                 have hC2 : CTd (enS (stS S a n q).2 a n (stS S a n q).1).2 := en_ct ct.1 (by omega)
                                 have h55 : (enS (stS S a n q).2 a n (stS S a n q).1).2 5 = S 5 + 1 := by
                                   show up (stS S a n q).2 5 ((stS S a n q).2 5 + 1) 5 = S 5 + 1
                                   rw [up_eq rfl, lo]
                                 have hc5 := g.1.2.1.trans hc5
                                 have hc6 := g.1.2.2.trans hc6
                                 refine bw_ifeq rfl (fun c103 => ?_) (fun c103 => ?_)
                                 · first
                                   | (exfalso; omega)
                                   | (refine bw_push rfl ?_
                                      refine bw_istore (ls2 := [_, _, _, _]) rfl rfl (Nat.le_of_ble_eq_true rfl) rfl ?_
                                      refine bw_goto rfl ?_
                                      refine bw_iinc (ls2 := [_, _, _, _]) rfl rfl rfl ⟨by omega, by omega⟩ rfl ?_
                                      refine bw_goto rfl ?_
                                      refine bw_forget (ls2 := [some (vr (some 3)), some (vr (some 459)), some (vi _), some (vi _)]) ⟨rfl, rfl, rfl, rfl, trivial⟩ ?_
                                      first
                                      | exact ih _ (enS (stS S a n q).2 a n (stS S a n q).1).1 (enS (stS S a n q).2 a n (stS S a n q).1).2 _ _ hX.1 hX.2.1 (Or.inl ⟨e, hz, rfl, hX.2.2.1, hX.2.2.2⟩) (by omega) (fun y h => g5 y (isSc_s (by omega) h)) (by omega)
                                      | exact ih _ (enS (stS S a n q).2 a n (stS S a n q).1).1 (enS (stS S a n q).2 a n (stS S a n q).1).2 _ _ hF g.2.1 (Or.inr ⟨q3, hz, rfl, g.2.2, hS3, hC2, by omega, hc5, hc6⟩) (by omega) (fun y h => g5 y (isSc_s (by omega) h)) (by omega)
                                      | (exfalso; omega))
                                 · first
                                   | (exfalso; omega)
                                   | (refine bw_push rfl ?_
                                      refine bw_goto rfl ?_
                                      refine bw_istore (ls2 := [_, _, _, _]) rfl rfl (Nat.le_of_ble_eq_true rfl) rfl ?_
                                      refine bw_goto rfl ?_
                                      refine bw_iinc (ls2 := [_, _, _, _]) rfl rfl rfl ⟨by omega, by omega⟩ rfl ?_
                                      refine bw_goto rfl ?_
                                      refine bw_forget (ls2 := [some (vr (some 3)), some (vr (some 459)), some (vi _), some (vi _)]) ⟨rfl, rfl, rfl, rfl, trivial⟩ ?_
                                      first
                                      | exact ih _ (enS (stS S a n q).2 a n (stS S a n q).1).1 (enS (stS S a n q).2 a n (stS S a n q).1).2 _ _ hX.1 hX.2.1 (Or.inl ⟨e, hz, rfl, hX.2.2.1, hX.2.2.2⟩) (by omega) (fun y h => g5 y (isSc_s (by omega) h)) (by omega)
                                      | exact ih _ (enS (stS S a n q).2 a n (stS S a n q).1).1 (enS (stS S a n q).2 a n (stS S a n q).1).2 _ _ hF g.2.1 (Or.inr ⟨q3, hz, rfl, g.2.2, hS3, hC2, by omega, hc5, hc6⟩) (by omega) (fun y h => g5 y (isSc_s (by omega) h)) (by omega)
                                      | (exfalso; omega)))
                        · have hF := g1.trans (g57.1.1.mono (fun c k => Or.inl (G_W c k)))
                          have hF := hF.trans (g.1.1.mono (fun c k => Or.elim k Or.inl Or.inr))
                          have hR := g.1.RF hR
                          have hT := g.2.1
                          have hA := g.2.2
                          have ct := st_ct hct hz
                          have lo := st_lo (a := a) (n := n) (p := q) hct (Or.inr rfl)
                          have hc5 := g.1.2.1.trans hc5
                          have hc6 := g.1.2.2.trans hc6
                          refine bw_ifeq rfl (fun c96 => ?_) (fun c96 => ?_)
                          · first
                            | (exfalso; omega)
                            | (refine bw_push rfl ?_
                               refine bw_istore (ls2 := [_, _, _, _]) rfl rfl (Nat.le_of_ble_eq_true rfl) rfl ?_
                               refine bw_goto rfl ?_
                               refine bw_iinc (ls2 := [_, _, _, _]) rfl rfl rfl ⟨by omega, by omega⟩ rfl ?_
                               refine bw_goto rfl ?_
                               refine bw_forget (ls2 := [some (vr (some 3)), some (vr (some 459)), some (vi _), some (vi _)]) ⟨rfl, rfl, rfl, rfl, trivial⟩ ?_
                               first
                               | exact ih _ (enS (stS S a n q).2 a n (stS S a n q).1).1 (enS (stS S a n q).2 a n (stS S a n q).1).2 _ _ hX.1 hX.2.1 (Or.inl ⟨e, hz, rfl, hX.2.2.1, hX.2.2.2⟩) (by omega) (fun y h => g5 y (isSc_s (by omega) h)) (by omega)
                               | exact ih _ (enS (stS S a n q).2 a n (stS S a n q).1).1 (enS (stS S a n q).2 a n (stS S a n q).1).2 _ _ hF g.2.1 (Or.inr ⟨q3, hz, rfl, g.2.2, hS3, hC2, by omega, hc5, hc6⟩) (by omega) (fun y h => g5 y (isSc_s (by omega) h)) (by omega)
                               | (exfalso; omega))
                          · first
                            | (exfalso; omega)
                            | (refine bw_aload rfl rfl ?_
                               refine bw_callVi (e := d - 1) (as := []) rfl (by omega) rfl rfl (Nat.le_of_ble_eq_true rfl) (Nat.le_of_ble_eq_true rfl) rfl (c_endStatement hR hT hA (by first | exact Or.inl rfl | exact Or.inr rfl) hS2 hr (by omega) (by omega)) (fun r100 M100 hM100 => ?_)
                               rcases hM100 with ⟨e, hz2, rfl, hX⟩ | ⟨q3, hz2, rfl, g, hS3⟩
                               · have hX := FA.tr (s := pA 459) hF hX (fun _ k => k) (fun c k => Or.elim k (fun k => Or.inl (G_W c k)) Or.inr)
                                 have hz : (enS (stS S a n q).2 a n (stS S a n q).1).1 = .inl e := by rw [hz]; exact hz2
                                 refine bw_ifeq rfl (fun c103 => ?_) (fun c103 => ?_)
                                 · first
                                   | (exfalso; omega)
                                   | (refine bw_push rfl ?_
                                      refine bw_istore (ls2 := [_, _, _, _]) rfl rfl (Nat.le_of_ble_eq_true rfl) rfl ?_
                                      refine bw_goto rfl ?_
                                      refine bw_iinc (ls2 := [_, _, _, _]) rfl rfl rfl ⟨by omega, by omega⟩ rfl ?_
                                      refine bw_goto rfl ?_
                                      refine bw_forget (ls2 := [some (vr (some 3)), some (vr (some 459)), some (vi _), some (vi _)]) ⟨rfl, rfl, rfl, rfl, trivial⟩ ?_
                                      first
                                      | exact ih _ (enS (stS S a n q).2 a n (stS S a n q).1).1 (enS (stS S a n q).2 a n (stS S a n q).1).2 _ _ hX.1 hX.2.1 (Or.inl ⟨e, hz, rfl, hX.2.2.1, hX.2.2.2⟩) (by omega) (fun y h => g5 y (isSc_s (by omega) h)) (by omega)
                                      | exact ih _ (enS (stS S a n q).2 a n (stS S a n q).1).1 (enS (stS S a n q).2 a n (stS S a n q).1).2 _ _ hF g.2.1 (Or.inr ⟨q3, hz, rfl, g.2.2, hS3, hC2, by omega, hc5, hc6⟩) (by omega) (fun y h => g5 y (isSc_s (by omega) h)) (by omega)
                                      | (exfalso; omega))
                                 · first
                                   | (exfalso; omega)
                                   | (refine bw_push rfl ?_
                                      refine bw_goto rfl ?_
                                      refine bw_istore (ls2 := [_, _, _, _]) rfl rfl (Nat.le_of_ble_eq_true rfl) rfl ?_
                                      refine bw_goto rfl ?_
                                      refine bw_iinc (ls2 := [_, _, _, _]) rfl rfl rfl ⟨by omega, by omega⟩ rfl ?_
                                      refine bw_goto rfl ?_
                                      refine bw_forget (ls2 := [some (vr (some 3)), some (vr (some 459)), some (vi _), some (vi _)]) ⟨rfl, rfl, rfl, rfl, trivial⟩ ?_
                                      first
                                      | exact ih _ (enS (stS S a n q).2 a n (stS S a n q).1).1 (enS (stS S a n q).2 a n (stS S a n q).1).2 _ _ hX.1 hX.2.1 (Or.inl ⟨e, hz, rfl, hX.2.2.1, hX.2.2.2⟩) (by omega) (fun y h => g5 y (isSc_s (by omega) h)) (by omega)
                                      | exact ih _ (enS (stS S a n q).2 a n (stS S a n q).1).1 (enS (stS S a n q).2 a n (stS S a n q).1).2 _ _ hF g.2.1 (Or.inr ⟨q3, hz, rfl, g.2.2, hS3, hC2, by omega, hc5, hc6⟩) (by omega) (fun y h => g5 y (isSc_s (by omega) h)) (by omega)
                                      | (exfalso; omega))
                               · have hF := hF.trans (g.1.1.mono (fun c k => Or.elim k (fun k => Or.inl (G_W c k)) Or.inr))
                                 have hz : (enS (stS S a n q).2 a n (stS S a n q).1).1 = .inr q3 := by rw [hz]; exact hz2
                                 have hC2 : CTd (enS (stS S a n q).2 a n (stS S a n q).1).2 := en_ct ct.1 (by omega)
                                 have h55 : (enS (stS S a n q).2 a n (stS S a n q).1).2 5 = S 5 + 1 := by
                                   show up (stS S a n q).2 5 ((stS S a n q).2 5 + 1) 5 = S 5 + 1
                                   rw [up_eq rfl, lo]
                                 have hc5 := g.1.2.1.trans hc5
                                 have hc6 := g.1.2.2.trans hc6
                                 refine bw_ifeq rfl (fun c103 => ?_) (fun c103 => ?_)
                                 · first
                                   | (exfalso; omega)
                                   | (refine bw_push rfl ?_
                                      refine bw_istore (ls2 := [_, _, _, _]) rfl rfl (Nat.le_of_ble_eq_true rfl) rfl ?_
                                      refine bw_goto rfl ?_
                                      refine bw_iinc (ls2 := [_, _, _, _]) rfl rfl rfl ⟨by omega, by omega⟩ rfl ?_
                                      refine bw_goto rfl ?_
                                      refine bw_forget (ls2 := [some (vr (some 3)), some (vr (some 459)), some (vi _), some (vi _)]) ⟨rfl, rfl, rfl, rfl, trivial⟩ ?_
                                      first
                                      | exact ih _ (enS (stS S a n q).2 a n (stS S a n q).1).1 (enS (stS S a n q).2 a n (stS S a n q).1).2 _ _ hX.1 hX.2.1 (Or.inl ⟨e, hz, rfl, hX.2.2.1, hX.2.2.2⟩) (by omega) (fun y h => g5 y (isSc_s (by omega) h)) (by omega)
                                      | exact ih _ (enS (stS S a n q).2 a n (stS S a n q).1).1 (enS (stS S a n q).2 a n (stS S a n q).1).2 _ _ hF g.2.1 (Or.inr ⟨q3, hz, rfl, g.2.2, hS3, hC2, by omega, hc5, hc6⟩) (by omega) (fun y h => g5 y (isSc_s (by omega) h)) (by omega)
                                      | (exfalso; omega))
                                 · first
                                   | (exfalso; omega)
                                   | (refine bw_push rfl ?_
                                      refine bw_goto rfl ?_
                                      refine bw_istore (ls2 := [_, _, _, _]) rfl rfl (Nat.le_of_ble_eq_true rfl) rfl ?_
                                      refine bw_goto rfl ?_
                                      refine bw_iinc (ls2 := [_, _, _, _]) rfl rfl rfl ⟨by omega, by omega⟩ rfl ?_
                                      refine bw_goto rfl ?_
                                      refine bw_forget (ls2 := [some (vr (some 3)), some (vr (some 459)), some (vi _), some (vi _)]) ⟨rfl, rfl, rfl, rfl, trivial⟩ ?_
                                      first
                                      | exact ih _ (enS (stS S a n q).2 a n (stS S a n q).1).1 (enS (stS S a n q).2 a n (stS S a n q).1).2 _ _ hX.1 hX.2.1 (Or.inl ⟨e, hz, rfl, hX.2.2.1, hX.2.2.2⟩) (by omega) (fun y h => g5 y (isSc_s (by omega) h)) (by omega)
                                      | exact ih _ (enS (stS S a n q).2 a n (stS S a n q).1).1 (enS (stS S a n q).2 a n (stS S a n q).1).2 _ _ hF g.2.1 (Or.inr ⟨q3, hz, rfl, g.2.2, hS3, hC2, by omega, hc5, hc6⟩) (by omega) (fun y h => g5 y (isSc_s (by omega) h)) (by omega)
                                      | (exfalso; omega)))
                      · skip
                        by_cases s60_1 : r57 = 2
                        · refine bw_switch (t := 115) rfl (by rw [s60_1]; rfl) ?_
                          refine bw_aload rfl rfl ?_
                          have eS : stS S a n q = clS S a n (.inr (sk a n (we a n q))) := by rw [st_g (by omega) hG]; rw [if_neg (by omega)]; exact if_pos (by omega)
                          refine bw_callVi (e := d - 1) (as := []) rfl (by omega) rfl rfl (Nat.le_of_ble_eq_true rfl) (Nat.le_of_ble_eq_true rfl) rfl (c_readCel hR hT hA (by first | exact Or.inl rfl | exact Or.inr rfl) hS hr (ff.2.1 (by omega)) (by omega)) (fun r116 M116 hM116 => ?_)
                          rw [← eS] at hM116
                          rcases hM116 with ⟨e, hz, rfl, hX⟩ | ⟨q2, hz, rfl, g, hS2⟩
                          · have hF := g1.trans (g57.1.1.mono (fun c k => Or.inl (G_W c k)))
                            have hX := FA.tr (s := pA 459) hF hX (fun _ k => k) (fun c k => Or.inl (G_W c k))
                            have hz : (enS (stS S a n q).2 a n (stS S a n q).1).1 = .inl e := by rw [hz]; rfl
                            refine bw_ifeq rfl (fun c119 => ?_) (fun c119 => ?_)
                            · first
                              | (exfalso; omega)
                              | (refine bw_push rfl ?_
                                 refine bw_istore (ls2 := [_, _, _, _]) rfl rfl (Nat.le_of_ble_eq_true rfl) rfl ?_
                                 refine bw_goto rfl ?_
                                 refine bw_iinc (ls2 := [_, _, _, _]) rfl rfl rfl ⟨by omega, by omega⟩ rfl ?_
                                 refine bw_goto rfl ?_
                                 refine bw_forget (ls2 := [some (vr (some 3)), some (vr (some 459)), some (vi _), some (vi _)]) ⟨rfl, rfl, rfl, rfl, trivial⟩ ?_
                                 first
                                 | exact ih _ (enS (stS S a n q).2 a n (stS S a n q).1).1 (enS (stS S a n q).2 a n (stS S a n q).1).2 _ _ hX.1 hX.2.1 (Or.inl ⟨e, hz, rfl, hX.2.2.1, hX.2.2.2⟩) (by omega) (fun y h => g5 y (isSc_s (by omega) h)) (by omega)
                                 | exact ih _ (enS (stS S a n q).2 a n (stS S a n q).1).1 (enS (stS S a n q).2 a n (stS S a n q).1).2 _ _ hF g.2.1 (Or.inr ⟨q3, hz, rfl, g.2.2, hS3, hC2, by omega, hc5, hc6⟩) (by omega) (fun y h => g5 y (isSc_s (by omega) h)) (by omega)
                                 | (exfalso; omega))
                            · first
                              | (exfalso; omega)
                              | (refine bw_aload rfl rfl ?_
                                 refine bw_callVi (e := d - 1) (as := []) rfl (by omega) rfl rfl (Nat.le_of_ble_eq_true rfl) (Nat.le_of_ble_eq_true rfl) rfl (c_endStatement hR hT hA (by first | exact Or.inl rfl | exact Or.inr rfl) hS2 hr (by omega) (by omega)) (fun r123 M123 hM123 => ?_)
                                 rcases hM123 with ⟨e, hz2, rfl, hX⟩ | ⟨q3, hz2, rfl, g, hS3⟩
                                 · have hX := FA.tr (s := pA 459) hF hX (fun _ k => k) (fun c k => Or.elim k (fun k => Or.inl (G_W c k)) Or.inr)
                                   have hz : (enS (stS S a n q).2 a n (stS S a n q).1).1 = .inl e := by rw [hz]; exact hz2
                                   refine bw_ifeq rfl (fun c126 => ?_) (fun c126 => ?_)
                                   · first
                                     | (exfalso; omega)
                                     | (refine bw_push rfl ?_
                                        refine bw_istore (ls2 := [_, _, _, _]) rfl rfl (Nat.le_of_ble_eq_true rfl) rfl ?_
                                        refine bw_goto rfl ?_
                                        refine bw_iinc (ls2 := [_, _, _, _]) rfl rfl rfl ⟨by omega, by omega⟩ rfl ?_
                                        refine bw_goto rfl ?_
                                        refine bw_forget (ls2 := [some (vr (some 3)), some (vr (some 459)), some (vi _), some (vi _)]) ⟨rfl, rfl, rfl, rfl, trivial⟩ ?_
                                        first
                                        | exact ih _ (enS (stS S a n q).2 a n (stS S a n q).1).1 (enS (stS S a n q).2 a n (stS S a n q).1).2 _ _ hX.1 hX.2.1 (Or.inl ⟨e, hz, rfl, hX.2.2.1, hX.2.2.2⟩) (by omega) (fun y h => g5 y (isSc_s (by omega) h)) (by omega)
                                        | exact ih _ (enS (stS S a n q).2 a n (stS S a n q).1).1 (enS (stS S a n q).2 a n (stS S a n q).1).2 _ _ hF g.2.1 (Or.inr ⟨q3, hz, rfl, g.2.2, hS3, hC2, by omega, hc5, hc6⟩) (by omega) (fun y h => g5 y (isSc_s (by omega) h)) (by omega)
                                        | (exfalso; omega))
                                   · first
                                     | (exfalso; omega)
                                     | (refine bw_push rfl ?_
                                        refine bw_goto rfl ?_
                                        refine bw_istore (ls2 := [_, _, _, _]) rfl rfl (Nat.le_of_ble_eq_true rfl) rfl ?_
                                        refine bw_goto rfl ?_
                                        refine bw_iinc (ls2 := [_, _, _, _]) rfl rfl rfl ⟨by omega, by omega⟩ rfl ?_
                                        refine bw_goto rfl ?_
                                        refine bw_forget (ls2 := [some (vr (some 3)), some (vr (some 459)), some (vi _), some (vi _)]) ⟨rfl, rfl, rfl, rfl, trivial⟩ ?_
                                        first
                                        | exact ih _ (enS (stS S a n q).2 a n (stS S a n q).1).1 (enS (stS S a n q).2 a n (stS S a n q).1).2 _ _ hX.1 hX.2.1 (Or.inl ⟨e, hz, rfl, hX.2.2.1, hX.2.2.2⟩) (by omega) (fun y h => g5 y (isSc_s (by omega) h)) (by omega)
                                        | exact ih _ (enS (stS S a n q).2 a n (stS S a n q).1).1 (enS (stS S a n q).2 a n (stS S a n q).1).2 _ _ hF g.2.1 (Or.inr ⟨q3, hz, rfl, g.2.2, hS3, hC2, by omega, hc5, hc6⟩) (by omega) (fun y h => g5 y (isSc_s (by omega) h)) (by omega)
                                        | (exfalso; omega))
                                 · have hF := hF.trans (g.1.1.mono (fun c k => Or.elim k (fun k => Or.inl (G_W c k)) Or.inr))
                                   have hz : (enS (stS S a n q).2 a n (stS S a n q).1).1 = .inr q3 := by rw [hz]; exact hz2
                                   have hC2 : CTd (enS (stS S a n q).2 a n (stS S a n q).1).2 := en_ct ct.1 (by omega)
                                   have h55 : (enS (stS S a n q).2 a n (stS S a n q).1).2 5 = S 5 + 1 := by
                                     show up (stS S a n q).2 5 ((stS S a n q).2 5 + 1) 5 = S 5 + 1
                                     rw [up_eq rfl, lo]
                                   have hc5 := g.1.2.1.trans hc5
                                   have hc6 := g.1.2.2.trans hc6
                                   refine bw_ifeq rfl (fun c126 => ?_) (fun c126 => ?_)
                                   · first
                                     | (exfalso; omega)
                                     | (refine bw_push rfl ?_
                                        refine bw_istore (ls2 := [_, _, _, _]) rfl rfl (Nat.le_of_ble_eq_true rfl) rfl ?_
                                        refine bw_goto rfl ?_
                                        refine bw_iinc (ls2 := [_, _, _, _]) rfl rfl rfl ⟨by omega, by omega⟩ rfl ?_
                                        refine bw_goto rfl ?_
                                        refine bw_forget (ls2 := [some (vr (some 3)), some (vr (some 459)), some (vi _), some (vi _)]) ⟨rfl, rfl, rfl, rfl, trivial⟩ ?_
                                        first
                                        | exact ih _ (enS (stS S a n q).2 a n (stS S a n q).1).1 (enS (stS S a n q).2 a n (stS S a n q).1).2 _ _ hX.1 hX.2.1 (Or.inl ⟨e, hz, rfl, hX.2.2.1, hX.2.2.2⟩) (by omega) (fun y h => g5 y (isSc_s (by omega) h)) (by omega)
                                        | exact ih _ (enS (stS S a n q).2 a n (stS S a n q).1).1 (enS (stS S a n q).2 a n (stS S a n q).1).2 _ _ hF g.2.1 (Or.inr ⟨q3, hz, rfl, g.2.2, hS3, hC2, by omega, hc5, hc6⟩) (by omega) (fun y h => g5 y (isSc_s (by omega) h)) (by omega)
                                        | (exfalso; omega))
                                   · first
                                     | (exfalso; omega)
                                     | (refine bw_push rfl ?_
                                        refine bw_goto rfl ?_
                                        refine bw_istore (ls2 := [_, _, _, _]) rfl rfl (Nat.le_of_ble_eq_true rfl) rfl ?_
                                        refine bw_goto rfl ?_
                                        refine bw_iinc (ls2 := [_, _, _, _]) rfl rfl rfl ⟨by omega, by omega⟩ rfl ?_
                                        refine bw_goto rfl ?_
                                        refine bw_forget (ls2 := [some (vr (some 3)), some (vr (some 459)), some (vi _), some (vi _)]) ⟨rfl, rfl, rfl, rfl, trivial⟩ ?_
                                        first
                                        | exact ih _ (enS (stS S a n q).2 a n (stS S a n q).1).1 (enS (stS S a n q).2 a n (stS S a n q).1).2 _ _ hX.1 hX.2.1 (Or.inl ⟨e, hz, rfl, hX.2.2.1, hX.2.2.2⟩) (by omega) (fun y h => g5 y (isSc_s (by omega) h)) (by omega)
                                        | exact ih _ (enS (stS S a n q).2 a n (stS S a n q).1).1 (enS (stS S a n q).2 a n (stS S a n q).1).2 _ _ hF g.2.1 (Or.inr ⟨q3, hz, rfl, g.2.2, hS3, hC2, by omega, hc5, hc6⟩) (by omega) (fun y h => g5 y (isSc_s (by omega) h)) (by omega)
                                        | (exfalso; omega)))
                          · have hF := g1.trans (g57.1.1.mono (fun c k => Or.inl (G_W c k)))
                            have hF := hF.trans (g.1.1.mono (fun c k => Or.elim k (fun k => Or.inl (G_W c k)) Or.inr))
                            have hR := g.1.RF hR
                            have hT := g.2.1
                            have hA := g.2.2
                            have ct := st_ct hct hz
                            have lo := st_lo (a := a) (n := n) (p := q) hct (Or.inr rfl)
                            have hc5 := g.1.2.1.trans hc5
                            have hc6 := g.1.2.2.trans hc6
                            refine bw_ifeq rfl (fun c119 => ?_) (fun c119 => ?_)
                            · first
                              | (exfalso; omega)
                              | (refine bw_push rfl ?_
                                 refine bw_istore (ls2 := [_, _, _, _]) rfl rfl (Nat.le_of_ble_eq_true rfl) rfl ?_
                                 refine bw_goto rfl ?_
                                 refine bw_iinc (ls2 := [_, _, _, _]) rfl rfl rfl ⟨by omega, by omega⟩ rfl ?_
                                 refine bw_goto rfl ?_
                                 refine bw_forget (ls2 := [some (vr (some 3)), some (vr (some 459)), some (vi _), some (vi _)]) ⟨rfl, rfl, rfl, rfl, trivial⟩ ?_
                                 first
                                 | exact ih _ (enS (stS S a n q).2 a n (stS S a n q).1).1 (enS (stS S a n q).2 a n (stS S a n q).1).2 _ _ hX.1 hX.2.1 (Or.inl ⟨e, hz, rfl, hX.2.2.1, hX.2.2.2⟩) (by omega) (fun y h => g5 y (isSc_s (by omega) h)) (by omega)
                                 | exact ih _ (enS (stS S a n q).2 a n (stS S a n q).1).1 (enS (stS S a n q).2 a n (stS S a n q).1).2 _ _ hF g.2.1 (Or.inr ⟨q3, hz, rfl, g.2.2, hS3, hC2, by omega, hc5, hc6⟩) (by omega) (fun y h => g5 y (isSc_s (by omega) h)) (by omega)
                                 | (exfalso; omega))
                            · first
                              | (exfalso; omega)
                              | (refine bw_aload rfl rfl ?_
                                 refine bw_callVi (e := d - 1) (as := []) rfl (by omega) rfl rfl (Nat.le_of_ble_eq_true rfl) (Nat.le_of_ble_eq_true rfl) rfl (c_endStatement hR hT hA (by first | exact Or.inl rfl | exact Or.inr rfl) hS2 hr (by omega) (by omega)) (fun r123 M123 hM123 => ?_)
                                 rcases hM123 with ⟨e, hz2, rfl, hX⟩ | ⟨q3, hz2, rfl, g, hS3⟩
                                 · have hX := FA.tr (s := pA 459) hF hX (fun _ k => k) (fun c k => Or.elim k (fun k => Or.inl (G_W c k)) Or.inr)
                                   have hz : (enS (stS S a n q).2 a n (stS S a n q).1).1 = .inl e := by rw [hz]; exact hz2
                                   refine bw_ifeq rfl (fun c126 => ?_) (fun c126 => ?_)
                                   · first
                                     | (exfalso; omega)
                                     | (refine bw_push rfl ?_
                                        refine bw_istore (ls2 := [_, _, _, _]) rfl rfl (Nat.le_of_ble_eq_true rfl) rfl ?_
                                        refine bw_goto rfl ?_
                                        refine bw_iinc (ls2 := [_, _, _, _]) rfl rfl rfl ⟨by omega, by omega⟩ rfl ?_
                                        refine bw_goto rfl ?_
                                        refine bw_forget (ls2 := [some (vr (some 3)), some (vr (some 459)), some (vi _), some (vi _)]) ⟨rfl, rfl, rfl, rfl, trivial⟩ ?_
                                        first
                                        | exact ih _ (enS (stS S a n q).2 a n (stS S a n q).1).1 (enS (stS S a n q).2 a n (stS S a n q).1).2 _ _ hX.1 hX.2.1 (Or.inl ⟨e, hz, rfl, hX.2.2.1, hX.2.2.2⟩) (by omega) (fun y h => g5 y (isSc_s (by omega) h)) (by omega)
                                        | exact ih _ (enS (stS S a n q).2 a n (stS S a n q).1).1 (enS (stS S a n q).2 a n (stS S a n q).1).2 _ _ hF g.2.1 (Or.inr ⟨q3, hz, rfl, g.2.2, hS3, hC2, by omega, hc5, hc6⟩) (by omega) (fun y h => g5 y (isSc_s (by omega) h)) (by omega)
                                        | (exfalso; omega))
                                   · first
                                     | (exfalso; omega)
                                     | (refine bw_push rfl ?_
                                        refine bw_goto rfl ?_
                                        refine bw_istore (ls2 := [_, _, _, _]) rfl rfl (Nat.le_of_ble_eq_true rfl) rfl ?_
                                        refine bw_goto rfl ?_
                                        refine bw_iinc (ls2 := [_, _, _, _]) rfl rfl rfl ⟨by omega, by omega⟩ rfl ?_
                                        refine bw_goto rfl ?_
                                        refine bw_forget (ls2 := [some (vr (some 3)), some (vr (some 459)), some (vi _), some (vi _)]) ⟨rfl, rfl, rfl, rfl, trivial⟩ ?_
                                        first
                                        | exact ih _ (enS (stS S a n q).2 a n (stS S a n q).1).1 (enS (stS S a n q).2 a n (stS S a n q).1).2 _ _ hX.1 hX.2.1 (Or.inl ⟨e, hz, rfl, hX.2.2.1, hX.2.2.2⟩) (by omega) (fun y h => g5 y (isSc_s (by omega) h)) (by omega)
                                        | exact ih _ (enS (stS S a n q).2 a n (stS S a n q).1).1 (enS (stS S a n q).2 a n (stS S a n q).1).2 _ _ hF g.2.1 (Or.inr ⟨q3, hz, rfl, g.2.2, hS3, hC2, by omega, hc5, hc6⟩) (by omega) (fun y h => g5 y (isSc_s (by omega) h)) (by omega)
                                        | (exfalso; omega))
                                 · have hF := hF.trans (g.1.1.mono (fun c k => Or.elim k (fun k => Or.inl (G_W c k)) Or.inr))
                                   have hz : (enS (stS S a n q).2 a n (stS S a n q).1).1 = .inr q3 := by rw [hz]; exact hz2
                                   have hC2 : CTd (enS (stS S a n q).2 a n (stS S a n q).1).2 := en_ct ct.1 (by omega)
                                   have h55 : (enS (stS S a n q).2 a n (stS S a n q).1).2 5 = S 5 + 1 := by
                                     show up (stS S a n q).2 5 ((stS S a n q).2 5 + 1) 5 = S 5 + 1
                                     rw [up_eq rfl, lo]
                                   have hc5 := g.1.2.1.trans hc5
                                   have hc6 := g.1.2.2.trans hc6
                                   refine bw_ifeq rfl (fun c126 => ?_) (fun c126 => ?_)
                                   · first
                                     | (exfalso; omega)
                                     | (refine bw_push rfl ?_
                                        refine bw_istore (ls2 := [_, _, _, _]) rfl rfl (Nat.le_of_ble_eq_true rfl) rfl ?_
                                        refine bw_goto rfl ?_
                                        refine bw_iinc (ls2 := [_, _, _, _]) rfl rfl rfl ⟨by omega, by omega⟩ rfl ?_
                                        refine bw_goto rfl ?_
                                        refine bw_forget (ls2 := [some (vr (some 3)), some (vr (some 459)), some (vi _), some (vi _)]) ⟨rfl, rfl, rfl, rfl, trivial⟩ ?_
                                        first
                                        | exact ih _ (enS (stS S a n q).2 a n (stS S a n q).1).1 (enS (stS S a n q).2 a n (stS S a n q).1).2 _ _ hX.1 hX.2.1 (Or.inl ⟨e, hz, rfl, hX.2.2.1, hX.2.2.2⟩) (by omega) (fun y h => g5 y (isSc_s (by omega) h)) (by omega)
                                        | exact ih _ (enS (stS S a n q).2 a n (stS S a n q).1).1 (enS (stS S a n q).2 a n (stS S a n q).1).2 _ _ hF g.2.1 (Or.inr ⟨q3, hz, rfl, g.2.2, hS3, hC2, by omega, hc5, hc6⟩) (by omega) (fun y h => g5 y (isSc_s (by omega) h)) (by omega)
                                        | (exfalso; omega))
                                   · first
                                     | (exfalso; omega)
                                     | (refine bw_push rfl ?_
                                        refine bw_goto rfl ?_
                                        refine bw_istore (ls2 := [_, _, _, _]) rfl rfl (Nat.le_of_ble_eq_true rfl) rfl ?_
                                        refine bw_goto rfl ?_
                                        refine bw_iinc (ls2 := [_, _, _, _]) rfl rfl rfl ⟨by omega, by omega⟩ rfl ?_
                                        refine bw_goto rfl ?_
                                        refine bw_forget (ls2 := [some (vr (some 3)), some (vr (some 459)), some (vi _), some (vi _)]) ⟨rfl, rfl, rfl, rfl, trivial⟩ ?_
                                        first
                                        | exact ih _ (enS (stS S a n q).2 a n (stS S a n q).1).1 (enS (stS S a n q).2 a n (stS S a n q).1).2 _ _ hX.1 hX.2.1 (Or.inl ⟨e, hz, rfl, hX.2.2.1, hX.2.2.2⟩) (by omega) (fun y h => g5 y (isSc_s (by omega) h)) (by omega)
                                        | exact ih _ (enS (stS S a n q).2 a n (stS S a n q).1).1 (enS (stS S a n q).2 a n (stS S a n q).1).2 _ _ hF g.2.1 (Or.inr ⟨q3, hz, rfl, g.2.2, hS3, hC2, by omega, hc5, hc6⟩) (by omega) (fun y h => g5 y (isSc_s (by omega) h)) (by omega)
                                        | (exfalso; omega)))
                        · skip
                          by_cases s60_2 : r57 = 3
                          · refine bw_switch (t := 138) rfl (by rw [s60_2]; rfl) ?_
                            refine bw_aload rfl rfl ?_
                            have eS : stS S a n q = slS S a n (.inr (sk a n (we a n q))) := by rw [st_g (by omega) hG]; rw [if_neg (by omega), if_neg (by omega)]; exact if_pos (by omega)
                            refine bw_callVi (e := d - 1) (as := []) rfl (by omega) rfl rfl (Nat.le_of_ble_eq_true rfl) (Nat.le_of_ble_eq_true rfl) rfl (c_readSlide hR hT hA (by first | exact Or.inl rfl | exact Or.inr rfl) hS hr (ff.2.2.1 (by omega)) (by omega)) (fun r139 M139 hM139 => ?_)
                            rw [← eS] at hM139
                            rcases hM139 with ⟨e, hz, rfl, hX⟩ | ⟨q2, hz, rfl, g, hS2⟩
                            · have hF := g1.trans (g57.1.1.mono (fun c k => Or.inl (G_W c k)))
                              have hX := FA.tr (s := pA 459) hF hX (fun _ k => k) (fun c k => Or.inl (G_W c k))
                              have hz : (enS (stS S a n q).2 a n (stS S a n q).1).1 = .inl e := by rw [hz]; rfl
                              refine bw_ifeq rfl (fun c142 => ?_) (fun c142 => ?_)
                              · first
                                | (exfalso; omega)
                                | (refine bw_push rfl ?_
                                   refine bw_istore (ls2 := [_, _, _, _]) rfl rfl (Nat.le_of_ble_eq_true rfl) rfl ?_
                                   refine bw_goto rfl ?_
                                   refine bw_iinc (ls2 := [_, _, _, _]) rfl rfl rfl ⟨by omega, by omega⟩ rfl ?_
                                   refine bw_goto rfl ?_
                                   refine bw_forget (ls2 := [some (vr (some 3)), some (vr (some 459)), some (vi _), some (vi _)]) ⟨rfl, rfl, rfl, rfl, trivial⟩ ?_
                                   first
                                   | exact ih _ (enS (stS S a n q).2 a n (stS S a n q).1).1 (enS (stS S a n q).2 a n (stS S a n q).1).2 _ _ hX.1 hX.2.1 (Or.inl ⟨e, hz, rfl, hX.2.2.1, hX.2.2.2⟩) (by omega) (fun y h => g5 y (isSc_s (by omega) h)) (by omega)
                                   | exact ih _ (enS (stS S a n q).2 a n (stS S a n q).1).1 (enS (stS S a n q).2 a n (stS S a n q).1).2 _ _ hF g.2.1 (Or.inr ⟨q3, hz, rfl, g.2.2, hS3, hC2, by omega, hc5, hc6⟩) (by omega) (fun y h => g5 y (isSc_s (by omega) h)) (by omega)
                                   | (exfalso; omega))
                              · first
                                | (exfalso; omega)
                                | (refine bw_aload rfl rfl ?_
                                   refine bw_callVi (e := d - 1) (as := []) rfl (by omega) rfl rfl (Nat.le_of_ble_eq_true rfl) (Nat.le_of_ble_eq_true rfl) rfl (c_endStatement hR hT hA (by first | exact Or.inl rfl | exact Or.inr rfl) hS2 hr (by omega) (by omega)) (fun r146 M146 hM146 => ?_)
                                   rcases hM146 with ⟨e, hz2, rfl, hX⟩ | ⟨q3, hz2, rfl, g, hS3⟩
                                   · have hX := FA.tr (s := pA 459) hF hX (fun _ k => k) (fun c k => Or.elim k (fun k => Or.inl (G_W c k)) Or.inr)
                                     have hz : (enS (stS S a n q).2 a n (stS S a n q).1).1 = .inl e := by rw [hz]; exact hz2
                                     refine bw_ifeq rfl (fun c149 => ?_) (fun c149 => ?_)
                                     · first
                                       | (exfalso; omega)
                                       | (refine bw_push rfl ?_
                                          refine bw_istore (ls2 := [_, _, _, _]) rfl rfl (Nat.le_of_ble_eq_true rfl) rfl ?_
                                          refine bw_goto rfl ?_
                                          refine bw_iinc (ls2 := [_, _, _, _]) rfl rfl rfl ⟨by omega, by omega⟩ rfl ?_
                                          refine bw_goto rfl ?_
                                          refine bw_forget (ls2 := [some (vr (some 3)), some (vr (some 459)), some (vi _), some (vi _)]) ⟨rfl, rfl, rfl, rfl, trivial⟩ ?_
                                          first
                                          | exact ih _ (enS (stS S a n q).2 a n (stS S a n q).1).1 (enS (stS S a n q).2 a n (stS S a n q).1).2 _ _ hX.1 hX.2.1 (Or.inl ⟨e, hz, rfl, hX.2.2.1, hX.2.2.2⟩) (by omega) (fun y h => g5 y (isSc_s (by omega) h)) (by omega)
                                          | exact ih _ (enS (stS S a n q).2 a n (stS S a n q).1).1 (enS (stS S a n q).2 a n (stS S a n q).1).2 _ _ hF g.2.1 (Or.inr ⟨q3, hz, rfl, g.2.2, hS3, hC2, by omega, hc5, hc6⟩) (by omega) (fun y h => g5 y (isSc_s (by omega) h)) (by omega)
                                          | (exfalso; omega))
                                     · first
                                       | (exfalso; omega)
                                       | (refine bw_push rfl ?_
                                          refine bw_goto rfl ?_
                                          refine bw_istore (ls2 := [_, _, _, _]) rfl rfl (Nat.le_of_ble_eq_true rfl) rfl ?_
                                          refine bw_goto rfl ?_
                                          refine bw_iinc (ls2 := [_, _, _, _]) rfl rfl rfl ⟨by omega, by omega⟩ rfl ?_
                                          refine bw_goto rfl ?_
                                          refine bw_forget (ls2 := [some (vr (some 3)), some (vr (some 459)), some (vi _), some (vi _)]) ⟨rfl, rfl, rfl, rfl, trivial⟩ ?_
                                          first
                                          | exact ih _ (enS (stS S a n q).2 a n (stS S a n q).1).1 (enS (stS S a n q).2 a n (stS S a n q).1).2 _ _ hX.1 hX.2.1 (Or.inl ⟨e, hz, rfl, hX.2.2.1, hX.2.2.2⟩) (by omega) (fun y h => g5 y (isSc_s (by omega) h)) (by omega)
                                          | exact ih _ (enS (stS S a n q).2 a n (stS S a n q).1).1 (enS (stS S a n q).2 a n (stS S a n q).1).2 _ _ hF g.2.1 (Or.inr ⟨q3, hz, rfl, g.2.2, hS3, hC2, by omega, hc5, hc6⟩) (by omega) (fun y h => g5 y (isSc_s (by omega) h)) (by omega)
                                          | (exfalso; omega))
                                   · have hF := hF.trans (g.1.1.mono (fun c k => Or.elim k (fun k => Or.inl (G_W c k)) Or.inr))
                                     have hz : (enS (stS S a n q).2 a n (stS S a n q).1).1 = .inr q3 := by rw [hz]; exact hz2
                                     have hC2 : CTd (enS (stS S a n q).2 a n (stS S a n q).1).2 := en_ct ct.1 (by omega)
                                     have h55 : (enS (stS S a n q).2 a n (stS S a n q).1).2 5 = S 5 + 1 := by
                                       show up (stS S a n q).2 5 ((stS S a n q).2 5 + 1) 5 = S 5 + 1
                                       rw [up_eq rfl, lo]
                                     have hc5 := g.1.2.1.trans hc5
                                     have hc6 := g.1.2.2.trans hc6
                                     refine bw_ifeq rfl (fun c149 => ?_) (fun c149 => ?_)
                                     · first
                                       | (exfalso; omega)
                                       | (refine bw_push rfl ?_
                                          refine bw_istore (ls2 := [_, _, _, _]) rfl rfl (Nat.le_of_ble_eq_true rfl) rfl ?_
                                          refine bw_goto rfl ?_
                                          refine bw_iinc (ls2 := [_, _, _, _]) rfl rfl rfl ⟨by omega, by omega⟩ rfl ?_
                                          refine bw_goto rfl ?_
                                          refine bw_forget (ls2 := [some (vr (some 3)), some (vr (some 459)), some (vi _), some (vi _)]) ⟨rfl, rfl, rfl, rfl, trivial⟩ ?_
                                          first
                                          | exact ih _ (enS (stS S a n q).2 a n (stS S a n q).1).1 (enS (stS S a n q).2 a n (stS S a n q).1).2 _ _ hX.1 hX.2.1 (Or.inl ⟨e, hz, rfl, hX.2.2.1, hX.2.2.2⟩) (by omega) (fun y h => g5 y (isSc_s (by omega) h)) (by omega)
                                          | exact ih _ (enS (stS S a n q).2 a n (stS S a n q).1).1 (enS (stS S a n q).2 a n (stS S a n q).1).2 _ _ hF g.2.1 (Or.inr ⟨q3, hz, rfl, g.2.2, hS3, hC2, by omega, hc5, hc6⟩) (by omega) (fun y h => g5 y (isSc_s (by omega) h)) (by omega)
                                          | (exfalso; omega))
                                     · first
                                       | (exfalso; omega)
                                       | (refine bw_push rfl ?_
                                          refine bw_goto rfl ?_
                                          refine bw_istore (ls2 := [_, _, _, _]) rfl rfl (Nat.le_of_ble_eq_true rfl) rfl ?_
                                          refine bw_goto rfl ?_
                                          refine bw_iinc (ls2 := [_, _, _, _]) rfl rfl rfl ⟨by omega, by omega⟩ rfl ?_
                                          refine bw_goto rfl ?_
                                          refine bw_forget (ls2 := [some (vr (some 3)), some (vr (some 459)), some (vi _), some (vi _)]) ⟨rfl, rfl, rfl, rfl, trivial⟩ ?_
                                          first
                                          | exact ih _ (enS (stS S a n q).2 a n (stS S a n q).1).1 (enS (stS S a n q).2 a n (stS S a n q).1).2 _ _ hX.1 hX.2.1 (Or.inl ⟨e, hz, rfl, hX.2.2.1, hX.2.2.2⟩) (by omega) (fun y h => g5 y (isSc_s (by omega) h)) (by omega)
                                          | exact ih _ (enS (stS S a n q).2 a n (stS S a n q).1).1 (enS (stS S a n q).2 a n (stS S a n q).1).2 _ _ hF g.2.1 (Or.inr ⟨q3, hz, rfl, g.2.2, hS3, hC2, by omega, hc5, hc6⟩) (by omega) (fun y h => g5 y (isSc_s (by omega) h)) (by omega)
                                          | (exfalso; omega)))
                            · have hF := g1.trans (g57.1.1.mono (fun c k => Or.inl (G_W c k)))
                              have hF := hF.trans (g.1.1.mono (fun c k => Or.elim k (fun k => Or.inl (G_W c k)) Or.inr))
                              have hR := g.1.RF hR
                              have hT := g.2.1
                              have hA := g.2.2
                              have ct := st_ct hct hz
                              have lo := st_lo (a := a) (n := n) (p := q) hct (Or.inr rfl)
                              have hc5 := g.1.2.1.trans hc5
                              have hc6 := g.1.2.2.trans hc6
                              refine bw_ifeq rfl (fun c142 => ?_) (fun c142 => ?_)
                              · first
                                | (exfalso; omega)
                                | (refine bw_push rfl ?_
                                   refine bw_istore (ls2 := [_, _, _, _]) rfl rfl (Nat.le_of_ble_eq_true rfl) rfl ?_
                                   refine bw_goto rfl ?_
                                   refine bw_iinc (ls2 := [_, _, _, _]) rfl rfl rfl ⟨by omega, by omega⟩ rfl ?_
                                   refine bw_goto rfl ?_
                                   refine bw_forget (ls2 := [some (vr (some 3)), some (vr (some 459)), some (vi _), some (vi _)]) ⟨rfl, rfl, rfl, rfl, trivial⟩ ?_
                                   first
                                   | exact ih _ (enS (stS S a n q).2 a n (stS S a n q).1).1 (enS (stS S a n q).2 a n (stS S a n q).1).2 _ _ hX.1 hX.2.1 (Or.inl ⟨e, hz, rfl, hX.2.2.1, hX.2.2.2⟩) (by omega) (fun y h => g5 y (isSc_s (by omega) h)) (by omega)
                                   | exact ih _ (enS (stS S a n q).2 a n (stS S a n q).1).1 (enS (stS S a n q).2 a n (stS S a n q).1).2 _ _ hF g.2.1 (Or.inr ⟨q3, hz, rfl, g.2.2, hS3, hC2, by omega, hc5, hc6⟩) (by omega) (fun y h => g5 y (isSc_s (by omega) h)) (by omega)
                                   | (exfalso; omega))
                              · first
                                | (exfalso; omega)
                                | (refine bw_aload rfl rfl ?_
                                   refine bw_callVi (e := d - 1) (as := []) rfl (by omega) rfl rfl (Nat.le_of_ble_eq_true rfl) (Nat.le_of_ble_eq_true rfl) rfl (c_endStatement hR hT hA (by first | exact Or.inl rfl | exact Or.inr rfl) hS2 hr (by omega) (by omega)) (fun r146 M146 hM146 => ?_)
                                   rcases hM146 with ⟨e, hz2, rfl, hX⟩ | ⟨q3, hz2, rfl, g, hS3⟩
                                   · have hX := FA.tr (s := pA 459) hF hX (fun _ k => k) (fun c k => Or.elim k (fun k => Or.inl (G_W c k)) Or.inr)
                                     have hz : (enS (stS S a n q).2 a n (stS S a n q).1).1 = .inl e := by rw [hz]; exact hz2
                                     refine bw_ifeq rfl (fun c149 => ?_) (fun c149 => ?_)
                                     · first
                                       | (exfalso; omega)
                                       | (refine bw_push rfl ?_
                                          refine bw_istore (ls2 := [_, _, _, _]) rfl rfl (Nat.le_of_ble_eq_true rfl) rfl ?_
                                          refine bw_goto rfl ?_
                                          refine bw_iinc (ls2 := [_, _, _, _]) rfl rfl rfl ⟨by omega, by omega⟩ rfl ?_
                                          refine bw_goto rfl ?_
                                          refine bw_forget (ls2 := [some (vr (some 3)), some (vr (some 459)), some (vi _), some (vi _)]) ⟨rfl, rfl, rfl, rfl, trivial⟩ ?_
                                          first
                                          | exact ih _ (enS (stS S a n q).2 a n (stS S a n q).1).1 (enS (stS S a n q).2 a n (stS S a n q).1).2 _ _ hX.1 hX.2.1 (Or.inl ⟨e, hz, rfl, hX.2.2.1, hX.2.2.2⟩) (by omega) (fun y h => g5 y (isSc_s (by omega) h)) (by omega)
                                          | exact ih _ (enS (stS S a n q).2 a n (stS S a n q).1).1 (enS (stS S a n q).2 a n (stS S a n q).1).2 _ _ hF g.2.1 (Or.inr ⟨q3, hz, rfl, g.2.2, hS3, hC2, by omega, hc5, hc6⟩) (by omega) (fun y h => g5 y (isSc_s (by omega) h)) (by omega)
                                          | (exfalso; omega))
                                     · first
                                       | (exfalso; omega)
                                       | (refine bw_push rfl ?_
                                          refine bw_goto rfl ?_
                                          refine bw_istore (ls2 := [_, _, _, _]) rfl rfl (Nat.le_of_ble_eq_true rfl) rfl ?_
                                          refine bw_goto rfl ?_
                                          refine bw_iinc (ls2 := [_, _, _, _]) rfl rfl rfl ⟨by omega, by omega⟩ rfl ?_
                                          refine bw_goto rfl ?_
                                          refine bw_forget (ls2 := [some (vr (some 3)), some (vr (some 459)), some (vi _), some (vi _)]) ⟨rfl, rfl, rfl, rfl, trivial⟩ ?_
                                          first
                                          | exact ih _ (enS (stS S a n q).2 a n (stS S a n q).1).1 (enS (stS S a n q).2 a n (stS S a n q).1).2 _ _ hX.1 hX.2.1 (Or.inl ⟨e, hz, rfl, hX.2.2.1, hX.2.2.2⟩) (by omega) (fun y h => g5 y (isSc_s (by omega) h)) (by omega)
                                          | exact ih _ (enS (stS S a n q).2 a n (stS S a n q).1).1 (enS (stS S a n q).2 a n (stS S a n q).1).2 _ _ hF g.2.1 (Or.inr ⟨q3, hz, rfl, g.2.2, hS3, hC2, by omega, hc5, hc6⟩) (by omega) (fun y h => g5 y (isSc_s (by omega) h)) (by omega)
                                          | (exfalso; omega))
                                   · have hF := hF.trans (g.1.1.mono (fun c k => Or.elim k (fun k => Or.inl (G_W c k)) Or.inr))
                                     have hz : (enS (stS S a n q).2 a n (stS S a n q).1).1 = .inr q3 := by rw [hz]; exact hz2
                                     have hC2 : CTd (enS (stS S a n q).2 a n (stS S a n q).1).2 := en_ct ct.1 (by omega)
                                     have h55 : (enS (stS S a n q).2 a n (stS S a n q).1).2 5 = S 5 + 1 := by
                                       show up (stS S a n q).2 5 ((stS S a n q).2 5 + 1) 5 = S 5 + 1
                                       rw [up_eq rfl, lo]
                                     have hc5 := g.1.2.1.trans hc5
                                     have hc6 := g.1.2.2.trans hc6
                                     refine bw_ifeq rfl (fun c149 => ?_) (fun c149 => ?_)
                                     · first
                                       | (exfalso; omega)
                                       | (refine bw_push rfl ?_
                                          refine bw_istore (ls2 := [_, _, _, _]) rfl rfl (Nat.le_of_ble_eq_true rfl) rfl ?_
                                          refine bw_goto rfl ?_
                                          refine bw_iinc (ls2 := [_, _, _, _]) rfl rfl rfl ⟨by omega, by omega⟩ rfl ?_
                                          refine bw_goto rfl ?_
                                          refine bw_forget (ls2 := [some (vr (some 3)), some (vr (some 459)), some (vi _), some (vi _)]) ⟨rfl, rfl, rfl, rfl, trivial⟩ ?_
                                          first
                                          | exact ih _ (enS (stS S a n q).2 a n (stS S a n q).1).1 (enS (stS S a n q).2 a n (stS S a n q).1).2 _ _ hX.1 hX.2.1 (Or.inl ⟨e, hz, rfl, hX.2.2.1, hX.2.2.2⟩) (by omega) (fun y h => g5 y (isSc_s (by omega) h)) (by omega)
                                          | exact ih _ (enS (stS S a n q).2 a n (stS S a n q).1).1 (enS (stS S a n q).2 a n (stS S a n q).1).2 _ _ hF g.2.1 (Or.inr ⟨q3, hz, rfl, g.2.2, hS3, hC2, by omega, hc5, hc6⟩) (by omega) (fun y h => g5 y (isSc_s (by omega) h)) (by omega)
                                          | (exfalso; omega))
                                     · first
                                       | (exfalso; omega)
                                       | (refine bw_push rfl ?_
                                          refine bw_goto rfl ?_
                                          refine bw_istore (ls2 := [_, _, _, _]) rfl rfl (Nat.le_of_ble_eq_true rfl) rfl ?_
                                          refine bw_goto rfl ?_
                                          refine bw_iinc (ls2 := [_, _, _, _]) rfl rfl rfl ⟨by omega, by omega⟩ rfl ?_
                                          refine bw_goto rfl ?_
                                          refine bw_forget (ls2 := [some (vr (some 3)), some (vr (some 459)), some (vi _), some (vi _)]) ⟨rfl, rfl, rfl, rfl, trivial⟩ ?_
                                          first
                                          | exact ih _ (enS (stS S a n q).2 a n (stS S a n q).1).1 (enS (stS S a n q).2 a n (stS S a n q).1).2 _ _ hX.1 hX.2.1 (Or.inl ⟨e, hz, rfl, hX.2.2.1, hX.2.2.2⟩) (by omega) (fun y h => g5 y (isSc_s (by omega) h)) (by omega)
                                          | exact ih _ (enS (stS S a n q).2 a n (stS S a n q).1).1 (enS (stS S a n q).2 a n (stS S a n q).1).2 _ _ hF g.2.1 (Or.inr ⟨q3, hz, rfl, g.2.2, hS3, hC2, by omega, hc5, hc6⟩) (by omega) (fun y h => g5 y (isSc_s (by omega) h)) (by omega)
                                          | (exfalso; omega)))
                          · skip
                            by_cases s60_3 : r57 = 4
                            · refine bw_switch (t := 161) rfl (by rw [s60_3]; rfl) ?_
                              refine bw_aload rfl rfl ?_
                              have eS : stS S a n q = hdS S a n (.inr (sk a n (we a n q))) := by rw [st_g (by omega) hG]; rw [if_neg (by omega), if_neg (by omega), if_neg (by omega)]
                              refine bw_callVi (e := d - 1) (as := []) rfl (by omega) rfl rfl (Nat.le_of_ble_eq_true rfl) (Nat.le_of_ble_eq_true rfl) rfl (c_readHide hR hT hA (by first | exact Or.inl rfl | exact Or.inr rfl) hS hr (ff.2.2.2 (by omega)) (by omega)) (fun r162 M162 hM162 => ?_)
                              rw [← eS] at hM162
                              rcases hM162 with ⟨e, hz, rfl, hX⟩ | ⟨q2, hz, rfl, g, hS2⟩
                              · have hF := g1.trans (g57.1.1.mono (fun c k => Or.inl (G_W c k)))
                                have hX := FA.tr (s := pA 459) hF hX (fun _ k => k) (fun c k => Or.inl (G_W c k))
                                have hz : (enS (stS S a n q).2 a n (stS S a n q).1).1 = .inl e := by rw [hz]; rfl
                                refine bw_ifeq rfl (fun c165 => ?_) (fun c165 => ?_)
                                · first
                                  | (exfalso; omega)
                                  | (refine bw_push rfl ?_
                                     refine bw_istore (ls2 := [_, _, _, _]) rfl rfl (Nat.le_of_ble_eq_true rfl) rfl ?_
                                     refine bw_goto rfl ?_
                                     refine bw_iinc (ls2 := [_, _, _, _]) rfl rfl rfl ⟨by omega, by omega⟩ rfl ?_
                                     refine bw_goto rfl ?_
                                     refine bw_forget (ls2 := [some (vr (some 3)), some (vr (some 459)), some (vi _), some (vi _)]) ⟨rfl, rfl, rfl, rfl, trivial⟩ ?_
                                     first
                                     | exact ih _ (enS (stS S a n q).2 a n (stS S a n q).1).1 (enS (stS S a n q).2 a n (stS S a n q).1).2 _ _ hX.1 hX.2.1 (Or.inl ⟨e, hz, rfl, hX.2.2.1, hX.2.2.2⟩) (by omega) (fun y h => g5 y (isSc_s (by omega) h)) (by omega)
                                     | exact ih _ (enS (stS S a n q).2 a n (stS S a n q).1).1 (enS (stS S a n q).2 a n (stS S a n q).1).2 _ _ hF g.2.1 (Or.inr ⟨q3, hz, rfl, g.2.2, hS3, hC2, by omega, hc5, hc6⟩) (by omega) (fun y h => g5 y (isSc_s (by omega) h)) (by omega)
                                     | (exfalso; omega))
                                · first
                                  | (exfalso; omega)
                                  | (refine bw_aload rfl rfl ?_
                                     refine bw_callVi (e := d - 1) (as := []) rfl (by omega) rfl rfl (Nat.le_of_ble_eq_true rfl) (Nat.le_of_ble_eq_true rfl) rfl (c_endStatement hR hT hA (by first | exact Or.inl rfl | exact Or.inr rfl) hS2 hr (by omega) (by omega)) (fun r169 M169 hM169 => ?_)
                                     rcases hM169 with ⟨e, hz2, rfl, hX⟩ | ⟨q3, hz2, rfl, g, hS3⟩
                                     · have hX := FA.tr (s := pA 459) hF hX (fun _ k => k) (fun c k => Or.elim k (fun k => Or.inl (G_W c k)) Or.inr)
                                       have hz : (enS (stS S a n q).2 a n (stS S a n q).1).1 = .inl e := by rw [hz]; exact hz2
                                       refine bw_ifeq rfl (fun c172 => ?_) (fun c172 => ?_)
                                       · first
                                         | (exfalso; omega)
                                         | (refine bw_push rfl ?_
                                            refine bw_istore (ls2 := [_, _, _, _]) rfl rfl (Nat.le_of_ble_eq_true rfl) rfl ?_
                                            refine bw_goto rfl ?_
                                            refine bw_iinc (ls2 := [_, _, _, _]) rfl rfl rfl ⟨by omega, by omega⟩ rfl ?_
                                            refine bw_goto rfl ?_
                                            refine bw_forget (ls2 := [some (vr (some 3)), some (vr (some 459)), some (vi _), some (vi _)]) ⟨rfl, rfl, rfl, rfl, trivial⟩ ?_
                                            first
                                            | exact ih _ (enS (stS S a n q).2 a n (stS S a n q).1).1 (enS (stS S a n q).2 a n (stS S a n q).1).2 _ _ hX.1 hX.2.1 (Or.inl ⟨e, hz, rfl, hX.2.2.1, hX.2.2.2⟩) (by omega) (fun y h => g5 y (isSc_s (by omega) h)) (by omega)
                                            | exact ih _ (enS (stS S a n q).2 a n (stS S a n q).1).1 (enS (stS S a n q).2 a n (stS S a n q).1).2 _ _ hF g.2.1 (Or.inr ⟨q3, hz, rfl, g.2.2, hS3, hC2, by omega, hc5, hc6⟩) (by omega) (fun y h => g5 y (isSc_s (by omega) h)) (by omega)
                                            | (exfalso; omega))
                                       · first
                                         | (exfalso; omega)
                                         | (refine bw_push rfl ?_
                                            refine bw_goto rfl ?_
                                            refine bw_istore (ls2 := [_, _, _, _]) rfl rfl (Nat.le_of_ble_eq_true rfl) rfl ?_
                                            refine bw_goto rfl ?_
                                            refine bw_iinc (ls2 := [_, _, _, _]) rfl rfl rfl ⟨by omega, by omega⟩ rfl ?_
                                            refine bw_goto rfl ?_
                                            refine bw_forget (ls2 := [some (vr (some 3)), some (vr (some 459)), some (vi _), some (vi _)]) ⟨rfl, rfl, rfl, rfl, trivial⟩ ?_
                                            first
                                            | exact ih _ (enS (stS S a n q).2 a n (stS S a n q).1).1 (enS (stS S a n q).2 a n (stS S a n q).1).2 _ _ hX.1 hX.2.1 (Or.inl ⟨e, hz, rfl, hX.2.2.1, hX.2.2.2⟩) (by omega) (fun y h => g5 y (isSc_s (by omega) h)) (by omega)
                                            | exact ih _ (enS (stS S a n q).2 a n (stS S a n q).1).1 (enS (stS S a n q).2 a n (stS S a n q).1).2 _ _ hF g.2.1 (Or.inr ⟨q3, hz, rfl, g.2.2, hS3, hC2, by omega, hc5, hc6⟩) (by omega) (fun y h => g5 y (isSc_s (by omega) h)) (by omega)
                                            | (exfalso; omega))
                                     · have hF := hF.trans (g.1.1.mono (fun c k => Or.elim k (fun k => Or.inl (G_W c k)) Or.inr))
                                       have hz : (enS (stS S a n q).2 a n (stS S a n q).1).1 = .inr q3 := by rw [hz]; exact hz2
                                       have hC2 : CTd (enS (stS S a n q).2 a n (stS S a n q).1).2 := en_ct ct.1 (by omega)
                                       have h55 : (enS (stS S a n q).2 a n (stS S a n q).1).2 5 = S 5 + 1 := by
                                         show up (stS S a n q).2 5 ((stS S a n q).2 5 + 1) 5 = S 5 + 1
                                         rw [up_eq rfl, lo]
                                       have hc5 := g.1.2.1.trans hc5
                                       have hc6 := g.1.2.2.trans hc6
                                       refine bw_ifeq rfl (fun c172 => ?_) (fun c172 => ?_)
                                       · first
                                         | (exfalso; omega)
                                         | (refine bw_push rfl ?_
                                            refine bw_istore (ls2 := [_, _, _, _]) rfl rfl (Nat.le_of_ble_eq_true rfl) rfl ?_
                                            refine bw_goto rfl ?_
                                            refine bw_iinc (ls2 := [_, _, _, _]) rfl rfl rfl ⟨by omega, by omega⟩ rfl ?_
                                            refine bw_goto rfl ?_
                                            refine bw_forget (ls2 := [some (vr (some 3)), some (vr (some 459)), some (vi _), some (vi _)]) ⟨rfl, rfl, rfl, rfl, trivial⟩ ?_
                                            first
                                            | exact ih _ (enS (stS S a n q).2 a n (stS S a n q).1).1 (enS (stS S a n q).2 a n (stS S a n q).1).2 _ _ hX.1 hX.2.1 (Or.inl ⟨e, hz, rfl, hX.2.2.1, hX.2.2.2⟩) (by omega) (fun y h => g5 y (isSc_s (by omega) h)) (by omega)
                                            | exact ih _ (enS (stS S a n q).2 a n (stS S a n q).1).1 (enS (stS S a n q).2 a n (stS S a n q).1).2 _ _ hF g.2.1 (Or.inr ⟨q3, hz, rfl, g.2.2, hS3, hC2, by omega, hc5, hc6⟩) (by omega) (fun y h => g5 y (isSc_s (by omega) h)) (by omega)
                                            | (exfalso; omega))
                                       · first
                                         | (exfalso; omega)
                                         | (refine bw_push rfl ?_
                                            refine bw_goto rfl ?_
                                            refine bw_istore (ls2 := [_, _, _, _]) rfl rfl (Nat.le_of_ble_eq_true rfl) rfl ?_
                                            refine bw_goto rfl ?_
                                            refine bw_iinc (ls2 := [_, _, _, _]) rfl rfl rfl ⟨by omega, by omega⟩ rfl ?_
                                            refine bw_goto rfl ?_
                                            refine bw_forget (ls2 := [some (vr (some 3)), some (vr (some 459)), some (vi _), some (vi _)]) ⟨rfl, rfl, rfl, rfl, trivial⟩ ?_
                                            first
                                            | exact ih _ (enS (stS S a n q).2 a n (stS S a n q).1).1 (enS (stS S a n q).2 a n (stS S a n q).1).2 _ _ hX.1 hX.2.1 (Or.inl ⟨e, hz, rfl, hX.2.2.1, hX.2.2.2⟩) (by omega) (fun y h => g5 y (isSc_s (by omega) h)) (by omega)
                                            | exact ih _ (enS (stS S a n q).2 a n (stS S a n q).1).1 (enS (stS S a n q).2 a n (stS S a n q).1).2 _ _ hF g.2.1 (Or.inr ⟨q3, hz, rfl, g.2.2, hS3, hC2, by omega, hc5, hc6⟩) (by omega) (fun y h => g5 y (isSc_s (by omega) h)) (by omega)
                                            | (exfalso; omega)))
                              · have hF := g1.trans (g57.1.1.mono (fun c k => Or.inl (G_W c k)))
                                have hF := hF.trans (g.1.1.mono (fun c k => Or.elim k (fun k => Or.inl (G_W c k)) Or.inr))
                                have hR := g.1.RF hR
                                have hT := g.2.1
                                have hA := g.2.2
                                have ct := st_ct hct hz
                                have lo := st_lo (a := a) (n := n) (p := q) hct (Or.inr rfl)
                                have hc5 := g.1.2.1.trans hc5
                                have hc6 := g.1.2.2.trans hc6
                                refine bw_ifeq rfl (fun c165 => ?_) (fun c165 => ?_)
                                · first
                                  | (exfalso; omega)
                                  | (refine bw_push rfl ?_
                                     refine bw_istore (ls2 := [_, _, _, _]) rfl rfl (Nat.le_of_ble_eq_true rfl) rfl ?_
                                     refine bw_goto rfl ?_
                                     refine bw_iinc (ls2 := [_, _, _, _]) rfl rfl rfl ⟨by omega, by omega⟩ rfl ?_
                                     refine bw_goto rfl ?_
                                     refine bw_forget (ls2 := [some (vr (some 3)), some (vr (some 459)), some (vi _), some (vi _)]) ⟨rfl, rfl, rfl, rfl, trivial⟩ ?_
                                     first
                                     | exact ih _ (enS (stS S a n q).2 a n (stS S a n q).1).1 (enS (stS S a n q).2 a n (stS S a n q).1).2 _ _ hX.1 hX.2.1 (Or.inl ⟨e, hz, rfl, hX.2.2.1, hX.2.2.2⟩) (by omega) (fun y h => g5 y (isSc_s (by omega) h)) (by omega)
                                     | exact ih _ (enS (stS S a n q).2 a n (stS S a n q).1).1 (enS (stS S a n q).2 a n (stS S a n q).1).2 _ _ hF g.2.1 (Or.inr ⟨q3, hz, rfl, g.2.2, hS3, hC2, by omega, hc5, hc6⟩) (by omega) (fun y h => g5 y (isSc_s (by omega) h)) (by omega)
                                     | (exfalso; omega))
                                · first
                                  | (exfalso; omega)
                                  | (refine bw_aload rfl rfl ?_
                                     refine bw_callVi (e := d - 1) (as := []) rfl (by omega) rfl rfl (Nat.le_of_ble_eq_true rfl) (Nat.le_of_ble_eq_true rfl) rfl (c_endStatement hR hT hA (by first | exact Or.inl rfl | exact Or.inr rfl) hS2 hr (by omega) (by omega)) (fun r169 M169 hM169 => ?_)
                                     rcases hM169 with ⟨e, hz2, rfl, hX⟩ | ⟨q3, hz2, rfl, g, hS3⟩
                                     · have hX := FA.tr (s := pA 459) hF hX (fun _ k => k) (fun c k => Or.elim k (fun k => Or.inl (G_W c k)) Or.inr)
                                       have hz : (enS (stS S a n q).2 a n (stS S a n q).1).1 = .inl e := by rw [hz]; exact hz2
                                       refine bw_ifeq rfl (fun c172 => ?_) (fun c172 => ?_)
                                       · first
                                         | (exfalso; omega)
                                         | (refine bw_push rfl ?_
                                            refine bw_istore (ls2 := [_, _, _, _]) rfl rfl (Nat.le_of_ble_eq_true rfl) rfl ?_
                                            refine bw_goto rfl ?_
                                            refine bw_iinc (ls2 := [_, _, _, _]) rfl rfl rfl ⟨by omega, by omega⟩ rfl ?_
                                            refine bw_goto rfl ?_
                                            refine bw_forget (ls2 := [some (vr (some 3)), some (vr (some 459)), some (vi _), some (vi _)]) ⟨rfl, rfl, rfl, rfl, trivial⟩ ?_
                                            first
                                            | exact ih _ (enS (stS S a n q).2 a n (stS S a n q).1).1 (enS (stS S a n q).2 a n (stS S a n q).1).2 _ _ hX.1 hX.2.1 (Or.inl ⟨e, hz, rfl, hX.2.2.1, hX.2.2.2⟩) (by omega) (fun y h => g5 y (isSc_s (by omega) h)) (by omega)
                                            | exact ih _ (enS (stS S a n q).2 a n (stS S a n q).1).1 (enS (stS S a n q).2 a n (stS S a n q).1).2 _ _ hF g.2.1 (Or.inr ⟨q3, hz, rfl, g.2.2, hS3, hC2, by omega, hc5, hc6⟩) (by omega) (fun y h => g5 y (isSc_s (by omega) h)) (by omega)
                                            | (exfalso; omega))
                                       · first
                                         | (exfalso; omega)
                                         | (refine bw_push rfl ?_
                                            refine bw_goto rfl ?_
                                            refine bw_istore (ls2 := [_, _, _, _]) rfl rfl (Nat.le_of_ble_eq_true rfl) rfl ?_
                                            refine bw_goto rfl ?_
                                            refine bw_iinc (ls2 := [_, _, _, _]) rfl rfl rfl ⟨by omega, by omega⟩ rfl ?_
                                            refine bw_goto rfl ?_
                                            refine bw_forget (ls2 := [some (vr (some 3)), some (vr (some 459)), some (vi _), some (vi _)]) ⟨rfl, rfl, rfl, rfl, trivial⟩ ?_
                                            first
                                            | exact ih _ (enS (stS S a n q).2 a n (stS S a n q).1).1 (enS (stS S a n q).2 a n (stS S a n q).1).2 _ _ hX.1 hX.2.1 (Or.inl ⟨e, hz, rfl, hX.2.2.1, hX.2.2.2⟩) (by omega) (fun y h => g5 y (isSc_s (by omega) h)) (by omega)
                                            | exact ih _ (enS (stS S a n q).2 a n (stS S a n q).1).1 (enS (stS S a n q).2 a n (stS S a n q).1).2 _ _ hF g.2.1 (Or.inr ⟨q3, hz, rfl, g.2.2, hS3, hC2, by omega, hc5, hc6⟩) (by omega) (fun y h => g5 y (isSc_s (by omega) h)) (by omega)
                                            | (exfalso; omega))
                                     · have hF := hF.trans (g.1.1.mono (fun c k => Or.elim k (fun k => Or.inl (G_W c k)) Or.inr))
                                       have hz : (enS (stS S a n q).2 a n (stS S a n q).1).1 = .inr q3 := by rw [hz]; exact hz2
                                       have hC2 : CTd (enS (stS S a n q).2 a n (stS S a n q).1).2 := en_ct ct.1 (by omega)
                                       have h55 : (enS (stS S a n q).2 a n (stS S a n q).1).2 5 = S 5 + 1 := by
                                         show up (stS S a n q).2 5 ((stS S a n q).2 5 + 1) 5 = S 5 + 1
                                         rw [up_eq rfl, lo]
                                       have hc5 := g.1.2.1.trans hc5
                                       have hc6 := g.1.2.2.trans hc6
                                       refine bw_ifeq rfl (fun c172 => ?_) (fun c172 => ?_)
                                       · first
                                         | (exfalso; omega)
                                         | (refine bw_push rfl ?_
                                            refine bw_istore (ls2 := [_, _, _, _]) rfl rfl (Nat.le_of_ble_eq_true rfl) rfl ?_
                                            refine bw_goto rfl ?_
                                            refine bw_iinc (ls2 := [_, _, _, _]) rfl rfl rfl ⟨by omega, by omega⟩ rfl ?_
                                            refine bw_goto rfl ?_
                                            refine bw_forget (ls2 := [some (vr (some 3)), some (vr (some 459)), some (vi _), some (vi _)]) ⟨rfl, rfl, rfl, rfl, trivial⟩ ?_
                                            first
                                            | exact ih _ (enS (stS S a n q).2 a n (stS S a n q).1).1 (enS (stS S a n q).2 a n (stS S a n q).1).2 _ _ hX.1 hX.2.1 (Or.inl ⟨e, hz, rfl, hX.2.2.1, hX.2.2.2⟩) (by omega) (fun y h => g5 y (isSc_s (by omega) h)) (by omega)
                                            | exact ih _ (enS (stS S a n q).2 a n (stS S a n q).1).1 (enS (stS S a n q).2 a n (stS S a n q).1).2 _ _ hF g.2.1 (Or.inr ⟨q3, hz, rfl, g.2.2, hS3, hC2, by omega, hc5, hc6⟩) (by omega) (fun y h => g5 y (isSc_s (by omega) h)) (by omega)
                                            | (exfalso; omega))
                                       · first
                                         | (exfalso; omega)
                                         | (refine bw_push rfl ?_
                                            refine bw_goto rfl ?_
                                            refine bw_istore (ls2 := [_, _, _, _]) rfl rfl (Nat.le_of_ble_eq_true rfl) rfl ?_
                                            refine bw_goto rfl ?_
                                            refine bw_iinc (ls2 := [_, _, _, _]) rfl rfl rfl ⟨by omega, by omega⟩ rfl ?_
                                            refine bw_goto rfl ?_
                                            refine bw_forget (ls2 := [some (vr (some 3)), some (vr (some 459)), some (vi _), some (vi _)]) ⟨rfl, rfl, rfl, rfl, trivial⟩ ?_
                                            first
                                            | exact ih _ (enS (stS S a n q).2 a n (stS S a n q).1).1 (enS (stS S a n q).2 a n (stS S a n q).1).2 _ _ hX.1 hX.2.1 (Or.inl ⟨e, hz, rfl, hX.2.2.1, hX.2.2.2⟩) (by omega) (fun y h => g5 y (isSc_s (by omega) h)) (by omega)
                                            | exact ih _ (enS (stS S a n q).2 a n (stS S a n q).1).1 (enS (stS S a n q).2 a n (stS S a n q).1).2 _ _ hF g.2.1 (Or.inr ⟨q3, hz, rfl, g.2.2, hS3, hC2, by omega, hc5, hc6⟩) (by omega) (fun y h => g5 y (isSc_s (by omega) h)) (by omega)
                                            | (exfalso; omega)))
                            · skip
                              refine bw_switch (t := 184) rfl (by show (if (r57) < (1 : Int) ∨ (4 : Int) < (r57) then _ else _) = _; rw [if_pos (by omega)]; rfl) ?_
                              refine bw_push rfl ?_
                              refine bw_istore (ls2 := [_, _, _, _]) rfl rfl (Nat.le_of_ble_eq_true rfl) rfl ?_
                              refine bw_iinc (ls2 := [_, _, _, _]) rfl rfl rfl ⟨by omega, by omega⟩ rfl ?_
                              refine bw_goto rfl ?_
                              refine bw_forget (ls2 := [some (vr (some 3)), some (vr (some 459)), some (vi _), some (vi _)]) ⟨rfl, rfl, rfl, rfl, trivial⟩ ?_
                              first
                              | exact ih _ (enS (stS S a n q).2 a n (stS S a n q).1).1 (enS (stS S a n q).2 a n (stS S a n q).1).2 _ _ hX.1 hX.2.1 (Or.inl ⟨e, hz, rfl, hX.2.2.1, hX.2.2.2⟩) (by omega) (fun y h => g5 y (isSc_s (by omega) h)) (by omega)
                              | exact ih _ (enS (stS S a n q).2 a n (stS S a n q).1).1 (enS (stS S a n q).2 a n (stS S a n q).1).2 _ _ hF g.2.1 (Or.inr ⟨q3, hz, rfl, g.2.2, hS3, hC2, by omega, hc5, hc6⟩) (by omega) (fun y h => g5 y (isSc_s (by omega) h)) (by omega)
                              | (exfalso; omega)))
    show abW d (0, 0) 35 0 [some (vr (some 3)), some (vr (some 459)), none, none] [] (0, 0) (A0 L) M (qI (A0 L) (fun x N => (sm (pA 459) (sR M 3 3 (some 459)) N ∧ TP N a n ∧ ((∃ e : Int × Int, isTx a n (.inl e) ∧ x = 0 ∧ gI N 3 5 = e.1 ∧ gI N 3 6 = e.2) ∨ (∃ S : Int → Int, isTx a n (.inr S) ∧ x = 1 ∧ SR N 459 S ∧ gI N 3 5 = 0 ∧ gI N 3 6 = -1)))))
    refine bw_aload rfl rfl ?_
    refine bw_aload rfl rfl ?_
    refine bw_putR rfl rfl ?_
    obtain ⟨K, hK⟩ : ∃ K, K = sR M 3 3 (some 459) := ⟨_, rfl⟩
    rw [← hK]
    have hR := RF_3 hR (some 459)
    rw [← hK] at hR
    have hr : ((r.1, (some 459, r.2.2)) : abRf).2.1 = some 459 := rfl
    have hT : TP K a n := by rw [hK]; exact hT
    refine bw_aload rfl rfl ?_
    refine bw_getr rfl rfl ((hR _ _).trans hr) ?_
    refine bw_callVNv (e := d - 1) (as := []) rfl (by omega) rfl rfl (Nat.le_of_ble_eq_true rfl) (Nat.le_of_ble_eq_true rfl) rfl (c_clear hR (by first | exact Or.inl rfl | exact Or.inr rfl)) (fun M9 hM9 => ?_)
    have hF := (hM9.1.mono (q := pA 459) (fun c k => Or.inr k))
    have hS := hM9.2
    have hT := TP_s2 hT hM9.1 (fun k => by have := k.1; omega) (fun k => by have := k.1; omega)
    have hR := hM9.1.RF hR
    refine bw_aload rfl rfl ?_
    refine bw_push rfl ?_
    refine bw_putI rfl rfl ?_
    refine bw_aload rfl rfl ?_
    refine bw_push rfl ?_
    refine bw_putI rfl rfl ?_
    obtain ⟨G, hG⟩ : ∃ G, G = sI (sI M9 3 5 0) 3 6 (-1) := ⟨_, rfl⟩
    rw [← hG]
    have u19 : sm p3 M9 G := by rw [hG]; exact ((sm_refl p3 M9).sI (a := 3) 5 _ rfl).sI (a := 3) 6 _ rfl
    have hR := u19.RF hR
    have hc5 : gI G 3 5 = 0 := by rw [hG, gI_sI_nj (by decide), gI_sI_eq]
    have hc6 : gI G 3 6 = -1 := by rw [hG, gI_sI_eq]
    have hF := hF.trans (u19.mono (q := pA 459) (fun c k => Or.inl (P_W c (Or.inr k))))
    have hT := TP_s2 hT u19 (by decide) (by decide)
    have hS := SR_sm hS u19 (fun c c0 c1 k => by have : c = 3 := k; omega)
    refine bw_aload rfl rfl ?_
    refine bw_getr rfl rfl (hR _ _) ?_
    refine bw_callVNv (e := d - 1) (as := []) rfl (by omega) rfl rfl (Nat.le_of_ble_eq_true rfl) (Nat.le_of_ble_eq_true rfl) rfl (c_start hR hT (by omega)) (fun M26 hM26 => ?_)
    have hF := hF.trans (hM26.1.mono (fun c k => Or.inl (T_W c k)))
    have hR := hM26.1.RF hR
    have hc5 : gI M26 3 5 = 0 := by rw [hM26.1.at 3 (by decide)]; exact hc5
    have hc6 : gI M26 3 6 = -1 := by rw [hM26.1.at 3 (by decide)]; exact hc6
    have hT := hM26.2.1
    have hA := hM26.2.2
    have hS := SR_sm hS hM26.1 (fun c c0 c1 => no_T (by omega))
    refine bw_aload rfl rfl ?_
    refine bw_callVi (e := d - 1) (as := []) rfl (by omega) rfl rfl (Nat.le_of_ble_eq_true rfl) (Nat.le_of_ble_eq_true rfl) rfl (c_readFrames hR hT hA (by first | exact Or.inl rfl | exact Or.inr rfl) hS hr (by omega)) (fun r30 M30 hM30 => ?_)
    have hR3 := hR
    refine bw_istore (ls2 := [_, _, _, _]) rfl rfl (Nat.le_of_ble_eq_true rfl) rfl ?_
    refine bw_push rfl ?_
    refine bw_istore (ls2 := [_, _, _, _]) rfl rfl (Nat.le_of_ble_eq_true rfl) rfl ?_
    subst hK
    rcases hM30 with ⟨e, hz, rfl, hX⟩ | ⟨q, hz, rfl, g, hS2⟩
    · exact L36 62 _ (sc1 a n).1 (sc1 a n).2 _ _ (hF.trans (hX.1.mono (fun c k => Or.elim k (fun k => Or.inl (G_W c k)) Or.inr))) hX.2.1 (Or.inl ⟨e, hz, rfl, hX.2.2.1, hX.2.2.2⟩) (by decide) (fun y h => h) (by decide)
    · have c0 := sc0_ct (a := a) (n := n)
      exact L36 62 _ (sc1 a n).1 (sc1 a n).2 _ _ (hF.trans (g.1.1.mono (fun c k => Or.elim k (fun k => Or.inl (G_W c k)) Or.inr))) g.2.1 (Or.inr ⟨q, hz, rfl, g.2.2, hS2, en_ct c0.1 (by omega), (by show up (sc0 a n).2 5 ((sc0 a n).2 5 + 1) 5 = 1; rw [up_eq rfl, c0.2]; rfl), g.1.2.1.trans hc5, g.1.2.2.trans hc6⟩) (by decide) (fun y h => h) (by decide)
