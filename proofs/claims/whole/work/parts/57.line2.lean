abbrev pLo (a : Nat) : Prop := a = 4 ∨ a = 7 ∨ a = 8
theorem pLo_no {a : Nat} (h : a ≠ 4 ∧ a ≠ 7 ∧ a ≠ 8) : ¬ pLo a := fun k => k.elim h.1 (fun k => k.elim h.2.1 h.2.2)
def hq (M N : abMem) (k : Int) : Prop := sm pLn M N ∧ (∀ j : Int, j ≠ 6 → j ≠ 7 → j ≠ 9 → gI N 4 j = gI M 4 j) ∧ gI N 4 9 = k ∧ gI M 4 6 ≤ gI N 4 6 ∧ gI M 4 7 ≤ gI N 4 7
theorem hq.hs {M N K : abMem} {k : Int} (h : hq M N k) (g : hs N K) : hq M K k := ⟨h.1.trans g.1, fun j j1 j2 j3 => (g.2.1 j j1 j2).trans (h.2.1 j j1 j2 j3), (g.2.1 9 (by decide) (by decide)).trans h.2.2.1, Int.le_trans h.2.2.2.1 g.2.2.1, Int.le_trans h.2.2.2.2 g.2.2.2⟩
theorem CR_val {M : abMem} {fr i : Int} {h : HH} (c : CR M fr h) (h0 : 0 ≤ i) (h1 : i < gI M 4 6) : (gI M 5 i = h.2.1 i ∧ gI M 6 i = h.2.2 i) ∧ (0 ≤ gI M 5 i ∧ gI M 5 i ≤ 99) ∧ (1 ≤ gI M 6 i ∧ gI M 6 i ≤ 96) := by
  have x := c.2.2.2.1 i h0 h1
  have y := c.1.2 i h0 (by have := c.2.2.1; omega)
  exact ⟨x, by rw [x.1]; exact y.1, by rw [x.2]; exact y.2⟩
theorem CR_rng {M : abMem} {fr i : Int} (c : ∃ h : HH, CR M fr h) (h0 : 0 ≤ i) (h1 : i < gI M 4 6) : (0 ≤ gI M 5 i ∧ gI M 5 i ≤ 99) ∧ (1 ≤ gI M 6 i ∧ gI M 6 i ≤ 96) := by
  obtain ⟨h, c⟩ := c
  exact (CR_val c h0 h1).2
theorem CR_inx {M : abMem} {fr : Int} (c : ∃ h : HH, CR M fr h) : gI M 4 6 ≤ 96 := by
  obtain ⟨h, c⟩ := c
  exact (CR_in c).1
set_option maxRecDepth 20000 in
set_option maxHeartbeats 4000000 in
theorem c_openGroup {d L : Nat} {M : abMem} {r : abRf} (hR : RF r M) {fr : Int} {h : HH} (hC : CR M fr h) {w k : Int} (hw : w = 0 ∨ w = 1) (hk : gI M 4 9 = k ∧ 0 ≤ k ∧ k ≤ 4) : abW d (0, 0) 22 0 (abEnt (abL 22) [vr (some 4), vi w]) [] (0, 0) (A0 L) M (qV (A0 L) (fun N => sm pLo M N ∧ CR N fr h ∧ (∀ j : Int, j ≠ 9 → j ≠ 10 → gI N 4 j = gI M 4 j) ∧ (gI N 4 9 = k + 1 ∧ gI N 4 10 = 0) ∧ gI N 7 = up (gI M 7) k (gI M 4 6) ∧ gI N 8 = up (gI M 8) k w)) := by
  have ci := CR_in hC
  have c1 := hC.2.1
  have c2 := hC.2.2.1
  show abW d (0, 0) 22 0 [some (vr (some 4)), some (vi w)] [] (0, 0) (A0 L) M (qV (A0 L) (fun N => sm pLo M N ∧ CR N fr h ∧ (∀ j : Int, j ≠ 9 → j ≠ 10 → gI N 4 j = gI M 4 j) ∧ (gI N 4 9 = k + 1 ∧ gI N 4 10 = 0) ∧ gI N 7 = up (gI M 7) k (gI M 4 6) ∧ gI N 8 = up (gI M 8) k w))
  refine bw_aload rfl rfl ?_
  refine bw_getI rfl rfl ?_
  refine bw_push rfl ?_
  refine bw_icge rfl (fun c5 => ?_) (fun c5 => ?_)
  · first
    | (exfalso; omega)
    | (refine bw_retv rfl rfl ?_
       first
       | (exfalso; omega)
       | (refine ⟨rfl, rfl, ((((sm_refl pLo _).sI _ _ (Or.inr (Or.inl rfl))).sI _ _ (Or.inr (Or.inr rfl))).sI _ _ (Or.inl rfl)).sI _ _ (Or.inl rfl), CR_fr hC ?_ ?_ ?_ ?_ ?_, fun j j1 j2 => ?_, ⟨?_, ?_⟩, ?_, ?_⟩
          · rw [gI_sI_ne (by decide), gI_sI_ne (by decide), gI_sI_ne (by decide), gI_sI_ne (by decide)]
          · rw [gI_sI_ne (by decide), gI_sI_ne (by decide), gI_sI_ne (by decide), gI_sI_ne (by decide)]
          · rw [gI_sI_nj (by decide), gI_sI_nj (by decide), gI_sI_ne (by decide), gI_sI_ne (by decide)]
          · rw [gI_sI_nj (by decide), gI_sI_nj (by decide), gI_sI_ne (by decide), gI_sI_ne (by decide)]
          · rw [gI_sI_nj (by decide), gI_sI_nj (by decide), gI_sI_ne (by decide), gI_sI_ne (by decide)]
          · rw [gI_sI_nj j2, gI_sI_nj j1, gI_sI_ne (by decide), gI_sI_ne (by decide)]
          · rw [gI_sI_nj (by decide), gI_sI_eq]
          · rw [gI_sI_eq]
          · rw [gI_sI_ne (by decide), gI_sI_ne (by decide), gI_sI_ne (by decide), sI_w, gI_wI_eq]
          · rw [gI_sI_ne (by decide), gI_sI_ne (by decide), sI_w, gI_wI_eq, gI_sI_ne (by decide)]))
  · first
    | (exfalso; omega)
    | (refine bw_aload rfl rfl ?_
       refine bw_getr rfl rfl (hR _ _) ?_
       refine bw_aload rfl rfl ?_
       refine bw_getI rfl rfl ?_
       refine bw_aload rfl rfl ?_
       refine bw_getI rfl rfl ?_
       rw [hk.1]
       refine bw_asti rfl (by first | rfl | assumption) (by omega) (by omega) ?_
       refine bw_aload rfl rfl ?_
       refine bw_getr rfl rfl (hR _ _) ?_
       refine bw_aload rfl rfl ?_
       refine bw_getI rfl rfl ?_
       rw [gI_sI_ne (show 4 ≠ 7 by decide), hk.1]
       refine bw_iload rfl rfl ?_
       refine bw_astz rfl (by first | rfl | assumption) (by omega) (by omega) hw ?_
       refine bw_aload rfl rfl ?_
       first | refine bw_dup rfl ?_ | refine bw_dupi rfl ?_
       refine bw_getI rfl rfl ?_
       rw [gI_sI_ne (show 4 ≠ 8 by decide), gI_sI_ne (show 4 ≠ 7 by decide), hk.1]
       refine bw_push rfl ?_
       refine bw_iadd rfl ⟨by omega, by omega⟩ ?_
       refine bw_putI rfl rfl ?_
       refine bw_aload rfl rfl ?_
       refine bw_push rfl ?_
       refine bw_putZ rfl rfl (by omega) ?_
       refine bw_retv rfl rfl ?_
       first
       | (exfalso; omega)
       | (refine ⟨rfl, rfl, ((((sm_refl pLo _).sI _ _ (Or.inr (Or.inl rfl))).sI _ _ (Or.inr (Or.inr rfl))).sI _ _ (Or.inl rfl)).sI _ _ (Or.inl rfl), CR_fr hC ?_ ?_ ?_ ?_ ?_, fun j j1 j2 => ?_, ⟨?_, ?_⟩, ?_, ?_⟩
          · rw [gI_sI_ne (by decide), gI_sI_ne (by decide), gI_sI_ne (by decide), gI_sI_ne (by decide)]
          · rw [gI_sI_ne (by decide), gI_sI_ne (by decide), gI_sI_ne (by decide), gI_sI_ne (by decide)]
          · rw [gI_sI_nj (by decide), gI_sI_nj (by decide), gI_sI_ne (by decide), gI_sI_ne (by decide)]
          · rw [gI_sI_nj (by decide), gI_sI_nj (by decide), gI_sI_ne (by decide), gI_sI_ne (by decide)]
          · rw [gI_sI_nj (by decide), gI_sI_nj (by decide), gI_sI_ne (by decide), gI_sI_ne (by decide)]
          · rw [gI_sI_nj j2, gI_sI_nj j1, gI_sI_ne (by decide), gI_sI_ne (by decide)]
          · rw [gI_sI_nj (by decide), gI_sI_eq]
          · rw [gI_sI_eq]
          · rw [gI_sI_ne (by decide), gI_sI_ne (by decide), gI_sI_ne (by decide), sI_w, gI_wI_eq]
          · rw [gI_sI_ne (by decide), gI_sI_ne (by decide), sI_w, gI_wI_eq, gI_sI_ne (by decide)]))
set_option maxRecDepth 20000 in
set_option maxHeartbeats 4000000 in
theorem c_closeGroup {d L : Nat} {M : abMem} {r : abRf} (hR : RF r M) {fr : Int} {h : HH} (hC : CR M fr h) {k f w t b : Int} (hk : gI M 4 9 = k ∧ 1 ≤ k ∧ k ≤ 5) (hb : gI M 7 (k - 1) = b ∧ 0 ≤ b ∧ b ≤ gI M 4 6) (hf : (0 ≤ f ∧ f ≤ h.1) ∧ (b = f ∨ fr ≤ gI M 4 7)) (hw : gI M 8 (k - 1) = w) (ht : 1 ≤ t ∧ t ≤ 96) (hd : 1 ≤ d) : abW d (0, 0) 23 0 (abEnt (abL 23) [vr (some 4), vi t]) [] (0, 0) (A0 L) M (qV (A0 L) (fun N => sm pLn M N ∧ (∀ j : Int, j ≠ 6 → j ≠ 7 → j ≠ 9 → j ≠ 10 → gI N 4 j = gI M 4 j) ∧ (gI N 4 9 = k - 1 ∧ gI N 4 10 = 1) ∧ CR N fr (hClose h f w t) ∧ gI M 4 6 ≤ gI N 4 6 ∧ gI M 4 7 ≤ gI N 4 7)) := by
  have ci := CR_in hC
  have c1 := hC.2.1
  have c2 := hC.2.2.1
  have hRM := hR
  have L83 : ∀ (kf : Nat) (N : abMem) (n e : Int), (hq M N (k - 1)) → (((b = f ∧ e = (hSw h f w).1) ∧ CR N fr (hRep (hSw h f w) f (hSw h f w).1 (n - 1).toNat)) ∨ (fr ≤ gI N 4 7 ∧ CR N fr (hSw h f w))) → (1 ≤ n ∧ n ≤ t) → (e ≤ gI N 4 6) → ((t - n).toNat) < kf → abW d (0, 0) 23 83 [some (vr (some 4)), some (vi t), some (vi b), some (vi e), some (vi n), none] [] (0, 0) (A0 L) (N) (qV (A0 L) (fun N => sm pLn M N ∧ (∀ j : Int, j ≠ 6 → j ≠ 7 → j ≠ 9 → j ≠ 10 → gI N 4 j = gI M 4 j) ∧ (gI N 4 9 = k - 1 ∧ gI N 4 10 = 1) ∧ CR N fr (hClose h f w t) ∧ gI M 4 6 ≤ gI N 4 6 ∧ gI M 4 7 ≤ gI N 4 7)) := by
    intro kf
    induction kf with
    | zero => intro N  n e  g1 g2 g3 g4 hm9; exact absurd hm9 (Nat.not_lt_zero _)
    | succ kf ih83 =>
      intro N  n e  g1 g2 g3 g4 hm83
      have ih := ih83
      have hR := g1.1.RF hRM
      have L92 : ∀ (kf : Nat) (K : abMem) (i : Int), (hq M K (k - 1)) → (((b = f ∧ e = (hSw h f w).1) ∧ CR K fr (hCopy (hRep (hSw h f w) f (hSw h f w).1 (n - 1).toNat) f (i - f).toNat) ∧ f ≤ i ∧ i ≤ e) ∨ (fr ≤ gI K 4 7 ∧ CR K fr (hSw h f w))) → (b ≤ i ∧ n < t) → (e ≤ gI K 4 6) → ((e - i).toNat) < kf → abW d (0, 0) 23 92 [some (vr (some 4)), some (vi t), some (vi b), some (vi e), some (vi n), some (vi i)] [] (0, 0) (A0 L) (K) (qV (A0 L) (fun N => sm pLn M N ∧ (∀ j : Int, j ≠ 6 → j ≠ 7 → j ≠ 9 → j ≠ 10 → gI N 4 j = gI M 4 j) ∧ (gI N 4 9 = k - 1 ∧ gI N 4 10 = 1) ∧ CR N fr (hClose h f w t) ∧ gI M 4 6 ≤ gI N 4 6 ∧ gI M 4 7 ≤ gI N 4 7)) := by
        intro kf
        induction kf with
        | zero => intro K  i  k1 k2 k3 k4 hm9; exact absurd hm9 (Nat.not_lt_zero _)
        | succ kf ih92 =>
          intro K  i  k1 k2 k3 k4 hm92
          have ih := ih92
          have hR := k1.1.RF hRM
          have kx : ∃ h : HH, CR K fr h := k2.elim (fun q => ⟨_, q.2.1⟩) (fun q => ⟨_, q.2⟩)
          have ki := CR_inx kx
          refine bw_iload rfl rfl ?_
          refine bw_iload rfl rfl ?_
          refine bw_icge rfl (fun c95 => ?_) (fun c95 => ?_)
          · skip
            refine bw_iinc (ls2 := [_, _, _, _, _, _]) rfl rfl rfl ⟨by omega, by omega⟩ rfl ?_
            refine bw_goto rfl ?_
            refine bw_forget (ls2 := [some (vr (some 4)), some (vi t), some (vi b), some (vi e), some (vi _), none]) ⟨rfl, rfl, rfl, rfl, rfl, trivial⟩ ?_
            refine ih83 K (n + 1) e k1 ?_ (by omega) k4 (by omega)
            rcases k2 with ⟨q1, q2, q3, q4⟩ | ⟨q1, q2⟩
            · refine Or.inl ⟨q1, ?_⟩
              rw [show n + 1 - 1 = (n - 1) + 1 by omega, hRep_s (by omega), show ((hSw h f w).1 - f).toNat = (i - f).toNat by omega]
              exact q2
            · exact Or.inr ⟨q1, q2⟩
          · skip
            refine bw_aload rfl rfl ?_
            refine bw_aload rfl rfl ?_
            refine bw_getr rfl rfl (hR _ _) ?_
            refine bw_iload rfl rfl ?_
            have cv := CR_rng kx (i := i) (by omega) (by omega)
            refine bw_aldi rfl (by first | rfl | assumption) (by omega) (by omega) ?_
            refine bw_aload rfl rfl ?_
            refine bw_getr rfl rfl (hR _ _) ?_
            refine bw_iload rfl rfl ?_
            refine bw_aldi rfl (by first | rfl | assumption) (by omega) (by omega) ?_
            refine bw_callVv (e := d - 1) (as := [_, _]) rfl (by omega) rfl rfl (Nat.le_of_ble_eq_true rfl) (Nat.le_of_ble_eq_true rfl) rfl (c_add hR kx cv.1 cv.2) (fun M113 hM113 => ?_)
            refine bw_iinc (ls2 := [_, _, _, _, _, _]) rfl rfl rfl ⟨by omega, by omega⟩ rfl ?_
            refine bw_goto rfl ?_
            rcases k2 with ⟨q1, q2, q3, q4⟩ | ⟨q1, q2⟩
            · have x := hM113.Q q2 cv.1 cv.2
              have cw := CR_val q2 (i := i) (by omega) (by omega)
              have xh := x.hs.2.2.1
              refine ih M113 (i + 1) (k1.hs x.hs) (Or.inl ⟨q1, ?_, by omega, by omega⟩) (by omega) (by omega) (by omega)
              rw [show i + 1 - f = (i - f) + 1 by omega, hCopy_s (by omega), show f + (i - f) = i by omega, ← cw.1.1, ← cw.1.2]
              exact x.CR q2 cv.1 cv.2
            · obtain rfl : M113 = K := hM113.sat (by omega)
              exact ih M113 (i + 1) k1 (Or.inr ⟨q1, q2⟩) (by omega) k4 (by omega)
      refine bw_iload rfl rfl ?_
      refine bw_iload rfl rfl ?_
      refine bw_icge rfl (fun c86 => ?_) (fun c86 => ?_)
      · skip
        refine bw_aload rfl rfl ?_
        refine bw_push rfl ?_
        refine bw_putZ rfl rfl (by omega) ?_
        refine bw_retv rfl rfl ?_
        obtain rfl : n = t := by omega
        have cc : CR N fr (hClose h f w n) := g2.elim (fun q => q.2) (fun q => CR_ext q.2 (hLe_rep _ _ _ _) (HV_rep (HV_sw hC.1 hf.1.1) hf.1.1 (Int.le_refl _) _) q.1)
        exact ⟨rfl, rfl, g1.1.sI 10 1 (Or.inl rfl), fun j j1 j2 j3 j4 => by rw [gI_sI_nj j4]; exact g1.2.1 j j1 j2 j3, ⟨by rw [gI_sI_nj (by decide)]; exact g1.2.2.1, by rw [gI_sI_eq]⟩, CR_fr cc (gI_sI_ne (by decide)) (gI_sI_ne (by decide)) (gI_sI_nj (by decide)) (gI_sI_nj (by decide)) (gI_sI_nj (by decide)), by rw [gI_sI_nj (by decide)]; exact g1.2.2.2.1, by rw [gI_sI_nj (by decide)]; exact g1.2.2.2.2⟩
      · skip
        refine bw_iload rfl rfl ?_
        refine bw_istore (ls2 := [_, _, _, _, _, _]) rfl rfl (Nat.le_of_ble_eq_true rfl) rfl ?_
        refine L92 ((e - b).toNat + 1) N b g1 ?_ (by omega) g4 (by omega)
        rcases g2 with ⟨q1, q2⟩ | ⟨q1, q2⟩
        · refine Or.inl ⟨q1, by rw [show (b - f).toNat = 0 by omega]; exact q2, by omega, ?_⟩
          have := (hLe_sw h f w).1
          omega
        · exact Or.inr ⟨q1, q2⟩
  have L48 : ∀ (kf : Nat) (N : abMem) (i : Int), (hq M N (k - 1)) → (((gI M 4 7 < fr ∧ b = f) ∧ CR N fr (hBack h (h.1 - 2) (h.1 - 2 - i).toNat) ∧ i ≤ h.1 - 2 ∧ (f ≤ i ∨ i = h.1 - 2)) ∨ (fr ≤ gI M 4 7 ∧ CR N fr h)) → (i ≤ gI M 4 6 - 2) → (w ≠ 0) → ((i + 10).toNat) < kf → abW d (0, 0) 23 48 [some (vr (some 4)), some (vi t), some (vi b), some (vi i), none, none] [] (0, 0) (A0 L) (N) (qV (A0 L) (fun N => sm pLn M N ∧ (∀ j : Int, j ≠ 6 → j ≠ 7 → j ≠ 9 → j ≠ 10 → gI N 4 j = gI M 4 j) ∧ (gI N 4 9 = k - 1 ∧ gI N 4 10 = 1) ∧ CR N fr (hClose h f w t) ∧ gI M 4 6 ≤ gI N 4 6 ∧ gI M 4 7 ≤ gI N 4 7)) := by
    intro kf
    induction kf with
    | zero => intro N  i  g1 g2 g3 g4 hm9; exact absurd hm9 (Nat.not_lt_zero _)
    | succ kf ih48 =>
      intro N  i  g1 g2 g3 g4 hm48
      have ih := ih48
      have hR := g1.1.RF hRM
      have m1 := g1.2.2.2.1
      have m2 := g1.2.2.2.2
      have gx : ∃ h : HH, CR N fr h := g2.elim (fun q => ⟨_, q.2.1⟩) (fun q => ⟨_, q.2⟩)
      have gi := CR_inx gx
      refine bw_iload rfl rfl ?_
      refine bw_iload rfl rfl ?_
      refine bw_icle rfl (fun c50 => ?_) (fun c50 => ?_)
      · skip
        refine bw_aload rfl rfl ?_
        refine bw_getI rfl rfl ?_
        refine bw_istore (ls2 := [_, _, _, _, _, _]) rfl rfl (Nat.le_of_ble_eq_true rfl) rfl ?_
        refine bw_push rfl ?_
        refine bw_istore (ls2 := [_, _, _, _, _, _]) rfl rfl (Nat.le_of_ble_eq_true rfl) rfl ?_
        refine L83 98 N 1 _ g1 ?_ (by omega) (Int.le_refl _) (by omega)
        rcases g2 with ⟨q1, q2, q3, q4⟩ | ⟨q1, q2⟩
        · have cs : CR N fr (hSw h f w) := by
            unfold hSw
            rw [if_pos g4, show (h.1 - 2 - f).toNat = (h.1 - 2 - i).toNat by omega]
            exact q2
          by_cases z : gI N 4 7 < fr
          · exact Or.inl ⟨⟨q1.2, ((CR_in cs).2.2 z).2⟩, cs⟩
          · exact Or.inr ⟨by omega, cs⟩
        · exact Or.inr ⟨by omega, CR_ext q2 (hLe_sw _ _ _) (HV_sw hC.1 hf.1.1) (by omega)⟩
      · skip
        refine bw_aload rfl rfl ?_
        refine bw_aload rfl rfl ?_
        refine bw_getr rfl rfl (hR _ _) ?_
        refine bw_iload rfl rfl ?_
        have cv := CR_rng gx (i := i) (by omega) (by omega)
        refine bw_aldi rfl (by first | rfl | assumption) (by omega) (by omega) ?_
        refine bw_aload rfl rfl ?_
        refine bw_getr rfl rfl (hR _ _) ?_
        refine bw_iload rfl rfl ?_
        refine bw_aldi rfl (by first | rfl | assumption) (by omega) (by omega) ?_
        refine bw_callVv (e := d - 1) (as := [_, _]) rfl (by omega) rfl rfl (Nat.le_of_ble_eq_true rfl) (Nat.le_of_ble_eq_true rfl) rfl (c_add hR gx cv.1 cv.2) (fun M66 hM66 => ?_)
        refine bw_iinc (ls2 := [_, _, _, _, _, _]) rfl rfl rfl ⟨by omega, by omega⟩ rfl ?_
        refine bw_goto rfl ?_
        rcases g2 with ⟨q1, q2, q3, q4⟩ | ⟨q1, q2⟩
        · have x := hM66.Q q2 cv.1 cv.2
          have cw := CR_val q2 (i := i) (by omega) (by omega)
          refine ih M66 (i + -1) (g1.hs x.hs) (Or.inl ⟨q1, ?_, by omega, by omega⟩) (by omega) g4 (by omega)
          rw [show h.1 - 2 - (i + -1) = (h.1 - 2 - i) + 1 by omega, hBack_s (by omega), show h.1 - 2 - (h.1 - 2 - i) = i by omega, ← cw.1.1, ← cw.1.2]
          exact x.CR q2 cv.1 cv.2
        · obtain rfl : M66 = N := hM66.sat (by omega)
          exact ih M66 (i + -1) g1 (Or.inr ⟨q1, q2⟩) (by omega) g4 (by omega)
  show abW d (0, 0) 23 0 [some (vr (some 4)), some (vi t), none, none, none, none] [] (0, 0) (A0 L) M (qV (A0 L) (fun N => sm pLn M N ∧ (∀ j : Int, j ≠ 6 → j ≠ 7 → j ≠ 9 → j ≠ 10 → gI N 4 j = gI M 4 j) ∧ (gI N 4 9 = k - 1 ∧ gI N 4 10 = 1) ∧ CR N fr (hClose h f w t) ∧ gI M 4 6 ≤ gI N 4 6 ∧ gI M 4 7 ≤ gI N 4 7))
  refine bw_aload rfl rfl ?_
  refine bw_getI rfl rfl ?_
  refine bw_push rfl ?_
  refine bw_icge rfl (fun c5 => ?_) (fun c5 => ?_)
  · first
    | (exfalso; omega)
    | (refine bw_aload rfl rfl ?_
       first | refine bw_dup rfl ?_ | refine bw_dupi rfl ?_
       refine bw_getI rfl rfl ?_
       rw [hk.1]
       refine bw_push rfl ?_
       refine bw_isub rfl ⟨by omega, by omega⟩ ?_
       refine bw_putI rfl rfl ?_
       refine bw_aload rfl rfl ?_
       refine bw_getr rfl rfl (hR _ _) ?_
       refine bw_aload rfl rfl ?_
       refine bw_getI rfl rfl ?_
       rw [gI_sI_eq]
       refine bw_aldi rfl (by first | rfl | assumption) (by omega) (by omega) ?_
       rw [gI_sI_ne (show 7 ≠ 4 by decide), hb.1]
       refine bw_istore (ls2 := [_, _, _, _, _, _]) rfl rfl (Nat.le_of_ble_eq_true rfl) rfl ?_
       refine bw_aload rfl rfl ?_
       refine bw_getr rfl rfl (hR _ _) ?_
       refine bw_aload rfl rfl ?_
       refine bw_getI rfl rfl ?_
       rw [gI_sI_eq]
       refine bw_aldb rfl (by first | rfl | assumption) (by decide) (by omega) (by omega) ?_
       rw [gI_sI_ne (show 8 ≠ 4 by decide), hw]
       refine bw_ifeq rfl (fun c38 => ?_) (fun c38 => ?_)
       · skip
         refine bw_aload rfl rfl ?_
         refine bw_getI rfl rfl ?_
         refine bw_istore (ls2 := [_, _, _, _, _, _]) rfl rfl (Nat.le_of_ble_eq_true rfl) rfl ?_
         refine bw_push rfl ?_
         refine bw_istore (ls2 := [_, _, _, _, _, _]) rfl rfl (Nat.le_of_ble_eq_true rfl) rfl ?_
         have u0 : hq M (sI M 4 9 (k - 1)) (k - 1) := ⟨(sm_refl _ _).sI _ _ (Or.inl rfl), fun j _ _ j3 => gI_sI_nj j3, gI_sI_eq, by rw [gI_sI_nj (by decide)]; exact Int.le_refl _, by rw [gI_sI_nj (by decide)]; exact Int.le_refl _⟩
         have cr : CR (sI M 4 9 (k - 1)) fr h := CR_fr hC (gI_sI_ne (by decide)) (gI_sI_ne (by decide)) (gI_sI_nj (by decide)) (gI_sI_nj (by decide)) (gI_sI_nj (by decide))
         have es : hSw h f w = h := by unfold hSw; rw [if_neg (by omega)]
         refine L83 98 _ 1 _ u0 ?_ (by omega) (Int.le_refl _) (by omega)
         rw [es]
         by_cases q : gI M 4 7 < fr
         · exact Or.inl ⟨⟨by omega, by rw [gI_sI_nj (by decide)]; exact (ci.2.2 q).2⟩, cr⟩
         · exact Or.inr ⟨by rw [gI_sI_nj (by decide)]; omega, cr⟩
       · skip
         refine bw_aload rfl rfl ?_
         refine bw_getI rfl rfl ?_
         rw [gI_sI_nj (show (6 : Int) ≠ 9 by decide)]
         refine bw_push rfl ?_
         refine bw_isub rfl ⟨by omega, by omega⟩ ?_
         refine bw_istore (ls2 := [_, _, _, _, _, _]) rfl rfl (Nat.le_of_ble_eq_true rfl) rfl ?_
         have u0 : hq M (sI M 4 9 (k - 1)) (k - 1) := ⟨(sm_refl _ _).sI _ _ (Or.inl rfl), fun j _ _ j3 => gI_sI_nj j3, gI_sI_eq, by rw [gI_sI_nj (by decide)]; exact Int.le_refl _, by rw [gI_sI_nj (by decide)]; exact Int.le_refl _⟩
         have cr : CR (sI M 4 9 (k - 1)) fr h := CR_fr hC (gI_sI_ne (by decide)) (gI_sI_ne (by decide)) (gI_sI_nj (by decide)) (gI_sI_nj (by decide)) (gI_sI_nj (by decide))
         refine L48 ((gI M 4 6 - 2 + 10).toNat + 1) _ _ u0 ?_ (by omega) (by omega) (by omega)
         by_cases q : gI M 4 7 < fr
         · have q2 := (ci.2.2 q).2
           exact Or.inl ⟨⟨q, by omega⟩, by rw [show (h.1 - 2 - (gI M 4 6 - 2)).toNat = 0 by omega]; exact cr, by omega, by omega⟩
         · exact Or.inr ⟨by omega, cr⟩)
  · first
    | (exfalso; omega)
    | (refine bw_retv rfl rfl ?_
       exfalso; omega)
