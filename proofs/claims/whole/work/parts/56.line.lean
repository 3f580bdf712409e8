/-- the class's holds: those that begin ahead of the last frame -/
abbrev CR (M : abMem) (fr : Int) (h : HH) : Prop := HV h ∧ (1 ≤ fr ∧ fr ≤ 96 ∧ gI M 4 4 = fr) ∧ (0 ≤ gI M 4 6 ∧ gI M 4 6 ≤ h.1) ∧ (∀ j : Int, 0 ≤ j → j < gI M 4 6 → gI M 5 j = h.2.1 j ∧ gI M 6 j = h.2.2 j) ∧ gI M 4 7 = tS h (gI M 4 6) ∧ (gI M 4 6 = h.1 ∨ fr ≤ gI M 4 7) ∧ (1 ≤ gI M 4 6 → tS h (gI M 4 6 - 1) < fr)
theorem tS_le {h g : HH} (l : hLe h g) {i : Int} (h0 : 0 ≤ i) (h1 : i ≤ h.1) : tS g i = tS h i := by
  unfold tS
  exact sN_congr _ (fun j j1 j2 => (l.2 j j1 (by omega)).2)
theorem CR_in {M : abMem} {fr : Int} {h : HH} (c : CR M fr h) : gI M 4 6 ≤ 96 ∧ (gI M 4 6 ≤ gI M 4 7 ∧ gI M 4 7 ≤ 191) ∧ (gI M 4 7 < fr → gI M 4 6 ≤ 95 ∧ gI M 4 6 = h.1) := by
  obtain ⟨c1, c2, c3, c4, c5, c6, c7⟩ := c
  have t := tS_ge c1 c3.1 c3.2
  by_cases q : 1 ≤ gI M 4 6
  · have t2 := tS_ge c1 (i := gI M 4 6 - 1) (by omega) (by omega)
    have e := tS_s h (i := gI M 4 6 - 1) (by omega)
    rw [show gI M 4 6 - 1 + 1 = gI M 4 6 by omega] at e
    have x := (c1.2 (gI M 4 6 - 1) (by omega) (by omega)).2
    have := c7 q
    omega
  · have : gI M 4 6 = 0 := by omega
    rw [this] at c5
    rw [tS_0] at c5
    omega
theorem CR_ext {M : abMem} {fr : Int} {h g : HH} (c : CR M fr h) (l : hLe h g) (hg : HV g) (hf : fr ≤ gI M 4 7) : CR M fr g := by
  obtain ⟨c1, c2, c3, c4, c5, c6, c7⟩ := c
  have l1 := l.1
  refine ⟨hg, c2, by omega, fun j j1 j2 => ?_, by rw [tS_le l c3.1 c3.2]; exact c5, Or.inr hf, fun q => by rw [tS_le l (by omega) (by omega)]; exact c7 q⟩
  have x := c4 j j1 j2
  have y := l.2 j j1 (by omega)
  exact ⟨x.1.trans y.1.symm, x.2.trans y.2.symm⟩
theorem CR_fr {M N : abMem} {fr : Int} {h : HH} (c : CR M fr h) (h5 : gI N 5 = gI M 5) (h6 : gI N 6 = gI M 6) (e4 : gI N 4 4 = gI M 4 4) (e6 : gI N 4 6 = gI M 4 6) (e7 : gI N 4 7 = gI M 4 7) : CR N fr h := by
  unfold CR
  rw [h5, h6, e4, e6, e7]
  exact c
theorem CR_add {M : abMem} {fr v m : Int} {h : HH} (c : CR M fr h) (hf : gI M 4 7 < fr) (hv : 0 ≤ v ∧ v ≤ 99) (hm : 1 ≤ m ∧ m ≤ 96) : CR (sI (sI (sI (sI M 5 (gI M 4 6) v) 6 (gI M 4 6) m) 4 6 (gI M 4 6 + 1)) 4 7 (gI M 4 7 + m)) fr (hAdd h v m) := by
  have ci := CR_in c
  obtain ⟨c1, c2, c3, c4, c5, c6, c7⟩ := c
  have e0 := (ci.2.2 hf).2
  have e5 : ∀ j : Int, gI (sI (sI (sI (sI M 5 (gI M 4 6) v) 6 (gI M 4 6) m) 4 6 (gI M 4 6 + 1)) 4 7 (gI M 4 7 + m)) 5 j = if j = gI M 4 6 then v else gI M 5 j := fun j => by
    rw [gI_sI_ne (show 5 ≠ 4 by decide), gI_sI_ne (show 5 ≠ 4 by decide), gI_sI_ne (show 5 ≠ 6 by decide), gI_sI]
    by_cases q : j = gI M 4 6
    · rw [if_pos ⟨rfl, q⟩, if_pos q]
    · rw [if_neg (fun k => q k.2), if_neg q]
  have e6 : ∀ j : Int, gI (sI (sI (sI (sI M 5 (gI M 4 6) v) 6 (gI M 4 6) m) 4 6 (gI M 4 6 + 1)) 4 7 (gI M 4 7 + m)) 6 j = if j = gI M 4 6 then m else gI M 6 j := fun j => by
    rw [gI_sI_ne (show 6 ≠ 4 by decide), gI_sI_ne (show 6 ≠ 4 by decide), gI_sI]
    by_cases q : j = gI M 4 6
    · rw [if_pos ⟨rfl, q⟩, if_pos q]
    · rw [if_neg (fun k => q k.2), if_neg q, gI_sI_ne (show 6 ≠ 5 by decide)]
  have x4 : gI (sI (sI (sI (sI M 5 (gI M 4 6) v) 6 (gI M 4 6) m) 4 6 (gI M 4 6 + 1)) 4 7 (gI M 4 7 + m)) 4 4 = gI M 4 4 := by rw [gI_sI_nj (by decide), gI_sI_nj (by decide), gI_sI_ne (by decide), gI_sI_ne (by decide)]
  have x6 : gI (sI (sI (sI (sI M 5 (gI M 4 6) v) 6 (gI M 4 6) m) 4 6 (gI M 4 6 + 1)) 4 7 (gI M 4 7 + m)) 4 6 = gI M 4 6 + 1 := by rw [gI_sI_nj (by decide), gI_sI_eq]
  have x7 : gI (sI (sI (sI (sI M 5 (gI M 4 6) v) 6 (gI M 4 6) m) 4 6 (gI M 4 6 + 1)) 4 7 (gI M 4 7 + m)) 4 7 = gI M 4 7 + m := by rw [gI_sI_eq]
  have l := hLe_add h v m
  refine ⟨HV_add c1 hv hm, by rw [x4]; exact c2, by rw [x6]; show 0 ≤ gI M 4 6 + 1 ∧ gI M 4 6 + 1 ≤ h.1 + 1; omega, fun j j1 j2 => ?_, ?_, Or.inl (by rw [x6]; show gI M 4 6 + 1 = h.1 + 1; omega), fun _ => ?_⟩
  · rw [x6] at j2
    rw [e5, e6]
    show _ = up h.2.1 h.1 v j ∧ _ = up h.2.2 h.1 m j
    by_cases q : j = gI M 4 6
    · rw [if_pos q, if_pos q, up_eq (by omega), up_eq (by omega)]; exact ⟨rfl, rfl⟩
    · rw [if_neg q, if_neg q, up_ne (by omega), up_ne (by omega)]; exact c4 j j1 (by omega)
  · rw [x6, x7, tS_s _ (by omega), tS_le l c3.1 c3.2, c5]
    congr 1
    show m = up h.2.2 h.1 m (gI M 4 6)
    rw [up_eq (by omega)]
  · rw [x6, show gI M 4 6 + 1 - 1 = gI M 4 6 by omega, tS_le l c3.1 c3.2, ← c5]
    exact hf
abbrev pLn (a : Nat) : Prop := a = 4 ∨ a = 5 ∨ a = 6
theorem pLn_no {a : Nat} (h : a ≠ 4 ∧ a ≠ 5 ∧ a ≠ 6) : ¬ pLn a := fun k => k.elim h.1 (fun k => k.elim h.2.1 h.2.2)
/-- nothing but holds has changed -/
def hs (M N : abMem) : Prop := sm pLn M N ∧ (∀ j : Int, j ≠ 6 → j ≠ 7 → gI N 4 j = gI M 4 j) ∧ gI M 4 6 ≤ gI N 4 6 ∧ gI M 4 7 ≤ gI N 4 7
theorem hs_refl (M : abMem) : hs M M := ⟨sm_refl _ _, fun _ _ _ => rfl, Int.le_refl _, Int.le_refl _⟩
theorem hs.trans {M N K : abMem} (h : hs M N) (k : hs N K) : hs M K := ⟨h.1.trans k.1, fun j j1 j2 => (k.2.1 j j1 j2).trans (h.2.1 j j1 j2), Int.le_trans h.2.2.1 k.2.2.1, Int.le_trans h.2.2.2 k.2.2.2⟩
/-- a hold was added, or the frames are full -/
def adQ (M : abMem) (fr : Int) (h : HH) (v m : Int) (N : abMem) : Prop := (gI M 4 7 < fr ∧ hs M N ∧ CR N fr (hAdd h v m)) ∨ (fr ≤ gI M 4 7 ∧ N = M)
theorem adQ.hs {M N : abMem} {fr v m : Int} {h : HH} (k : adQ M fr h v m N) : hs M N := k.elim (fun k => k.2.1) (fun k => by rw [k.2]; exact hs_refl _)
/-- the memory behind add -/
def adN (M : abMem) (fr v m : Int) (N : abMem) : Prop := (gI M 4 7 < fr ∧ N = sI (sI (sI (sI M 5 (gI M 4 6) v) 6 (gI M 4 6) m) 4 6 (gI M 4 6 + 1)) 4 7 (gI M 4 7 + m)) ∨ (fr ≤ gI M 4 7 ∧ N = M)
theorem adN.Q {M N : abMem} {fr v m : Int} {h : HH} (k : adN M fr v m N) (c : CR M fr h) (hv : 0 ≤ v ∧ v ≤ 99) (hm : 1 ≤ m ∧ m ≤ 96) : adQ M fr h v m N := by
  rcases k with ⟨k1, k2⟩ | ⟨k1, k2⟩
  · rw [k2]
    exact Or.inl ⟨k1, ⟨((((sm_refl pLn _).sI _ _ (Or.inr (Or.inl rfl))).sI _ _ (Or.inr (Or.inr rfl))).sI _ _ (Or.inl rfl)).sI _ _ (Or.inl rfl), fun j j1 j2 => by rw [gI_sI_nj j2, gI_sI_nj j1, gI_sI_ne (by decide), gI_sI_ne (by decide)], by rw [gI_sI_nj (by decide), gI_sI_eq]; omega, by rw [gI_sI_eq]; omega⟩, CR_add c k1 hv hm⟩
  · exact Or.inr ⟨k1, k2⟩
theorem adN.sat {M N : abMem} {fr v m : Int} (k : adN M fr v m N) (h : fr ≤ gI M 4 7) : N = M := k.elim (fun k => by omega) (fun k => k.2)
theorem adQ.CR {M N : abMem} {fr v m : Int} {h : HH} (k : adQ M fr h v m N) (c : CR M fr h) (hv : 0 ≤ v ∧ v ≤ 99) (hm : 1 ≤ m ∧ m ≤ 96) : CR N fr (hAdd h v m) := k.elim (fun k => k.2.2) (fun k => by rw [k.2]; exact CR_ext c (hLe_add _ _ _) (HV_add c.1 hv hm) k.1)
set_option maxRecDepth 20000 in
set_option maxHeartbeats 4000000 in
theorem c_add {d L : Nat} {M : abMem} {r : abRf} (hR : RF r M) {fr : Int} (hC : ∃ h : HH, CR M fr h) {v m : Int} (hv : 0 ≤ v ∧ v ≤ 99) (hm : 1 ≤ m ∧ m ≤ 96) : abW d (0, 0) 20 0 (abEnt (abL 20) [vr (some 4), vi v, vi m]) [] (0, 0) (A0 L) M (qV (A0 L) (fun N => adN M fr v m N)) := by
  obtain ⟨h, hC⟩ := hC
  have ci := CR_in hC
  have c1 := hC.2.1
  have c2 := hC.2.2.1
  show abW d (0, 0) 20 0 [some (vr (some 4)), some (vi v), some (vi m)] [] (0, 0) (A0 L) M (qV (A0 L) (fun N => adN M fr v m N))
  refine bw_aload rfl rfl ?_
  refine bw_getI rfl rfl ?_
  refine bw_aload rfl rfl ?_
  refine bw_getI rfl rfl ?_
  refine bw_icge rfl (fun c8 => ?_) (fun c8 => ?_)
  · skip
    refine bw_retv rfl rfl ?_
    first
    | exact ⟨rfl, rfl, Or.inr ⟨by omega, rfl⟩⟩
    | exact ⟨rfl, rfl, Or.inl ⟨by omega, rfl⟩⟩
  · skip
    refine bw_aload rfl rfl ?_
    refine bw_getI rfl rfl ?_
    refine bw_push rfl ?_
    refine bw_icge rfl (fun c17 => ?_) (fun c17 => ?_)
    · first
      | (exfalso; omega)
      | (refine bw_retv rfl rfl ?_
         first
         | exact ⟨rfl, rfl, Or.inr ⟨by omega, rfl⟩⟩
         | exact ⟨rfl, rfl, Or.inl ⟨by omega, rfl⟩⟩)
    · first
      | (exfalso; omega)
      | (refine bw_aload rfl rfl ?_
         refine bw_getr rfl rfl (hR _ _) ?_
         refine bw_aload rfl rfl ?_
         refine bw_getI rfl rfl ?_
         refine bw_iload rfl rfl ?_
         refine bw_asti rfl (by first | rfl | assumption) (by omega) (by omega) ?_
         refine bw_aload rfl rfl ?_
         refine bw_getr rfl rfl (hR _ _) ?_
         refine bw_aload rfl rfl ?_
         refine bw_getI rfl rfl ?_
         rw [gI_sI_ne (show 4 ≠ 5 by decide)]
         refine bw_iload rfl rfl ?_
         refine bw_asti rfl (by first | rfl | assumption) (by omega) (by omega) ?_
         refine bw_aload rfl rfl ?_
         first | refine bw_dup rfl ?_ | refine bw_dupi rfl ?_
         refine bw_getI rfl rfl ?_
         rw [gI_sI_ne (show 4 ≠ 6 by decide), gI_sI_ne (show 4 ≠ 5 by decide)]
         refine bw_push rfl ?_
         refine bw_iadd rfl ⟨by omega, by omega⟩ ?_
         refine bw_putI rfl rfl ?_
         refine bw_aload rfl rfl ?_
         first | refine bw_dup rfl ?_ | refine bw_dupi rfl ?_
         refine bw_getI rfl rfl ?_
         rw [gI_sI_nj (show (7 : Int) ≠ 6 by decide), gI_sI_ne (show 4 ≠ 6 by decide), gI_sI_ne (show 4 ≠ 5 by decide)]
         refine bw_iload rfl rfl ?_
         refine bw_iadd rfl ⟨by omega, by omega⟩ ?_
         refine bw_putI rfl rfl ?_
         refine bw_retv rfl rfl ?_
         first
         | exact ⟨rfl, rfl, Or.inr ⟨by omega, rfl⟩⟩
         | exact ⟨rfl, rfl, Or.inl ⟨by omega, rfl⟩⟩)
set_option maxRecDepth 20000 in
set_option maxHeartbeats 4000000 in
theorem c_addRun {d L : Nat} {M : abMem} {r : abRf} (hR : RF r M) {fr : Int} {h : HH} (hC : CR M fr h) {v w m : Int} (hv : 0 ≤ v ∧ v ≤ 99) (hw : 0 ≤ w ∧ w ≤ 99) (hm : 1 ≤ m ∧ m ≤ 96) (hd : 1 ≤ d) : abW d (0, 0) 21 0 (abEnt (abL 21) [vr (some 4), vi v, vi w, vi m]) [] (0, 0) (A0 L) M (qV (A0 L) (fun N => sm pLn M N ∧ (∀ j : Int, j ≠ 6 → j ≠ 7 → j ≠ 10 → gI N 4 j = gI M 4 j) ∧ gI N 4 10 = 1 ∧ CR N fr (hRunTo h v w m) ∧ gI M 4 6 ≤ gI N 4 6 ∧ gI M 4 7 ≤ gI N 4 7)) := by
  have ci := CR_in hC
  have c1 := hC.2.1
  have c2 := hC.2.2.1
  have hRM := hR
  have ab := ab1_c (w - v)
  have L15 : ∀ (kf : Nat) (N : abMem) (k s : Int), (hs M N) → (CR N fr (hRun h v s m k.toNat)) → (0 ≤ k ∧ k ≤ ab1 (w - v) + 1) → ((w < v ∧ s = -1) ∨ (¬ w < v ∧ s = 1)) → ((200 - k).toNat) < kf → abW d (0, 0) 21 15 [some (vr (some 4)), some (vi v), some (vi w), some (vi m), some (vi s), some (vi k)] [] (0, 0) (A0 L) (N) (qV (A0 L) (fun N => sm pLn M N ∧ (∀ j : Int, j ≠ 6 → j ≠ 7 → j ≠ 10 → gI N 4 j = gI M 4 j) ∧ gI N 4 10 = 1 ∧ CR N fr (hRunTo h v w m) ∧ gI M 4 6 ≤ gI N 4 6 ∧ gI M 4 7 ≤ gI N 4 7)) := by
    intro kf
    induction kf with
    | zero => intro N  k s  g1 g2 g3 g4 hm9; exact absurd hm9 (Nat.not_lt_zero _)
    | succ kf ih15 =>
      intro N  k s  g1 g2 g3 g4 hm15
      have ih := ih15
      have hR := g1.1.RF hRM
      refine bw_iload rfl rfl ?_
      refine bw_iload rfl rfl ?_
      refine bw_iload rfl rfl ?_
      refine bw_isub rfl ⟨by omega, by omega⟩ ?_
      refine bw_absa rfl (by omega) (Nat.le_of_ble_eq_true rfl) (by omega) (fun a20 => ?_)
      refine bw_icgt rfl (fun c23 => ?_) (fun c23 => ?_)
      · skip
        refine bw_aload rfl rfl ?_
        refine bw_push rfl ?_
        refine bw_putZ rfl rfl (by omega) ?_
        refine bw_retv rfl rfl ?_
        have ek : k = ab1 (w - v) + 1 := by omega
        have et : (if w < v then (-1 : Int) else 1) = s := by
          rcases g4 with q | q
          · rw [if_pos q.1, q.2]
          · rw [if_neg q.1, q.2]
        refine ⟨rfl, rfl, g1.1.sI 10 1 (Or.inl rfl), fun j j1 j2 j3 => by rw [gI_sI_nj j3]; exact g1.2.1 j j1 j2, by rw [gI_sI_eq], ?_, by rw [gI_sI_nj (by decide)]; exact g1.2.2.1, by rw [gI_sI_nj (by decide)]; exact g1.2.2.2⟩
        unfold hRunTo
        rw [et, ← ek]
        exact CR_fr g2 (gI_sI_ne (by decide)) (gI_sI_ne (by decide)) (gI_sI_nj (by decide)) (gI_sI_nj (by decide)) (gI_sI_nj (by decide))
      · skip
        refine bw_aload rfl rfl ?_
        refine bw_iload rfl rfl ?_
        refine bw_iload rfl rfl ?_
        refine bw_iload rfl rfl ?_
        have e32 : (s = -1 ∧ k * s = -k) ∨ (s = 1 ∧ k * s = k) := by
          rcases g4 with q | q
          · exact Or.inl ⟨q.2, by rw [q.2]; omega⟩
          · exact Or.inr ⟨q.2, by rw [q.2]; omega⟩
        refine bw_imul rfl ⟨by omega, by omega⟩ ?_
        refine bw_iadd rfl ⟨by omega, by omega⟩ ?_
        refine bw_iload rfl rfl ?_
        refine bw_callVv (e := d - 1) (as := [_, _]) rfl (by omega) rfl rfl (Nat.le_of_ble_eq_true rfl) (Nat.le_of_ble_eq_true rfl) rfl (c_add hR ⟨_, g2⟩ (by omega) (by omega)) (fun M35 hM35 => ?_)
        have hM35 := hM35.Q g2 (by omega) (by omega)
        refine bw_iinc (ls2 := [_, _, _, _, _, _]) rfl rfl rfl ⟨by omega, by omega⟩ rfl ?_
        refine bw_goto rfl ?_
        refine ih _ (k + 1) s (g1.trans hM35.hs) ?_ (by omega) g4 (by omega)
        rw [hRun_s (by omega)]
        exact hM35.CR g2 (by omega) (by omega)
  show abW d (0, 0) 21 0 [some (vr (some 4)), some (vi v), some (vi w), some (vi m), none, none] [] (0, 0) (A0 L) M (qV (A0 L) (fun N => sm pLn M N ∧ (∀ j : Int, j ≠ 6 → j ≠ 7 → j ≠ 10 → gI N 4 j = gI M 4 j) ∧ gI N 4 10 = 1 ∧ CR N fr (hRunTo h v w m) ∧ gI M 4 6 ≤ gI N 4 6 ∧ gI M 4 7 ≤ gI N 4 7))
  refine bw_iload rfl rfl ?_
  refine bw_iload rfl rfl ?_
  refine bw_icgt rfl (fun c2 => ?_) (fun c2 => ?_)
  · skip
    refine bw_push rfl ?_
    refine bw_istore (ls2 := [_, _, _, _, _, _]) rfl rfl (Nat.le_of_ble_eq_true rfl) rfl ?_
    refine bw_push rfl ?_
    refine bw_istore (ls2 := [_, _, _, _, _, _]) rfl rfl (Nat.le_of_ble_eq_true rfl) rfl ?_
    first
    | exact L15 201 M 0 1 (hs_refl _) hC (by omega) (by omega) (by omega)
    | exact L15 201 M 0 (-1) (hs_refl _) hC (by omega) (by omega) (by omega)
  · skip
    refine bw_push rfl ?_
    refine bw_goto rfl ?_
    refine bw_istore (ls2 := [_, _, _, _, _, _]) rfl rfl (Nat.le_of_ble_eq_true rfl) rfl ?_
    refine bw_push rfl ?_
    refine bw_istore (ls2 := [_, _, _, _, _, _]) rfl rfl (Nat.le_of_ble_eq_true rfl) rfl ?_
    first
    | exact L15 201 M 0 1 (hs_refl _) hC (by omega) (by omega) (by omega)
    | exact L15 201 M 0 (-1) (hs_refl _) hC (by omega) (by omega) (by omega)
