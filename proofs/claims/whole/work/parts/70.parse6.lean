abbrev pW (a : Nat) : Prop := a = 1 ∨ (3 ≤ a ∧ a ≤ 9)
theorem P_W (a : Nat) (h : pP a) : pW a := by unfold pW; rcases h with h | h <;> omega
theorem T_W (a : Nat) (h : pT a) : pW a := Or.inl h
theorem N_W (a : Nat) (h : pN9 a) : pW a := by unfold pW; rcases h with h | h <;> omega
theorem Ln_W (a : Nat) (h : pLn a) : pW a := by unfold pW; rcases h with h | h | h <;> omega
theorem Lo_W (a : Nat) (h : pLo a) : pW a := by unfold pW; rcases h with h | h | h <;> omega
theorem no_W {c : Nat} (h : 10 ≤ c) : ¬ pW c := fun k => by unfold pW at k; omega
theorem tm_y {a : Int → Int} {n u q : Int} (h : wo a n q = 19) : tmS a n u (.inr q) = nuS a n 1 96 (.inr (sk a n (we a n q))) := by unfold tmS; rw [tak_y h]; rfl
theorem tm_n {a : Int → Int} {n u q : Int} (h : wo a n q ≠ 19) : tmS a n u (.inr q) = (.inr q, u) := by unfold tmS; rw [tak_n h]; rfl
/-- the class's line is at s -/
def CL (M : abMem) (fr on : Int) (s : LnS) : Prop := (CR M fr (lsH s)) ∧ (gI M 4 5 = on) ∧ (gI M 4 8 = lsN s) ∧ (gI M 4 9 = lsK s) ∧ (gI M 4 10 = lsB s) ∧ (∀ j : Int, 0 ≤ j → j < lsK s → (0 ≤ gI M 7 j ∧ gI M 7 j ≤ gI M 4 6) ∧ (gI M 7 j = lsF s j ∨ fr ≤ gI M 4 7) ∧ gI M 8 j = lsW s j)
theorem CL.cr {M : abMem} {fr on : Int} {s : LnS} (h : CL M fr on s) : CR M fr (lsH s) := h.1
theorem CL.f5 {M : abMem} {fr on : Int} {s : LnS} (h : CL M fr on s) : gI M 4 5 = on := h.2.1
theorem CL.f8 {M : abMem} {fr on : Int} {s : LnS} (h : CL M fr on s) : gI M 4 8 = lsN s := h.2.2.1
theorem CL.f9 {M : abMem} {fr on : Int} {s : LnS} (h : CL M fr on s) : gI M 4 9 = lsK s := h.2.2.2.1
theorem CL.fb {M : abMem} {fr on : Int} {s : LnS} (h : CL M fr on s) : gI M 4 10 = lsB s := h.2.2.2.2.1
theorem CL.gr {M : abMem} {fr on : Int} {s : LnS} (h : CL M fr on s) : ∀ j : Int, 0 ≤ j → j < lsK s → (0 ≤ gI M 7 j ∧ gI M 7 j ≤ gI M 4 6) ∧ (gI M 7 j = lsF s j ∨ fr ≤ gI M 4 7) ∧ gI M 8 j = lsW s j := h.2.2.2.2.2
theorem CL_mk {M : abMem} {fr on : Int} {s : LnS} (c : CR M fr (lsH s)) (h5 : gI M 4 5 = on) (h8 : gI M 4 8 = lsN s) (h9 : gI M 4 9 = lsK s) (hb : gI M 4 10 = lsB s) (g : ∀ j : Int, 0 ≤ j → j < lsK s → (0 ≤ gI M 7 j ∧ gI M 7 j ≤ gI M 4 6) ∧ (gI M 7 j = lsF s j ∨ fr ≤ gI M 4 7) ∧ gI M 8 j = lsW s j) : CL M fr on s := And.intro c (And.intro h5 (And.intro h8 (And.intro h9 (And.intro hb g))))
theorem CL_sm {p : Nat → Prop} {M N : abMem} {fr on : Int} {s : LnS} (h : CL M fr on s) (g : sm p M N) (hp : ∀ c : Nat, 4 ≤ c → c ≤ 8 → ¬ p c) : CL N fr on s := by
  have e4 := g.at 4 (hp 4 (by decide) (by decide))
  have e7 := g.at 7 (hp 7 (by decide) (by decide))
  have e8 := g.at 8 (hp 8 (by decide) (by decide))
  refine CL_mk (CR_fr h.cr (g.at 5 (hp 5 (by decide) (by decide))) (g.at 6 (hp 6 (by decide) (by decide))) (by rw [e4]) (by rw [e4]) (by rw [e4])) (by rw [e4]; exact h.f5) (by rw [e4]; exact h.f8) (by rw [e4]; exact h.f9) (by rw [e4]; exact h.fb) (fun j j0 j1 => ?_)
  rw [e4, e7, e8]
  exact h.gr j j0 j1
theorem CL_p {M : abMem} {fr on p q : Int} {h : HH} {K : Int} {F W : Int → Int} {c b : Int} (g : CL M fr on (lsM p h K F W c b)) : CL M fr on (lsM q h K F W c b) := g
theorem CL_8 {M : abMem} {fr on : Int} {s : LnS} (h : CL M fr on s) : CL (sI M 4 8 (lsN s + 1)) fr on (lsM (lsP s) (lsH s) (lsK s) (lsF s) (lsW s) (lsN s + 1) (lsB s)) := by
  have k : ∀ j : Int, j ≠ 8 → gI (sI M 4 8 (lsN s + 1)) 4 j = gI M 4 j := fun j hj => gI_sI_nj hj
  refine CL_mk (CR_fr h.cr (gI_sI_ne (by decide)) (gI_sI_ne (by decide)) (k 4 (by decide)) (k 6 (by decide)) (k 7 (by decide))) ((k 5 (by decide)).trans h.f5) (by rw [gI_sI_eq]) ((k 9 (by decide)).trans h.f9) ((k 10 (by decide)).trans h.fb) (fun j j0 j1 => ?_)
  rw [k 6 (by decide), k 7 (by decide), gI_sI_ne (by decide), gI_sI_ne (by decide)]
  exact h.gr j j0 j1
theorem CL_0 {M : abMem} {fr on : Int} (h : 1 ≤ fr ∧ fr ≤ 96) (h4 : gI M 4 4 = fr) (h5 : gI M 4 5 = on) (h6 : gI M 4 6 = 0) (h7 : gI M 4 7 = 0) (h8 : gI M 4 8 = 0) (h9 : gI M 4 9 = 0) (hb : gI M 4 10 = 0) (p : Int) : CL M fr on (ls0 p) :=
  CL_mk ⟨⟨Int.le_refl _, fun j j0 j1 => by have j1 : j < 0 := j1; omega⟩, ⟨h.1, h.2, h4⟩, ⟨by omega, by rw [h6]; exact Int.le_refl _⟩, fun j j0 j1 => by omega, by rw [h6, h7]; rfl, Or.inl h6, fun k => by omega⟩ h5 h8 h9 hb (fun j j0 j1 => by have j1 : j < 0 := j1; omega)
set_option maxRecDepth 20000 in
set_option maxHeartbeats 4000000 in
theorem c_lstart {d L : Nat} {M : abMem} {r : abRf} (hR : RF r M) {fr on : Int} (hf : 1 ≤ fr ∧ fr ≤ 96) : abW d (0, 0) 19 0 (abEnt (abL 19) [vr (some 4), vi fr, vi on]) [] (0, 0) (A0 L) M (qV (A0 L) (fun N => sm (fun c => c = 4) M N ∧ ∀ p : Int, CL N fr on (ls0 p))) := by
  show abW d (0, 0) 19 0 [some (vr (some 4)), some (vi fr), some (vi on)] [] (0, 0) (A0 L) M (qV (A0 L) (fun N => sm (fun c => c = 4) M N ∧ ∀ p : Int, CL N fr on (ls0 p)))
  refine bw_aload rfl rfl ?_
  refine bw_iload rfl rfl ?_
  refine bw_putI rfl rfl ?_
  refine bw_aload rfl rfl ?_
  refine bw_iload rfl rfl ?_
  refine bw_putI rfl rfl ?_
  refine bw_aload rfl rfl ?_
  refine bw_push rfl ?_
  refine bw_putI rfl rfl ?_
  refine bw_aload rfl rfl ?_
  refine bw_push rfl ?_
  refine bw_putI rfl rfl ?_
  refine bw_aload rfl rfl ?_
  refine bw_push rfl ?_
  refine bw_putI rfl rfl ?_
  refine bw_aload rfl rfl ?_
  refine bw_push rfl ?_
  refine bw_putI rfl rfl ?_
  refine bw_aload rfl rfl ?_
  refine bw_push rfl ?_
  refine bw_putZ rfl rfl (by omega) ?_
  refine bw_retv rfl rfl ?_
  refine ⟨rfl, rfl, (((((((sm_refl (fun c => c = 4) M).sI 4 _ rfl).sI 5 _ rfl).sI 6 _ rfl).sI 7 _ rfl).sI 8 _ rfl).sI 9 _ rfl).sI 10 _ rfl, fun p => CL_0 hf ?_ ?_ ?_ ?_ ?_ ?_ ?_ p⟩
  all_goals (repeat (first | rw [gI_sI_eq] | rw [gI_sI_nj (by decide)]))
abbrev pNu (a : Nat) : Prop := a = 9
abbrev pL4 (a : Nat) : Prop := a = 4
theorem go_n {M N : abMem} {a : Int → Int} {n q : Int} (hT : TP M a n) (hA : TA M a n q) (e : N = M) : GO pT M a n q N := by
  rw [e]
  exact ⟨sq_refl _ _, hT, hA⟩
theorem st9 {M : abMem} {a : Int → Int} {n q fr on : Int} {s : LnS} {r : abRf} (j x : Int) (hR : RF r M) (hT : TP M a n) (hA : TA M a n q) (hL : CL M fr on s) : sm pNu M (sI M 9 j x) ∧ RF r (sI M 9 j x) ∧ TP (sI M 9 j x) a n ∧ TA (sI M 9 j x) a n q ∧ CL (sI M 9 j x) fr on s :=
  have u : sm pNu M (sI M 9 j x) := (sm_refl _ _).sI j x rfl
  ⟨u, hR, TP_s2 hT u (by decide) (by decide), TA_sm hA u (by decide), CL_sm hL u (fun c c0 c1 k => by have : c = 9 := k; omega)⟩
theorem st8 {M : abMem} {a : Int → Int} {n q fr on : Int} {s : LnS} {r : abRf} (hR : RF r M) (hT : TP M a n) (hA : TA M a n q) (hL : CL M fr on s) : sm pL4 M (sI M 4 8 (lsN s + 1)) ∧ RF r (sI M 4 8 (lsN s + 1)) ∧ TP (sI M 4 8 (lsN s + 1)) a n ∧ TA (sI M 4 8 (lsN s + 1)) a n q ∧ CL (sI M 4 8 (lsN s + 1)) fr on (lsM (lsP s) (lsH s) (lsK s) (lsF s) (lsW s) (lsN s + 1) (lsB s)) :=
  have u : sm pL4 M (sI M 4 8 (lsN s + 1)) := (sm_refl _ _).sI 8 _ rfl
  ⟨u, hR, TP_s2 hT u (by decide) (by decide), TA_sm hA u (by decide), CL_8 hL⟩
theorem st9n {M : abMem} {a : Int → Int} {n q fr on v : Int} {s : LnS} {r : abRf} (_ : gI M 9 0 = v) (hR : RF r M) (hT : TP M a n) (hA : TA M a n q) (hL : CL M fr on s) : sm pNu M (sI M 9 1 v) ∧ RF r (sI M 9 1 v) ∧ TP (sI M 9 1 v) a n ∧ TA (sI M 9 1 v) a n q ∧ CL (sI M 9 1 v) fr on s := st9 1 v hR hT hA hL
theorem tm_l {a : Int → Int} {n u : Int} {e : Int × Int} : (tmS a n u (.inl e)).1 = .inl e := by
  unfold tmS
  rw [if_neg (show ¬ (takS a n 19 (.inl e)).2 = 1 from fun k => by have : (0 : Int) = 1 := k; omega)]
  rfl
theorem a9_W (a : Nat) (h : pNu a) : pW a := by have : a = 9 := h; unfold pW; omega
theorem a4_W (a : Nat) (h : pL4 a) : pW a := by have : a = 4 := h; unfold pW; omega
theorem no_T4 {c : Nat} (h : 4 ≤ c) : ¬ pT c := fun k => by have : c = 1 := k; omega
theorem no_N4 {c : Nat} (h : 4 ≤ c) (h2 : c ≤ 8) : ¬ pN9 c := fun k => by rcases k with k | k <;> omega
theorem n9_w {M : abMem} {fr on j x : Int} {s : LnS} (_ : CL (sI M 9 j x) fr on s) : gI (sI M 9 j x) 9 j = x := by rw [gI_sI_eq]
theorem n9_k {M : abMem} {fr on i j x v : Int} {s : LnS} (_ : CL (sI M 9 j x) fr on s) (hj : i ≠ j) (h : gI M 9 i = v) : gI (sI M 9 j x) 9 i = v := (gI_sI_nj hj).trans h
set_option maxRecDepth 20000 in
set_option maxHeartbeats 4000000 in
theorem c_readHolds {d L : Nat} {M : abMem} {r : abRf} (hR : RF r M) {a : Int → Int} {n : Int} (hT : TP M a n) {fr on : Int} {s : LnS} (hL : CL M fr on s) (hA : TA M a n (lsP s)) (hV : LV a n s) (hon : 1 ≤ on ∧ on ≤ 24) (hw : (48 ≤ a (lsP s) ∧ a (lsP s) ≤ 57) ∨ wo a n (lsP s) = 17) (hd : 6 ≤ d) : abW d (0, 0) 44 0 (abEnt (abL 44) [vr (some 3)]) [] (0, 0) (A0 L) M (qI (A0 L) (fun x N => (∃ e : Int × Int, ptS a n on s = .inl e ∧ x = 0 ∧ FA pW M a n e N) ∨ (∃ (t : LnS) (w : Int), ptS a n on s = .inr (t, w) ∧ w ≠ 2 ∧ x = 1 ∧ GO pW M a n (lsP t) N ∧ CL N fr on t))) := by
  have hF := sq_refl pW M
  have hp : prP a n (lsP s) := by unfold prP; omega
  have v5 := hV.2.2.2.2.1
  have a1 := hA.1.1
  have dw : wo a n (lsP s) = 17 → ¬ (48 ≤ a (lsP s) ∧ a (lsP s) ≤ 57) := fun h => by
    have tc := tk_c hT.ok (p := lsP s) (by have := hA.2; omega)
    intro h2
    have : we a n (lsP s) = lsP s := by omega
    rw [show wo a n (lsP s) = -1 from ow_none (by omega)] at h
    omega
  have L123 : ∀ (kf : Nat) (N : abMem) (b dd q v w : Int), (sq pW M N) → (TP N a n) → (TA N a n q) → (CL N fr on (lsM (lsP s) (lsH s) (lsK s) (lsF s) (lsW s) (lsN s + 1) (lsB s))) → (gI N 9 0 = v ∧ gI N 9 1 = w ∧ (0 ≤ v ∧ v ≤ 99) ∧ (0 ≤ w ∧ w ≤ 99)) → (∀ q3 m : Int, tmS a n on (.inr q) = (.inr q3, m) → ptS a n on s = .inr (lsM q3 (hRunTo (lsH s) v w m) (lsK s) (lsF s) (lsW s) (lsN s + 1) 1, 1)) → (∀ e : Int × Int, (tmS a n on (.inr q)).1 = .inl e → ptS a n on s = .inl e) → ((0 : Nat)) < kf → abW d (0, 0) 44 123 [some (vr (some 3)), some (vi b), some (vi dd)] [] (0, 0) (A0 L) (N) (qI (A0 L) (fun x N => (∃ e : Int × Int, ptS a n on s = .inl e ∧ x = 0 ∧ FA pW M a n e N) ∨ (∃ (t : LnS) (w : Int), ptS a n on s = .inr (t, w) ∧ w ≠ 2 ∧ x = 1 ∧ GO pW M a n (lsP t) N ∧ CL N fr on t))) := by
    intro kf
    induction kf with
    | zero => intro N  b dd q v w  g1 g2 g3 g4 g5 g6 g7 hm9; exact absurd hm9 (Nat.not_lt_zero _)
    | succ kf ih123 =>
      intro N  b dd q v w  g1 g2 g3 g4 g5 g6 g7 hm123
      have ih := ih123
      have hF := g1
      have hR := g1.RF hR
      have hT := g2
      have hA := g3
      have hL := g4
      have n0 := g5.1
      have n1 := g5.2.1
      refine bw_aload rfl rfl ?_
      refine bw_getr rfl rfl (hR _ _) ?_
      refine bw_push rfl ?_
      refine bw_aload rfl rfl ?_
      refine bw_getr rfl rfl (hR _ _) ?_
      refine bw_getI rfl rfl ?_
      rw [hL.f5]
      refine bw_asti rfl (by first | rfl | assumption) (by omega) (by omega) ?_
      obtain ⟨u9, hR, hT, hA, hL⟩ := st9 2 (on) hR hT hA hL
      have hF := hF.trans ((sq_of u9 (by decide)).mono a9_W)
      have n0 := n9_k hL (show (0 : Int) ≠ 2 by decide) n0
      have n1 := n9_k hL (show (1 : Int) ≠ 2 by decide) n1
      have n2 := n9_w hL
      refine bw_aload rfl rfl ?_
      refine bw_getr rfl rfl (hR _ _) ?_
      refine bw_ldcs rfl ?_
      refine bw_callVNi (e := d - 1) (as := [_]) rfl (by omega) rfl rfl (Nat.le_of_ble_eq_true rfl) (Nat.le_of_ble_eq_true rfl) rfl (c_takeWord (i := 8) hR hT hA (by decide) (by omega)) (fun r142 M142 hM142 => ?_)
      rcases hM142 with ⟨h142, rfl, g142⟩ | ⟨h142, rfl, e142⟩
      · have h142 : wo a n q = 19 := h142
        have g142 := go_of g142
        have hF := hF.trans (g142.1.mono T_W)
        have hR := g142.1.RF hR
        have hL := CL_sm hL g142.1.1 (fun c c0 c1 => no_T4 c0)
        have n0 := (congrFun (g142.1.at 9 (by decide)) 0).trans n0
        have n1 := (congrFun (g142.1.at 9 (by decide)) 1).trans n1
        have n2 := (congrFun (g142.1.at 9 (by decide)) 2).trans n2
        have hT := g142.2.1
        have hA := g142.2.2
        refine bw_ifeq rfl (fun c145 => ?_) (fun c145 => ?_)
        · first
          | (exfalso; omega)
          | (refine bw_aload rfl rfl ?_
             refine bw_getr rfl rfl (hR _ _) ?_
             refine bw_aload rfl rfl ?_
             refine bw_getr rfl rfl (hR _ _) ?_
             refine bw_push rfl ?_
             refine bw_aldi rfl (by first | rfl | assumption) (by omega) (by omega) ?_
             rw [n0]
             refine bw_aload rfl rfl ?_
             refine bw_getr rfl rfl (hR _ _) ?_
             refine bw_push rfl ?_
             refine bw_aldi rfl (by first | rfl | assumption) (by omega) (by omega) ?_
             rw [n1]
             refine bw_aload rfl rfl ?_
             refine bw_getr rfl rfl (hR _ _) ?_
             refine bw_push rfl ?_
             refine bw_aldi rfl (by first | rfl | assumption) (by omega) (by omega) ?_
             rw [n2]
             refine bw_callVNv (e := d - 1) (as := [_, _, _]) rfl (by omega) rfl rfl (Nat.le_of_ble_eq_true rfl) (Nat.le_of_ble_eq_true rfl) rfl (c_addRun hR hL.cr (by omega) (by omega) m1 (by omega)) (fun M183 hM183 => ?_)
             refine bw_push rfl ?_
             refine bw_retz rfl rfl (by omega) ?_
             obtain ⟨u, k4, k10, kC, k6, k7⟩ := hM183
             have eC := g6 _ _ ht
             refine ⟨rfl, _, rfl, Or.inr ⟨_, _, eC, by decide, rfl, ⟨hF.trans ((sq_of u (by decide)).mono Ln_W), TP_s2 hT u (by decide) (by decide), TA_sm hA u (by decide)⟩, CL_mk kC ((k4 5 (by decide) (by decide) (by decide)).trans hL.f5) ((k4 8 (by decide) (by decide) (by decide)).trans hL.f8) ((k4 9 (by decide) (by decide) (by decide)).trans hL.f9) k10 (fun j j0 j1 => ?_)⟩⟩
             have gr := hL.gr j j0 j1
             rw [u.at 7 (by decide), u.at 8 (by decide)]
             refine ⟨⟨gr.1.1, by omega⟩, ?_, gr.2.2⟩
             rcases gr.2.1 with h | h
             · exact Or.inl h
             · exact Or.inr (by omega))
        · first
          | (exfalso; omega)
          | (refine bw_aload rfl rfl ?_
             refine bw_push rfl ?_
             refine bw_push rfl ?_
             refine bw_push rfl ?_
             refine bw_callVi (e := d - 1) (as := [_, _, _]) rfl (by omega) rfl rfl (Nat.le_of_ble_eq_true rfl) (Nat.le_of_ble_eq_true rfl) rfl (c_needNumber hR hT hA (by omega) (by omega)) (fun r153 M153 hM153 => ?_)
             rcases hM153 with ⟨e, h153, rfl, f153⟩ | ⟨q153, v153, h153, rfl, g153, b153, k153⟩
             · have hz : ptS a n on s = .inl e := by (exact g7 e (by rw [tm_y h142, h153]))
               have hX := FA.tr (s := pW) hF.1 f153 (fun _ k => k) P_W
               refine bw_ifne rfl (fun c156 => ?_) (fun c156 => ?_)
               · first
                 | (exfalso; omega)
                 | (refine bw_aload rfl rfl ?_
                    refine bw_getr rfl rfl (hR _ _) ?_
                    refine bw_aload rfl rfl ?_
                    refine bw_getr rfl rfl (hR _ _) ?_
                    refine bw_push rfl ?_
                    refine bw_aldi rfl (by first | rfl | assumption) (by omega) (by omega) ?_
                    rw [n0]
                    refine bw_aload rfl rfl ?_
                    refine bw_getr rfl rfl (hR _ _) ?_
                    refine bw_push rfl ?_
                    refine bw_aldi rfl (by first | rfl | assumption) (by omega) (by omega) ?_
                    rw [n1]
                    refine bw_aload rfl rfl ?_
                    refine bw_getr rfl rfl (hR _ _) ?_
                    refine bw_push rfl ?_
                    refine bw_aldi rfl (by first | rfl | assumption) (by omega) (by omega) ?_
                    rw [n2]
                    refine bw_callVNv (e := d - 1) (as := [_, _, _]) rfl (by omega) rfl rfl (Nat.le_of_ble_eq_true rfl) (Nat.le_of_ble_eq_true rfl) rfl (c_addRun hR hL.cr (by omega) (by omega) m1 (by omega)) (fun M183 hM183 => ?_)
                    refine bw_push rfl ?_
                    refine bw_retz rfl rfl (by omega) ?_
                    obtain ⟨u, k4, k10, kC, k6, k7⟩ := hM183
                    have eC := g6 _ _ ht
                    refine ⟨rfl, _, rfl, Or.inr ⟨_, _, eC, by decide, rfl, ⟨hF.trans ((sq_of u (by decide)).mono Ln_W), TP_s2 hT u (by decide) (by decide), TA_sm hA u (by decide)⟩, CL_mk kC ((k4 5 (by decide) (by decide) (by decide)).trans hL.f5) ((k4 8 (by decide) (by decide) (by decide)).trans hL.f8) ((k4 9 (by decide) (by decide) (by decide)).trans hL.f9) k10 (fun j j0 j1 => ?_)⟩⟩
                    have gr := hL.gr j j0 j1
                    rw [u.at 7 (by decide), u.at 8 (by decide)]
                    refine ⟨⟨gr.1.1, by omega⟩, ?_, gr.2.2⟩
                    rcases gr.2.1 with h | h
                    · exact Or.inl h
                    · exact Or.inr (by omega))
               · first
                 | (exfalso; omega)
                 | (refine bw_push rfl ?_
                    refine bw_retz rfl rfl (by omega) ?_
                    exact ⟨rfl, _, rfl, Or.inl ⟨e, hz, rfl, hX⟩⟩)
             · skip
               have hF := hF.trans (g153.1.mono N_W)
               have hR := g153.1.RF hR
               have hL := CL_sm hL g153.1.1 (fun c c0 c1 => no_N4 c0 c1)
               have n0 := ((congrFun k153 0).trans (up_ne (by decide))).trans n0
               have n1 := ((congrFun k153 1).trans (up_ne (by decide))).trans n1
               have n2 := (congrFun k153 2).trans (up_eq rfl)
               have hT := g153.2.1
               have hA := g153.2.2
               have ht := (tm_y (u := on) h142).trans h153
               have m1 := b153
               refine bw_ifne rfl (fun c156 => ?_) (fun c156 => ?_)
               · first
                 | (exfalso; omega)
                 | (refine bw_aload rfl rfl ?_
                    refine bw_getr rfl rfl (hR _ _) ?_
                    refine bw_aload rfl rfl ?_
                    refine bw_getr rfl rfl (hR _ _) ?_
                    refine bw_push rfl ?_
                    refine bw_aldi rfl (by first | rfl | assumption) (by omega) (by omega) ?_
                    rw [n0]
                    refine bw_aload rfl rfl ?_
                    refine bw_getr rfl rfl (hR _ _) ?_
                    refine bw_push rfl ?_
                    refine bw_aldi rfl (by first | rfl | assumption) (by omega) (by omega) ?_
                    rw [n1]
                    refine bw_aload rfl rfl ?_
                    refine bw_getr rfl rfl (hR _ _) ?_
                    refine bw_push rfl ?_
                    refine bw_aldi rfl (by first | rfl | assumption) (by omega) (by omega) ?_
                    rw [n2]
                    refine bw_callVNv (e := d - 1) (as := [_, _, _]) rfl (by omega) rfl rfl (Nat.le_of_ble_eq_true rfl) (Nat.le_of_ble_eq_true rfl) rfl (c_addRun hR hL.cr (by omega) (by omega) m1 (by omega)) (fun M183 hM183 => ?_)
                    refine bw_push rfl ?_
                    refine bw_retz rfl rfl (by omega) ?_
                    obtain ⟨u, k4, k10, kC, k6, k7⟩ := hM183
                    have eC := g6 _ _ ht
                    refine ⟨rfl, _, rfl, Or.inr ⟨_, _, eC, by decide, rfl, ⟨hF.trans ((sq_of u (by decide)).mono Ln_W), TP_s2 hT u (by decide) (by decide), TA_sm hA u (by decide)⟩, CL_mk kC ((k4 5 (by decide) (by decide) (by decide)).trans hL.f5) ((k4 8 (by decide) (by decide) (by decide)).trans hL.f8) ((k4 9 (by decide) (by decide) (by decide)).trans hL.f9) k10 (fun j j0 j1 => ?_)⟩⟩
                    have gr := hL.gr j j0 j1
                    rw [u.at 7 (by decide), u.at 8 (by decide)]
                    refine ⟨⟨gr.1.1, by omega⟩, ?_, gr.2.2⟩
                    rcases gr.2.1 with h | h
                    · exact Or.inl h
                    · exact Or.inr (by omega))
               · first
                 | (exfalso; omega)
                 | (refine bw_push rfl ?_
                    refine bw_retz rfl rfl (by omega) ?_
                    exact ⟨rfl, _, rfl, Or.inl ⟨e, hz, rfl, hX⟩⟩))
      · have h142 : wo a n q ≠ 19 := h142
        have g142 := go_n hT hA e142
        have hF := hF.trans (g142.1.mono T_W)
        have hR := g142.1.RF hR
        have hL := CL_sm hL g142.1.1 (fun c c0 c1 => no_T4 c0)
        have n0 := (congrFun (g142.1.at 9 (by decide)) 0).trans n0
        have n1 := (congrFun (g142.1.at 9 (by decide)) 1).trans n1
        have n2 := (congrFun (g142.1.at 9 (by decide)) 2).trans n2
        have hT := g142.2.1
        have hA := g142.2.2
        have ht := tm_n (u := on) h142
        have m1 : 1 ≤ on ∧ on ≤ 96 := by omega
        refine bw_ifeq rfl (fun c145 => ?_) (fun c145 => ?_)
        · first
          | (exfalso; omega)
          | (refine bw_aload rfl rfl ?_
             refine bw_getr rfl rfl (hR _ _) ?_
             refine bw_aload rfl rfl ?_
             refine bw_getr rfl rfl (hR _ _) ?_
             refine bw_push rfl ?_
             refine bw_aldi rfl (by first | rfl | assumption) (by omega) (by omega) ?_
             rw [n0]
             refine bw_aload rfl rfl ?_
             refine bw_getr rfl rfl (hR _ _) ?_
             refine bw_push rfl ?_
             refine bw_aldi rfl (by first | rfl | assumption) (by omega) (by omega) ?_
             rw [n1]
             refine bw_aload rfl rfl ?_
             refine bw_getr rfl rfl (hR _ _) ?_
             refine bw_push rfl ?_
             refine bw_aldi rfl (by first | rfl | assumption) (by omega) (by omega) ?_
             rw [n2]
             refine bw_callVNv (e := d - 1) (as := [_, _, _]) rfl (by omega) rfl rfl (Nat.le_of_ble_eq_true rfl) (Nat.le_of_ble_eq_true rfl) rfl (c_addRun hR hL.cr (by omega) (by omega) m1 (by omega)) (fun M183 hM183 => ?_)
             refine bw_push rfl ?_
             refine bw_retz rfl rfl (by omega) ?_
             obtain ⟨u, k4, k10, kC, k6, k7⟩ := hM183
             have eC := g6 _ _ ht
             refine ⟨rfl, _, rfl, Or.inr ⟨_, _, eC, by decide, rfl, ⟨hF.trans ((sq_of u (by decide)).mono Ln_W), TP_s2 hT u (by decide) (by decide), TA_sm hA u (by decide)⟩, CL_mk kC ((k4 5 (by decide) (by decide) (by decide)).trans hL.f5) ((k4 8 (by decide) (by decide) (by decide)).trans hL.f8) ((k4 9 (by decide) (by decide) (by decide)).trans hL.f9) k10 (fun j j0 j1 => ?_)⟩⟩
             have gr := hL.gr j j0 j1
             rw [u.at 7 (by decide), u.at 8 (by decide)]
             refine ⟨⟨gr.1.1, by omega⟩, ?_, gr.2.2⟩
             rcases gr.2.1 with h | h
             · exact Or.inl h
             · exact Or.inr (by omega))
        · first
          | (exfalso; omega)
          | (refine bw_aload rfl rfl ?_
             refine bw_push rfl ?_
             refine bw_push rfl ?_
             refine bw_push rfl ?_
             refine bw_callVi (e := d - 1) (as := [_, _, _]) rfl (by omega) rfl rfl (Nat.le_of_ble_eq_true rfl) (Nat.le_of_ble_eq_true rfl) rfl (c_needNumber hR hT hA (by omega) (by omega)) (fun r153 M153 hM153 => ?_)
             rcases hM153 with ⟨e, h153, rfl, f153⟩ | ⟨q153, v153, h153, rfl, g153, b153, k153⟩
             · have hz : ptS a n on s = .inl e := by (exact g7 e (by rw [tm_y h142, h153]))
               have hX := FA.tr (s := pW) hF.1 f153 (fun _ k => k) P_W
               refine bw_ifne rfl (fun c156 => ?_) (fun c156 => ?_)
               · first
                 | (exfalso; omega)
                 | (refine bw_aload rfl rfl ?_
                    refine bw_getr rfl rfl (hR _ _) ?_
                    refine bw_aload rfl rfl ?_
                    refine bw_getr rfl rfl (hR _ _) ?_
                    refine bw_push rfl ?_
                    refine bw_aldi rfl (by first | rfl | assumption) (by omega) (by omega) ?_
                    rw [n0]
                    refine bw_aload rfl rfl ?_
                    refine bw_getr rfl rfl (hR _ _) ?_
                    refine bw_push rfl ?_
                    refine bw_aldi rfl (by first | rfl | assumption) (by omega) (by omega) ?_
                    rw [n1]
                    refine bw_aload rfl rfl ?_
                    refine bw_getr rfl rfl (hR _ _) ?_
                    refine bw_push rfl ?_
                    refine bw_aldi rfl (by first | rfl | assumption) (by omega) (by omega) ?_
                    rw [n2]
                    refine bw_callVNv (e := d - 1) (as := [_, _, _]) rfl (by omega) rfl rfl (Nat.le_of_ble_eq_true rfl) (Nat.le_of_ble_eq_true rfl) rfl (c_addRun hR hL.cr (by omega) (by omega) m1 (by omega)) (fun M183 hM183 => ?_)
                    refine bw_push rfl ?_
                    refine bw_retz rfl rfl (by omega) ?_
                    obtain ⟨u, k4, k10, kC, k6, k7⟩ := hM183
                    have eC := g6 _ _ ht
                    refine ⟨rfl, _, rfl, Or.inr ⟨_, _, eC, by decide, rfl, ⟨hF.trans ((sq_of u (by decide)).mono Ln_W), TP_s2 hT u (by decide) (by decide), TA_sm hA u (by decide)⟩, CL_mk kC ((k4 5 (by decide) (by decide) (by decide)).trans hL.f5) ((k4 8 (by decide) (by decide) (by decide)).trans hL.f8) ((k4 9 (by decide) (by decide) (by decide)).trans hL.f9) k10 (fun j j0 j1 => ?_)⟩⟩
                    have gr := hL.gr j j0 j1
                    rw [u.at 7 (by decide), u.at 8 (by decide)]
                    refine ⟨⟨gr.1.1, by omega⟩, ?_, gr.2.2⟩
                    rcases gr.2.1 with h | h
                    · exact Or.inl h
                    · exact Or.inr (by omega))
               · first
                 | (exfalso; omega)
                 | (refine bw_push rfl ?_
                    refine bw_retz rfl rfl (by omega) ?_
                    exact ⟨rfl, _, rfl, Or.inl ⟨e, hz, rfl, hX⟩⟩)
             · skip
               have hF := hF.trans (g153.1.mono N_W)
               have hR := g153.1.RF hR
               have hL := CL_sm hL g153.1.1 (fun c c0 c1 => no_N4 c0 c1)
               have n0 := ((congrFun k153 0).trans (up_ne (by decide))).trans n0
               have n1 := ((congrFun k153 1).trans (up_ne (by decide))).trans n1
               have n2 := (congrFun k153 2).trans (up_eq rfl)
               have hT := g153.2.1
               have hA := g153.2.2
               have ht := (tm_y (u := on) h142).trans h153
               have m1 := b153
               refine bw_ifne rfl (fun c156 => ?_) (fun c156 => ?_)
               · first
                 | (exfalso; omega)
                 | (refine bw_aload rfl rfl ?_
                    refine bw_getr rfl rfl (hR _ _) ?_
                    refine bw_aload rfl rfl ?_
                    refine bw_getr rfl rfl (hR _ _) ?_
                    refine bw_push rfl ?_
                    refine bw_aldi rfl (by first | rfl | assumption) (by omega) (by omega) ?_
                    rw [n0]
                    refine bw_aload rfl rfl ?_
                    refine bw_getr rfl rfl (hR _ _) ?_
                    refine bw_push rfl ?_
                    refine bw_aldi rfl (by first | rfl | assumption) (by omega) (by omega) ?_
                    rw [n1]
                    refine bw_aload rfl rfl ?_
                    refine bw_getr rfl rfl (hR _ _) ?_
                    refine bw_push rfl ?_
                    refine bw_aldi rfl (by first | rfl | assumption) (by omega) (by omega) ?_
                    rw [n2]
                    refine bw_callVNv (e := d - 1) (as := [_, _, _]) rfl (by omega) rfl rfl (Nat.le_of_ble_eq_true rfl) (Nat.le_of_ble_eq_true rfl) rfl (c_addRun hR hL.cr (by omega) (by omega) m1 (by omega)) (fun M183 hM183 => ?_)
                    refine bw_push rfl ?_
                    refine bw_retz rfl rfl (by omega) ?_
                    obtain ⟨u, k4, k10, kC, k6, k7⟩ := hM183
                    have eC := g6 _ _ ht
                    refine ⟨rfl, _, rfl, Or.inr ⟨_, _, eC, by decide, rfl, ⟨hF.trans ((sq_of u (by decide)).mono Ln_W), TP_s2 hT u (by decide) (by decide), TA_sm hA u (by decide)⟩, CL_mk kC ((k4 5 (by decide) (by decide) (by decide)).trans hL.f5) ((k4 8 (by decide) (by decide) (by decide)).trans hL.f8) ((k4 9 (by decide) (by decide) (by decide)).trans hL.f9) k10 (fun j j0 j1 => ?_)⟩⟩
                    have gr := hL.gr j j0 j1
                    rw [u.at 7 (by decide), u.at 8 (by decide)]
                    refine ⟨⟨gr.1.1, by omega⟩, ?_, gr.2.2⟩
                    rcases gr.2.1 with h | h
                    · exact Or.inl h
                    · exact Or.inr (by omega))
               · first
                 | (exfalso; omega)
                 | (refine bw_push rfl ?_
                    refine bw_retz rfl rfl (by omega) ?_
                    exact ⟨rfl, _, rfl, Or.inl ⟨e, hz, rfl, hX⟩⟩))
  show abW d (0, 0) 44 0 [some (vr (some 3)), none, none] [] (0, 0) (A0 L) M (qI (A0 L) (fun x N => (∃ e : Int × Int, ptS a n on s = .inl e ∧ x = 0 ∧ FA pW M a n e N) ∨ (∃ (t : LnS) (w : Int), ptS a n on s = .inr (t, w) ∧ w ≠ 2 ∧ x = 1 ∧ GO pW M a n (lsP t) N ∧ CL N fr on t)))
  refine bw_aload rfl rfl ?_
  refine bw_getr rfl rfl (hR _ _) ?_
  refine bw_getI rfl rfl ?_
  refine bw_istore (ls2 := [_, _, _]) rfl rfl (Nat.le_of_ble_eq_true rfl) rfl ?_
  refine bw_aload rfl rfl ?_
  refine bw_getr rfl rfl (hR _ _) ?_
  refine bw_ldcs rfl ?_
  refine bw_callVNi (e := d - 1) (as := [_]) rfl (by omega) rfl rfl (Nat.le_of_ble_eq_true rfl) (Nat.le_of_ble_eq_true rfl) rfl (c_takeWord (i := 7) hR hT hA (by decide) (by omega)) (fun r14 M14 hM14 => ?_)
  rcases hM14 with ⟨h14, rfl, g14⟩ | ⟨h14, rfl, e14⟩
  · have h14 : wo a n (lsP s) = 17 := h14
    have g14 := go_of g14
    have hF := hF.trans (g14.1.mono T_W)
    have hR := g14.1.RF hR
    have hL := CL_sm hL g14.1.1 (fun c c0 c1 => no_T4 c0)
    have hT := g14.2.1
    have hA := g14.2.2
    refine bw_ifne rfl (fun c17 => ?_) (fun c17 => ?_)
    · first
      | (exfalso; omega)
      | (refine bw_push rfl ?_
         refine bw_istore (ls2 := [_, _, _]) rfl rfl (Nat.le_of_ble_eq_true rfl) rfl ?_
         refine bw_aload rfl rfl ?_
         refine bw_getr rfl rfl (hR _ _) ?_
         refine bw_push rfl ?_
         refine bw_push rfl ?_
         refine bw_asti rfl (by first | rfl | assumption) (by omega) (by omega) ?_
         obtain ⟨u9, hR, hT, hA, hL⟩ := st9 0 (0) hR hT hA hL
         have hF := hF.trans ((sq_of u9 (by decide)).mono a9_W)
         have n0 := n9_w hL
         refine bw_iload rfl rfl ?_
         refine bw_ifeq rfl (fun c34 => ?_) (fun c34 => ?_)
         · first
           | (exfalso; omega)
           | (refine bw_aload rfl rfl ?_
              refine bw_getr rfl rfl (hR _ _) ?_
              refine bw_getI rfl rfl ?_
              rw [hL.f8]
              refine bw_push rfl ?_
              refine bw_icne rfl (fun c59 => ?_) (fun c59 => ?_)
              · skip
                refine bw_aload rfl rfl ?_
                refine bw_getr rfl rfl (hR _ _) ?_
                first | refine bw_dup rfl ?_ | refine bw_dupi rfl ?_
                refine bw_getI rfl rfl ?_
                rw [hL.f8]
                refine bw_push rfl ?_
                refine bw_iadd rfl ⟨by omega, by omega⟩ ?_
                refine bw_putI rfl rfl ?_
                obtain ⟨u9, hR, hT, hA, hL⟩ := st8 hR hT hA hL
                have hF := hF.trans ((sq_of u9 (by decide)).mono a4_W)
                have n0 := (congrFun (u9.at 9 (by decide)) 0).trans n0
                refine bw_aload rfl rfl ?_
                refine bw_getr rfl rfl (hR _ _) ?_
                refine bw_push rfl ?_
                refine bw_aload rfl rfl ?_
                refine bw_getr rfl rfl (hR _ _) ?_
                refine bw_push rfl ?_
                refine bw_aldi rfl (by first | rfl | assumption) (by omega) (by omega) ?_
                rw [n0]
                refine bw_asti rfl (by first | rfl | assumption) (by omega) (by omega) ?_
                obtain ⟨u9, hR, hT, hA, hL⟩ := st9n n0 hR hT hA hL
                have hF := hF.trans ((sq_of u9 (by decide)).mono a9_W)
                have n0 := n9_k hL (show (0 : Int) ≠ 1 by decide) n0
                have n1 := n9_w hL
                refine bw_iload rfl rfl ?_
                refine bw_ifeq rfl (fun c95 => ?_) (fun c95 => ?_)
                · first
                  | (exfalso; omega)
                  | (first
                     | exact L123 1 _ _ _ _ _ _ hF hT hA hL ⟨n0, n1, by omega, by omega⟩ (fun q3 m h => by rw [pt_dr hp (by omega) (by rw [e1]) (by omega), dr_g (q := q3) (by unfold dr3 dr2; rw [e1, dsS_y h104, h115]; show (tmS a n on (.inr q115)).1 = _; rw [h])]; unfold dr3 dr2; rw [e1, dsS_y h104, h115]; show (Sum.inr (lsM q3 (hRunTo (lsH s) v42 v115 (tmS a n on (.inr q115)).2) _ _ _ _ _, 1) : Ro) = _; rw [h]) (fun e h => by rw [pt_dr hp (by omega) (by rw [e1]) (by omega)]; exact dr_f (by unfold dr3 dr2; rw [e1, dsS_y h104, h115]; exact h)) (by decide)
                     | exact L123 1 _ _ _ _ _ _ hF hT hA hL ⟨n0, n1, by omega, by omega⟩ (fun q3 m h => by rw [pt_dr hp (by omega) (by rw [e1]) (by omega), dr_g (q := q3) (by unfold dr3 dr2; rw [e1, dsS_n h104]; show (tmS a n on (.inr q42)).1 = _; rw [h])]; unfold dr3 dr2; rw [e1, dsS_n h104]; show (Sum.inr (lsM q3 (hRunTo (lsH s) v42 v42 (tmS a n on (.inr q42)).2) _ _ _ _ _, 1) : Ro) = _; rw [h]) (fun e h => by rw [pt_dr hp (by omega) (by rw [e1]) (by omega)]; exact dr_f (by unfold dr3 dr2; rw [e1, dsS_n h104]; exact h)) (by decide)
                     | exact L123 1 _ _ _ _ _ _ hF hT hA hL ⟨n0, n1, by omega, by omega⟩ (fun q3 m h => by rw [pt_b hp (dw h14) (by omega) h14, bk_g (q := q3) (by rw [h]), h]) (fun e h => by rw [pt_b hp (dw h14) (by omega) h14]; exact bk_f h) (by decide))
                · first
                  | (exfalso; omega)
                  | (refine bw_aload rfl rfl ?_
                     refine bw_getr rfl rfl (hR _ _) ?_
                     refine bw_push rfl ?_
                     refine bw_callVNi (e := d - 1) (as := [_]) rfl (by omega) rfl rfl (Nat.le_of_ble_eq_true rfl) (Nat.le_of_ble_eq_true rfl) rfl (c_takeSign (c := 45) hR hT hA (by decide) (by omega)) (fun r104 M104 hM104 => ?_)
                     rcases hM104 with ⟨h104, rfl, g104⟩ | ⟨h104, rfl, e104⟩
                     · have g104 := go_of g104
                       have hF := hF.trans (g104.1.mono T_W)
                       have hR := g104.1.RF hR
                       have hL := CL_sm hL g104.1.1 (fun c c0 c1 => no_T4 c0)
                       have n0 := (congrFun (g104.1.at 9 (by decide)) 0).trans n0
                       have n1 := (congrFun (g104.1.at 9 (by decide)) 1).trans n1
                       have hT := g104.2.1
                       have hA := g104.2.2
                       refine bw_ifeq rfl (fun c107 => ?_) (fun c107 => ?_)
                       · first
                         | (exfalso; omega)
                         | (first
                            | exact L123 1 _ _ _ _ _ _ hF hT hA hL ⟨n0, n1, by omega, by omega⟩ (fun q3 m h => by rw [pt_dr hp (by omega) (by rw [e1]) (by omega), dr_g (q := q3) (by unfold dr3 dr2; rw [e1, dsS_y h104, h115]; show (tmS a n on (.inr q115)).1 = _; rw [h])]; unfold dr3 dr2; rw [e1, dsS_y h104, h115]; show (Sum.inr (lsM q3 (hRunTo (lsH s) v42 v115 (tmS a n on (.inr q115)).2) _ _ _ _ _, 1) : Ro) = _; rw [h]) (fun e h => by rw [pt_dr hp (by omega) (by rw [e1]) (by omega)]; exact dr_f (by unfold dr3 dr2; rw [e1, dsS_y h104, h115]; exact h)) (by decide)
                            | exact L123 1 _ _ _ _ _ _ hF hT hA hL ⟨n0, n1, by omega, by omega⟩ (fun q3 m h => by rw [pt_dr hp (by omega) (by rw [e1]) (by omega), dr_g (q := q3) (by unfold dr3 dr2; rw [e1, dsS_n h104]; show (tmS a n on (.inr q42)).1 = _; rw [h])]; unfold dr3 dr2; rw [e1, dsS_n h104]; show (Sum.inr (lsM q3 (hRunTo (lsH s) v42 v42 (tmS a n on (.inr q42)).2) _ _ _ _ _, 1) : Ro) = _; rw [h]) (fun e h => by rw [pt_dr hp (by omega) (by rw [e1]) (by omega)]; exact dr_f (by unfold dr3 dr2; rw [e1, dsS_n h104]; exact h)) (by decide)
                            | exact L123 1 _ _ _ _ _ _ hF hT hA hL ⟨n0, n1, by omega, by omega⟩ (fun q3 m h => by rw [pt_b hp (dw h14) (by omega) h14, bk_g (q := q3) (by rw [h]), h]) (fun e h => by rw [pt_b hp (dw h14) (by omega) h14]; exact bk_f h) (by decide))
                       · first
                         | (exfalso; omega)
                         | (refine bw_aload rfl rfl ?_
                            refine bw_push rfl ?_
                            refine bw_push rfl ?_
                            refine bw_push rfl ?_
                            refine bw_callVi (e := d - 1) (as := [_, _, _]) rfl (by omega) rfl rfl (Nat.le_of_ble_eq_true rfl) (Nat.le_of_ble_eq_true rfl) rfl (c_needNumber hR hT hA (by omega) (by omega)) (fun r115 M115 hM115 => ?_)
                            rcases hM115 with ⟨e, h115, rfl, f115⟩ | ⟨q115, v115, h115, rfl, g115, b115, k115⟩
                            · have hz : ptS a n on s = .inl e := by (rw [pt_dr hp (by omega) (by rw [e1]) (by omega)]; exact dr_f (by unfold dr3 dr2; rw [e1, dsS_y h104, h115]; exact tm_l))
                              have hX := FA.tr (s := pW) hF.1 f115 (fun _ k => k) P_W
                              refine bw_ifne rfl (fun c118 => ?_) (fun c118 => ?_)
                              · first
                                | (exfalso; omega)
                                | (first
                                   | exact L123 1 _ _ _ _ _ _ hF hT hA hL ⟨n0, n1, by omega, by omega⟩ (fun q3 m h => by rw [pt_dr hp (by omega) (by rw [e1]) (by omega), dr_g (q := q3) (by unfold dr3 dr2; rw [e1, dsS_y h104, h115]; show (tmS a n on (.inr q115)).1 = _; rw [h])]; unfold dr3 dr2; rw [e1, dsS_y h104, h115]; show (Sum.inr (lsM q3 (hRunTo (lsH s) v42 v115 (tmS a n on (.inr q115)).2) _ _ _ _ _, 1) : Ro) = _; rw [h]) (fun e h => by rw [pt_dr hp (by omega) (by rw [e1]) (by omega)]; exact dr_f (by unfold dr3 dr2; rw [e1, dsS_y h104, h115]; exact h)) (by decide)
                                   | exact L123 1 _ _ _ _ _ _ hF hT hA hL ⟨n0, n1, by omega, by omega⟩ (fun q3 m h => by rw [pt_dr hp (by omega) (by rw [e1]) (by omega), dr_g (q := q3) (by unfold dr3 dr2; rw [e1, dsS_n h104]; show (tmS a n on (.inr q42)).1 = _; rw [h])]; unfold dr3 dr2; rw [e1, dsS_n h104]; show (Sum.inr (lsM q3 (hRunTo (lsH s) v42 v42 (tmS a n on (.inr q42)).2) _ _ _ _ _, 1) : Ro) = _; rw [h]) (fun e h => by rw [pt_dr hp (by omega) (by rw [e1]) (by omega)]; exact dr_f (by unfold dr3 dr2; rw [e1, dsS_n h104]; exact h)) (by decide)
                                   | exact L123 1 _ _ _ _ _ _ hF hT hA hL ⟨n0, n1, by omega, by omega⟩ (fun q3 m h => by rw [pt_b hp (dw h14) (by omega) h14, bk_g (q := q3) (by rw [h]), h]) (fun e h => by rw [pt_b hp (dw h14) (by omega) h14]; exact bk_f h) (by decide))
                              · first
                                | (exfalso; omega)
                                | (refine bw_push rfl ?_
                                   refine bw_retz rfl rfl (by omega) ?_
                                   exact ⟨rfl, _, rfl, Or.inl ⟨e, hz, rfl, hX⟩⟩)
                            · skip
                              have hF := hF.trans (g115.1.mono N_W)
                              have hR := g115.1.RF hR
                              have hL := CL_sm hL g115.1.1 (fun c c0 c1 => no_N4 c0 c1)
                              have n0 := ((congrFun k115 0).trans (up_ne (by decide))).trans n0
                              have n1 := (congrFun k115 1).trans (up_eq rfl)
                              have hT := g115.2.1
                              have hA := g115.2.2
                              refine bw_ifne rfl (fun c118 => ?_) (fun c118 => ?_)
                              · first
                                | (exfalso; omega)
                                | (first
                                   | exact L123 1 _ _ _ _ _ _ hF hT hA hL ⟨n0, n1, by omega, by omega⟩ (fun q3 m h => by rw [pt_dr hp (by omega) (by rw [e1]) (by omega), dr_g (q := q3) (by unfold dr3 dr2; rw [e1, dsS_y h104, h115]; show (tmS a n on (.inr q115)).1 = _; rw [h])]; unfold dr3 dr2; rw [e1, dsS_y h104, h115]; show (Sum.inr (lsM q3 (hRunTo (lsH s) v42 v115 (tmS a n on (.inr q115)).2) _ _ _ _ _, 1) : Ro) = _; rw [h]) (fun e h => by rw [pt_dr hp (by omega) (by rw [e1]) (by omega)]; exact dr_f (by unfold dr3 dr2; rw [e1, dsS_y h104, h115]; exact h)) (by decide)
                                   | exact L123 1 _ _ _ _ _ _ hF hT hA hL ⟨n0, n1, by omega, by omega⟩ (fun q3 m h => by rw [pt_dr hp (by omega) (by rw [e1]) (by omega), dr_g (q := q3) (by unfold dr3 dr2; rw [e1, dsS_n h104]; show (tmS a n on (.inr q42)).1 = _; rw [h])]; unfold dr3 dr2; rw [e1, dsS_n h104]; show (Sum.inr (lsM q3 (hRunTo (lsH s) v42 v42 (tmS a n on (.inr q42)).2) _ _ _ _ _, 1) : Ro) = _; rw [h]) (fun e h => by rw [pt_dr hp (by omega) (by rw [e1]) (by omega)]; exact dr_f (by unfold dr3 dr2; rw [e1, dsS_n h104]; exact h)) (by decide)
                                   | exact L123 1 _ _ _ _ _ _ hF hT hA hL ⟨n0, n1, by omega, by omega⟩ (fun q3 m h => by rw [pt_b hp (dw h14) (by omega) h14, bk_g (q := q3) (by rw [h]), h]) (fun e h => by rw [pt_b hp (dw h14) (by omega) h14]; exact bk_f h) (by decide))
                              · first
                                | (exfalso; omega)
                                | (refine bw_push rfl ?_
                                   refine bw_retz rfl rfl (by omega) ?_
                                   exact ⟨rfl, _, rfl, Or.inl ⟨e, hz, rfl, hX⟩⟩))
                     · have g104 := go_n hT hA e104
                       have hF := hF.trans (g104.1.mono T_W)
                       have hR := g104.1.RF hR
                       have hL := CL_sm hL g104.1.1 (fun c c0 c1 => no_T4 c0)
                       have n0 := (congrFun (g104.1.at 9 (by decide)) 0).trans n0
                       have n1 := (congrFun (g104.1.at 9 (by decide)) 1).trans n1
                       have hT := g104.2.1
                       have hA := g104.2.2
                       refine bw_ifeq rfl (fun c107 => ?_) (fun c107 => ?_)
                       · first
                         | (exfalso; omega)
                         | (first
                            | exact L123 1 _ _ _ _ _ _ hF hT hA hL ⟨n0, n1, by omega, by omega⟩ (fun q3 m h => by rw [pt_dr hp (by omega) (by rw [e1]) (by omega), dr_g (q := q3) (by unfold dr3 dr2; rw [e1, dsS_y h104, h115]; show (tmS a n on (.inr q115)).1 = _; rw [h])]; unfold dr3 dr2; rw [e1, dsS_y h104, h115]; show (Sum.inr (lsM q3 (hRunTo (lsH s) v42 v115 (tmS a n on (.inr q115)).2) _ _ _ _ _, 1) : Ro) = _; rw [h]) (fun e h => by rw [pt_dr hp (by omega) (by rw [e1]) (by omega)]; exact dr_f (by unfold dr3 dr2; rw [e1, dsS_y h104, h115]; exact h)) (by decide)
                            | exact L123 1 _ _ _ _ _ _ hF hT hA hL ⟨n0, n1, by omega, by omega⟩ (fun q3 m h => by rw [pt_dr hp (by omega) (by rw [e1]) (by omega), dr_g (q := q3) (by unfold dr3 dr2; rw [e1, dsS_n h104]; show (tmS a n on (.inr q42)).1 = _; rw [h])]; unfold dr3 dr2; rw [e1, dsS_n h104]; show (Sum.inr (lsM q3 (hRunTo (lsH s) v42 v42 (tmS a n on (.inr q42)).2) _ _ _ _ _, 1) : Ro) = _; rw [h]) (fun e h => by rw [pt_dr hp (by omega) (by rw [e1]) (by omega)]; exact dr_f (by unfold dr3 dr2; rw [e1, dsS_n h104]; exact h)) (by decide)
                            | exact L123 1 _ _ _ _ _ _ hF hT hA hL ⟨n0, n1, by omega, by omega⟩ (fun q3 m h => by rw [pt_b hp (dw h14) (by omega) h14, bk_g (q := q3) (by rw [h]), h]) (fun e h => by rw [pt_b hp (dw h14) (by omega) h14]; exact bk_f h) (by decide))
                       · first
                         | (exfalso; omega)
                         | (refine bw_aload rfl rfl ?_
                            refine bw_push rfl ?_
                            refine bw_push rfl ?_
                            refine bw_push rfl ?_
                            refine bw_callVi (e := d - 1) (as := [_, _, _]) rfl (by omega) rfl rfl (Nat.le_of_ble_eq_true rfl) (Nat.le_of_ble_eq_true rfl) rfl (c_needNumber hR hT hA (by omega) (by omega)) (fun r115 M115 hM115 => ?_)
                            rcases hM115 with ⟨e, h115, rfl, f115⟩ | ⟨q115, v115, h115, rfl, g115, b115, k115⟩
                            · have hz : ptS a n on s = .inl e := by (rw [pt_dr hp (by omega) (by rw [e1]) (by omega)]; exact dr_f (by unfold dr3 dr2; rw [e1, dsS_y h104, h115]; exact tm_l))
                              have hX := FA.tr (s := pW) hF.1 f115 (fun _ k => k) P_W
                              refine bw_ifne rfl (fun c118 => ?_) (fun c118 => ?_)
                              · first
                                | (exfalso; omega)
                                | (first
                                   | exact L123 1 _ _ _ _ _ _ hF hT hA hL ⟨n0, n1, by omega, by omega⟩ (fun q3 m h => by rw [pt_dr hp (by omega) (by rw [e1]) (by omega), dr_g (q := q3) (by unfold dr3 dr2; rw [e1, dsS_y h104, h115]; show (tmS a n on (.inr q115)).1 = _; rw [h])]; unfold dr3 dr2; rw [e1, dsS_y h104, h115]; show (Sum.inr (lsM q3 (hRunTo (lsH s) v42 v115 (tmS a n on (.inr q115)).2) _ _ _ _ _, 1) : Ro) = _; rw [h]) (fun e h => by rw [pt_dr hp (by omega) (by rw [e1]) (by omega)]; exact dr_f (by unfold dr3 dr2; rw [e1, dsS_y h104, h115]; exact h)) (by decide)
                                   | exact L123 1 _ _ _ _ _ _ hF hT hA hL ⟨n0, n1, by omega, by omega⟩ (fun q3 m h => by rw [pt_dr hp (by omega) (by rw [e1]) (by omega), dr_g (q := q3) (by unfold dr3 dr2; rw [e1, dsS_n h104]; show (tmS a n on (.inr q42)).1 = _; rw [h])]; unfold dr3 dr2; rw [e1, dsS_n h104]; show (Sum.inr (lsM q3 (hRunTo (lsH s) v42 v42 (tmS a n on (.inr q42)).2) _ _ _ _ _, 1) : Ro) = _; rw [h]) (fun e h => by rw [pt_dr hp (by omega) (by rw [e1]) (by omega)]; exact dr_f (by unfold dr3 dr2; rw [e1, dsS_n h104]; exact h)) (by decide)
                                   | exact L123 1 _ _ _ _ _ _ hF hT hA hL ⟨n0, n1, by omega, by omega⟩ (fun q3 m h => by rw [pt_b hp (dw h14) (by omega) h14, bk_g (q := q3) (by rw [h]), h]) (fun e h => by rw [pt_b hp (dw h14) (by omega) h14]; exact bk_f h) (by decide))
                              · first
                                | (exfalso; omega)
                                | (refine bw_push rfl ?_
                                   refine bw_retz rfl rfl (by omega) ?_
                                   exact ⟨rfl, _, rfl, Or.inl ⟨e, hz, rfl, hX⟩⟩)
                            · skip
                              have hF := hF.trans (g115.1.mono N_W)
                              have hR := g115.1.RF hR
                              have hL := CL_sm hL g115.1.1 (fun c c0 c1 => no_N4 c0 c1)
                              have n0 := ((congrFun k115 0).trans (up_ne (by decide))).trans n0
                              have n1 := (congrFun k115 1).trans (up_eq rfl)
                              have hT := g115.2.1
                              have hA := g115.2.2
                              refine bw_ifne rfl (fun c118 => ?_) (fun c118 => ?_)
                              · first
                                | (exfalso; omega)
                                | (first
                                   | exact L123 1 _ _ _ _ _ _ hF hT hA hL ⟨n0, n1, by omega, by omega⟩ (fun q3 m h => by rw [pt_dr hp (by omega) (by rw [e1]) (by omega), dr_g (q := q3) (by unfold dr3 dr2; rw [e1, dsS_y h104, h115]; show (tmS a n on (.inr q115)).1 = _; rw [h])]; unfold dr3 dr2; rw [e1, dsS_y h104, h115]; show (Sum.inr (lsM q3 (hRunTo (lsH s) v42 v115 (tmS a n on (.inr q115)).2) _ _ _ _ _, 1) : Ro) = _; rw [h]) (fun e h => by rw [pt_dr hp (by omega) (by rw [e1]) (by omega)]; exact dr_f (by unfold dr3 dr2; rw [e1, dsS_y h104, h115]; exact h)) (by decide)
                                   | exact L123 1 _ _ _ _ _ _ hF hT hA hL ⟨n0, n1, by omega, by omega⟩ (fun q3 m h => by rw [pt_dr hp (by omega) (by rw [e1]) (by omega), dr_g (q := q3) (by unfold dr3 dr2; rw [e1, dsS_n h104]; show (tmS a n on (.inr q42)).1 = _; rw [h])]; unfold dr3 dr2; rw [e1, dsS_n h104]; show (Sum.inr (lsM q3 (hRunTo (lsH s) v42 v42 (tmS a n on (.inr q42)).2) _ _ _ _ _, 1) : Ro) = _; rw [h]) (fun e h => by rw [pt_dr hp (by omega) (by rw [e1]) (by omega)]; exact dr_f (by unfold dr3 dr2; rw [e1, dsS_n h104]; exact h)) (by decide)
                                   | exact L123 1 _ _ _ _ _ _ hF hT hA hL ⟨n0, n1, by omega, by omega⟩ (fun q3 m h => by rw [pt_b hp (dw h14) (by omega) h14, bk_g (q := q3) (by rw [h]), h]) (fun e h => by rw [pt_b hp (dw h14) (by omega) h14]; exact bk_f h) (by decide))
                              · first
                                | (exfalso; omega)
                                | (refine bw_push rfl ?_
                                   refine bw_retz rfl rfl (by omega) ?_
                                   exact ⟨rfl, _, rfl, Or.inl ⟨e, hz, rfl, hX⟩⟩)))
              · skip
                refine bw_aload rfl rfl ?_
                refine bw_push rfl ?_
                refine bw_iload rfl rfl ?_
                refine bw_callVi (e := d - 1) (as := [_, _]) rfl (by omega) rfl rfl (Nat.le_of_ble_eq_true rfl) (Nat.le_of_ble_eq_true rfl) rfl (c_fail hR) (fun r65 M65 hM65 => ?_)
                obtain ⟨rfl, rfl⟩ := hM65
                refine bw_retz rfl rfl (by omega) ?_
                first
                | exact ⟨rfl, _, rfl, Or.inl ⟨_, pt_d4 hp (by omega) (by rw [e1]) (by omega), rfl, by rw [← a1]; exact FA.tr (s := pW) hF.1 (fa_of hT) (fun _ k => k) P_W⟩⟩
                | exact ⟨rfl, _, rfl, Or.inl ⟨_, pt_4 hp (dw h14) (by omega), rfl, by rw [← a1]; exact FA.tr (s := pW) hF.1 (fa_of hT) (fun _ k => k) P_W⟩⟩)
         · first
           | (exfalso; omega)
           | (refine bw_aload rfl rfl ?_
              refine bw_push rfl ?_
              refine bw_push rfl ?_
              refine bw_push rfl ?_
              refine bw_callVi (e := d - 1) (as := [_, _, _]) rfl (by omega) rfl rfl (Nat.le_of_ble_eq_true rfl) (Nat.le_of_ble_eq_true rfl) rfl (c_needNumber hR hT hA (by omega) (by omega)) (fun r42 M42 hM42 => ?_)
              rcases hM42 with ⟨e, h42, rfl, f42⟩ | ⟨q42, v42, h42, rfl, g42, b42, k42⟩
              · have hz : ptS a n on s = .inl e := by (first | exact pt_d hp (by omega) (by unfold dr1; rw [h42]))
                have hX := FA.tr (s := pW) hF.1 f42 (fun _ k => k) P_W
                refine bw_ifne rfl (fun c45 => ?_) (fun c45 => ?_)
                · first
                  | (exfalso; omega)
                  | (refine bw_aload rfl rfl ?_
                     refine bw_getr rfl rfl (hR _ _) ?_
                     refine bw_getI rfl rfl ?_
                     rw [hL.f8]
                     refine bw_push rfl ?_
                     refine bw_icne rfl (fun c59 => ?_) (fun c59 => ?_)
                     · skip
                       refine bw_aload rfl rfl ?_
                       refine bw_getr rfl rfl (hR _ _) ?_
                       first | refine bw_dup rfl ?_ | refine bw_dupi rfl ?_
                       refine bw_getI rfl rfl ?_
                       rw [hL.f8]
                       refine bw_push rfl ?_
                       refine bw_iadd rfl ⟨by omega, by omega⟩ ?_
                       refine bw_putI rfl rfl ?_
                       obtain ⟨u9, hR, hT, hA, hL⟩ := st8 hR hT hA hL
                       have hF := hF.trans ((sq_of u9 (by decide)).mono a4_W)
                       have n0 := (congrFun (u9.at 9 (by decide)) 0).trans n0
                       refine bw_aload rfl rfl ?_
                       refine bw_getr rfl rfl (hR _ _) ?_
                       refine bw_push rfl ?_
                       refine bw_aload rfl rfl ?_
                       refine bw_getr rfl rfl (hR _ _) ?_
                       refine bw_push rfl ?_
                       refine bw_aldi rfl (by first | rfl | assumption) (by omega) (by omega) ?_
                       rw [n0]
                       refine bw_asti rfl (by first | rfl | assumption) (by omega) (by omega) ?_
                       obtain ⟨u9, hR, hT, hA, hL⟩ := st9n n0 hR hT hA hL
                       have hF := hF.trans ((sq_of u9 (by decide)).mono a9_W)
                       have n0 := n9_k hL (show (0 : Int) ≠ 1 by decide) n0
                       have n1 := n9_w hL
                       refine bw_iload rfl rfl ?_
                       refine bw_ifeq rfl (fun c95 => ?_) (fun c95 => ?_)
                       · first
                         | (exfalso; omega)
                         | (first
                            | exact L123 1 _ _ _ _ _ _ hF hT hA hL ⟨n0, n1, by omega, by omega⟩ (fun q3 m h => by rw [pt_dr hp (by omega) (by rw [e1]) (by omega), dr_g (q := q3) (by unfold dr3 dr2; rw [e1, dsS_y h104, h115]; show (tmS a n on (.inr q115)).1 = _; rw [h])]; unfold dr3 dr2; rw [e1, dsS_y h104, h115]; show (Sum.inr (lsM q3 (hRunTo (lsH s) v42 v115 (tmS a n on (.inr q115)).2) _ _ _ _ _, 1) : Ro) = _; rw [h]) (fun e h => by rw [pt_dr hp (by omega) (by rw [e1]) (by omega)]; exact dr_f (by unfold dr3 dr2; rw [e1, dsS_y h104, h115]; exact h)) (by decide)
                            | exact L123 1 _ _ _ _ _ _ hF hT hA hL ⟨n0, n1, by omega, by omega⟩ (fun q3 m h => by rw [pt_dr hp (by omega) (by rw [e1]) (by omega), dr_g (q := q3) (by unfold dr3 dr2; rw [e1, dsS_n h104]; show (tmS a n on (.inr q42)).1 = _; rw [h])]; unfold dr3 dr2; rw [e1, dsS_n h104]; show (Sum.inr (lsM q3 (hRunTo (lsH s) v42 v42 (tmS a n on (.inr q42)).2) _ _ _ _ _, 1) : Ro) = _; rw [h]) (fun e h => by rw [pt_dr hp (by omega) (by rw [e1]) (by omega)]; exact dr_f (by unfold dr3 dr2; rw [e1, dsS_n h104]; exact h)) (by decide)
                            | exact L123 1 _ _ _ _ _ _ hF hT hA hL ⟨n0, n1, by omega, by omega⟩ (fun q3 m h => by rw [pt_b hp (dw h14) (by omega) h14, bk_g (q := q3) (by rw [h]), h]) (fun e h => by rw [pt_b hp (dw h14) (by omega) h14]; exact bk_f h) (by decide))
                       · first
                         | (exfalso; omega)
                         | (refine bw_aload rfl rfl ?_
                            refine bw_getr rfl rfl (hR _ _) ?_
                            refine bw_push rfl ?_
                            refine bw_callVNi (e := d - 1) (as := [_]) rfl (by omega) rfl rfl (Nat.le_of_ble_eq_true rfl) (Nat.le_of_ble_eq_true rfl) rfl (c_takeSign (c := 45) hR hT hA (by decide) (by omega)) (fun r104 M104 hM104 => ?_)
                            rcases hM104 with ⟨h104, rfl, g104⟩ | ⟨h104, rfl, e104⟩
                            · have g104 := go_of g104
                              have hF := hF.trans (g104.1.mono T_W)
                              have hR := g104.1.RF hR
                              have hL := CL_sm hL g104.1.1 (fun c c0 c1 => no_T4 c0)
                              have n0 := (congrFun (g104.1.at 9 (by decide)) 0).trans n0
                              have n1 := (congrFun (g104.1.at 9 (by decide)) 1).trans n1
                              have hT := g104.2.1
                              have hA := g104.2.2
                              refine bw_ifeq rfl (fun c107 => ?_) (fun c107 => ?_)
                              · first
                                | (exfalso; omega)
                                | (first
                                   | exact L123 1 _ _ _ _ _ _ hF hT hA hL ⟨n0, n1, by omega, by omega⟩ (fun q3 m h => by rw [pt_dr hp (by omega) (by rw [e1]) (by omega), dr_g (q := q3) (by unfold dr3 dr2; rw [e1, dsS_y h104, h115]; show (tmS a n on (.inr q115)).1 = _; rw [h])]; unfold dr3 dr2; rw [e1, dsS_y h104, h115]; show (Sum.inr (lsM q3 (hRunTo (lsH s) v42 v115 (tmS a n on (.inr q115)).2) _ _ _ _ _, 1) : Ro) = _; rw [h]) (fun e h => by rw [pt_dr hp (by omega) (by rw [e1]) (by omega)]; exact dr_f (by unfold dr3 dr2; rw [e1, dsS_y h104, h115]; exact h)) (by decide)
                                   | exact L123 1 _ _ _ _ _ _ hF hT hA hL ⟨n0, n1, by omega, by omega⟩ (fun q3 m h => by rw [pt_dr hp (by omega) (by rw [e1]) (by omega), dr_g (q := q3) (by unfold dr3 dr2; rw [e1, dsS_n h104]; show (tmS a n on (.inr q42)).1 = _; rw [h])]; unfold dr3 dr2; rw [e1, dsS_n h104]; show (Sum.inr (lsM q3 (hRunTo (lsH s) v42 v42 (tmS a n on (.inr q42)).2) _ _ _ _ _, 1) : Ro) = _; rw [h]) (fun e h => by rw [pt_dr hp (by omega) (by rw [e1]) (by omega)]; exact dr_f (by unfold dr3 dr2; rw [e1, dsS_n h104]; exact h)) (by decide)
                                   | exact L123 1 _ _ _ _ _ _ hF hT hA hL ⟨n0, n1, by omega, by omega⟩ (fun q3 m h => by rw [pt_b hp (dw h14) (by omega) h14, bk_g (q := q3) (by rw [h]), h]) (fun e h => by rw [pt_b hp (dw h14) (by omega) h14]; exact bk_f h) (by decide))
                              · first
                                | (exfalso; omega)
                                | (refine bw_aload rfl rfl ?_
                                   refine bw_push rfl ?_
                                   refine bw_push rfl ?_
                                   refine bw_push rfl ?_
                                   refine bw_callVi (e := d - 1) (as := [_, _, _]) rfl (by omega) rfl rfl (Nat.le_of_ble_eq_true rfl) (Nat.le_of_ble_eq_true rfl) rfl (c_needNumber hR hT hA (by omega) (by omega)) (fun r115 M115 hM115 => ?_)
                                   rcases hM115 with ⟨e, h115, rfl, f115⟩ | ⟨q115, v115, h115, rfl, g115, b115, k115⟩
                                   · have hz : ptS a n on s = .inl e := by (rw [pt_dr hp (by omega) (by rw [e1]) (by omega)]; exact dr_f (by unfold dr3 dr2; rw [e1, dsS_y h104, h115]; exact tm_l))
                                     have hX := FA.tr (s := pW) hF.1 f115 (fun _ k => k) P_W
                                     refine bw_ifne rfl (fun c118 => ?_) (fun c118 => ?_)
                                     · first
                                       | (exfalso; omega)
                                       | (first
                                          | exact L123 1 _ _ _ _ _ _ hF hT hA hL ⟨n0, n1, by omega, by omega⟩ (fun q3 m h => by rw [pt_dr hp (by omega) (by rw [e1]) (by omega), dr_g (q := q3) (by unfold dr3 dr2; rw [e1, dsS_y h104, h115]; show (tmS a n on (.inr q115)).1 = _; rw [h])]; unfold dr3 dr2; rw [e1, dsS_y h104, h115]; show (Sum.inr (lsM q3 (hRunTo (lsH s) v42 v115 (tmS a n on (.inr q115)).2) _ _ _ _ _, 1) : Ro) = _; rw [h]) (fun e h => by rw [pt_dr hp (by omega) (by rw [e1]) (by omega)]; exact dr_f (by unfold dr3 dr2; rw [e1, dsS_y h104, h115]; exact h)) (by decide)
                                          | exact L123 1 _ _ _ _ _ _ hF hT hA hL ⟨n0, n1, by omega, by omega⟩ (fun q3 m h => by rw [pt_dr hp (by omega) (by rw [e1]) (by omega), dr_g (q := q3) (by unfold dr3 dr2; rw [e1, dsS_n h104]; show (tmS a n on (.inr q42)).1 = _; rw [h])]; unfold dr3 dr2; rw [e1, dsS_n h104]; show (Sum.inr (lsM q3 (hRunTo (lsH s) v42 v42 (tmS a n on (.inr q42)).2) _ _ _ _ _, 1) : Ro) = _; rw [h]) (fun e h => by rw [pt_dr hp (by omega) (by rw [e1]) (by omega)]; exact dr_f (by unfold dr3 dr2; rw [e1, dsS_n h104]; exact h)) (by decide)
                                          | exact L123 1 _ _ _ _ _ _ hF hT hA hL ⟨n0, n1, by omega, by omega⟩ (fun q3 m h => by rw [pt_b hp (dw h14) (by omega) h14, bk_g (q := q3) (by rw [h]), h]) (fun e h => by rw [pt_b hp (dw h14) (by omega) h14]; exact bk_f h) (by decide))
                                     · first
                                       | (exfalso; omega)
                                       | (refine bw_push rfl ?_
                                          refine bw_retz rfl rfl (by omega) ?_
                                          exact ⟨rfl, _, rfl, Or.inl ⟨e, hz, rfl, hX⟩⟩)
                                   · skip
                                     have hF := hF.trans (g115.1.mono N_W)
                                     have hR := g115.1.RF hR
                                     have hL := CL_sm hL g115.1.1 (fun c c0 c1 => no_N4 c0 c1)
                                     have n0 := ((congrFun k115 0).trans (up_ne (by decide))).trans n0
                                     have n1 := (congrFun k115 1).trans (up_eq rfl)
                                     have hT := g115.2.1
                                     have hA := g115.2.2
                                     refine bw_ifne rfl (fun c118 => ?_) (fun c118 => ?_)
                                     · first
                                       | (exfalso; omega)
                                       | (first
                                          | exact L123 1 _ _ _ _ _ _ hF hT hA hL ⟨n0, n1, by omega, by omega⟩ (fun q3 m h => by rw [pt_dr hp (by omega) (by rw [e1]) (by omega), dr_g (q := q3) (by unfold dr3 dr2; rw [e1, dsS_y h104, h115]; show (tmS a n on (.inr q115)).1 = _; rw [h])]; unfold dr3 dr2; rw [e1, dsS_y h104, h115]; show (Sum.inr (lsM q3 (hRunTo (lsH s) v42 v115 (tmS a n on (.inr q115)).2) _ _ _ _ _, 1) : Ro) = _; rw [h]) (fun e h => by rw [pt_dr hp (by omega) (by rw [e1]) (by omega)]; exact dr_f (by unfold dr3 dr2; rw [e1, dsS_y h104, h115]; exact h)) (by decide)
                                          | exact L123 1 _ _ _ _ _ _ hF hT hA hL ⟨n0, n1, by omega, by omega⟩ (fun q3 m h => by rw [pt_dr hp (by omega) (by rw [e1]) (by omega), dr_g (q := q3) (by unfold dr3 dr2; rw [e1, dsS_n h104]; show (tmS a n on (.inr q42)).1 = _; rw [h])]; unfold dr3 dr2; rw [e1, dsS_n h104]; show (Sum.inr (lsM q3 (hRunTo (lsH s) v42 v42 (tmS a n on (.inr q42)).2) _ _ _ _ _, 1) : Ro) = _; rw [h]) (fun e h => by rw [pt_dr hp (by omega) (by rw [e1]) (by omega)]; exact dr_f (by unfold dr3 dr2; rw [e1, dsS_n h104]; exact h)) (by decide)
                                          | exact L123 1 _ _ _ _ _ _ hF hT hA hL ⟨n0, n1, by omega, by omega⟩ (fun q3 m h => by rw [pt_b hp (dw h14) (by omega) h14, bk_g (q := q3) (by rw [h]), h]) (fun e h => by rw [pt_b hp (dw h14) (by omega) h14]; exact bk_f h) (by decide))
                                     · first
                                       | (exfalso; omega)
                                       | (refine bw_push rfl ?_
                                          refine bw_retz rfl rfl (by omega) ?_
                                          exact ⟨rfl, _, rfl, Or.inl ⟨e, hz, rfl, hX⟩⟩))
                            · have g104 := go_n hT hA e104
                              have hF := hF.trans (g104.1.mono T_W)
                              have hR := g104.1.RF hR
                              have hL := CL_sm hL g104.1.1 (fun c c0 c1 => no_T4 c0)
                              have n0 := (congrFun (g104.1.at 9 (by decide)) 0).trans n0
                              have n1 := (congrFun (g104.1.at 9 (by decide)) 1).trans n1
                              have hT := g104.2.1
                              have hA := g104.2.2
                              refine bw_ifeq rfl (fun c107 => ?_) (fun c107 => ?_)
                              · first
                                | (exfalso; omega)
                                | (first
                                   | exact L123 1 _ _ _ _ _ _ hF hT hA hL ⟨n0, n1, by omega, by omega⟩ (fun q3 m h => by rw [pt_dr hp (by omega) (by rw [e1]) (by omega), dr_g (q := q3) (by unfold dr3 dr2; rw [e1, dsS_y h104, h115]; show (tmS a n on (.inr q115)).1 = _; rw [h])]; unfold dr3 dr2; rw [e1, dsS_y h104, h115]; show (Sum.inr (lsM q3 (hRunTo (lsH s) v42 v115 (tmS a n on (.inr q115)).2) _ _ _ _ _, 1) : Ro) = _; rw [h]) (fun e h => by rw [pt_dr hp (by omega) (by rw [e1]) (by omega)]; exact dr_f (by unfold dr3 dr2; rw [e1, dsS_y h104, h115]; exact h)) (by decide)
                                   | exact L123 1 _ _ _ _ _ _ hF hT hA hL ⟨n0, n1, by omega, by omega⟩ (fun q3 m h => by rw [pt_dr hp (by omega) (by rw [e1]) (by omega), dr_g (q := q3) (by unfold dr3 dr2; rw [e1, dsS_n h104]; show (tmS a n on (.inr q42)).1 = _; rw [h])]; unfold dr3 dr2; rw [e1, dsS_n h104]; show (Sum.inr (lsM q3 (hRunTo (lsH s) v42 v42 (tmS a n on (.inr q42)).2) _ _ _ _ _, 1) : Ro) = _; rw [h]) (fun e h => by rw [pt_dr hp (by omega) (by rw [e1]) (by omega)]; exact dr_f (by unfold dr3 dr2; rw [e1, dsS_n h104]; exact h)) (by decide)
                                   | exact L123 1 _ _ _ _ _ _ hF hT hA hL ⟨n0, n1, by omega, by omega⟩ (fun q3 m h => by rw [pt_b hp (dw h14) (by omega) h14, bk_g (q := q3) (by rw [h]), h]) (fun e h => by rw [pt_b hp (dw h14) (by omega) h14]; exact bk_f h) (by decide))
                              · first
                                | (exfalso; omega)
                                | (refine bw_aload rfl rfl ?_
                                   refine bw_push rfl ?_
                                   refine bw_push rfl ?_
                                   refine bw_push rfl ?_
                                   refine bw_callVi (e := d - 1) (as := [_, _, _]) rfl (by omega) rfl rfl (Nat.le_of_ble_eq_true rfl) (Nat.le_of_ble_eq_true rfl) rfl (c_needNumber hR hT hA (by omega) (by omega)) (fun r115 M115 hM115 => ?_)
                                   rcases hM115 with ⟨e, h115, rfl, f115⟩ | ⟨q115, v115, h115, rfl, g115, b115, k115⟩
                                   · have hz : ptS a n on s = .inl e := by (rw [pt_dr hp (by omega) (by rw [e1]) (by omega)]; exact dr_f (by unfold dr3 dr2; rw [e1, dsS_y h104, h115]; exact tm_l))
                                     have hX := FA.tr (s := pW) hF.1 f115 (fun _ k => k) P_W
                                     refine bw_ifne rfl (fun c118 => ?_) (fun c118 => ?_)
                                     · first
                                       | (exfalso; omega)
                                       | (first
                                          | exact L123 1 _ _ _ _ _ _ hF hT hA hL ⟨n0, n1, by omega, by omega⟩ (fun q3 m h => by rw [pt_dr hp (by omega) (by rw [e1]) (by omega), dr_g (q := q3) (by unfold dr3 dr2; rw [e1, dsS_y h104, h115]; show (tmS a n on (.inr q115)).1 = _; rw [h])]; unfold dr3 dr2; rw [e1, dsS_y h104, h115]; show (Sum.inr (lsM q3 (hRunTo (lsH s) v42 v115 (tmS a n on (.inr q115)).2) _ _ _ _ _, 1) : Ro) = _; rw [h]) (fun e h => by rw [pt_dr hp (by omega) (by rw [e1]) (by omega)]; exact dr_f (by unfold dr3 dr2; rw [e1, dsS_y h104, h115]; exact h)) (by decide)
                                          | exact L123 1 _ _ _ _ _ _ hF hT hA hL ⟨n0, n1, by omega, by omega⟩ (fun q3 m h => by rw [pt_dr hp (by omega) (by rw [e1]) (by omega), dr_g (q := q3) (by unfold dr3 dr2; rw [e1, dsS_n h104]; show (tmS a n on (.inr q42)).1 = _; rw [h])]; unfold dr3 dr2; rw [e1, dsS_n h104]; show (Sum.inr (lsM q3 (hRunTo (lsH s) v42 v42 (tmS a n on (.inr q42)).2) _ _ _ _ _, 1) : Ro) = _; rw [h]) (fun e h => by rw [pt_dr hp (by omega) (by rw [e1]) (by omega)]; exact dr_f (by unfold dr3 dr2; rw [e1, dsS_n h104]; exact h)) (by decide)
                                          | exact L123 1 _ _ _ _ _ _ hF hT hA hL ⟨n0, n1, by omega, by omega⟩ (fun q3 m h => by rw [pt_b hp (dw h14) (by omega) h14, bk_g (q := q3) (by rw [h]), h]) (fun e h => by rw [pt_b hp (dw h14) (by omega) h14]; exact bk_f h) (by decide))
                                     · first
                                       | (exfalso; omega)
                                       | (refine bw_push rfl ?_
                                          refine bw_retz rfl rfl (by omega) ?_
                                          exact ⟨rfl, _, rfl, Or.inl ⟨e, hz, rfl, hX⟩⟩)
                                   · skip
                                     have hF := hF.trans (g115.1.mono N_W)
                                     have hR := g115.1.RF hR
                                     have hL := CL_sm hL g115.1.1 (fun c c0 c1 => no_N4 c0 c1)
                                     have n0 := ((congrFun k115 0).trans (up_ne (by decide))).trans n0
                                     have n1 := (congrFun k115 1).trans (up_eq rfl)
                                     have hT := g115.2.1
                                     have hA := g115.2.2
                                     refine bw_ifne rfl (fun c118 => ?_) (fun c118 => ?_)
                                     · first
                                       | (exfalso; omega)
                                       | (first
                                          | exact L123 1 _ _ _ _ _ _ hF hT hA hL ⟨n0, n1, by omega, by omega⟩ (fun q3 m h => by rw [pt_dr hp (by omega) (by rw [e1]) (by omega), dr_g (q := q3) (by unfold dr3 dr2; rw [e1, dsS_y h104, h115]; show (tmS a n on (.inr q115)).1 = _; rw [h])]; unfold dr3 dr2; rw [e1, dsS_y h104, h115]; show (Sum.inr (lsM q3 (hRunTo (lsH s) v42 v115 (tmS a n on (.inr q115)).2) _ _ _ _ _, 1) : Ro) = _; rw [h]) (fun e h => by rw [pt_dr hp (by omega) (by rw [e1]) (by omega)]; exact dr_f (by unfold dr3 dr2; rw [e1, dsS_y h104, h115]; exact h)) (by decide)
                                          | exact L123 1 _ _ _ _ _ _ hF hT hA hL ⟨n0, n1, by omega, by omega⟩ (fun q3 m h => by rw [pt_dr hp (by omega) (by rw [e1]) (by omega), dr_g (q := q3) (by unfold dr3 dr2; rw [e1, dsS_n h104]; show (tmS a n on (.inr q42)).1 = _; rw [h])]; unfold dr3 dr2; rw [e1, dsS_n h104]; show (Sum.inr (lsM q3 (hRunTo (lsH s) v42 v42 (tmS a n on (.inr q42)).2) _ _ _ _ _, 1) : Ro) = _; rw [h]) (fun e h => by rw [pt_dr hp (by omega) (by rw [e1]) (by omega)]; exact dr_f (by unfold dr3 dr2; rw [e1, dsS_n h104]; exact h)) (by decide)
                                          | exact L123 1 _ _ _ _ _ _ hF hT hA hL ⟨n0, n1, by omega, by omega⟩ (fun q3 m h => by rw [pt_b hp (dw h14) (by omega) h14, bk_g (q := q3) (by rw [h]), h]) (fun e h => by rw [pt_b hp (dw h14) (by omega) h14]; exact bk_f h) (by decide))
                                     · first
                                       | (exfalso; omega)
                                       | (refine bw_push rfl ?_
                                          refine bw_retz rfl rfl (by omega) ?_
                                          exact ⟨rfl, _, rfl, Or.inl ⟨e, hz, rfl, hX⟩⟩)))
                     · skip
                       refine bw_aload rfl rfl ?_
                       refine bw_push rfl ?_
                       refine bw_iload rfl rfl ?_
                       refine bw_callVi (e := d - 1) (as := [_, _]) rfl (by omega) rfl rfl (Nat.le_of_ble_eq_true rfl) (Nat.le_of_ble_eq_true rfl) rfl (c_fail hR) (fun r65 M65 hM65 => ?_)
                       obtain ⟨rfl, rfl⟩ := hM65
                       refine bw_retz rfl rfl (by omega) ?_
                       first
                       | exact ⟨rfl, _, rfl, Or.inl ⟨_, pt_d4 hp (by omega) (by rw [e1]) (by omega), rfl, by rw [← a1]; exact FA.tr (s := pW) hF.1 (fa_of hT) (fun _ k => k) P_W⟩⟩
                       | exact ⟨rfl, _, rfl, Or.inl ⟨_, pt_4 hp (dw h14) (by omega), rfl, by rw [← a1]; exact FA.tr (s := pW) hF.1 (fa_of hT) (fun _ k => k) P_W⟩⟩)
                · first
                  | (exfalso; omega)
                  | (refine bw_push rfl ?_
                     refine bw_retz rfl rfl (by omega) ?_
                     exact ⟨rfl, _, rfl, Or.inl ⟨e, hz, rfl, hX⟩⟩)
              · skip
                have hF := hF.trans (g42.1.mono N_W)
                have hR := g42.1.RF hR
                have hL := CL_sm hL g42.1.1 (fun c c0 c1 => no_N4 c0 c1)
                have n0 := (congrFun k42 0).trans (up_eq rfl)
                have hT := g42.2.1
                have hA := g42.2.2
                have e1 : dr1 a n s = (.inr q42, v42) := h42
                refine bw_ifne rfl (fun c45 => ?_) (fun c45 => ?_)
                · first
                  | (exfalso; omega)
                  | (refine bw_aload rfl rfl ?_
                     refine bw_getr rfl rfl (hR _ _) ?_
                     refine bw_getI rfl rfl ?_
                     rw [hL.f8]
                     refine bw_push rfl ?_
                     refine bw_icne rfl (fun c59 => ?_) (fun c59 => ?_)
                     · skip
                       refine bw_aload rfl rfl ?_
                       refine bw_getr rfl rfl (hR _ _) ?_
                       first | refine bw_dup rfl ?_ | refine bw_dupi rfl ?_
                       refine bw_getI rfl rfl ?_
                       rw [hL.f8]
                       refine bw_push rfl ?_
                       refine bw_iadd rfl ⟨by omega, by omega⟩ ?_
                       refine bw_putI rfl rfl ?_
                       obtain ⟨u9, hR, hT, hA, hL⟩ := st8 hR hT hA hL
                       have hF := hF.trans ((sq_of u9 (by decide)).mono a4_W)
                       have n0 := (congrFun (u9.at 9 (by decide)) 0).trans n0
                       refine bw_aload rfl rfl ?_
                       refine bw_getr rfl rfl (hR _ _) ?_
                       refine bw_push rfl ?_
                       refine bw_aload rfl rfl ?_
                       refine bw_getr rfl rfl (hR _ _) ?_
                       refine bw_push rfl ?_
                       refine bw_aldi rfl (by first | rfl | assumption) (by omega) (by omega) ?_
                       rw [n0]
                       refine bw_asti rfl (by first | rfl | assumption) (by omega) (by omega) ?_
                       obtain ⟨u9, hR, hT, hA, hL⟩ := st9n n0 hR hT hA hL
                       have hF := hF.trans ((sq_of u9 (by decide)).mono a9_W)
                       have n0 := n9_k hL (show (0 : Int) ≠ 1 by decide) n0
                       have n1 := n9_w hL
                       refine bw_iload rfl rfl ?_
                       refine bw_ifeq rfl (fun c95 => ?_) (fun c95 => ?_)
                       · first
                         | (exfalso; omega)
                         | (first
                            | exact L123 1 _ _ _ _ _ _ hF hT hA hL ⟨n0, n1, by omega, by omega⟩ (fun q3 m h => by rw [pt_dr hp (by omega) (by rw [e1]) (by omega), dr_g (q := q3) (by unfold dr3 dr2; rw [e1, dsS_y h104, h115]; show (tmS a n on (.inr q115)).1 = _; rw [h])]; unfold dr3 dr2; rw [e1, dsS_y h104, h115]; show (Sum.inr (lsM q3 (hRunTo (lsH s) v42 v115 (tmS a n on (.inr q115)).2) _ _ _ _ _, 1) : Ro) = _; rw [h]) (fun e h => by rw [pt_dr hp (by omega) (by rw [e1]) (by omega)]; exact dr_f (by unfold dr3 dr2; rw [e1, dsS_y h104, h115]; exact h)) (by decide)
                            | exact L123 1 _ _ _ _ _ _ hF hT hA hL ⟨n0, n1, by omega, by omega⟩ (fun q3 m h => by rw [pt_dr hp (by omega) (by rw [e1]) (by omega), dr_g (q := q3) (by unfold dr3 dr2; rw [e1, dsS_n h104]; show (tmS a n on (.inr q42)).1 = _; rw [h])]; unfold dr3 dr2; rw [e1, dsS_n h104]; show (Sum.inr (lsM q3 (hRunTo (lsH s) v42 v42 (tmS a n on (.inr q42)).2) _ _ _ _ _, 1) : Ro) = _; rw [h]) (fun e h => by rw [pt_dr hp (by omega) (by rw [e1]) (by omega)]; exact dr_f (by unfold dr3 dr2; rw [e1, dsS_n h104]; exact h)) (by decide)
                            | exact L123 1 _ _ _ _ _ _ hF hT hA hL ⟨n0, n1, by omega, by omega⟩ (fun q3 m h => by rw [pt_b hp (dw h14) (by omega) h14, bk_g (q := q3) (by rw [h]), h]) (fun e h => by rw [pt_b hp (dw h14) (by omega) h14]; exact bk_f h) (by decide))
                       · first
                         | (exfalso; omega)
                         | (refine bw_aload rfl rfl ?_
                            refine bw_getr rfl rfl (hR _ _) ?_
                            refine bw_push rfl ?_
                            refine bw_callVNi (e := d - 1) (as := [_]) rfl (by omega) rfl rfl (Nat.le_of_ble_eq_true rfl) (Nat.le_of_ble_eq_true rfl) rfl (c_takeSign (c := 45) hR hT hA (by decide) (by omega)) (fun r104 M104 hM104 => ?_)
                            rcases hM104 with ⟨h104, rfl, g104⟩ | ⟨h104, rfl, e104⟩
                            · have g104 := go_of g104
                              have hF := hF.trans (g104.1.mono T_W)
                              have hR := g104.1.RF hR
                              have hL := CL_sm hL g104.1.1 (fun c c0 c1 => no_T4 c0)
                              have n0 := (congrFun (g104.1.at 9 (by decide)) 0).trans n0
                              have n1 := (congrFun (g104.1.at 9 (by decide)) 1).trans n1
                              have hT := g104.2.1
                              have hA := g104.2.2
                              refine bw_ifeq rfl (fun c107 => ?_) (fun c107 => ?_)
                              · first
                                | (exfalso; omega)
                                | (first
                                   | exact L123 1 _ _ _ _ _ _ hF hT hA hL ⟨n0, n1, by omega, by omega⟩ (fun q3 m h => by rw [pt_dr hp (by omega) (by rw [e1]) (by omega), dr_g (q := q3) (by unfold dr3 dr2; rw [e1, dsS_y h104, h115]; show (tmS a n on (.inr q115)).1 = _; rw [h])]; unfold dr3 dr2; rw [e1, dsS_y h104, h115]; show (Sum.inr (lsM q3 (hRunTo (lsH s) v42 v115 (tmS a n on (.inr q115)).2) _ _ _ _ _, 1) : Ro) = _; rw [h]) (fun e h => by rw [pt_dr hp (by omega) (by rw [e1]) (by omega)]; exact dr_f (by unfold dr3 dr2; rw [e1, dsS_y h104, h115]; exact h)) (by decide)
                                   | exact L123 1 _ _ _ _ _ _ hF hT hA hL ⟨n0, n1, by omega, by omega⟩ (fun q3 m h => by rw [pt_dr hp (by omega) (by rw [e1]) (by omega), dr_g (q := q3) (by unfold dr3 dr2; rw [e1, dsS_n h104]; show (tmS a n on (.inr q42)).1 = _; rw [h])]; unfold dr3 dr2; rw [e1, dsS_n h104]; show (Sum.inr (lsM q3 (hRunTo (lsH s) v42 v42 (tmS a n on (.inr q42)).2) _ _ _ _ _, 1) : Ro) = _; rw [h]) (fun e h => by rw [pt_dr hp (by omega) (by rw [e1]) (by omega)]; exact dr_f (by unfold dr3 dr2; rw [e1, dsS_n h104]; exact h)) (by decide)
                                   | exact L123 1 _ _ _ _ _ _ hF hT hA hL ⟨n0, n1, by omega, by omega⟩ (fun q3 m h => by rw [pt_b hp (dw h14) (by omega) h14, bk_g (q := q3) (by rw [h]), h]) (fun e h => by rw [pt_b hp (dw h14) (by omega) h14]; exact bk_f h) (by decide))
                              · first
                                | (exfalso; omega)
                                | (refine bw_aload rfl rfl ?_
                                   refine bw_push rfl ?_
                                   refine bw_push rfl ?_
                                   refine bw_push rfl ?_
                                   refine bw_callVi (e := d - 1) (as := [_, _, _]) rfl (by omega) rfl rfl (Nat.le_of_ble_eq_true rfl) (Nat.le_of_ble_eq_true rfl) rfl (c_needNumber hR hT hA (by omega) (by omega)) (fun r115 M115 hM115 => ?_)
                                   rcases hM115 with ⟨e, h115, rfl, f115⟩ | ⟨q115, v115, h115, rfl, g115, b115, k115⟩
                                   · have hz : ptS a n on s = .inl e := by (rw [pt_dr hp (by omega) (by rw [e1]) (by omega)]; exact dr_f (by unfold dr3 dr2; rw [e1, dsS_y h104, h115]; exact tm_l))
                                     have hX := FA.tr (s := pW) hF.1 f115 (fun _ k => k) P_W
                                     refine bw_ifne rfl (fun c118 => ?_) (fun c118 => ?_)
                                     · first
                                       | (exfalso; omega)
                                       | (first
                                          | exact L123 1 _ _ _ _ _ _ hF hT hA hL ⟨n0, n1, by omega, by omega⟩ (fun q3 m h => by rw [pt_dr hp (by omega) (by rw [e1]) (by omega), dr_g (q := q3) (by unfold dr3 dr2; rw [e1, dsS_y h104, h115]; show (tmS a n on (.inr q115)).1 = _; rw [h])]; unfold dr3 dr2; rw [e1, dsS_y h104, h115]; show (Sum.inr (lsM q3 (hRunTo (lsH s) v42 v115 (tmS a n on (.inr q115)).2) _ _ _ _ _, 1) : Ro) = _; rw [h]) (fun e h => by rw [pt_dr hp (by omega) (by rw [e1]) (by omega)]; exact dr_f (by unfold dr3 dr2; rw [e1, dsS_y h104, h115]; exact h)) (by decide)
                                          | exact L123 1 _ _ _ _ _ _ hF hT hA hL ⟨n0, n1, by omega, by omega⟩ (fun q3 m h => by rw [pt_dr hp (by omega) (by rw [e1]) (by omega), dr_g (q := q3) (by unfold dr3 dr2; rw [e1, dsS_n h104]; show (tmS a n on (.inr q42)).1 = _; rw [h])]; unfold dr3 dr2; rw [e1, dsS_n h104]; show (Sum.inr (lsM q3 (hRunTo (lsH s) v42 v42 (tmS a n on (.inr q42)).2) _ _ _ _ _, 1) : Ro) = _; rw [h]) (fun e h => by rw [pt_dr hp (by omega) (by rw [e1]) (by omega)]; exact dr_f (by unfold dr3 dr2; rw [e1, dsS_n h104]; exact h)) (by decide)
                                          | exact L123 1 _ _ _ _ _ _ hF hT hA hL ⟨n0, n1, by omega, by omega⟩ (fun q3 m h => by rw [pt_b hp (dw h14) (by omega) h14, bk_g (q := q3) (by rw [h]), h]) (fun e h => by rw [pt_b hp (dw h14) (by omega) h14]; exact bk_f h) (by decide))
                                     · first
                                       | (exfalso; omega)
                                       | (refine bw_push rfl ?_
                                          refine bw_retz rfl rfl (by omega) ?_
                                          exact ⟨rfl, _, rfl, Or.inl ⟨e, hz, rfl, hX⟩⟩)
                                   · skip
                                     have hF := hF.trans (g115.1.mono N_W)
                                     have hR := g115.1.RF hR
                                     have hL := CL_sm hL g115.1.1 (fun c c0 c1 => no_N4 c0 c1)
                                     have n0 := ((congrFun k115 0).trans (up_ne (by decide))).trans n0
                                     have n1 := (congrFun k115 1).trans (up_eq rfl)
                                     have hT := g115.2.1
                                     have hA := g115.2.2
                                     refine bw_ifne rfl (fun c118 => ?_) (fun c118 => ?_)
                                     · first
                                       | (exfalso; omega)
                                       | (first
                                          | exact L123 1 _ _ _ _ _ _ hF hT hA hL ⟨n0, n1, by omega, by omega⟩ (fun q3 m h => by rw [pt_dr hp (by omega) (by rw [e1]) (by omega), dr_g (q := q3) (by unfold dr3 dr2; rw [e1, dsS_y h104, h115]; show (tmS a n on (.inr q115)).1 = _; rw [h])]; unfold dr3 dr2; rw [e1, dsS_y h104, h115]; show (Sum.inr (lsM q3 (hRunTo (lsH s) v42 v115 (tmS a n on (.inr q115)).2) _ _ _ _ _, 1) : Ro) = _; rw [h]) (fun e h => by rw [pt_dr hp (by omega) (by rw [e1]) (by omega)]; exact dr_f (by unfold dr3 dr2; rw [e1, dsS_y h104, h115]; exact h)) (by decide)
                                          | exact L123 1 _ _ _ _ _ _ hF hT hA hL ⟨n0, n1, by omega, by omega⟩ (fun q3 m h => by rw [pt_dr hp (by omega) (by rw [e1]) (by omega), dr_g (q := q3) (by unfold dr3 dr2; rw [e1, dsS_n h104]; show (tmS a n on (.inr q42)).1 = _; rw [h])]; unfold dr3 dr2; rw [e1, dsS_n h104]; show (Sum.inr (lsM q3 (hRunTo (lsH s) v42 v42 (tmS a n on (.inr q42)).2) _ _ _ _ _, 1) : Ro) = _; rw [h]) (fun e h => by rw [pt_dr hp (by omega) (by rw [e1]) (by omega)]; exact dr_f (by unfold dr3 dr2; rw [e1, dsS_n h104]; exact h)) (by decide)
                                          | exact L123 1 _ _ _ _ _ _ hF hT hA hL ⟨n0, n1, by omega, by omega⟩ (fun q3 m h => by rw [pt_b hp (dw h14) (by omega) h14, bk_g (q := q3) (by rw [h]), h]) (fun e h => by rw [pt_b hp (dw h14) (by omega) h14]; exact bk_f h) (by decide))
                                     · first
                                       | (exfalso; omega)
                                       | (refine bw_push rfl ?_
                                          refine bw_retz rfl rfl (by omega) ?_
                                          exact ⟨rfl, _, rfl, Or.inl ⟨e, hz, rfl, hX⟩⟩))
                            · have g104 := go_n hT hA e104
                              have hF := hF.trans (g104.1.mono T_W)
                              have hR := g104.1.RF hR
                              have hL := CL_sm hL g104.1.1 (fun c c0 c1 => no_T4 c0)
                              have n0 := (congrFun (g104.1.at 9 (by decide)) 0).trans n0
                              have n1 := (congrFun (g104.1.at 9 (by decide)) 1).trans n1
                              have hT := g104.2.1
                              have hA := g104.2.2
                              refine bw_ifeq rfl (fun c107 => ?_) (fun c107 => ?_)
                              · first
                                | (exfalso; omega)
                                | (first
                                   | exact L123 1 _ _ _ _ _ _ hF hT hA hL ⟨n0, n1, by omega, by omega⟩ (fun q3 m h => by rw [pt_dr hp (by omega) (by rw [e1]) (by omega), dr_g (q := q3) (by unfold dr3 dr2; rw [e1, dsS_y h104, h115]; show (tmS a n on (.inr q115)).1 = _; rw [h])]; unfold dr3 dr2; rw [e1, dsS_y h104, h115]; show (Sum.inr (lsM q3 (hRunTo (lsH s) v42 v115 (tmS a n on (.inr q115)).2) _ _ _ _ _, 1) : Ro) = _; rw [h]) (fun e h => by rw [pt_dr hp (by omega) (by rw [e1]) (by omega)]; exact dr_f (by unfold dr3 dr2; rw [e1, dsS_y h104, h115]; exact h)) (by decide)
                                   | exact L123 1 _ _ _ _ _ _ hF hT hA hL ⟨n0, n1, by omega, by omega⟩ (fun q3 m h => by rw [pt_dr hp (by omega) (by rw [e1]) (by omega), dr_g (q := q3) (by unfold dr3 dr2; rw [e1, dsS_n h104]; show (tmS a n on (.inr q42)).1 = _; rw [h])]; unfold dr3 dr2; rw [e1, dsS_n h104]; show (Sum.inr (lsM q3 (hRunTo (lsH s) v42 v42 (tmS a n on (.inr q42)).2) _ _ _ _ _, 1) : Ro) = _; rw [h]) (fun e h => by rw [pt_dr hp (by omega) (by rw [e1]) (by omega)]; exact dr_f (by unfold dr3 dr2; rw [e1, dsS_n h104]; exact h)) (by decide)
                                   | exact L123 1 _ _ _ _ _ _ hF hT hA hL ⟨n0, n1, by omega, by omega⟩ (fun q3 m h => by rw [pt_b hp (dw h14) (by omega) h14, bk_g (q := q3) (by rw [h]), h]) (fun e h => by rw [pt_b hp (dw h14) (by omega) h14]; exact bk_f h) (by decide))
                              · first
                                | (exfalso; omega)
                                | (refine bw_aload rfl rfl ?_
                                   refine bw_push rfl ?_
                                   refine bw_push rfl ?_
                                   refine bw_push rfl ?_
                                   refine bw_callVi (e := d - 1) (as := [_, _, _]) rfl (by omega) rfl rfl (Nat.le_of_ble_eq_true rfl) (Nat.le_of_ble_eq_true rfl) rfl (c_needNumber hR hT hA (by omega) (by omega)) (fun r115 M115 hM115 => ?_)
                                   rcases hM115 with ⟨e, h115, rfl, f115⟩ | ⟨q115, v115, h115, rfl, g115, b115, k115⟩
                                   · have hz : ptS a n on s = .inl e := by (rw [pt_dr hp (by omega) (by rw [e1]) (by omega)]; exact dr_f (by unfold dr3 dr2; rw [e1, dsS_y h104, h115]; exact tm_l))
                                     have hX := FA.tr (s := pW) hF.1 f115 (fun _ k => k) P_W
                                     refine bw_ifne rfl (fun c118 => ?_) (fun c118 => ?_)
                                     · first
                                       | (exfalso; omega)
                                       | (first
                                          | exact L123 1 _ _ _ _ _ _ hF hT hA hL ⟨n0, n1, by omega, by omega⟩ (fun q3 m h => by rw [pt_dr hp (by omega) (by rw [e1]) (by omega), dr_g (q := q3) (by unfold dr3 dr2; rw [e1, dsS_y h104, h115]; show (tmS a n on (.inr q115)).1 = _; rw [h])]; unfold dr3 dr2; rw [e1, dsS_y h104, h115]; show (Sum.inr (lsM q3 (hRunTo (lsH s) v42 v115 (tmS a n on (.inr q115)).2) _ _ _ _ _, 1) : Ro) = _; rw [h]) (fun e h => by rw [pt_dr hp (by omega) (by rw [e1]) (by omega)]; exact dr_f (by unfold dr3 dr2; rw [e1, dsS_y h104, h115]; exact h)) (by decide)
                                          | exact L123 1 _ _ _ _ _ _ hF hT hA hL ⟨n0, n1, by omega, by omega⟩ (fun q3 m h => by rw [pt_dr hp (by omega) (by rw [e1]) (by omega), dr_g (q := q3) (by unfold dr3 dr2; rw [e1, dsS_n h104]; show (tmS a n on (.inr q42)).1 = _; rw [h])]; unfold dr3 dr2; rw [e1, dsS_n h104]; show (Sum.inr (lsM q3 (hRunTo (lsH s) v42 v42 (tmS a n on (.inr q42)).2) _ _ _ _ _, 1) : Ro) = _; rw [h]) (fun e h => by rw [pt_dr hp (by omega) (by rw [e1]) (by omega)]; exact dr_f (by unfold dr3 dr2; rw [e1, dsS_n h104]; exact h)) (by decide)
                                          | exact L123 1 _ _ _ _ _ _ hF hT hA hL ⟨n0, n1, by omega, by omega⟩ (fun q3 m h => by rw [pt_b hp (dw h14) (by omega) h14, bk_g (q := q3) (by rw [h]), h]) (fun e h => by rw [pt_b hp (dw h14) (by omega) h14]; exact bk_f h) (by decide))
                                     · first
                                       | (exfalso; omega)
                                       | (refine bw_push rfl ?_
                                          refine bw_retz rfl rfl (by omega) ?_
                                          exact ⟨rfl, _, rfl, Or.inl ⟨e, hz, rfl, hX⟩⟩)
                                   · skip
                                     have hF := hF.trans (g115.1.mono N_W)
                                     have hR := g115.1.RF hR
                                     have hL := CL_sm hL g115.1.1 (fun c c0 c1 => no_N4 c0 c1)
                                     have n0 := ((congrFun k115 0).trans (up_ne (by decide))).trans n0
                                     have n1 := (congrFun k115 1).trans (up_eq rfl)
                                     have hT := g115.2.1
                                     have hA := g115.2.2
                                     refine bw_ifne rfl (fun c118 => ?_) (fun c118 => ?_)
                                     · first
                                       | (exfalso; omega)
                                       | (first
                                          | exact L123 1 _ _ _ _ _ _ hF hT hA hL ⟨n0, n1, by omega, by omega⟩ (fun q3 m h => by rw [pt_dr hp (by omega) (by rw [e1]) (by omega), dr_g (q := q3) (by unfold dr3 dr2; rw [e1, dsS_y h104, h115]; show (tmS a n on (.inr q115)).1 = _; rw [h])]; unfold dr3 dr2; rw [e1, dsS_y h104, h115]; show (Sum.inr (lsM q3 (hRunTo (lsH s) v42 v115 (tmS a n on (.inr q115)).2) _ _ _ _ _, 1) : Ro) = _; rw [h]) (fun e h => by rw [pt_dr hp (by omega) (by rw [e1]) (by omega)]; exact dr_f (by unfold dr3 dr2; rw [e1, dsS_y h104, h115]; exact h)) (by decide)
                                          | exact L123 1 _ _ _ _ _ _ hF hT hA hL ⟨n0, n1, by omega, by omega⟩ (fun q3 m h => by rw [pt_dr hp (by omega) (by rw [e1]) (by omega), dr_g (q := q3) (by unfold dr3 dr2; rw [e1, dsS_n h104]; show (tmS a n on (.inr q42)).1 = _; rw [h])]; unfold dr3 dr2; rw [e1, dsS_n h104]; show (Sum.inr (lsM q3 (hRunTo (lsH s) v42 v42 (tmS a n on (.inr q42)).2) _ _ _ _ _, 1) : Ro) = _; rw [h]) (fun e h => by rw [pt_dr hp (by omega) (by rw [e1]) (by omega)]; exact dr_f (by unfold dr3 dr2; rw [e1, dsS_n h104]; exact h)) (by decide)
                                          | exact L123 1 _ _ _ _ _ _ hF hT hA hL ⟨n0, n1, by omega, by omega⟩ (fun q3 m h => by rw [pt_b hp (dw h14) (by omega) h14, bk_g (q := q3) (by rw [h]), h]) (fun e h => by rw [pt_b hp (dw h14) (by omega) h14]; exact bk_f h) (by decide))
                                     · first
                                       | (exfalso; omega)
                                       | (refine bw_push rfl ?_
                                          refine bw_retz rfl rfl (by omega) ?_
                                          exact ⟨rfl, _, rfl, Or.inl ⟨e, hz, rfl, hX⟩⟩)))
                     · skip
                       refine bw_aload rfl rfl ?_
                       refine bw_push rfl ?_
                       refine bw_iload rfl rfl ?_
                       refine bw_callVi (e := d - 1) (as := [_, _]) rfl (by omega) rfl rfl (Nat.le_of_ble_eq_true rfl) (Nat.le_of_ble_eq_true rfl) rfl (c_fail hR) (fun r65 M65 hM65 => ?_)
                       obtain ⟨rfl, rfl⟩ := hM65
                       refine bw_retz rfl rfl (by omega) ?_
                       first
                       | exact ⟨rfl, _, rfl, Or.inl ⟨_, pt_d4 hp (by omega) (by rw [e1]) (by omega), rfl, by rw [← a1]; exact FA.tr (s := pW) hF.1 (fa_of hT) (fun _ k => k) P_W⟩⟩
                       | exact ⟨rfl, _, rfl, Or.inl ⟨_, pt_4 hp (dw h14) (by omega), rfl, by rw [← a1]; exact FA.tr (s := pW) hF.1 (fa_of hT) (fun _ k => k) P_W⟩⟩)
                · first
                  | (exfalso; omega)
                  | (refine bw_push rfl ?_
                     refine bw_retz rfl rfl (by omega) ?_
                     exact ⟨rfl, _, rfl, Or.inl ⟨e, hz, rfl, hX⟩⟩)))
    · first
      | (exfalso; omega)
      | (refine bw_push rfl ?_
         refine bw_goto rfl ?_
         refine bw_istore (ls2 := [_, _, _]) rfl rfl (Nat.le_of_ble_eq_true rfl) rfl ?_
         refine bw_aload rfl rfl ?_
         refine bw_getr rfl rfl (hR _ _) ?_
         refine bw_push rfl ?_
         refine bw_push rfl ?_
         refine bw_asti rfl (by first | rfl | assumption) (by omega) (by omega) ?_
         obtain ⟨u9, hR, hT, hA, hL⟩ := st9 0 (0) hR hT hA hL
         have hF := hF.trans ((sq_of u9 (by decide)).mono a9_W)
         have n0 := n9_w hL
         refine bw_iload rfl rfl ?_
         refine bw_ifeq rfl (fun c34 => ?_) (fun c34 => ?_)
         · first
           | (exfalso; omega)
           | (refine bw_aload rfl rfl ?_
              refine bw_getr rfl rfl (hR _ _) ?_
              refine bw_getI rfl rfl ?_
              rw [hL.f8]
              refine bw_push rfl ?_
              refine bw_icne rfl (fun c59 => ?_) (fun c59 => ?_)
              · skip
                refine bw_aload rfl rfl ?_
                refine bw_getr rfl rfl (hR _ _) ?_
                first | refine bw_dup rfl ?_ | refine bw_dupi rfl ?_
                refine bw_getI rfl rfl ?_
                rw [hL.f8]
                refine bw_push rfl ?_
                refine bw_iadd rfl ⟨by omega, by omega⟩ ?_
                refine bw_putI rfl rfl ?_
                obtain ⟨u9, hR, hT, hA, hL⟩ := st8 hR hT hA hL
                have hF := hF.trans ((sq_of u9 (by decide)).mono a4_W)
                have n0 := (congrFun (u9.at 9 (by decide)) 0).trans n0
                refine bw_aload rfl rfl ?_
                refine bw_getr rfl rfl (hR _ _) ?_
                refine bw_push rfl ?_
                refine bw_aload rfl rfl ?_
                refine bw_getr rfl rfl (hR _ _) ?_
                refine bw_push rfl ?_
                refine bw_aldi rfl (by first | rfl | assumption) (by omega) (by omega) ?_
                rw [n0]
                refine bw_asti rfl (by first | rfl | assumption) (by omega) (by omega) ?_
                obtain ⟨u9, hR, hT, hA, hL⟩ := st9n n0 hR hT hA hL
                have hF := hF.trans ((sq_of u9 (by decide)).mono a9_W)
                have n0 := n9_k hL (show (0 : Int) ≠ 1 by decide) n0
                have n1 := n9_w hL
                refine bw_iload rfl rfl ?_
                refine bw_ifeq rfl (fun c95 => ?_) (fun c95 => ?_)
                · first
                  | (exfalso; omega)
                  | (first
                     | exact L123 1 _ _ _ _ _ _ hF hT hA hL ⟨n0, n1, by omega, by omega⟩ (fun q3 m h => by rw [pt_dr hp (by omega) (by rw [e1]) (by omega), dr_g (q := q3) (by unfold dr3 dr2; rw [e1, dsS_y h104, h115]; show (tmS a n on (.inr q115)).1 = _; rw [h])]; unfold dr3 dr2; rw [e1, dsS_y h104, h115]; show (Sum.inr (lsM q3 (hRunTo (lsH s) v42 v115 (tmS a n on (.inr q115)).2) _ _ _ _ _, 1) : Ro) = _; rw [h]) (fun e h => by rw [pt_dr hp (by omega) (by rw [e1]) (by omega)]; exact dr_f (by unfold dr3 dr2; rw [e1, dsS_y h104, h115]; exact h)) (by decide)
                     | exact L123 1 _ _ _ _ _ _ hF hT hA hL ⟨n0, n1, by omega, by omega⟩ (fun q3 m h => by rw [pt_dr hp (by omega) (by rw [e1]) (by omega), dr_g (q := q3) (by unfold dr3 dr2; rw [e1, dsS_n h104]; show (tmS a n on (.inr q42)).1 = _; rw [h])]; unfold dr3 dr2; rw [e1, dsS_n h104]; show (Sum.inr (lsM q3 (hRunTo (lsH s) v42 v42 (tmS a n on (.inr q42)).2) _ _ _ _ _, 1) : Ro) = _; rw [h]) (fun e h => by rw [pt_dr hp (by omega) (by rw [e1]) (by omega)]; exact dr_f (by unfold dr3 dr2; rw [e1, dsS_n h104]; exact h)) (by decide)
                     | exact L123 1 _ _ _ _ _ _ hF hT hA hL ⟨n0, n1, by omega, by omega⟩ (fun q3 m h => by rw [pt_b hp (dw h14) (by omega) h14, bk_g (q := q3) (by rw [h]), h]) (fun e h => by rw [pt_b hp (dw h14) (by omega) h14]; exact bk_f h) (by decide))
                · first
                  | (exfalso; omega)
                  | (refine bw_aload rfl rfl ?_
                     refine bw_getr rfl rfl (hR _ _) ?_
                     refine bw_push rfl ?_
                     refine bw_callVNi (e := d - 1) (as := [_]) rfl (by omega) rfl rfl (Nat.le_of_ble_eq_true rfl) (Nat.le_of_ble_eq_true rfl) rfl (c_takeSign (c := 45) hR hT hA (by decide) (by omega)) (fun r104 M104 hM104 => ?_)
                     rcases hM104 with ⟨h104, rfl, g104⟩ | ⟨h104, rfl, e104⟩
                     · have g104 := go_of g104
                       have hF := hF.trans (g104.1.mono T_W)
                       have hR := g104.1.RF hR
                       have hL := CL_sm hL g104.1.1 (fun c c0 c1 => no_T4 c0)
                       have n0 := (congrFun (g104.1.at 9 (by decide)) 0).trans n0
                       have n1 := (congrFun (g104.1.at 9 (by decide)) 1).trans n1
                       have hT := g104.2.1
                       have hA := g104.2.2
                       refine bw_ifeq rfl (fun c107 => ?_) (fun c107 => ?_)
                       · first
                         | (exfalso; omega)
                         | (first
                            | exact L123 1 _ _ _ _ _ _ hF hT hA hL ⟨n0, n1, by omega, by omega⟩ (fun q3 m h => by rw [pt_dr hp (by omega) (by rw [e1]) (by omega), dr_g (q := q3) (by unfold dr3 dr2; rw [e1, dsS_y h104, h115]; show (tmS a n on (.inr q115)).1 = _; rw [h])]; unfold dr3 dr2; rw [e1, dsS_y h104, h115]; show (Sum.inr (lsM q3 (hRunTo (lsH s) v42 v115 (tmS a n on (.inr q115)).2) _ _ _ _ _, 1) : Ro) = _; rw [h]) (fun e h => by rw [pt_dr hp (by omega) (by rw [e1]) (by omega)]; exact dr_f (by unfold dr3 dr2; rw [e1, dsS_y h104, h115]; exact h)) (by decide)
                            | exact L123 1 _ _ _ _ _ _ hF hT hA hL ⟨n0, n1, by omega, by omega⟩ (fun q3 m h => by rw [pt_dr hp (by omega) (by rw [e1]) (by omega), dr_g (q := q3) (by unfold dr3 dr2; rw [e1, dsS_n h104]; show (tmS a n on (.inr q42)).1 = _; rw [h])]; unfold dr3 dr2; rw [e1, dsS_n h104]; show (Sum.inr (lsM q3 (hRunTo (lsH s) v42 v42 (tmS a n on (.inr q42)).2) _ _ _ _ _, 1) : Ro) = _; rw [h]) (fun e h => by rw [pt_dr hp (by omega) (by rw [e1]) (by omega)]; exact dr_f (by unfold dr3 dr2; rw [e1, dsS_n h104]; exact h)) (by decide)
                            | exact L123 1 _ _ _ _ _ _ hF hT hA hL ⟨n0, n1, by omega, by omega⟩ (fun q3 m h => by rw [pt_b hp (dw h14) (by omega) h14, bk_g (q := q3) (by rw [h]), h]) (fun e h => by rw [pt_b hp (dw h14) (by omega) h14]; exact bk_f h) (by decide))
                       · first
                         | (exfalso; omega)
                         | (refine bw_aload rfl rfl ?_
                            refine bw_push rfl ?_
                            refine bw_push rfl ?_
                            refine bw_push rfl ?_
                            refine bw_callVi (e := d - 1) (as := [_, _, _]) rfl (by omega) rfl rfl (Nat.le_of_ble_eq_true rfl) (Nat.le_of_ble_eq_true rfl) rfl (c_needNumber hR hT hA (by omega) (by omega)) (fun r115 M115 hM115 => ?_)
                            rcases hM115 with ⟨e, h115, rfl, f115⟩ | ⟨q115, v115, h115, rfl, g115, b115, k115⟩
                            · have hz : ptS a n on s = .inl e := by (rw [pt_dr hp (by omega) (by rw [e1]) (by omega)]; exact dr_f (by unfold dr3 dr2; rw [e1, dsS_y h104, h115]; exact tm_l))
                              have hX := FA.tr (s := pW) hF.1 f115 (fun _ k => k) P_W
                              refine bw_ifne rfl (fun c118 => ?_) (fun c118 => ?_)
                              · first
                                | (exfalso; omega)
                                | (first
                                   | exact L123 1 _ _ _ _ _ _ hF hT hA hL ⟨n0, n1, by omega, by omega⟩ (fun q3 m h => by rw [pt_dr hp (by omega) (by rw [e1]) (by omega), dr_g (q := q3) (by unfold dr3 dr2; rw [e1, dsS_y h104, h115]; show (tmS a n on (.inr q115)).1 = _; rw [h])]; unfold dr3 dr2; rw [e1, dsS_y h104, h115]; show (Sum.inr (lsM q3 (hRunTo (lsH s) v42 v115 (tmS a n on (.inr q115)).2) _ _ _ _ _, 1) : Ro) = _; rw [h]) (fun e h => by rw [pt_dr hp (by omega) (by rw [e1]) (by omega)]; exact dr_f (by unfold dr3 dr2; rw [e1, dsS_y h104, h115]; exact h)) (by decide)
                                   | exact L123 1 _ _ _ _ _ _ hF hT hA hL ⟨n0, n1, by omega, by omega⟩ (fun q3 m h => by rw [pt_dr hp (by omega) (by rw [e1]) (by omega), dr_g (q := q3) (by unfold dr3 dr2; rw [e1, dsS_n h104]; show (tmS a n on (.inr q42)).1 = _; rw [h])]; unfold dr3 dr2; rw [e1, dsS_n h104]; show (Sum.inr (lsM q3 (hRunTo (lsH s) v42 v42 (tmS a n on (.inr q42)).2) _ _ _ _ _, 1) : Ro) = _; rw [h]) (fun e h => by rw [pt_dr hp (by omega) (by rw [e1]) (by omega)]; exact dr_f (by unfold dr3 dr2; rw [e1, dsS_n h104]; exact h)) (by decide)
                                   | exact L123 1 _ _ _ _ _ _ hF hT hA hL ⟨n0, n1, by omega, by omega⟩ (fun q3 m h => by rw [pt_b hp (dw h14) (by omega) h14, bk_g (q := q3) (by rw [h]), h]) (fun e h => by rw [pt_b hp (dw h14) (by omega) h14]; exact bk_f h) (by decide))
                              · first
                                | (exfalso; omega)
                                | (refine bw_push rfl ?_
                                   refine bw_retz rfl rfl (by omega) ?_
                                   exact ⟨rfl, _, rfl, Or.inl ⟨e, hz, rfl, hX⟩⟩)
                            · skip
                              have hF := hF.trans (g115.1.mono N_W)
                              have hR := g115.1.RF hR
                              have hL := CL_sm hL g115.1.1 (fun c c0 c1 => no_N4 c0 c1)
                              have n0 := ((congrFun k115 0).trans (up_ne (by decide))).trans n0
                              have n1 := (congrFun k115 1).trans (up_eq rfl)
                              have hT := g115.2.1
                              have hA := g115.2.2
                              refine bw_ifne rfl (fun c118 => ?_) (fun c118 => ?_)
                              · first
                                | (exfalso; omega)
                                | (first
                                   | exact L123 1 _ _ _ _ _ _ hF hT hA hL ⟨n0, n1, by omega, by omega⟩ (fun q3 m h => by rw [pt_dr hp (by omega) (by rw [e1]) (by omega), dr_g (q := q3) (by unfold dr3 dr2; rw [e1, dsS_y h104, h115]; show (tmS a n on (.inr q115)).1 = _; rw [h])]; unfold dr3 dr2; rw [e1, dsS_y h104, h115]; show (Sum.inr (lsM q3 (hRunTo (lsH s) v42 v115 (tmS a n on (.inr q115)).2) _ _ _ _ _, 1) : Ro) = _; rw [h]) (fun e h => by rw [pt_dr hp (by omega) (by rw [e1]) (by omega)]; exact dr_f (by unfold dr3 dr2; rw [e1, dsS_y h104, h115]; exact h)) (by decide)
                                   | exact L123 1 _ _ _ _ _ _ hF hT hA hL ⟨n0, n1, by omega, by omega⟩ (fun q3 m h => by rw [pt_dr hp (by omega) (by rw [e1]) (by omega), dr_g (q := q3) (by unfold dr3 dr2; rw [e1, dsS_n h104]; show (tmS a n on (.inr q42)).1 = _; rw [h])]; unfold dr3 dr2; rw [e1, dsS_n h104]; show (Sum.inr (lsM q3 (hRunTo (lsH s) v42 v42 (tmS a n on (.inr q42)).2) _ _ _ _ _, 1) : Ro) = _; rw [h]) (fun e h => by rw [pt_dr hp (by omega) (by rw [e1]) (by omega)]; exact dr_f (by unfold dr3 dr2; rw [e1, dsS_n h104]; exact h)) (by decide)
                                   | exact L123 1 _ _ _ _ _ _ hF hT hA hL ⟨n0, n1, by omega, by omega⟩ (fun q3 m h => by rw [pt_b hp (dw h14) (by omega) h14, bk_g (q := q3) (by rw [h]), h]) (fun e h => by rw [pt_b hp (dw h14) (by omega) h14]; exact bk_f h) (by decide))
                              · first
                                | (exfalso; omega)
                                | (refine bw_push rfl ?_
                                   refine bw_retz rfl rfl (by omega) ?_
                                   exact ⟨rfl, _, rfl, Or.inl ⟨e, hz, rfl, hX⟩⟩))
                     · have g104 := go_n hT hA e104
                       have hF := hF.trans (g104.1.mono T_W)
                       have hR := g104.1.RF hR
                       have hL := CL_sm hL g104.1.1 (fun c c0 c1 => no_T4 c0)
                       have n0 := (congrFun (g104.1.at 9 (by decide)) 0).trans n0
                       have n1 := (congrFun (g104.1.at 9 (by decide)) 1).trans n1
                       have hT := g104.2.1
                       have hA := g104.2.2
                       refine bw_ifeq rfl (fun c107 => ?_) (fun c107 => ?_)
                       · first
                         | (exfalso; omega)
                         | (first
                            | exact L123 1 _ _ _ _ _ _ hF hT hA hL ⟨n0, n1, by omega, by omega⟩ (fun q3 m h => by rw [pt_dr hp (by omega) (by rw [e1]) (by omega), dr_g (q := q3) (by unfold dr3 dr2; rw [e1, dsS_y h104, h115]; show (tmS a n on (.inr q115)).1 = _; rw [h])]; unfold dr3 dr2; rw [e1, dsS_y h104, h115]; show (Sum.inr (lsM q3 (hRunTo (lsH s) v42 v115 (tmS a n on (.inr q115)).2) _ _ _ _ _, 1) : Ro) = _; rw [h]) (fun e h => by rw [pt_dr hp (by omega) (by rw [e1]) (by omega)]; exact dr_f (by unfold dr3 dr2; rw [e1, dsS_y h104, h115]; exact h)) (by decide)
                            | exact L123 1 _ _ _ _ _ _ hF hT hA hL ⟨n0, n1, by omega, by omega⟩ (fun q3 m h => by rw [pt_dr hp (by omega) (by rw [e1]) (by omega), dr_g (q := q3) (by unfold dr3 dr2; rw [e1, dsS_n h104]; show (tmS a n on (.inr q42)).1 = _; rw [h])]; unfold dr3 dr2; rw [e1, dsS_n h104]; show (Sum.inr (lsM q3 (hRunTo (lsH s) v42 v42 (tmS a n on (.inr q42)).2) _ _ _ _ _, 1) : Ro) = _; rw [h]) (fun e h => by rw [pt_dr hp (by omega) (by rw [e1]) (by omega)]; exact dr_f (by unfold dr3 dr2; rw [e1, dsS_n h104]; exact h)) (by decide)
                            | exact L123 1 _ _ _ _ _ _ hF hT hA hL ⟨n0, n1, by omega, by omega⟩ (fun q3 m h => by rw [pt_b hp (dw h14) (by omega) h14, bk_g (q := q3) (by rw [h]), h]) (fun e h => by rw [pt_b hp (dw h14) (by omega) h14]; exact bk_f h) (by decide))
                       · first
                         | (exfalso; omega)
                         | (refine bw_aload rfl rfl ?_
                            refine bw_push rfl ?_
                            refine bw_push rfl ?_
                            refine bw_push rfl ?_
                            refine bw_callVi (e := d - 1) (as := [_, _, _]) rfl (by omega) rfl rfl (Nat.le_of_ble_eq_true rfl) (Nat.le_of_ble_eq_true rfl) rfl (c_needNumber hR hT hA (by omega) (by omega)) (fun r115 M115 hM115 => ?_)
                            rcases hM115 with ⟨e, h115, rfl, f115⟩ | ⟨q115, v115, h115, rfl, g115, b115, k115⟩
                            · have hz : ptS a n on s = .inl e := by (rw [pt_dr hp (by omega) (by rw [e1]) (by omega)]; exact dr_f (by unfold dr3 dr2; rw [e1, dsS_y h104, h115]; exact tm_l))
                              have hX := FA.tr (s := pW) hF.1 f115 (fun _ k => k) P_W
                              refine bw_ifne rfl (fun c118 => ?_) (fun c118 => ?_)
                              · first
                                | (exfalso; omega)
                                | (first
                                   | exact L123 1 _ _ _ _ _ _ hF hT hA hL ⟨n0, n1, by omega, by omega⟩ (fun q3 m h => by rw [pt_dr hp (by omega) (by rw [e1]) (by omega), dr_g (q := q3) (by unfold dr3 dr2; rw [e1, dsS_y h104, h115]; show (tmS a n on (.inr q115)).1 = _; rw [h])]; unfold dr3 dr2; rw [e1, dsS_y h104, h115]; show (Sum.inr (lsM q3 (hRunTo (lsH s) v42 v115 (tmS a n on (.inr q115)).2) _ _ _ _ _, 1) : Ro) = _; rw [h]) (fun e h => by rw [pt_dr hp (by omega) (by rw [e1]) (by omega)]; exact dr_f (by unfold dr3 dr2; rw [e1, dsS_y h104, h115]; exact h)) (by decide)
                                   | exact L123 1 _ _ _ _ _ _ hF hT hA hL ⟨n0, n1, by omega, by omega⟩ (fun q3 m h => by rw [pt_dr hp (by omega) (by rw [e1]) (by omega), dr_g (q := q3) (by unfold dr3 dr2; rw [e1, dsS_n h104]; show (tmS a n on (.inr q42)).1 = _; rw [h])]; unfold dr3 dr2; rw [e1, dsS_n h104]; show (Sum.inr (lsM q3 (hRunTo (lsH s) v42 v42 (tmS a n on (.inr q42)).2) _ _ _ _ _, 1) : Ro) = _; rw [h]) (fun e h => by rw [pt_dr hp (by omega) (by rw [e1]) (by omega)]; exact dr_f (by unfold dr3 dr2; rw [e1, dsS_n h104]; exact h)) (by decide)
                                   | exact L123 1 _ _ _ _ _ _ hF hT hA hL ⟨n0, n1, by omega, by omega⟩ (fun q3 m h => by rw [pt_b hp (dw h14) (by omega) h14, bk_g (q := q3) (by rw [h]), h]) (fun e h => by rw [pt_b hp (dw h14) (by omega) h14]; exact bk_f h) (by decide))
                              · first
                                | (exfalso; omega)
                                | (refine bw_push rfl ?_
                                   refine bw_retz rfl rfl (by omega) ?_
                                   exact ⟨rfl, _, rfl, Or.inl ⟨e, hz, rfl, hX⟩⟩)
                            · skip
                              have hF := hF.trans (g115.1.mono N_W)
                              have hR := g115.1.RF hR
                              have hL := CL_sm hL g115.1.1 (fun c c0 c1 => no_N4 c0 c1)
                              have n0 := ((congrFun k115 0).trans (up_ne (by decide))).trans n0
                              have n1 := (congrFun k115 1).trans (up_eq rfl)
                              have hT := g115.2.1
                              have hA := g115.2.2
                              refine bw_ifne rfl (fun c118 => ?_) (fun c118 => ?_)
                              · first
                                | (exfalso; omega)
                                | (first
                                   | exact L123 1 _ _ _ _ _ _ hF hT hA hL ⟨n0, n1, by omega, by omega⟩ (fun q3 m h => by rw [pt_dr hp (by omega) (by rw [e1]) (by omega), dr_g (q := q3) (by unfold dr3 dr2; rw [e1, dsS_y h104, h115]; show (tmS a n on (.inr q115)).1 = _; rw [h])]; unfold dr3 dr2; rw [e1, dsS_y h104, h115]; show (Sum.inr (lsM q3 (hRunTo (lsH s) v42 v115 (tmS a n on (.inr q115)).2) _ _ _ _ _, 1) : Ro) = _; rw [h]) (fun e h => by rw [pt_dr hp (by omega) (by rw [e1]) (by omega)]; exact dr_f (by unfold dr3 dr2; rw [e1, dsS_y h104, h115]; exact h)) (by decide)
                                   | exact L123 1 _ _ _ _ _ _ hF hT hA hL ⟨n0, n1, by omega, by omega⟩ (fun q3 m h => by rw [pt_dr hp (by omega) (by rw [e1]) (by omega), dr_g (q := q3) (by unfold dr3 dr2; rw [e1, dsS_n h104]; show (tmS a n on (.inr q42)).1 = _; rw [h])]; unfold dr3 dr2; rw [e1, dsS_n h104]; show (Sum.inr (lsM q3 (hRunTo (lsH s) v42 v42 (tmS a n on (.inr q42)).2) _ _ _ _ _, 1) : Ro) = _; rw [h]) (fun e h => by rw [pt_dr hp (by omega) (by rw [e1]) (by omega)]; exact dr_f (by unfold dr3 dr2; rw [e1, dsS_n h104]; exact h)) (by decide)
                                   | exact L123 1 _ _ _ _ _ _ hF hT hA hL ⟨n0, n1, by omega, by omega⟩ (fun q3 m h => by rw [pt_b hp (dw h14) (by omega) h14, bk_g (q := q3) (by rw [h]), h]) (fun e h => by rw [pt_b hp (dw h14) (by omega) h14]; exact bk_f h) (by decide))
                              · first
                                | (exfalso; omega)
                                | (refine bw_push rfl ?_
                                   refine bw_retz rfl rfl (by omega) ?_
                                   exact ⟨rfl, _, rfl, Or.inl ⟨e, hz, rfl, hX⟩⟩)))
              · skip
                refine bw_aload rfl rfl ?_
                refine bw_push rfl ?_
                refine bw_iload rfl rfl ?_
                refine bw_callVi (e := d - 1) (as := [_, _]) rfl (by omega) rfl rfl (Nat.le_of_ble_eq_true rfl) (Nat.le_of_ble_eq_true rfl) rfl (c_fail hR) (fun r65 M65 hM65 => ?_)
                obtain ⟨rfl, rfl⟩ := hM65
                refine bw_retz rfl rfl (by omega) ?_
                first
                | exact ⟨rfl, _, rfl, Or.inl ⟨_, pt_d4 hp (by omega) (by rw [e1]) (by omega), rfl, by rw [← a1]; exact FA.tr (s := pW) hF.1 (fa_of hT) (fun _ k => k) P_W⟩⟩
                | exact ⟨rfl, _, rfl, Or.inl ⟨_, pt_4 hp (dw h14) (by omega), rfl, by rw [← a1]; exact FA.tr (s := pW) hF.1 (fa_of hT) (fun _ k => k) P_W⟩⟩)
         · first
           | (exfalso; omega)
           | (refine bw_aload rfl rfl ?_
              refine bw_push rfl ?_
              refine bw_push rfl ?_
              refine bw_push rfl ?_
              refine bw_callVi (e := d - 1) (as := [_, _, _]) rfl (by omega) rfl rfl (Nat.le_of_ble_eq_true rfl) (Nat.le_of_ble_eq_true rfl) rfl (c_needNumber hR hT hA (by omega) (by omega)) (fun r42 M42 hM42 => ?_)
              rcases hM42 with ⟨e, h42, rfl, f42⟩ | ⟨q42, v42, h42, rfl, g42, b42, k42⟩
              · have hz : ptS a n on s = .inl e := by (first | exact pt_d hp (by omega) (by unfold dr1; rw [h42]))
                have hX := FA.tr (s := pW) hF.1 f42 (fun _ k => k) P_W
                refine bw_ifne rfl (fun c45 => ?_) (fun c45 => ?_)
                · first
                  | (exfalso; omega)
                  | (refine bw_aload rfl rfl ?_
                     refine bw_getr rfl rfl (hR _ _) ?_
                     refine bw_getI rfl rfl ?_
                     rw [hL.f8]
                     refine bw_push rfl ?_
                     refine bw_icne rfl (fun c59 => ?_) (fun c59 => ?_)
                     · skip
                       refine bw_aload rfl rfl ?_
                       refine bw_getr rfl rfl (hR _ _) ?_
                       first | refine bw_dup rfl ?_ | refine bw_dupi rfl ?_
                       refine bw_getI rfl rfl ?_
                       rw [hL.f8]
                       refine bw_push rfl ?_
                       refine bw_iadd rfl ⟨by omega, by omega⟩ ?_
                       refine bw_putI rfl rfl ?_
                       obtain ⟨u9, hR, hT, hA, hL⟩ := st8 hR hT hA hL
                       have hF := hF.trans ((sq_of u9 (by decide)).mono a4_W)
                       have n0 := (congrFun (u9.at 9 (by decide)) 0).trans n0
                       refine bw_aload rfl rfl ?_
                       refine bw_getr rfl rfl (hR _ _) ?_
                       refine bw_push rfl ?_
                       refine bw_aload rfl rfl ?_
                       refine bw_getr rfl rfl (hR _ _) ?_
                       refine bw_push rfl ?_
                       refine bw_aldi rfl (by first | rfl | assumption) (by omega) (by omega) ?_
                       rw [n0]
                       refine bw_asti rfl (by first | rfl | assumption) (by omega) (by omega) ?_
                       obtain ⟨u9, hR, hT, hA, hL⟩ := st9n n0 hR hT hA hL
                       have hF := hF.trans ((sq_of u9 (by decide)).mono a9_W)
                       have n0 := n9_k hL (show (0 : Int) ≠ 1 by decide) n0
                       have n1 := n9_w hL
                       refine bw_iload rfl rfl ?_
                       refine bw_ifeq rfl (fun c95 => ?_) (fun c95 => ?_)
                       · first
                         | (exfalso; omega)
                         | (first
                            | exact L123 1 _ _ _ _ _ _ hF hT hA hL ⟨n0, n1, by omega, by omega⟩ (fun q3 m h => by rw [pt_dr hp (by omega) (by rw [e1]) (by omega), dr_g (q := q3) (by unfold dr3 dr2; rw [e1, dsS_y h104, h115]; show (tmS a n on (.inr q115)).1 = _; rw [h])]; unfold dr3 dr2; rw [e1, dsS_y h104, h115]; show (Sum.inr (lsM q3 (hRunTo (lsH s) v42 v115 (tmS a n on (.inr q115)).2) _ _ _ _ _, 1) : Ro) = _; rw [h]) (fun e h => by rw [pt_dr hp (by omega) (by rw [e1]) (by omega)]; exact dr_f (by unfold dr3 dr2; rw [e1, dsS_y h104, h115]; exact h)) (by decide)
                            | exact L123 1 _ _ _ _ _ _ hF hT hA hL ⟨n0, n1, by omega, by omega⟩ (fun q3 m h => by rw [pt_dr hp (by omega) (by rw [e1]) (by omega), dr_g (q := q3) (by unfold dr3 dr2; rw [e1, dsS_n h104]; show (tmS a n on (.inr q42)).1 = _; rw [h])]; unfold dr3 dr2; rw [e1, dsS_n h104]; show (Sum.inr (lsM q3 (hRunTo (lsH s) v42 v42 (tmS a n on (.inr q42)).2) _ _ _ _ _, 1) : Ro) = _; rw [h]) (fun e h => by rw [pt_dr hp (by omega) (by rw [e1]) (by omega)]; exact dr_f (by unfold dr3 dr2; rw [e1, dsS_n h104]; exact h)) (by decide)
                            | exact L123 1 _ _ _ _ _ _ hF hT hA hL ⟨n0, n1, by omega, by omega⟩ (fun q3 m h => by rw [pt_b hp (dw h14) (by omega) h14, bk_g (q := q3) (by rw [h]), h]) (fun e h => by rw [pt_b hp (dw h14) (by omega) h14]; exact bk_f h) (by decide))
                       · first
                         | (exfalso; omega)
                         | (refine bw_aload rfl rfl ?_
                            refine bw_getr rfl rfl (hR _ _) ?_
                            refine bw_push rfl ?_
                            refine bw_callVNi (e := d - 1) (as := [_]) rfl (by omega) rfl rfl (Nat.le_of_ble_eq_true rfl) (Nat.le_of_ble_eq_true rfl) rfl (c_takeSign (c := 45) hR hT hA (by decide) (by omega)) (fun r104 M104 hM104 => ?_)
                            rcases hM104 with ⟨h104, rfl, g104⟩ | ⟨h104, rfl, e104⟩
                            · have g104 := go_of g104
                              have hF := hF.trans (g104.1.mono T_W)
                              have hR := g104.1.RF hR
                              have hL := CL_sm hL g104.1.1 (fun c c0 c1 => no_T4 c0)
                              have n0 := (congrFun (g104.1.at 9 (by decide)) 0).trans n0
                              have n1 := (congrFun (g104.1.at 9 (by decide)) 1).trans n1
                              have hT := g104.2.1
                              have hA := g104.2.2
                              refine bw_ifeq rfl (fun c107 => ?_) (fun c107 => ?_)
                              · first
                                | (exfalso; omega)
                                | (first
                                   | exact L123 1 _ _ _ _ _ _ hF hT hA hL ⟨n0, n1, by omega, by omega⟩ (fun q3 m h => by rw [pt_dr hp (by omega) (by rw [e1]) (by omega), dr_g (q := q3) (by unfold dr3 dr2; rw [e1, dsS_y h104, h115]; show (tmS a n on (.inr q115)).1 = _; rw [h])]; unfold dr3 dr2; rw [e1, dsS_y h104, h115]; show (Sum.inr (lsM q3 (hRunTo (lsH s) v42 v115 (tmS a n on (.inr q115)).2) _ _ _ _ _, 1) : Ro) = _; rw [h]) (fun e h => by rw [pt_dr hp (by omega) (by rw [e1]) (by omega)]; exact dr_f (by unfold dr3 dr2; rw [e1, dsS_y h104, h115]; exact h)) (by decide)
                                   | exact L123 1 _ _ _ _ _ _ hF hT hA hL ⟨n0, n1, by omega, by omega⟩ (fun q3 m h => by rw [pt_dr hp (by omega) (by rw [e1]) (by omega), dr_g (q := q3) (by unfold dr3 dr2; rw [e1, dsS_n h104]; show (tmS a n on (.inr q42)).1 = _; rw [h])]; unfold dr3 dr2; rw [e1, dsS_n h104]; show (Sum.inr (lsM q3 (hRunTo (lsH s) v42 v42 (tmS a n on (.inr q42)).2) _ _ _ _ _, 1) : Ro) = _; rw [h]) (fun e h => by rw [pt_dr hp (by omega) (by rw [e1]) (by omega)]; exact dr_f (by unfold dr3 dr2; rw [e1, dsS_n h104]; exact h)) (by decide)
                                   | exact L123 1 _ _ _ _ _ _ hF hT hA hL ⟨n0, n1, by omega, by omega⟩ (fun q3 m h => by rw [pt_b hp (dw h14) (by omega) h14, bk_g (q := q3) (by rw [h]), h]) (fun e h => by rw [pt_b hp (dw h14) (by omega) h14]; exact bk_f h) (by decide))
                              · first
                                | (exfalso; omega)
                                | (refine bw_aload rfl rfl ?_
                                   refine bw_push rfl ?_
                                   refine bw_push rfl ?_
                                   refine bw_push rfl ?_
                                   refine bw_callVi (e := d - 1) (as := [_, _, _]) rfl (by omega) rfl rfl (Nat.le_of_ble_eq_true rfl) (Nat.le_of_ble_eq_true rfl) rfl (c_needNumber hR hT hA (by omega) (by omega)) (fun r115 M115 hM115 => ?_)
                                   rcases hM115 with ⟨e, h115, rfl, f115⟩ | ⟨q115, v115, h115, rfl, g115, b115, k115⟩
                                   · have hz : ptS a n on s = .inl e := by (rw [pt_dr hp (by omega) (by rw [e1]) (by omega)]; exact dr_f (by unfold dr3 dr2; rw [e1, dsS_y h104, h115]; exact tm_l))
                                     have hX := FA.tr (s := pW) hF.1 f115 (fun _ k => k) P_W
                                     refine bw_ifne rfl (fun c118 => ?_) (fun c118 => ?_)
                                     · first
                                       | (exfalso; omega)
                                       | (first
                                          | exact L123 1 _ _ _ _ _ _ hF hT hA hL ⟨n0, n1, by omega, by omega⟩ (fun q3 m h => by rw [pt_dr hp (by omega) (by rw [e1]) (by omega), dr_g (q := q3) (by unfold dr3 dr2; rw [e1, dsS_y h104, h115]; show (tmS a n on (.inr q115)).1 = _; rw [h])]; unfold dr3 dr2; rw [e1, dsS_y h104, h115]; show (Sum.inr (lsM q3 (hRunTo (lsH s) v42 v115 (tmS a n on (.inr q115)).2) _ _ _ _ _, 1) : Ro) = _; rw [h]) (fun e h => by rw [pt_dr hp (by omega) (by rw [e1]) (by omega)]; exact dr_f (by unfold dr3 dr2; rw [e1, dsS_y h104, h115]; exact h)) (by decide)
                                          | exact L123 1 _ _ _ _ _ _ hF hT hA hL ⟨n0, n1, by omega, by omega⟩ (fun q3 m h => by rw [pt_dr hp (by omega) (by rw [e1]) (by omega), dr_g (q := q3) (by unfold dr3 dr2; rw [e1, dsS_n h104]; show (tmS a n on (.inr q42)).1 = _; rw [h])]; unfold dr3 dr2; rw [e1, dsS_n h104]; show (Sum.inr (lsM q3 (hRunTo (lsH s) v42 v42 (tmS a n on (.inr q42)).2) _ _ _ _ _, 1) : Ro) = _; rw [h]) (fun e h => by rw [pt_dr hp (by omega) (by rw [e1]) (by omega)]; exact dr_f (by unfold dr3 dr2; rw [e1, dsS_n h104]; exact h)) (by decide)
                                          | exact L123 1 _ _ _ _ _ _ hF hT hA hL ⟨n0, n1, by omega, by omega⟩ (fun q3 m h => by rw [pt_b hp (dw h14) (by omega) h14, bk_g (q := q3) (by rw [h]), h]) (fun e h => by rw [pt_b hp (dw h14) (by omega) h14]; exact bk_f h) (by decide))
                                     · first
                                       | (exfalso; omega)
                                       | (refine bw_push rfl ?_
                                          refine bw_retz rfl rfl (by omega) ?_
                                          exact ⟨rfl, _, rfl, Or.inl ⟨e, hz, rfl, hX⟩⟩)
                                   · skip
                                     have hF := hF.trans (g115.1.mono N_W)
                                     have hR := g115.1.RF hR
                                     have hL := CL_sm hL g115.1.1 (fun c c0 c1 => no_N4 c0 c1)
                                     have n0 := ((congrFun k115 0).trans (up_ne (by decide))).trans n0
                                     have n1 := (congrFun k115 1).trans (up_eq rfl)
                                     have hT := g115.2.1
                                     have hA := g115.2.2
                                     refine bw_ifne rfl (fun c118 => ?_) (fun c118 => ?_)
                                     · first
                                       | (exfalso; omega)
                                       | (first
                                          | exact L123 1 _ _ _ _ _ _ hF hT hA hL ⟨n0, n1, by omega, by omega⟩ (fun q3 m h => by rw [pt_dr hp (by omega) (by rw [e1]) (by omega), dr_g (q := q3) (by unfold dr3 dr2; rw [e1, dsS_y h104, h115]; show (tmS a n on (.inr q115)).1 = _; rw [h])]; unfold dr3 dr2; rw [e1, dsS_y h104, h115]; show (Sum.inr (lsM q3 (hRunTo (lsH s) v42 v115 (tmS a n on (.inr q115)).2) _ _ _ _ _, 1) : Ro) = _; rw [h]) (fun e h => by rw [pt_dr hp (by omega) (by rw [e1]) (by omega)]; exact dr_f (by unfold dr3 dr2; rw [e1, dsS_y h104, h115]; exact h)) (by decide)
                                          | exact L123 1 _ _ _ _ _ _ hF hT hA hL ⟨n0, n1, by omega, by omega⟩ (fun q3 m h => by rw [pt_dr hp (by omega) (by rw [e1]) (by omega), dr_g (q := q3) (by unfold dr3 dr2; rw [e1, dsS_n h104]; show (tmS a n on (.inr q42)).1 = _; rw [h])]; unfold dr3 dr2; rw [e1, dsS_n h104]; show (Sum.inr (lsM q3 (hRunTo (lsH s) v42 v42 (tmS a n on (.inr q42)).2) _ _ _ _ _, 1) : Ro) = _; rw [h]) (fun e h => by rw [pt_dr hp (by omega) (by rw [e1]) (by omega)]; exact dr_f (by unfold dr3 dr2; rw [e1, dsS_n h104]; exact h)) (by decide)
                                          | exact L123 1 _ _ _ _ _ _ hF hT hA hL ⟨n0, n1, by omega, by omega⟩ (fun q3 m h => by rw [pt_b hp (dw h14) (by omega) h14, bk_g (q := q3) (by rw [h]), h]) (fun e h => by rw [pt_b hp (dw h14) (by omega) h14]; exact bk_f h) (by decide))
                                     · first
                                       | (exfalso; omega)
                                       | (refine bw_push rfl ?_
                                          refine bw_retz rfl rfl (by omega) ?_
                                          exact ⟨rfl, _, rfl, Or.inl ⟨e, hz, rfl, hX⟩⟩))
                            · have g104 := go_n hT hA e104
                              have hF := hF.trans (g104.1.mono T_W)
                              have hR := g104.1.RF hR
                              have hL := CL_sm hL g104.1.1 (fun c c0 c1 => no_T4 c0)
                              have n0 := (congrFun (g104.1.at 9 (by decide)) 0).trans n0
                              have n1 := (congrFun (g104.1.at 9 (by decide)) 1).trans n1
                              have hT := g104.2.1
                              have hA := g104.2.2
                              refine bw_ifeq rfl (fun c107 => ?_) (fun c107 => ?_)
                              · first
                                | (exfalso; omega)
                                | (first
                                   | exact L123 1 _ _ _ _ _ _ hF hT hA hL ⟨n0, n1, by omega, by omega⟩ (fun q3 m h => by rw [pt_dr hp (by omega) (by rw [e1]) (by omega), dr_g (q := q3) (by unfold dr3 dr2; rw [e1, dsS_y h104, h115]; show (tmS a n on (.inr q115)).1 = _; rw [h])]; unfold dr3 dr2; rw [e1, dsS_y h104, h115]; show (Sum.inr (lsM q3 (hRunTo (lsH s) v42 v115 (tmS a n on (.inr q115)).2) _ _ _ _ _, 1) : Ro) = _; rw [h]) (fun e h => by rw [pt_dr hp (by omega) (by rw [e1]) (by omega)]; exact dr_f (by unfold dr3 dr2; rw [e1, dsS_y h104, h115]; exact h)) (by decide)
                                   | exact L123 1 _ _ _ _ _ _ hF hT hA hL ⟨n0, n1, by omega, by omega⟩ (fun q3 m h => by rw [pt_dr hp (by omega) (by rw [e1]) (by omega), dr_g (q := q3) (by unfold dr3 dr2; rw [e1, dsS_n h104]; show (tmS a n on (.inr q42)).1 = _; rw [h])]; unfold dr3 dr2; rw [e1, dsS_n h104]; show (Sum.inr (lsM q3 (hRunTo (lsH s) v42 v42 (tmS a n on (.inr q42)).2) _ _ _ _ _, 1) : Ro) = _; rw [h]) (fun e h => by rw [pt_dr hp (by omega) (by rw [e1]) (by omega)]; exact dr_f (by unfold dr3 dr2; rw [e1, dsS_n h104]; exact h)) (by decide)
                                   | exact L123 1 _ _ _ _ _ _ hF hT hA hL ⟨n0, n1, by omega, by omega⟩ (fun q3 m h => by rw [pt_b hp (dw h14) (by omega) h14, bk_g (q := q3) (by rw [h]), h]) (fun e h => by rw [pt_b hp (dw h14) (by omega) h14]; exact bk_f h) (by decide))
                              · first
                                | (exfalso; omega)
                                | (refine bw_aload rfl rfl ?_
                                   refine bw_push rfl ?_
                                   refine bw_push rfl ?_
                                   refine bw_push rfl ?_
                                   refine bw_callVi (e := d - 1) (as := [_, _, _]) rfl (by omega) rfl rfl (Nat.le_of_ble_eq_true rfl) (Nat.le_of_ble_eq_true rfl) rfl (c_needNumber hR hT hA (by omega) (by omega)) (fun r115 M115 hM115 => ?_)
                                   rcases hM115 with ⟨e, h115, rfl, f115⟩ | ⟨q115, v115, h115, rfl, g115, b115, k115⟩
                                   · have hz : ptS a n on s = .inl e := by (rw [pt_dr hp (by omega) (by rw [e1]) (by omega)]; exact dr_f (by unfold dr3 dr2; rw [e1, dsS_y h104, h115]; exact tm_l))
                                     have hX := FA.tr (s := pW) hF.1 f115 (fun _ k => k) P_W
                                     refine bw_ifne rfl (fun c118 => ?_) (fun c118 => ?_)
                                     · first
                                       | (exfalso; omega)
                                       | (first
                                          | exact L123 1 _ _ _ _ _ _ hF hT hA hL ⟨n0, n1, by omega, by omega⟩ (fun q3 m h => by rw [pt_dr hp (by omega) (by rw [e1]) (by omega), dr_g (q := q3) (by unfold dr3 dr2; rw [e1, dsS_y h104, h115]; show (tmS a n on (.inr q115)).1 = _; rw [h])]; unfold dr3 dr2; rw [e1, dsS_y h104, h115]; show (Sum.inr (lsM q3 (hRunTo (lsH s) v42 v115 (tmS a n on (.inr q115)).2) _ _ _ _ _, 1) : Ro) = _; rw [h]) (fun e h => by rw [pt_dr hp (by omega) (by rw [e1]) (by omega)]; exact dr_f (by unfold dr3 dr2; rw [e1, dsS_y h104, h115]; exact h)) (by decide)
                                          | exact L123 1 _ _ _ _ _ _ hF hT hA hL ⟨n0, n1, by omega, by omega⟩ (fun q3 m h => by rw [pt_dr hp (by omega) (by rw [e1]) (by omega), dr_g (q := q3) (by unfold dr3 dr2; rw [e1, dsS_n h104]; show (tmS a n on (.inr q42)).1 = _; rw [h])]; unfold dr3 dr2; rw [e1, dsS_n h104]; show (Sum.inr (lsM q3 (hRunTo (lsH s) v42 v42 (tmS a n on (.inr q42)).2) _ _ _ _ _, 1) : Ro) = _; rw [h]) (fun e h => by rw [pt_dr hp (by omega) (by rw [e1]) (by omega)]; exact dr_f (by unfold dr3 dr2; rw [e1, dsS_n h104]; exact h)) (by decide)
                                          | exact L123 1 _ _ _ _ _ _ hF hT hA hL ⟨n0, n1, by omega, by omega⟩ (fun q3 m h => by rw [pt_b hp (dw h14) (by omega) h14, bk_g (q := q3) (by rw [h]), h]) (fun e h => by rw [pt_b hp (dw h14) (by omega) h14]; exact bk_f h) (by decide))
                                     · first
                                       | (exfalso; omega)
                                       | (refine bw_push rfl ?_
                                          refine bw_retz rfl rfl (by omega) ?_
                                          exact ⟨rfl, _, rfl, Or.inl ⟨e, hz, rfl, hX⟩⟩)
                                   · skip
                                     have hF := hF.trans (g115.1.mono N_W)
                                     have hR := g115.1.RF hR
                                     have hL := CL_sm hL g115.1.1 (fun c c0 c1 => no_N4 c0 c1)
                                     have n0 := ((congrFun k115 0).trans (up_ne (by decide))).trans n0
                                     have n1 := (congrFun k115 1).trans (up_eq rfl)
                                     have hT := g115.2.1
                                     have hA := g115.2.2
                                     refine bw_ifne rfl (fun c118 => ?_) (fun c118 => ?_)
                                     · first
                                       | (exfalso; omega)
                                       | (first
                                          | exact L123 1 _ _ _ _ _ _ hF hT hA hL ⟨n0, n1, by omega, by omega⟩ (fun q3 m h => by rw [pt_dr hp (by omega) (by rw [e1]) (by omega), dr_g (q := q3) (by unfold dr3 dr2; rw [e1, dsS_y h104, h115]; show (tmS a n on (.inr q115)).1 = _; rw [h])]; unfold dr3 dr2; rw [e1, dsS_y h104, h115]; show (Sum.inr (lsM q3 (hRunTo (lsH s) v42 v115 (tmS a n on (.inr q115)).2) _ _ _ _ _, 1) : Ro) = _; rw [h]) (fun e h => by rw [pt_dr hp (by omega) (by rw [e1]) (by omega)]; exact dr_f (by unfold dr3 dr2; rw [e1, dsS_y h104, h115]; exact h)) (by decide)
                                          | exact L123 1 _ _ _ _ _ _ hF hT hA hL ⟨n0, n1, by omega, by omega⟩ (fun q3 m h => by rw [pt_dr hp (by omega) (by rw [e1]) (by omega), dr_g (q := q3) (by unfold dr3 dr2; rw [e1, dsS_n h104]; show (tmS a n on (.inr q42)).1 = _; rw [h])]; unfold dr3 dr2; rw [e1, dsS_n h104]; show (Sum.inr (lsM q3 (hRunTo (lsH s) v42 v42 (tmS a n on (.inr q42)).2) _ _ _ _ _, 1) : Ro) = _; rw [h]) (fun e h => by rw [pt_dr hp (by omega) (by rw [e1]) (by omega)]; exact dr_f (by unfold dr3 dr2; rw [e1, dsS_n h104]; exact h)) (by decide)
                                          | exact L123 1 _ _ _ _ _ _ hF hT hA hL ⟨n0, n1, by omega, by omega⟩ (fun q3 m h => by rw [pt_b hp (dw h14) (by omega) h14, bk_g (q := q3) (by rw [h]), h]) (fun e h => by rw [pt_b hp (dw h14) (by omega) h14]; exact bk_f h) (by decide))
                                     · first
                                       | (exfalso; omega)
                                       | (refine bw_push rfl ?_
                                          refine bw_retz rfl rfl (by omega) ?_
                                          exact ⟨rfl, _, rfl, Or.inl ⟨e, hz, rfl, hX⟩⟩)))
                     · skip
                       refine bw_aload rfl rfl ?_
                       refine bw_push rfl ?_
                       refine bw_iload rfl rfl ?_
                       refine bw_callVi (e := d - 1) (as := [_, _]) rfl (by omega) rfl rfl (Nat.le_of_ble_eq_true rfl) (Nat.le_of_ble_eq_true rfl) rfl (c_fail hR) (fun r65 M65 hM65 => ?_)
                       obtain ⟨rfl, rfl⟩ := hM65
                       refine bw_retz rfl rfl (by omega) ?_
                       first
                       | exact ⟨rfl, _, rfl, Or.inl ⟨_, pt_d4 hp (by omega) (by rw [e1]) (by omega), rfl, by rw [← a1]; exact FA.tr (s := pW) hF.1 (fa_of hT) (fun _ k => k) P_W⟩⟩
                       | exact ⟨rfl, _, rfl, Or.inl ⟨_, pt_4 hp (dw h14) (by omega), rfl, by rw [← a1]; exact FA.tr (s := pW) hF.1 (fa_of hT) (fun _ k => k) P_W⟩⟩)
                · first
                  | (exfalso; omega)
                  | (refine bw_push rfl ?_
                     refine bw_retz rfl rfl (by omega) ?_
                     exact ⟨rfl, _, rfl, Or.inl ⟨e, hz, rfl, hX⟩⟩)
              · skip
                have hF := hF.trans (g42.1.mono N_W)
                have hR := g42.1.RF hR
                have hL := CL_sm hL g42.1.1 (fun c c0 c1 => no_N4 c0 c1)
                have n0 := (congrFun k42 0).trans (up_eq rfl)
                have hT := g42.2.1
                have hA := g42.2.2
                have e1 : dr1 a n s = (.inr q42, v42) := h42
                refine bw_ifne rfl (fun c45 => ?_) (fun c45 => ?_)
                · first
                  | (exfalso; omega)
                  | (refine bw_aload rfl rfl ?_
                     refine bw_getr rfl rfl (hR _ _) ?_
                     refine bw_getI rfl rfl ?_
                     rw [hL.f8]
                     refine bw_push rfl ?_
                     refine bw_icne rfl (fun c59 => ?_) (fun c59 => ?_)
                     · skip
                       refine bw_aload rfl rfl ?_
                       refine bw_getr rfl rfl (hR _ _) ?_
                       first | refine bw_dup rfl ?_ | refine bw_dupi rfl ?_
                       refine bw_getI rfl rfl ?_
                       rw [hL.f8]
                       refine bw_push rfl ?_
                       refine bw_iadd rfl ⟨by omega, by omega⟩ ?_
                       refine bw_putI rfl rfl ?_
                       obtain ⟨u9, hR, hT, hA, hL⟩ := st8 hR hT hA hL
                       have hF := hF.trans ((sq_of u9 (by decide)).mono a4_W)
                       have n0 := (congrFun (u9.at 9 (by decide)) 0).trans n0
                       refine bw_aload rfl rfl ?_
                       refine bw_getr rfl rfl (hR _ _) ?_
                       refine bw_push rfl ?_
                       refine bw_aload rfl rfl ?_
                       refine bw_getr rfl rfl (hR _ _) ?_
                       refine bw_push rfl ?_
                       refine bw_aldi rfl (by first | rfl | assumption) (by omega) (by omega) ?_
                       rw [n0]
                       refine bw_asti rfl (by first | rfl | assumption) (by omega) (by omega) ?_
                       obtain ⟨u9, hR, hT, hA, hL⟩ := st9n n0 hR hT hA hL
                       have hF := hF.trans ((sq_of u9 (by decide)).mono a9_W)
                       have n0 := n9_k hL (show (0 : Int) ≠ 1 by decide) n0
                       have n1 := n9_w hL
                       refine bw_iload rfl rfl ?_
                       refine bw_ifeq rfl (fun c95 => ?_) (fun c95 => ?_)
                       · first
                         | (exfalso; omega)
                         | (first
                            | exact L123 1 _ _ _ _ _ _ hF hT hA hL ⟨n0, n1, by omega, by omega⟩ (fun q3 m h => by rw [pt_dr hp (by omega) (by rw [e1]) (by omega), dr_g (q := q3) (by unfold dr3 dr2; rw [e1, dsS_y h104, h115]; show (tmS a n on (.inr q115)).1 = _; rw [h])]; unfold dr3 dr2; rw [e1, dsS_y h104, h115]; show (Sum.inr (lsM q3 (hRunTo (lsH s) v42 v115 (tmS a n on (.inr q115)).2) _ _ _ _ _, 1) : Ro) = _; rw [h]) (fun e h => by rw [pt_dr hp (by omega) (by rw [e1]) (by omega)]; exact dr_f (by unfold dr3 dr2; rw [e1, dsS_y h104, h115]; exact h)) (by decide)
                            | exact L123 1 _ _ _ _ _ _ hF hT hA hL ⟨n0, n1, by omega, by omega⟩ (fun q3 m h => by rw [pt_dr hp (by omega) (by rw [e1]) (by omega), dr_g (q := q3) (by unfold dr3 dr2; rw [e1, dsS_n h104]; show (tmS a n on (.inr q42)).1 = _; rw [h])]; unfold dr3 dr2; rw [e1, dsS_n h104]; show (Sum.inr (lsM q3 (hRunTo (lsH s) v42 v42 (tmS a n on (.inr q42)).2) _ _ _ _ _, 1) : Ro) = _; rw [h]) (fun e h => by rw [pt_dr hp (by omega) (by rw [e1]) (by omega)]; exact dr_f (by unfold dr3 dr2; rw [e1, dsS_n h104]; exact h)) (by decide)
                            | exact L123 1 _ _ _ _ _ _ hF hT hA hL ⟨n0, n1, by omega, by omega⟩ (fun q3 m h => by rw [pt_b hp (dw h14) (by omega) h14, bk_g (q := q3) (by rw [h]), h]) (fun e h => by rw [pt_b hp (dw h14) (by omega) h14]; exact bk_f h) (by decide))
                       · first
                         | (exfalso; omega)
                         | (refine bw_aload rfl rfl ?_
                            refine bw_getr rfl rfl (hR _ _) ?_
                            refine bw_push rfl ?_
                            refine bw_callVNi (e := d - 1) (as := [_]) rfl (by omega) rfl rfl (Nat.le_of_ble_eq_true rfl) (Nat.le_of_ble_eq_true rfl) rfl (c_takeSign (c := 45) hR hT hA (by decide) (by omega)) (fun r104 M104 hM104 => ?_)
                            rcases hM104 with ⟨h104, rfl, g104⟩ | ⟨h104, rfl, e104⟩
                            · have g104 := go_of g104
                              have hF := hF.trans (g104.1.mono T_W)
                              have hR := g104.1.RF hR
                              have hL := CL_sm hL g104.1.1 (fun c c0 c1 => no_T4 c0)
                              have n0 := (congrFun (g104.1.at 9 (by decide)) 0).trans n0
                              have n1 := (congrFun (g104.1.at 9 (by decide)) 1).trans n1
                              have hT := g104.2.1
                              have hA := g104.2.2
                              refine bw_ifeq rfl (fun c107 => ?_) (fun c107 => ?_)
                              · first
                                | (exfalso; omega)
                                | (first
                                   | exact L123 1 _ _ _ _ _ _ hF hT hA hL ⟨n0, n1, by omega, by omega⟩ (fun q3 m h => by rw [pt_dr hp (by omega) (by rw [e1]) (by omega), dr_g (q := q3) (by unfold dr3 dr2; rw [e1, dsS_y h104, h115]; show (tmS a n on (.inr q115)).1 = _; rw [h])]; unfold dr3 dr2; rw [e1, dsS_y h104, h115]; show (Sum.inr (lsM q3 (hRunTo (lsH s) v42 v115 (tmS a n on (.inr q115)).2) _ _ _ _ _, 1) : Ro) = _; rw [h]) (fun e h => by rw [pt_dr hp (by omega) (by rw [e1]) (by omega)]; exact dr_f (by unfold dr3 dr2; rw [e1, dsS_y h104, h115]; exact h)) (by decide)
                                   | exact L123 1 _ _ _ _ _ _ hF hT hA hL ⟨n0, n1, by omega, by omega⟩ (fun q3 m h => by rw [pt_dr hp (by omega) (by rw [e1]) (by omega), dr_g (q := q3) (by unfold dr3 dr2; rw [e1, dsS_n h104]; show (tmS a n on (.inr q42)).1 = _; rw [h])]; unfold dr3 dr2; rw [e1, dsS_n h104]; show (Sum.inr (lsM q3 (hRunTo (lsH s) v42 v42 (tmS a n on (.inr q42)).2) _ _ _ _ _, 1) : Ro) = _; rw [h]) (fun e h => by rw [pt_dr hp (by omega) (by rw [e1]) (by omega)]; exact dr_f (by unfold dr3 dr2; rw [e1, dsS_n h104]; exact h)) (by decide)
                                   | exact L123 1 _ _ _ _ _ _ hF hT hA hL ⟨n0, n1, by omega, by omega⟩ (fun q3 m h => by rw [pt_b hp (dw h14) (by omega) h14, bk_g (q := q3) (by rw [h]), h]) (fun e h => by rw [pt_b hp (dw h14) (by omega) h14]; exact bk_f h) (by decide))
                              · first
                                | (exfalso; omega)
                                | (refine bw_aload rfl rfl ?_
                                   refine bw_push rfl ?_
                                   refine bw_push rfl ?_
                                   refine bw_push rfl ?_
                                   refine bw_callVi (e := d - 1) (as := [_, _, _]) rfl (by omega) rfl rfl (Nat.le_of_ble_eq_true rfl) (Nat.le_of_ble_eq_true rfl) rfl (c_needNumber hR hT hA (by omega) (by omega)) (fun r115 M115 hM115 => ?_)
                                   rcases hM115 with ⟨e, h115, rfl, f115⟩ | ⟨q115, v115, h115, rfl, g115, b115, k115⟩
                                   · have hz : ptS a n on s = .inl e := by (rw [pt_dr hp (by omega) (by rw [e1]) (by omega)]; exact dr_f (by unfold dr3 dr2; rw [e1, dsS_y h104, h115]; exact tm_l))
                                     have hX := FA.tr (s := pW) hF.1 f115 (fun _ k => k) P_W
                                     refine bw_ifne rfl (fun c118 => ?_) (fun c118 => ?_)
                                     · first
                                       | (exfalso; omega)
                                       | (first
                                          | exact L123 1 _ _ _ _ _ _ hF hT hA hL ⟨n0, n1, by omega, by omega⟩ (fun q3 m h => by rw [pt_dr hp (by omega) (by rw [e1]) (by omega), dr_g (q := q3) (by unfold dr3 dr2; rw [e1, dsS_y h104, h115]; show (tmS a n on (.inr q115)).1 = _; rw [h])]; unfold dr3 dr2; rw [e1, dsS_y h104, h115]; show (Sum.inr (lsM q3 (hRunTo (lsH s) v42 v115 (tmS a n on (.inr q115)).2) _ _ _ _ _, 1) : Ro) = _; rw [h]) (fun e h => by rw [pt_dr hp (by omega) (by rw [e1]) (by omega)]; exact dr_f (by unfold dr3 dr2; rw [e1, dsS_y h104, h115]; exact h)) (by decide)
                                          | exact L123 1 _ _ _ _ _ _ hF hT hA hL ⟨n0, n1, by omega, by omega⟩ (fun q3 m h => by rw [pt_dr hp (by omega) (by rw [e1]) (by omega), dr_g (q := q3) (by unfold dr3 dr2; rw [e1, dsS_n h104]; show (tmS a n on (.inr q42)).1 = _; rw [h])]; unfold dr3 dr2; rw [e1, dsS_n h104]; show (Sum.inr (lsM q3 (hRunTo (lsH s) v42 v42 (tmS a n on (.inr q42)).2) _ _ _ _ _, 1) : Ro) = _; rw [h]) (fun e h => by rw [pt_dr hp (by omega) (by rw [e1]) (by omega)]; exact dr_f (by unfold dr3 dr2; rw [e1, dsS_n h104]; exact h)) (by decide)
                                          | exact L123 1 _ _ _ _ _ _ hF hT hA hL ⟨n0, n1, by omega, by omega⟩ (fun q3 m h => by rw [pt_b hp (dw h14) (by omega) h14, bk_g (q := q3) (by rw [h]), h]) (fun e h => by rw [pt_b hp (dw h14) (by omega) h14]; exact bk_f h) (by decide))
                                     · first
                                       | (exfalso; omega)
                                       | (refine bw_push rfl ?_
                                          refine bw_retz rfl rfl (by omega) ?_
                                          exact ⟨rfl, _, rfl, Or.inl ⟨e, hz, rfl, hX⟩⟩)
                                   · skip
                                     have hF := hF.trans (g115.1.mono N_W)
                                     have hR := g115.1.RF hR
                                     have hL := CL_sm hL g115.1.1 (fun c c0 c1 => no_N4 c0 c1)
                                     have n0 := ((congrFun k115 0).trans (up_ne (by decide))).trans n0
                                     have n1 := (congrFun k115 1).trans (up_eq rfl)
                                     have hT := g115.2.1
                                     have hA := g115.2.2
                                     refine bw_ifne rfl (fun c118 => ?_) (fun c118 => ?_)
                                     · first
                                       | (exfalso; omega)
                                       | (first
                                          | exact L123 1 _ _ _ _ _ _ hF hT hA hL ⟨n0, n1, by omega, by omega⟩ (fun q3 m h => by rw [pt_dr hp (by omega) (by rw [e1]) (by omega), dr_g (q := q3) (by unfold dr3 dr2; rw [e1, dsS_y h104, h115]; show (tmS a n on (.inr q115)).1 = _; rw [h])]; unfold dr3 dr2; rw [e1, dsS_y h104, h115]; show (Sum.inr (lsM q3 (hRunTo (lsH s) v42 v115 (tmS a n on (.inr q115)).2) _ _ _ _ _, 1) : Ro) = _; rw [h]) (fun e h => by rw [pt_dr hp (by omega) (by rw [e1]) (by omega)]; exact dr_f (by unfold dr3 dr2; rw [e1, dsS_y h104, h115]; exact h)) (by decide)
                                          | exact L123 1 _ _ _ _ _ _ hF hT hA hL ⟨n0, n1, by omega, by omega⟩ (fun q3 m h => by rw [pt_dr hp (by omega) (by rw [e1]) (by omega), dr_g (q := q3) (by unfold dr3 dr2; rw [e1, dsS_n h104]; show (tmS a n on (.inr q42)).1 = _; rw [h])]; unfold dr3 dr2; rw [e1, dsS_n h104]; show (Sum.inr (lsM q3 (hRunTo (lsH s) v42 v42 (tmS a n on (.inr q42)).2) _ _ _ _ _, 1) : Ro) = _; rw [h]) (fun e h => by rw [pt_dr hp (by omega) (by rw [e1]) (by omega)]; exact dr_f (by unfold dr3 dr2; rw [e1, dsS_n h104]; exact h)) (by decide)
                                          | exact L123 1 _ _ _ _ _ _ hF hT hA hL ⟨n0, n1, by omega, by omega⟩ (fun q3 m h => by rw [pt_b hp (dw h14) (by omega) h14, bk_g (q := q3) (by rw [h]), h]) (fun e h => by rw [pt_b hp (dw h14) (by omega) h14]; exact bk_f h) (by decide))
                                     · first
                                       | (exfalso; omega)
                                       | (refine bw_push rfl ?_
                                          refine bw_retz rfl rfl (by omega) ?_
                                          exact ⟨rfl, _, rfl, Or.inl ⟨e, hz, rfl, hX⟩⟩))
                            · have g104 := go_n hT hA e104
                              have hF := hF.trans (g104.1.mono T_W)
                              have hR := g104.1.RF hR
                              have hL := CL_sm hL g104.1.1 (fun c c0 c1 => no_T4 c0)
                              have n0 := (congrFun (g104.1.at 9 (by decide)) 0).trans n0
                              have n1 := (congrFun (g104.1.at 9 (by decide)) 1).trans n1
                              have hT := g104.2.1
                              have hA := g104.2.2
                              refine bw_ifeq rfl (fun c107 => ?_) (fun c107 => ?_)
                              · first
                                | (exfalso; omega)
                                | (first
                                   | exact L123 1 _ _ _ _ _ _ hF hT hA hL ⟨n0, n1, by omega, by omega⟩ (fun q3 m h => by rw [pt_dr hp (by omega) (by rw [e1]) (by omega), dr_g (q := q3) (by unfold dr3 dr2; rw [e1, dsS_y h104, h115]; show (tmS a n on (.inr q115)).1 = _; rw [h])]; unfold dr3 dr2; rw [e1, dsS_y h104, h115]; show (Sum.inr (lsM q3 (hRunTo (lsH s) v42 v115 (tmS a n on (.inr q115)).2) _ _ _ _ _, 1) : Ro) = _; rw [h]) (fun e h => by rw [pt_dr hp (by omega) (by rw [e1]) (by omega)]; exact dr_f (by unfold dr3 dr2; rw [e1, dsS_y h104, h115]; exact h)) (by decide)
                                   | exact L123 1 _ _ _ _ _ _ hF hT hA hL ⟨n0, n1, by omega, by omega⟩ (fun q3 m h => by rw [pt_dr hp (by omega) (by rw [e1]) (by omega), dr_g (q := q3) (by unfold dr3 dr2; rw [e1, dsS_n h104]; show (tmS a n on (.inr q42)).1 = _; rw [h])]; unfold dr3 dr2; rw [e1, dsS_n h104]; show (Sum.inr (lsM q3 (hRunTo (lsH s) v42 v42 (tmS a n on (.inr q42)).2) _ _ _ _ _, 1) : Ro) = _; rw [h]) (fun e h => by rw [pt_dr hp (by omega) (by rw [e1]) (by omega)]; exact dr_f (by unfold dr3 dr2; rw [e1, dsS_n h104]; exact h)) (by decide)
                                   | exact L123 1 _ _ _ _ _ _ hF hT hA hL ⟨n0, n1, by omega, by omega⟩ (fun q3 m h => by rw [pt_b hp (dw h14) (by omega) h14, bk_g (q := q3) (by rw [h]), h]) (fun e h => by rw [pt_b hp (dw h14) (by omega) h14]; exact bk_f h) (by decide))
                              · first
                                | (exfalso; omega)
                                | (refine bw_aload rfl rfl ?_
                                   refine bw_push rfl ?_
                                   refine bw_push rfl ?_
                                   refine bw_push rfl ?_
                                   refine bw_callVi (e := d - 1) (as := [_, _, _]) rfl (by omega) rfl rfl (Nat.le_of_ble_eq_true rfl) (Nat.le_of_ble_eq_true rfl) rfl (c_needNumber hR hT hA (by omega) (by omega)) (fun r115 M115 hM115 => ?_)
                                   rcases hM115 with ⟨e, h115, rfl, f115⟩ | ⟨q115, v115, h115, rfl, g115, b115, k115⟩
                                   · have hz : ptS a n on s = .inl e := by (rw [pt_dr hp (by omega) (by rw [e1]) (by omega)]; exact dr_f (by unfold dr3 dr2; rw [e1, dsS_y h104, h115]; exact tm_l))
                                     have hX := FA.tr (s := pW) hF.1 f115 (fun _ k => k) P_W
                                     refine bw_ifne rfl (fun c118 => ?_) (fun c118 => ?_)
                                     · first
                                       | (exfalso; omega)
                                       | (first
                                          | exact L123 1 _ _ _ _ _ _ hF hT hA hL ⟨n0, n1, by omega, by omega⟩ (fun q3 m h => by rw [pt_dr hp (by omega) (by rw [e1]) (by omega), dr_g (q := q3) (by unfold dr3 dr2; rw [e1, dsS_y h104, h115]; show (tmS a n on (.inr q115)).1 = _; rw [h])]; unfold dr3 dr2; rw [e1, dsS_y h104, h115]; show (Sum.inr (lsM q3 (hRunTo (lsH s) v42 v115 (tmS a n on (.inr q115)).2) _ _ _ _ _, 1) : Ro) = _; rw [h]) (fun e h => by rw [pt_dr hp (by omega) (by rw [e1]) (by omega)]; exact dr_f (by unfold dr3 dr2; rw [e1, dsS_y h104, h115]; exact h)) (by decide)
                                          | exact L123 1 _ _ _ _ _ _ hF hT hA hL ⟨n0, n1, by omega, by omega⟩ (fun q3 m h => by rw [pt_dr hp (by omega) (by rw [e1]) (by omega), dr_g (q := q3) (by unfold dr3 dr2; rw [e1, dsS_n h104]; show (tmS a n on (.inr q42)).1 = _; rw [h])]; unfold dr3 dr2; rw [e1, dsS_n h104]; show (Sum.inr (lsM q3 (hRunTo (lsH s) v42 v42 (tmS a n on (.inr q42)).2) _ _ _ _ _, 1) : Ro) = _; rw [h]) (fun e h => by rw [pt_dr hp (by omega) (by rw [e1]) (by omega)]; exact dr_f (by unfold dr3 dr2; rw [e1, dsS_n h104]; exact h)) (by decide)
                                          | exact L123 1 _ _ _ _ _ _ hF hT hA hL ⟨n0, n1, by omega, by omega⟩ (fun q3 m h => by rw [pt_b hp (dw h14) (by omega) h14, bk_g (q := q3) (by rw [h]), h]) (fun e h => by rw [pt_b hp (dw h14) (by omega) h14]; exact bk_f h) (by decide))
                                     · first
                                       | (exfalso; omega)
                                       | (refine bw_push rfl ?_
                                          refine bw_retz rfl rfl (by omega) ?_
                                          exact ⟨rfl, _, rfl, Or.inl ⟨e, hz, rfl, hX⟩⟩)
                                   · skip
                                     have hF := hF.trans (g115.1.mono N_W)
                                     have hR := g115.1.RF hR
                                     have hL := CL_sm hL g115.1.1 (fun c c0 c1 => no_N4 c0 c1)
                                     have n0 := ((congrFun k115 0).trans (up_ne (by decide))).trans n0
                                     have n1 := (congrFun k115 1).trans (up_eq rfl)
                                     have hT := g115.2.1
                                     have hA := g115.2.2
                                     refine bw_ifne rfl (fun c118 => ?_) (fun c118 => ?_)
                                     · first
                                       | (exfalso; omega)
                                       | (first
                                          | exact L123 1 _ _ _ _ _ _ hF hT hA hL ⟨n0, n1, by omega, by omega⟩ (fun q3 m h => by rw [pt_dr hp (by omega) (by rw [e1]) (by omega), dr_g (q := q3) (by unfold dr3 dr2; rw [e1, dsS_y h104, h115]; show (tmS a n on (.inr q115)).1 = _; rw [h])]; unfold dr3 dr2; rw [e1, dsS_y h104, h115]; show (Sum.inr (lsM q3 (hRunTo (lsH s) v42 v115 (tmS a n on (.inr q115)).2) _ _ _ _ _, 1) : Ro) = _; rw [h]) (fun e h => by rw [pt_dr hp (by omega) (by rw [e1]) (by omega)]; exact dr_f (by unfold dr3 dr2; rw [e1, dsS_y h104, h115]; exact h)) (by decide)
                                          | exact L123 1 _ _ _ _ _ _ hF hT hA hL ⟨n0, n1, by omega, by omega⟩ (fun q3 m h => by rw [pt_dr hp (by omega) (by rw [e1]) (by omega), dr_g (q := q3) (by unfold dr3 dr2; rw [e1, dsS_n h104]; show (tmS a n on (.inr q42)).1 = _; rw [h])]; unfold dr3 dr2; rw [e1, dsS_n h104]; show (Sum.inr (lsM q3 (hRunTo (lsH s) v42 v42 (tmS a n on (.inr q42)).2) _ _ _ _ _, 1) : Ro) = _; rw [h]) (fun e h => by rw [pt_dr hp (by omega) (by rw [e1]) (by omega)]; exact dr_f (by unfold dr3 dr2; rw [e1, dsS_n h104]; exact h)) (by decide)
                                          | exact L123 1 _ _ _ _ _ _ hF hT hA hL ⟨n0, n1, by omega, by omega⟩ (fun q3 m h => by rw [pt_b hp (dw h14) (by omega) h14, bk_g (q := q3) (by rw [h]), h]) (fun e h => by rw [pt_b hp (dw h14) (by omega) h14]; exact bk_f h) (by decide))
                                     · first
                                       | (exfalso; omega)
                                       | (refine bw_push rfl ?_
                                          refine bw_retz rfl rfl (by omega) ?_
                                          exact ⟨rfl, _, rfl, Or.inl ⟨e, hz, rfl, hX⟩⟩)))
                     · skip
                       refine bw_aload rfl rfl ?_
                       refine bw_push rfl ?_
                       refine bw_iload rfl rfl ?_
                       refine bw_callVi (e := d - 1) (as := [_, _]) rfl (by omega) rfl rfl (Nat.le_of_ble_eq_true rfl) (Nat.le_of_ble_eq_true rfl) rfl (c_fail hR) (fun r65 M65 hM65 => ?_)
                       obtain ⟨rfl, rfl⟩ := hM65
                       refine bw_retz rfl rfl (by omega) ?_
                       first
                       | exact ⟨rfl, _, rfl, Or.inl ⟨_, pt_d4 hp (by omega) (by rw [e1]) (by omega), rfl, by rw [← a1]; exact FA.tr (s := pW) hF.1 (fa_of hT) (fun _ k => k) P_W⟩⟩
                       | exact ⟨rfl, _, rfl, Or.inl ⟨_, pt_4 hp (dw h14) (by omega), rfl, by rw [← a1]; exact FA.tr (s := pW) hF.1 (fa_of hT) (fun _ k => k) P_W⟩⟩)
                · first
                  | (exfalso; omega)
                  | (refine bw_push rfl ?_
                     refine bw_retz rfl rfl (by omega) ?_
                     exact ⟨rfl, _, rfl, Or.inl ⟨e, hz, rfl, hX⟩⟩)))
  · have h14 : wo a n (lsP s) ≠ 17 := h14
    have g14 := go_n hT hA e14
    have hF := hF.trans (g14.1.mono T_W)
    have hR := g14.1.RF hR
    have hL := CL_sm hL g14.1.1 (fun c c0 c1 => no_T4 c0)
    have hT := g14.2.1
    have hA := g14.2.2
    refine bw_ifne rfl (fun c17 => ?_) (fun c17 => ?_)
    · first
      | (exfalso; omega)
      | (refine bw_push rfl ?_
         refine bw_istore (ls2 := [_, _, _]) rfl rfl (Nat.le_of_ble_eq_true rfl) rfl ?_
         refine bw_aload rfl rfl ?_
         refine bw_getr rfl rfl (hR _ _) ?_
         refine bw_push rfl ?_
         refine bw_push rfl ?_
         refine bw_asti rfl (by first | rfl | assumption) (by omega) (by omega) ?_
         obtain ⟨u9, hR, hT, hA, hL⟩ := st9 0 (0) hR hT hA hL
         have hF := hF.trans ((sq_of u9 (by decide)).mono a9_W)
         have n0 := n9_w hL
         refine bw_iload rfl rfl ?_
         refine bw_ifeq rfl (fun c34 => ?_) (fun c34 => ?_)
         · first
           | (exfalso; omega)
           | (refine bw_aload rfl rfl ?_
              refine bw_getr rfl rfl (hR _ _) ?_
              refine bw_getI rfl rfl ?_
              rw [hL.f8]
              refine bw_push rfl ?_
              refine bw_icne rfl (fun c59 => ?_) (fun c59 => ?_)
              · skip
                refine bw_aload rfl rfl ?_
                refine bw_getr rfl rfl (hR _ _) ?_
                first | refine bw_dup rfl ?_ | refine bw_dupi rfl ?_
                refine bw_getI rfl rfl ?_
                rw [hL.f8]
                refine bw_push rfl ?_
                refine bw_iadd rfl ⟨by omega, by omega⟩ ?_
                refine bw_putI rfl rfl ?_
                obtain ⟨u9, hR, hT, hA, hL⟩ := st8 hR hT hA hL
                have hF := hF.trans ((sq_of u9 (by decide)).mono a4_W)
                have n0 := (congrFun (u9.at 9 (by decide)) 0).trans n0
                refine bw_aload rfl rfl ?_
                refine bw_getr rfl rfl (hR _ _) ?_
                refine bw_push rfl ?_
                refine bw_aload rfl rfl ?_
                refine bw_getr rfl rfl (hR _ _) ?_
                refine bw_push rfl ?_
                refine bw_aldi rfl (by first | rfl | assumption) (by omega) (by omega) ?_
                rw [n0]
                refine bw_asti rfl (by first | rfl | assumption) (by omega) (by omega) ?_
                obtain ⟨u9, hR, hT, hA, hL⟩ := st9n n0 hR hT hA hL
                have hF := hF.trans ((sq_of u9 (by decide)).mono a9_W)
                have n0 := n9_k hL (show (0 : Int) ≠ 1 by decide) n0
                have n1 := n9_w hL
                refine bw_iload rfl rfl ?_
                refine bw_ifeq rfl (fun c95 => ?_) (fun c95 => ?_)
                · first
                  | (exfalso; omega)
                  | (first
                     | exact L123 1 _ _ _ _ _ _ hF hT hA hL ⟨n0, n1, by omega, by omega⟩ (fun q3 m h => by rw [pt_dr hp (by omega) (by rw [e1]) (by omega), dr_g (q := q3) (by unfold dr3 dr2; rw [e1, dsS_y h104, h115]; show (tmS a n on (.inr q115)).1 = _; rw [h])]; unfold dr3 dr2; rw [e1, dsS_y h104, h115]; show (Sum.inr (lsM q3 (hRunTo (lsH s) v42 v115 (tmS a n on (.inr q115)).2) _ _ _ _ _, 1) : Ro) = _; rw [h]) (fun e h => by rw [pt_dr hp (by omega) (by rw [e1]) (by omega)]; exact dr_f (by unfold dr3 dr2; rw [e1, dsS_y h104, h115]; exact h)) (by decide)
                     | exact L123 1 _ _ _ _ _ _ hF hT hA hL ⟨n0, n1, by omega, by omega⟩ (fun q3 m h => by rw [pt_dr hp (by omega) (by rw [e1]) (by omega), dr_g (q := q3) (by unfold dr3 dr2; rw [e1, dsS_n h104]; show (tmS a n on (.inr q42)).1 = _; rw [h])]; unfold dr3 dr2; rw [e1, dsS_n h104]; show (Sum.inr (lsM q3 (hRunTo (lsH s) v42 v42 (tmS a n on (.inr q42)).2) _ _ _ _ _, 1) : Ro) = _; rw [h]) (fun e h => by rw [pt_dr hp (by omega) (by rw [e1]) (by omega)]; exact dr_f (by unfold dr3 dr2; rw [e1, dsS_n h104]; exact h)) (by decide)
                     | exact L123 1 _ _ _ _ _ _ hF hT hA hL ⟨n0, n1, by omega, by omega⟩ (fun q3 m h => by rw [pt_b hp (dw h14) (by omega) h14, bk_g (q := q3) (by rw [h]), h]) (fun e h => by rw [pt_b hp (dw h14) (by omega) h14]; exact bk_f h) (by decide))
                · first
                  | (exfalso; omega)
                  | (refine bw_aload rfl rfl ?_
                     refine bw_getr rfl rfl (hR _ _) ?_
                     refine bw_push rfl ?_
                     refine bw_callVNi (e := d - 1) (as := [_]) rfl (by omega) rfl rfl (Nat.le_of_ble_eq_true rfl) (Nat.le_of_ble_eq_true rfl) rfl (c_takeSign (c := 45) hR hT hA (by decide) (by omega)) (fun r104 M104 hM104 => ?_)
                     rcases hM104 with ⟨h104, rfl, g104⟩ | ⟨h104, rfl, e104⟩
                     · have g104 := go_of g104
                       have hF := hF.trans (g104.1.mono T_W)
                       have hR := g104.1.RF hR
                       have hL := CL_sm hL g104.1.1 (fun c c0 c1 => no_T4 c0)
                       have n0 := (congrFun (g104.1.at 9 (by decide)) 0).trans n0
                       have n1 := (congrFun (g104.1.at 9 (by decide)) 1).trans n1
                       have hT := g104.2.1
                       have hA := g104.2.2
                       refine bw_ifeq rfl (fun c107 => ?_) (fun c107 => ?_)
                       · first
                         | (exfalso; omega)
                         | (first
                            | exact L123 1 _ _ _ _ _ _ hF hT hA hL ⟨n0, n1, by omega, by omega⟩ (fun q3 m h => by rw [pt_dr hp (by omega) (by rw [e1]) (by omega), dr_g (q := q3) (by unfold dr3 dr2; rw [e1, dsS_y h104, h115]; show (tmS a n on (.inr q115)).1 = _; rw [h])]; unfold dr3 dr2; rw [e1, dsS_y h104, h115]; show (Sum.inr (lsM q3 (hRunTo (lsH s) v42 v115 (tmS a n on (.inr q115)).2) _ _ _ _ _, 1) : Ro) = _; rw [h]) (fun e h => by rw [pt_dr hp (by omega) (by rw [e1]) (by omega)]; exact dr_f (by unfold dr3 dr2; rw [e1, dsS_y h104, h115]; exact h)) (by decide)
                            | exact L123 1 _ _ _ _ _ _ hF hT hA hL ⟨n0, n1, by omega, by omega⟩ (fun q3 m h => by rw [pt_dr hp (by omega) (by rw [e1]) (by omega), dr_g (q := q3) (by unfold dr3 dr2; rw [e1, dsS_n h104]; show (tmS a n on (.inr q42)).1 = _; rw [h])]; unfold dr3 dr2; rw [e1, dsS_n h104]; show (Sum.inr (lsM q3 (hRunTo (lsH s) v42 v42 (tmS a n on (.inr q42)).2) _ _ _ _ _, 1) : Ro) = _; rw [h]) (fun e h => by rw [pt_dr hp (by omega) (by rw [e1]) (by omega)]; exact dr_f (by unfold dr3 dr2; rw [e1, dsS_n h104]; exact h)) (by decide)
                            | exact L123 1 _ _ _ _ _ _ hF hT hA hL ⟨n0, n1, by omega, by omega⟩ (fun q3 m h => by rw [pt_b hp (dw h14) (by omega) h14, bk_g (q := q3) (by rw [h]), h]) (fun e h => by rw [pt_b hp (dw h14) (by omega) h14]; exact bk_f h) (by decide))
                       · first
                         | (exfalso; omega)
                         | (refine bw_aload rfl rfl ?_
                            refine bw_push rfl ?_
                            refine bw_push rfl ?_
                            refine bw_push rfl ?_
                            refine bw_callVi (e := d - 1) (as := [_, _, _]) rfl (by omega) rfl rfl (Nat.le_of_ble_eq_true rfl) (Nat.le_of_ble_eq_true rfl) rfl (c_needNumber hR hT hA (by omega) (by omega)) (fun r115 M115 hM115 => ?_)
                            rcases hM115 with ⟨e, h115, rfl, f115⟩ | ⟨q115, v115, h115, rfl, g115, b115, k115⟩
                            · have hz : ptS a n on s = .inl e := by (rw [pt_dr hp (by omega) (by rw [e1]) (by omega)]; exact dr_f (by unfold dr3 dr2; rw [e1, dsS_y h104, h115]; exact tm_l))
                              have hX := FA.tr (s := pW) hF.1 f115 (fun _ k => k) P_W
                              refine bw_ifne rfl (fun c118 => ?_) (fun c118 => ?_)
                              · first
                                | (exfalso; omega)
                                | (first
                                   | exact L123 1 _ _ _ _ _ _ hF hT hA hL ⟨n0, n1, by omega, by omega⟩ (fun q3 m h => by rw [pt_dr hp (by omega) (by rw [e1]) (by omega), dr_g (q := q3) (by unfold dr3 dr2; rw [e1, dsS_y h104, h115]; show (tmS a n on (.inr q115)).1 = _; rw [h])]; unfold dr3 dr2; rw [e1, dsS_y h104, h115]; show (Sum.inr (lsM q3 (hRunTo (lsH s) v42 v115 (tmS a n on (.inr q115)).2) _ _ _ _ _, 1) : Ro) = _; rw [h]) (fun e h => by rw [pt_dr hp (by omega) (by rw [e1]) (by omega)]; exact dr_f (by unfold dr3 dr2; rw [e1, dsS_y h104, h115]; exact h)) (by decide)
                                   | exact L123 1 _ _ _ _ _ _ hF hT hA hL ⟨n0, n1, by omega, by omega⟩ (fun q3 m h => by rw [pt_dr hp (by omega) (by rw [e1]) (by omega), dr_g (q := q3) (by unfold dr3 dr2; rw [e1, dsS_n h104]; show (tmS a n on (.inr q42)).1 = _; rw [h])]; unfold dr3 dr2; rw [e1, dsS_n h104]; show (Sum.inr (lsM q3 (hRunTo (lsH s) v42 v42 (tmS a n on (.inr q42)).2) _ _ _ _ _, 1) : Ro) = _; rw [h]) (fun e h => by rw [pt_dr hp (by omega) (by rw [e1]) (by omega)]; exact dr_f (by unfold dr3 dr2; rw [e1, dsS_n h104]; exact h)) (by decide)
                                   | exact L123 1 _ _ _ _ _ _ hF hT hA hL ⟨n0, n1, by omega, by omega⟩ (fun q3 m h => by rw [pt_b hp (dw h14) (by omega) h14, bk_g (q := q3) (by rw [h]), h]) (fun e h => by rw [pt_b hp (dw h14) (by omega) h14]; exact bk_f h) (by decide))
                              · first
                                | (exfalso; omega)
                                | (refine bw_push rfl ?_
                                   refine bw_retz rfl rfl (by omega) ?_
                                   exact ⟨rfl, _, rfl, Or.inl ⟨e, hz, rfl, hX⟩⟩)
                            · skip
                              have hF := hF.trans (g115.1.mono N_W)
                              have hR := g115.1.RF hR
                              have hL := CL_sm hL g115.1.1 (fun c c0 c1 => no_N4 c0 c1)
                              have n0 := ((congrFun k115 0).trans (up_ne (by decide))).trans n0
                              have n1 := (congrFun k115 1).trans (up_eq rfl)
                              have hT := g115.2.1
                              have hA := g115.2.2
                              refine bw_ifne rfl (fun c118 => ?_) (fun c118 => ?_)
                              · first
                                | (exfalso; omega)
                                | (first
                                   | exact L123 1 _ _ _ _ _ _ hF hT hA hL ⟨n0, n1, by omega, by omega⟩ (fun q3 m h => by rw [pt_dr hp (by omega) (by rw [e1]) (by omega), dr_g (q := q3) (by unfold dr3 dr2; rw [e1, dsS_y h104, h115]; show (tmS a n on (.inr q115)).1 = _; rw [h])]; unfold dr3 dr2; rw [e1, dsS_y h104, h115]; show (Sum.inr (lsM q3 (hRunTo (lsH s) v42 v115 (tmS a n on (.inr q115)).2) _ _ _ _ _, 1) : Ro) = _; rw [h]) (fun e h => by rw [pt_dr hp (by omega) (by rw [e1]) (by omega)]; exact dr_f (by unfold dr3 dr2; rw [e1, dsS_y h104, h115]; exact h)) (by decide)
                                   | exact L123 1 _ _ _ _ _ _ hF hT hA hL ⟨n0, n1, by omega, by omega⟩ (fun q3 m h => by rw [pt_dr hp (by omega) (by rw [e1]) (by omega), dr_g (q := q3) (by unfold dr3 dr2; rw [e1, dsS_n h104]; show (tmS a n on (.inr q42)).1 = _; rw [h])]; unfold dr3 dr2; rw [e1, dsS_n h104]; show (Sum.inr (lsM q3 (hRunTo (lsH s) v42 v42 (tmS a n on (.inr q42)).2) _ _ _ _ _, 1) : Ro) = _; rw [h]) (fun e h => by rw [pt_dr hp (by omega) (by rw [e1]) (by omega)]; exact dr_f (by unfold dr3 dr2; rw [e1, dsS_n h104]; exact h)) (by decide)
                                   | exact L123 1 _ _ _ _ _ _ hF hT hA hL ⟨n0, n1, by omega, by omega⟩ (fun q3 m h => by rw [pt_b hp (dw h14) (by omega) h14, bk_g (q := q3) (by rw [h]), h]) (fun e h => by rw [pt_b hp (dw h14) (by omega) h14]; exact bk_f h) (by decide))
                              · first
                                | (exfalso; omega)
                                | (refine bw_push rfl ?_
                                   refine bw_retz rfl rfl (by omega) ?_
                                   exact ⟨rfl, _, rfl, Or.inl ⟨e, hz, rfl, hX⟩⟩))
                     · have g104 := go_n hT hA e104
                       have hF := hF.trans (g104.1.mono T_W)
                       have hR := g104.1.RF hR
                       have hL := CL_sm hL g104.1.1 (fun c c0 c1 => no_T4 c0)
                       have n0 := (congrFun (g104.1.at 9 (by decide)) 0).trans n0
                       have n1 := (congrFun (g104.1.at 9 (by decide)) 1).trans n1
                       have hT := g104.2.1
                       have hA := g104.2.2
                       refine bw_ifeq rfl (fun c107 => ?_) (fun c107 => ?_)
                       · first
                         | (exfalso; omega)
                         | (first
                            | exact L123 1 _ _ _ _ _ _ hF hT hA hL ⟨n0, n1, by omega, by omega⟩ (fun q3 m h => by rw [pt_dr hp (by omega) (by rw [e1]) (by omega), dr_g (q := q3) (by unfold dr3 dr2; rw [e1, dsS_y h104, h115]; show (tmS a n on (.inr q115)).1 = _; rw [h])]; unfold dr3 dr2; rw [e1, dsS_y h104, h115]; show (Sum.inr (lsM q3 (hRunTo (lsH s) v42 v115 (tmS a n on (.inr q115)).2) _ _ _ _ _, 1) : Ro) = _; rw [h]) (fun e h => by rw [pt_dr hp (by omega) (by rw [e1]) (by omega)]; exact dr_f (by unfold dr3 dr2; rw [e1, dsS_y h104, h115]; exact h)) (by decide)
                            | exact L123 1 _ _ _ _ _ _ hF hT hA hL ⟨n0, n1, by omega, by omega⟩ (fun q3 m h => by rw [pt_dr hp (by omega) (by rw [e1]) (by omega), dr_g (q := q3) (by unfold dr3 dr2; rw [e1, dsS_n h104]; show (tmS a n on (.inr q42)).1 = _; rw [h])]; unfold dr3 dr2; rw [e1, dsS_n h104]; show (Sum.inr (lsM q3 (hRunTo (lsH s) v42 v42 (tmS a n on (.inr q42)).2) _ _ _ _ _, 1) : Ro) = _; rw [h]) (fun e h => by rw [pt_dr hp (by omega) (by rw [e1]) (by omega)]; exact dr_f (by unfold dr3 dr2; rw [e1, dsS_n h104]; exact h)) (by decide)
                            | exact L123 1 _ _ _ _ _ _ hF hT hA hL ⟨n0, n1, by omega, by omega⟩ (fun q3 m h => by rw [pt_b hp (dw h14) (by omega) h14, bk_g (q := q3) (by rw [h]), h]) (fun e h => by rw [pt_b hp (dw h14) (by omega) h14]; exact bk_f h) (by decide))
                       · first
                         | (exfalso; omega)
                         | (refine bw_aload rfl rfl ?_
                            refine bw_push rfl ?_
                            refine bw_push rfl ?_
                            refine bw_push rfl ?_
                            refine bw_callVi (e := d - 1) (as := [_, _, _]) rfl (by omega) rfl rfl (Nat.le_of_ble_eq_true rfl) (Nat.le_of_ble_eq_true rfl) rfl (c_needNumber hR hT hA (by omega) (by omega)) (fun r115 M115 hM115 => ?_)
                            rcases hM115 with ⟨e, h115, rfl, f115⟩ | ⟨q115, v115, h115, rfl, g115, b115, k115⟩
                            · have hz : ptS a n on s = .inl e := by (rw [pt_dr hp (by omega) (by rw [e1]) (by omega)]; exact dr_f (by unfold dr3 dr2; rw [e1, dsS_y h104, h115]; exact tm_l))
                              have hX := FA.tr (s := pW) hF.1 f115 (fun _ k => k) P_W
                              refine bw_ifne rfl (fun c118 => ?_) (fun c118 => ?_)
                              · first
                                | (exfalso; omega)
                                | (first
                                   | exact L123 1 _ _ _ _ _ _ hF hT hA hL ⟨n0, n1, by omega, by omega⟩ (fun q3 m h => by rw [pt_dr hp (by omega) (by rw [e1]) (by omega), dr_g (q := q3) (by unfold dr3 dr2; rw [e1, dsS_y h104, h115]; show (tmS a n on (.inr q115)).1 = _; rw [h])]; unfold dr3 dr2; rw [e1, dsS_y h104, h115]; show (Sum.inr (lsM q3 (hRunTo (lsH s) v42 v115 (tmS a n on (.inr q115)).2) _ _ _ _ _, 1) : Ro) = _; rw [h]) (fun e h => by rw [pt_dr hp (by omega) (by rw [e1]) (by omega)]; exact dr_f (by unfold dr3 dr2; rw [e1, dsS_y h104, h115]; exact h)) (by decide)
                                   | exact L123 1 _ _ _ _ _ _ hF hT hA hL ⟨n0, n1, by omega, by omega⟩ (fun q3 m h => by rw [pt_dr hp (by omega) (by rw [e1]) (by omega), dr_g (q := q3) (by unfold dr3 dr2; rw [e1, dsS_n h104]; show (tmS a n on (.inr q42)).1 = _; rw [h])]; unfold dr3 dr2; rw [e1, dsS_n h104]; show (Sum.inr (lsM q3 (hRunTo (lsH s) v42 v42 (tmS a n on (.inr q42)).2) _ _ _ _ _, 1) : Ro) = _; rw [h]) (fun e h => by rw [pt_dr hp (by omega) (by rw [e1]) (by omega)]; exact dr_f (by unfold dr3 dr2; rw [e1, dsS_n h104]; exact h)) (by decide)
                                   | exact L123 1 _ _ _ _ _ _ hF hT hA hL ⟨n0, n1, by omega, by omega⟩ (fun q3 m h => by rw [pt_b hp (dw h14) (by omega) h14, bk_g (q := q3) (by rw [h]), h]) (fun e h => by rw [pt_b hp (dw h14) (by omega) h14]; exact bk_f h) (by decide))
                              · first
                                | (exfalso; omega)
                                | (refine bw_push rfl ?_
                                   refine bw_retz rfl rfl (by omega) ?_
                                   exact ⟨rfl, _, rfl, Or.inl ⟨e, hz, rfl, hX⟩⟩)
                            · skip
                              have hF := hF.trans (g115.1.mono N_W)
                              have hR := g115.1.RF hR
                              have hL := CL_sm hL g115.1.1 (fun c c0 c1 => no_N4 c0 c1)
                              have n0 := ((congrFun k115 0).trans (up_ne (by decide))).trans n0
                              have n1 := (congrFun k115 1).trans (up_eq rfl)
                              have hT := g115.2.1
                              have hA := g115.2.2
                              refine bw_ifne rfl (fun c118 => ?_) (fun c118 => ?_)
                              · first
                                | (exfalso; omega)
                                | (first
                                   | exact L123 1 _ _ _ _ _ _ hF hT hA hL ⟨n0, n1, by omega, by omega⟩ (fun q3 m h => by rw [pt_dr hp (by omega) (by rw [e1]) (by omega), dr_g (q := q3) (by unfold dr3 dr2; rw [e1, dsS_y h104, h115]; show (tmS a n on (.inr q115)).1 = _; rw [h])]; unfold dr3 dr2; rw [e1, dsS_y h104, h115]; show (Sum.inr (lsM q3 (hRunTo (lsH s) v42 v115 (tmS a n on (.inr q115)).2) _ _ _ _ _, 1) : Ro) = _; rw [h]) (fun e h => by rw [pt_dr hp (by omega) (by rw [e1]) (by omega)]; exact dr_f (by unfold dr3 dr2; rw [e1, dsS_y h104, h115]; exact h)) (by decide)
                                   | exact L123 1 _ _ _ _ _ _ hF hT hA hL ⟨n0, n1, by omega, by omega⟩ (fun q3 m h => by rw [pt_dr hp (by omega) (by rw [e1]) (by omega), dr_g (q := q3) (by unfold dr3 dr2; rw [e1, dsS_n h104]; show (tmS a n on (.inr q42)).1 = _; rw [h])]; unfold dr3 dr2; rw [e1, dsS_n h104]; show (Sum.inr (lsM q3 (hRunTo (lsH s) v42 v42 (tmS a n on (.inr q42)).2) _ _ _ _ _, 1) : Ro) = _; rw [h]) (fun e h => by rw [pt_dr hp (by omega) (by rw [e1]) (by omega)]; exact dr_f (by unfold dr3 dr2; rw [e1, dsS_n h104]; exact h)) (by decide)
                                   | exact L123 1 _ _ _ _ _ _ hF hT hA hL ⟨n0, n1, by omega, by omega⟩ (fun q3 m h => by rw [pt_b hp (dw h14) (by omega) h14, bk_g (q := q3) (by rw [h]), h]) (fun e h => by rw [pt_b hp (dw h14) (by omega) h14]; exact bk_f h) (by decide))
                              · first
                                | (exfalso; omega)
                                | (refine bw_push rfl ?_
                                   refine bw_retz rfl rfl (by omega) ?_
                                   exact ⟨rfl, _, rfl, Or.inl ⟨e, hz, rfl, hX⟩⟩)))
              · skip
                refine bw_aload rfl rfl ?_
                refine bw_push rfl ?_
                refine bw_iload rfl rfl ?_
                refine bw_callVi (e := d - 1) (as := [_, _]) rfl (by omega) rfl rfl (Nat.le_of_ble_eq_true rfl) (Nat.le_of_ble_eq_true rfl) rfl (c_fail hR) (fun r65 M65 hM65 => ?_)
                obtain ⟨rfl, rfl⟩ := hM65
                refine bw_retz rfl rfl (by omega) ?_
                first
                | exact ⟨rfl, _, rfl, Or.inl ⟨_, pt_d4 hp (by omega) (by rw [e1]) (by omega), rfl, by rw [← a1]; exact FA.tr (s := pW) hF.1 (fa_of hT) (fun _ k => k) P_W⟩⟩
                | exact ⟨rfl, _, rfl, Or.inl ⟨_, pt_4 hp (dw h14) (by omega), rfl, by rw [← a1]; exact FA.tr (s := pW) hF.1 (fa_of hT) (fun _ k => k) P_W⟩⟩)
         · first
           | (exfalso; omega)
           | (refine bw_aload rfl rfl ?_
              refine bw_push rfl ?_
              refine bw_push rfl ?_
              refine bw_push rfl ?_
              refine bw_callVi (e := d - 1) (as := [_, _, _]) rfl (by omega) rfl rfl (Nat.le_of_ble_eq_true rfl) (Nat.le_of_ble_eq_true rfl) rfl (c_needNumber hR hT hA (by omega) (by omega)) (fun r42 M42 hM42 => ?_)
              rcases hM42 with ⟨e, h42, rfl, f42⟩ | ⟨q42, v42, h42, rfl, g42, b42, k42⟩
              · have hz : ptS a n on s = .inl e := by (first | exact pt_d hp (by omega) (by unfold dr1; rw [h42]))
                have hX := FA.tr (s := pW) hF.1 f42 (fun _ k => k) P_W
                refine bw_ifne rfl (fun c45 => ?_) (fun c45 => ?_)
                · first
                  | (exfalso; omega)
                  | (refine bw_aload rfl rfl ?_
                     refine bw_getr rfl rfl (hR _ _) ?_
                     refine bw_getI rfl rfl ?_
                     rw [hL.f8]
                     refine bw_push rfl ?_
                     refine bw_icne rfl (fun c59 => ?_) (fun c59 => ?_)
                     · skip
                       refine bw_aload rfl rfl ?_
                       refine bw_getr rfl rfl (hR _ _) ?_
                       first | refine bw_dup rfl ?_ | refine bw_dupi rfl ?_
                       refine bw_getI rfl rfl ?_
                       rw [hL.f8]
                       refine bw_push rfl ?_
                       refine bw_iadd rfl ⟨by omega, by omega⟩ ?_
                       refine bw_putI rfl rfl ?_
                       obtain ⟨u9, hR, hT, hA, hL⟩ := st8 hR hT hA hL
                       have hF := hF.trans ((sq_of u9 (by decide)).mono a4_W)
                       have n0 := (congrFun (u9.at 9 (by decide)) 0).trans n0
                       refine bw_aload rfl rfl ?_
                       refine bw_getr rfl rfl (hR _ _) ?_
                       refine bw_push rfl ?_
                       refine bw_aload rfl rfl ?_
                       refine bw_getr rfl rfl (hR _ _) ?_
                       refine bw_push rfl ?_
                       refine bw_aldi rfl (by first | rfl | assumption) (by omega) (by omega) ?_
                       rw [n0]
                       refine bw_asti rfl (by first | rfl | assumption) (by omega) (by omega) ?_
                       obtain ⟨u9, hR, hT, hA, hL⟩ := st9n n0 hR hT hA hL
                       have hF := hF.trans ((sq_of u9 (by decide)).mono a9_W)
                       have n0 := n9_k hL (show (0 : Int) ≠ 1 by decide) n0
                       have n1 := n9_w hL
                       refine bw_iload rfl rfl ?_
                       refine bw_ifeq rfl (fun c95 => ?_) (fun c95 => ?_)
                       · first
                         | (exfalso; omega)
                         | (first
                            | exact L123 1 _ _ _ _ _ _ hF hT hA hL ⟨n0, n1, by omega, by omega⟩ (fun q3 m h => by rw [pt_dr hp (by omega) (by rw [e1]) (by omega), dr_g (q := q3) (by unfold dr3 dr2; rw [e1, dsS_y h104, h115]; show (tmS a n on (.inr q115)).1 = _; rw [h])]; unfold dr3 dr2; rw [e1, dsS_y h104, h115]; show (Sum.inr (lsM q3 (hRunTo (lsH s) v42 v115 (tmS a n on (.inr q115)).2) _ _ _ _ _, 1) : Ro) = _; rw [h]) (fun e h => by rw [pt_dr hp (by omega) (by rw [e1]) (by omega)]; exact dr_f (by unfold dr3 dr2; rw [e1, dsS_y h104, h115]; exact h)) (by decide)
                            | exact L123 1 _ _ _ _ _ _ hF hT hA hL ⟨n0, n1, by omega, by omega⟩ (fun q3 m h => by rw [pt_dr hp (by omega) (by rw [e1]) (by omega), dr_g (q := q3) (by unfold dr3 dr2; rw [e1, dsS_n h104]; show (tmS a n on (.inr q42)).1 = _; rw [h])]; unfold dr3 dr2; rw [e1, dsS_n h104]; show (Sum.inr (lsM q3 (hRunTo (lsH s) v42 v42 (tmS a n on (.inr q42)).2) _ _ _ _ _, 1) : Ro) = _; rw [h]) (fun e h => by rw [pt_dr hp (by omega) (by rw [e1]) (by omega)]; exact dr_f (by unfold dr3 dr2; rw [e1, dsS_n h104]; exact h)) (by decide)
                            | exact L123 1 _ _ _ _ _ _ hF hT hA hL ⟨n0, n1, by omega, by omega⟩ (fun q3 m h => by rw [pt_b hp (dw h14) (by omega) h14, bk_g (q := q3) (by rw [h]), h]) (fun e h => by rw [pt_b hp (dw h14) (by omega) h14]; exact bk_f h) (by decide))
                       · first
                         | (exfalso; omega)
                         | (refine bw_aload rfl rfl ?_
                            refine bw_getr rfl rfl (hR _ _) ?_
                            refine bw_push rfl ?_
                            refine bw_callVNi (e := d - 1) (as := [_]) rfl (by omega) rfl rfl (Nat.le_of_ble_eq_true rfl) (Nat.le_of_ble_eq_true rfl) rfl (c_takeSign (c := 45) hR hT hA (by decide) (by omega)) (fun r104 M104 hM104 => ?_)
                            rcases hM104 with ⟨h104, rfl, g104⟩ | ⟨h104, rfl, e104⟩
                            · have g104 := go_of g104
                              have hF := hF.trans (g104.1.mono T_W)
                              have hR := g104.1.RF hR
                              have hL := CL_sm hL g104.1.1 (fun c c0 c1 => no_T4 c0)
                              have n0 := (congrFun (g104.1.at 9 (by decide)) 0).trans n0
                              have n1 := (congrFun (g104.1.at 9 (by decide)) 1).trans n1
                              have hT := g104.2.1
                              have hA := g104.2.2
                              refine bw_ifeq rfl (fun c107 => ?_) (fun c107 => ?_)
                              · first
                                | (exfalso; omega)
                                | (first
                                   | exact L123 1 _ _ _ _ _ _ hF hT hA hL ⟨n0, n1, by omega, by omega⟩ (fun q3 m h => by rw [pt_dr hp (by omega) (by rw [e1]) (by omega), dr_g (q := q3) (by unfold dr3 dr2; rw [e1, dsS_y h104, h115]; show (tmS a n on (.inr q115)).1 = _; rw [h])]; unfold dr3 dr2; rw [e1, dsS_y h104, h115]; show (Sum.inr (lsM q3 (hRunTo (lsH s) v42 v115 (tmS a n on (.inr q115)).2) _ _ _ _ _, 1) : Ro) = _; rw [h]) (fun e h => by rw [pt_dr hp (by omega) (by rw [e1]) (by omega)]; exact dr_f (by unfold dr3 dr2; rw [e1, dsS_y h104, h115]; exact h)) (by decide)
                                   | exact L123 1 _ _ _ _ _ _ hF hT hA hL ⟨n0, n1, by omega, by omega⟩ (fun q3 m h => by rw [pt_dr hp (by omega) (by rw [e1]) (by omega), dr_g (q := q3) (by unfold dr3 dr2; rw [e1, dsS_n h104]; show (tmS a n on (.inr q42)).1 = _; rw [h])]; unfold dr3 dr2; rw [e1, dsS_n h104]; show (Sum.inr (lsM q3 (hRunTo (lsH s) v42 v42 (tmS a n on (.inr q42)).2) _ _ _ _ _, 1) : Ro) = _; rw [h]) (fun e h => by rw [pt_dr hp (by omega) (by rw [e1]) (by omega)]; exact dr_f (by unfold dr3 dr2; rw [e1, dsS_n h104]; exact h)) (by decide)
                                   | exact L123 1 _ _ _ _ _ _ hF hT hA hL ⟨n0, n1, by omega, by omega⟩ (fun q3 m h => by rw [pt_b hp (dw h14) (by omega) h14, bk_g (q := q3) (by rw [h]), h]) (fun e h => by rw [pt_b hp (dw h14) (by omega) h14]; exact bk_f h) (by decide))
                              · first
                                | (exfalso; omega)
                                | (refine bw_aload rfl rfl ?_
                                   refine bw_push rfl ?_
                                   refine bw_push rfl ?_
                                   refine bw_push rfl ?_
                                   refine bw_callVi (e := d - 1) (as := [_, _, _]) rfl (by omega) rfl rfl (Nat.le_of_ble_eq_true rfl) (Nat.le_of_ble_eq_true rfl) rfl (c_needNumber hR hT hA (by omega) (by omega)) (fun r115 M115 hM115 => ?_)
                                   rcases hM115 with ⟨e, h115, rfl, f115⟩ | ⟨q115, v115, h115, rfl, g115, b115, k115⟩
                                   · have hz : ptS a n on s = .inl e := by (rw [pt_dr hp (by omega) (by rw [e1]) (by omega)]; exact dr_f (by unfold dr3 dr2; rw [e1, dsS_y h104, h115]; exact tm_l))
                                     have hX := FA.tr (s := pW) hF.1 f115 (fun _ k => k) P_W
                                     refine bw_ifne rfl (fun c118 => ?_) (fun c118 => ?_)
                                     · first
                                       | (exfalso; omega)
                                       | (first
                                          | exact L123 1 _ _ _ _ _ _ hF hT hA hL ⟨n0, n1, by omega, by omega⟩ (fun q3 m h => by rw [pt_dr hp (by omega) (by rw [e1]) (by omega), dr_g (q := q3) (by unfold dr3 dr2; rw [e1, dsS_y h104, h115]; show (tmS a n on (.inr q115)).1 = _; rw [h])]; unfold dr3 dr2; rw [e1, dsS_y h104, h115]; show (Sum.inr (lsM q3 (hRunTo (lsH s) v42 v115 (tmS a n on (.inr q115)).2) _ _ _ _ _, 1) : Ro) = _; rw [h]) (fun e h => by rw [pt_dr hp (by omega) (by rw [e1]) (by omega)]; exact dr_f (by unfold dr3 dr2; rw [e1, dsS_y h104, h115]; exact h)) (by decide)
                                          | exact L123 1 _ _ _ _ _ _ hF hT hA hL ⟨n0, n1, by omega, by omega⟩ (fun q3 m h => by rw [pt_dr hp (by omega) (by rw [e1]) (by omega), dr_g (q := q3) (by unfold dr3 dr2; rw [e1, dsS_n h104]; show (tmS a n on (.inr q42)).1 = _; rw [h])]; unfold dr3 dr2; rw [e1, dsS_n h104]; show (Sum.inr (lsM q3 (hRunTo (lsH s) v42 v42 (tmS a n on (.inr q42)).2) _ _ _ _ _, 1) : Ro) = _; rw [h]) (fun e h => by rw [pt_dr hp (by omega) (by rw [e1]) (by omega)]; exact dr_f (by unfold dr3 dr2; rw [e1, dsS_n h104]; exact h)) (by decide)
                                          | exact L123 1 _ _ _ _ _ _ hF hT hA hL ⟨n0, n1, by omega, by omega⟩ (fun q3 m h => by rw [pt_b hp (dw h14) (by omega) h14, bk_g (q := q3) (by rw [h]), h]) (fun e h => by rw [pt_b hp (dw h14) (by omega) h14]; exact bk_f h) (by decide))
                                     · first
                                       | (exfalso; omega)
                                       | (refine bw_push rfl ?_
                                          refine bw_retz rfl rfl (by omega) ?_
                                          exact ⟨rfl, _, rfl, Or.inl ⟨e, hz, rfl, hX⟩⟩)
                                   · skip
                                     have hF := hF.trans (g115.1.mono N_W)
                                     have hR := g115.1.RF hR
                                     have hL := CL_sm hL g115.1.1 (fun c c0 c1 => no_N4 c0 c1)
                                     have n0 := ((congrFun k115 0).trans (up_ne (by decide))).trans n0
                                     have n1 := (congrFun k115 1).trans (up_eq rfl)
                                     have hT := g115.2.1
                                     have hA := g115.2.2
                                     refine bw_ifne rfl (fun c118 => ?_) (fun c118 => ?_)
                                     · first
                                       | (exfalso; omega)
                                       | (first
                                          | exact L123 1 _ _ _ _ _ _ hF hT hA hL ⟨n0, n1, by omega, by omega⟩ (fun q3 m h => by rw [pt_dr hp (by omega) (by rw [e1]) (by omega), dr_g (q := q3) (by unfold dr3 dr2; rw [e1, dsS_y h104, h115]; show (tmS a n on (.inr q115)).1 = _; rw [h])]; unfold dr3 dr2; rw [e1, dsS_y h104, h115]; show (Sum.inr (lsM q3 (hRunTo (lsH s) v42 v115 (tmS a n on (.inr q115)).2) _ _ _ _ _, 1) : Ro) = _; rw [h]) (fun e h => by rw [pt_dr hp (by omega) (by rw [e1]) (by omega)]; exact dr_f (by unfold dr3 dr2; rw [e1, dsS_y h104, h115]; exact h)) (by decide)
                                          | exact L123 1 _ _ _ _ _ _ hF hT hA hL ⟨n0, n1, by omega, by omega⟩ (fun q3 m h => by rw [pt_dr hp (by omega) (by rw [e1]) (by omega), dr_g (q := q3) (by unfold dr3 dr2; rw [e1, dsS_n h104]; show (tmS a n on (.inr q42)).1 = _; rw [h])]; unfold dr3 dr2; rw [e1, dsS_n h104]; show (Sum.inr (lsM q3 (hRunTo (lsH s) v42 v42 (tmS a n on (.inr q42)).2) _ _ _ _ _, 1) : Ro) = _; rw [h]) (fun e h => by rw [pt_dr hp (by omega) (by rw [e1]) (by omega)]; exact dr_f (by unfold dr3 dr2; rw [e1, dsS_n h104]; exact h)) (by decide)
                                          | exact L123 1 _ _ _ _ _ _ hF hT hA hL ⟨n0, n1, by omega, by omega⟩ (fun q3 m h => by rw [pt_b hp (dw h14) (by omega) h14, bk_g (q := q3) (by rw [h]), h]) (fun e h => by rw [pt_b hp (dw h14) (by omega) h14]; exact bk_f h) (by decide))
                                     · first
                                       | (exfalso; omega)
                                       | (refine bw_push rfl ?_
                                          refine bw_retz rfl rfl (by omega) ?_
                                          exact ⟨rfl, _, rfl, Or.inl ⟨e, hz, rfl, hX⟩⟩))
                            · have g104 := go_n hT hA e104
                              have hF := hF.trans (g104.1.mono T_W)
                              have hR := g104.1.RF hR
                              have hL := CL_sm hL g104.1.1 (fun c c0 c1 => no_T4 c0)
                              have n0 := (congrFun (g104.1.at 9 (by decide)) 0).trans n0
                              have n1 := (congrFun (g104.1.at 9 (by decide)) 1).trans n1
                              have hT := g104.2.1
                              have hA := g104.2.2
                              refine bw_ifeq rfl (fun c107 => ?_) (fun c107 => ?_)
                              · first
                                | (exfalso; omega)
                                | (first
                                   | exact L123 1 _ _ _ _ _ _ hF hT hA hL ⟨n0, n1, by omega, by omega⟩ (fun q3 m h => by rw [pt_dr hp (by omega) (by rw [e1]) (by omega), dr_g (q := q3) (by unfold dr3 dr2; rw [e1, dsS_y h104, h115]; show (tmS a n on (.inr q115)).1 = _; rw [h])]; unfold dr3 dr2; rw [e1, dsS_y h104, h115]; show (Sum.inr (lsM q3 (hRunTo (lsH s) v42 v115 (tmS a n on (.inr q115)).2) _ _ _ _ _, 1) : Ro) = _; rw [h]) (fun e h => by rw [pt_dr hp (by omega) (by rw [e1]) (by omega)]; exact dr_f (by unfold dr3 dr2; rw [e1, dsS_y h104, h115]; exact h)) (by decide)
                                   | exact L123 1 _ _ _ _ _ _ hF hT hA hL ⟨n0, n1, by omega, by omega⟩ (fun q3 m h => by rw [pt_dr hp (by omega) (by rw [e1]) (by omega), dr_g (q := q3) (by unfold dr3 dr2; rw [e1, dsS_n h104]; show (tmS a n on (.inr q42)).1 = _; rw [h])]; unfold dr3 dr2; rw [e1, dsS_n h104]; show (Sum.inr (lsM q3 (hRunTo (lsH s) v42 v42 (tmS a n on (.inr q42)).2) _ _ _ _ _, 1) : Ro) = _; rw [h]) (fun e h => by rw [pt_dr hp (by omega) (by rw [e1]) (by omega)]; exact dr_f (by unfold dr3 dr2; rw [e1, dsS_n h104]; exact h)) (by decide)
                                   | exact L123 1 _ _ _ _ _ _ hF hT hA hL ⟨n0, n1, by omega, by omega⟩ (fun q3 m h => by rw [pt_b hp (dw h14) (by omega) h14, bk_g (q := q3) (by rw [h]), h]) (fun e h => by rw [pt_b hp (dw h14) (by omega) h14]; exact bk_f h) (by decide))
                              · first
                                | (exfalso; omega)
                                | (refine bw_aload rfl rfl ?_
                                   refine bw_push rfl ?_
                                   refine bw_push rfl ?_
                                   refine bw_push rfl ?_
                                   refine bw_callVi (e := d - 1) (as := [_, _, _]) rfl (by omega) rfl rfl (Nat.le_of_ble_eq_true rfl) (Nat.le_of_ble_eq_true rfl) rfl (c_needNumber hR hT hA (by omega) (by omega)) (fun r115 M115 hM115 => ?_)
                                   rcases hM115 with ⟨e, h115, rfl, f115⟩ | ⟨q115, v115, h115, rfl, g115, b115, k115⟩
                                   · have hz : ptS a n on s = .inl e := by (rw [pt_dr hp (by omega) (by rw [e1]) (by omega)]; exact dr_f (by unfold dr3 dr2; rw [e1, dsS_y h104, h115]; exact tm_l))
                                     have hX := FA.tr (s := pW) hF.1 f115 (fun _ k => k) P_W
                                     refine bw_ifne rfl (fun c118 => ?_) (fun c118 => ?_)
                                     · first
                                       | (exfalso; omega)
                                       | (first
                                          | exact L123 1 _ _ _ _ _ _ hF hT hA hL ⟨n0, n1, by omega, by omega⟩ (fun q3 m h => by rw [pt_dr hp (by omega) (by rw [e1]) (by omega), dr_g (q := q3) (by unfold dr3 dr2; rw [e1, dsS_y h104, h115]; show (tmS a n on (.inr q115)).1 = _; rw [h])]; unfold dr3 dr2; rw [e1, dsS_y h104, h115]; show (Sum.inr (lsM q3 (hRunTo (lsH s) v42 v115 (tmS a n on (.inr q115)).2) _ _ _ _ _, 1) : Ro) = _; rw [h]) (fun e h => by rw [pt_dr hp (by omega) (by rw [e1]) (by omega)]; exact dr_f (by unfold dr3 dr2; rw [e1, dsS_y h104, h115]; exact h)) (by decide)
                                          | exact L123 1 _ _ _ _ _ _ hF hT hA hL ⟨n0, n1, by omega, by omega⟩ (fun q3 m h => by rw [pt_dr hp (by omega) (by rw [e1]) (by omega), dr_g (q := q3) (by unfold dr3 dr2; rw [e1, dsS_n h104]; show (tmS a n on (.inr q42)).1 = _; rw [h])]; unfold dr3 dr2; rw [e1, dsS_n h104]; show (Sum.inr (lsM q3 (hRunTo (lsH s) v42 v42 (tmS a n on (.inr q42)).2) _ _ _ _ _, 1) : Ro) = _; rw [h]) (fun e h => by rw [pt_dr hp (by omega) (by rw [e1]) (by omega)]; exact dr_f (by unfold dr3 dr2; rw [e1, dsS_n h104]; exact h)) (by decide)
                                          | exact L123 1 _ _ _ _ _ _ hF hT hA hL ⟨n0, n1, by omega, by omega⟩ (fun q3 m h => by rw [pt_b hp (dw h14) (by omega) h14, bk_g (q := q3) (by rw [h]), h]) (fun e h => by rw [pt_b hp (dw h14) (by omega) h14]; exact bk_f h) (by decide))
                                     · first
                                       | (exfalso; omega)
                                       | (refine bw_push rfl ?_
                                          refine bw_retz rfl rfl (by omega) ?_
                                          exact ⟨rfl, _, rfl, Or.inl ⟨e, hz, rfl, hX⟩⟩)
                                   · skip
                                     have hF := hF.trans (g115.1.mono N_W)
                                     have hR := g115.1.RF hR
                                     have hL := CL_sm hL g115.1.1 (fun c c0 c1 => no_N4 c0 c1)
                                     have n0 := ((congrFun k115 0).trans (up_ne (by decide))).trans n0
                                     have n1 := (congrFun k115 1).trans (up_eq rfl)
                                     have hT := g115.2.1
                                     have hA := g115.2.2
                                     refine bw_ifne rfl (fun c118 => ?_) (fun c118 => ?_)
                                     · first
                                       | (exfalso; omega)
                                       | (first
                                          | exact L123 1 _ _ _ _ _ _ hF hT hA hL ⟨n0, n1, by omega, by omega⟩ (fun q3 m h => by rw [pt_dr hp (by omega) (by rw [e1]) (by omega), dr_g (q := q3) (by unfold dr3 dr2; rw [e1, dsS_y h104, h115]; show (tmS a n on (.inr q115)).1 = _; rw [h])]; unfold dr3 dr2; rw [e1, dsS_y h104, h115]; show (Sum.inr (lsM q3 (hRunTo (lsH s) v42 v115 (tmS a n on (.inr q115)).2) _ _ _ _ _, 1) : Ro) = _; rw [h]) (fun e h => by rw [pt_dr hp (by omega) (by rw [e1]) (by omega)]; exact dr_f (by unfold dr3 dr2; rw [e1, dsS_y h104, h115]; exact h)) (by decide)
                                          | exact L123 1 _ _ _ _ _ _ hF hT hA hL ⟨n0, n1, by omega, by omega⟩ (fun q3 m h => by rw [pt_dr hp (by omega) (by rw [e1]) (by omega), dr_g (q := q3) (by unfold dr3 dr2; rw [e1, dsS_n h104]; show (tmS a n on (.inr q42)).1 = _; rw [h])]; unfold dr3 dr2; rw [e1, dsS_n h104]; show (Sum.inr (lsM q3 (hRunTo (lsH s) v42 v42 (tmS a n on (.inr q42)).2) _ _ _ _ _, 1) : Ro) = _; rw [h]) (fun e h => by rw [pt_dr hp (by omega) (by rw [e1]) (by omega)]; exact dr_f (by unfold dr3 dr2; rw [e1, dsS_n h104]; exact h)) (by decide)
                                          | exact L123 1 _ _ _ _ _ _ hF hT hA hL ⟨n0, n1, by omega, by omega⟩ (fun q3 m h => by rw [pt_b hp (dw h14) (by omega) h14, bk_g (q := q3) (by rw [h]), h]) (fun e h => by rw [pt_b hp (dw h14) (by omega) h14]; exact bk_f h) (by decide))
                                     · first
                                       | (exfalso; omega)
                                       | (refine bw_push rfl ?_
                                          refine bw_retz rfl rfl (by omega) ?_
                                          exact ⟨rfl, _, rfl, Or.inl ⟨e, hz, rfl, hX⟩⟩)))
                     · skip
                       refine bw_aload rfl rfl ?_
                       refine bw_push rfl ?_
                       refine bw_iload rfl rfl ?_
                       refine bw_callVi (e := d - 1) (as := [_, _]) rfl (by omega) rfl rfl (Nat.le_of_ble_eq_true rfl) (Nat.le_of_ble_eq_true rfl) rfl (c_fail hR) (fun r65 M65 hM65 => ?_)
                       obtain ⟨rfl, rfl⟩ := hM65
                       refine bw_retz rfl rfl (by omega) ?_
                       first
                       | exact ⟨rfl, _, rfl, Or.inl ⟨_, pt_d4 hp (by omega) (by rw [e1]) (by omega), rfl, by rw [← a1]; exact FA.tr (s := pW) hF.1 (fa_of hT) (fun _ k => k) P_W⟩⟩
                       | exact ⟨rfl, _, rfl, Or.inl ⟨_, pt_4 hp (dw h14) (by omega), rfl, by rw [← a1]; exact FA.tr (s := pW) hF.1 (fa_of hT) (fun _ k => k) P_W⟩⟩)
                · first
                  | (exfalso; omega)
                  | (refine bw_push rfl ?_
                     refine bw_retz rfl rfl (by omega) ?_
                     exact ⟨rfl, _, rfl, Or.inl ⟨e, hz, rfl, hX⟩⟩)
              · skip
                have hF := hF.trans (g42.1.mono N_W)
                have hR := g42.1.RF hR
                have hL := CL_sm hL g42.1.1 (fun c c0 c1 => no_N4 c0 c1)
                have n0 := (congrFun k42 0).trans (up_eq rfl)
                have hT := g42.2.1
                have hA := g42.2.2
                have e1 : dr1 a n s = (.inr q42, v42) := h42
                refine bw_ifne rfl (fun c45 => ?_) (fun c45 => ?_)
                · first
                  | (exfalso; omega)
                  | (refine bw_aload rfl rfl ?_
                     refine bw_getr rfl rfl (hR _ _) ?_
                     refine bw_getI rfl rfl ?_
                     rw [hL.f8]
                     refine bw_push rfl ?_
                     refine bw_icne rfl (fun c59 => ?_) (fun c59 => ?_)
                     · skip
                       refine bw_aload rfl rfl ?_
                       refine bw_getr rfl rfl (hR _ _) ?_
                       first | refine bw_dup rfl ?_ | refine bw_dupi rfl ?_
                       refine bw_getI rfl rfl ?_
                       rw [hL.f8]
                       refine bw_push rfl ?_
                       refine bw_iadd rfl ⟨by omega, by omega⟩ ?_
                       refine bw_putI rfl rfl ?_
                       obtain ⟨u9, hR, hT, hA, hL⟩ := st8 hR hT hA hL
                       have hF := hF.trans ((sq_of u9 (by decide)).mono a4_W)
                       have n0 := (congrFun (u9.at 9 (by decide)) 0).trans n0
                       refine bw_aload rfl rfl ?_
                       refine bw_getr rfl rfl (hR _ _) ?_
                       refine bw_push rfl ?_
                       refine bw_aload rfl rfl ?_
                       refine bw_getr rfl rfl (hR _ _) ?_
                       refine bw_push rfl ?_
                       refine bw_aldi rfl (by first | rfl | assumption) (by omega) (by omega) ?_
                       rw [n0]
                       refine bw_asti rfl (by first | rfl | assumption) (by omega) (by omega) ?_
                       obtain ⟨u9, hR, hT, hA, hL⟩ := st9n n0 hR hT hA hL
                       have hF := hF.trans ((sq_of u9 (by decide)).mono a9_W)
                       have n0 := n9_k hL (show (0 : Int) ≠ 1 by decide) n0
                       have n1 := n9_w hL
                       refine bw_iload rfl rfl ?_
                       refine bw_ifeq rfl (fun c95 => ?_) (fun c95 => ?_)
                       · first
                         | (exfalso; omega)
                         | (first
                            | exact L123 1 _ _ _ _ _ _ hF hT hA hL ⟨n0, n1, by omega, by omega⟩ (fun q3 m h => by rw [pt_dr hp (by omega) (by rw [e1]) (by omega), dr_g (q := q3) (by unfold dr3 dr2; rw [e1, dsS_y h104, h115]; show (tmS a n on (.inr q115)).1 = _; rw [h])]; unfold dr3 dr2; rw [e1, dsS_y h104, h115]; show (Sum.inr (lsM q3 (hRunTo (lsH s) v42 v115 (tmS a n on (.inr q115)).2) _ _ _ _ _, 1) : Ro) = _; rw [h]) (fun e h => by rw [pt_dr hp (by omega) (by rw [e1]) (by omega)]; exact dr_f (by unfold dr3 dr2; rw [e1, dsS_y h104, h115]; exact h)) (by decide)
                            | exact L123 1 _ _ _ _ _ _ hF hT hA hL ⟨n0, n1, by omega, by omega⟩ (fun q3 m h => by rw [pt_dr hp (by omega) (by rw [e1]) (by omega), dr_g (q := q3) (by unfold dr3 dr2; rw [e1, dsS_n h104]; show (tmS a n on (.inr q42)).1 = _; rw [h])]; unfold dr3 dr2; rw [e1, dsS_n h104]; show (Sum.inr (lsM q3 (hRunTo (lsH s) v42 v42 (tmS a n on (.inr q42)).2) _ _ _ _ _, 1) : Ro) = _; rw [h]) (fun e h => by rw [pt_dr hp (by omega) (by rw [e1]) (by omega)]; exact dr_f (by unfold dr3 dr2; rw [e1, dsS_n h104]; exact h)) (by decide)
                            | exact L123 1 _ _ _ _ _ _ hF hT hA hL ⟨n0, n1, by omega, by omega⟩ (fun q3 m h => by rw [pt_b hp (dw h14) (by omega) h14, bk_g (q := q3) (by rw [h]), h]) (fun e h => by rw [pt_b hp (dw h14) (by omega) h14]; exact bk_f h) (by decide))
                       · first
                         | (exfalso; omega)
                         | (refine bw_aload rfl rfl ?_
                            refine bw_getr rfl rfl (hR _ _) ?_
                            refine bw_push rfl ?_
                            refine bw_callVNi (e := d - 1) (as := [_]) rfl (by omega) rfl rfl (Nat.le_of_ble_eq_true rfl) (Nat.le_of_ble_eq_true rfl) rfl (c_takeSign (c := 45) hR hT hA (by decide) (by omega)) (fun r104 M104 hM104 => ?_)
                            rcases hM104 with ⟨h104, rfl, g104⟩ | ⟨h104, rfl, e104⟩
                            · have g104 := go_of g104
                              have hF := hF.trans (g104.1.mono T_W)
                              have hR := g104.1.RF hR
                              have hL := CL_sm hL g104.1.1 (fun c c0 c1 => no_T4 c0)
                              have n0 := (congrFun (g104.1.at 9 (by decide)) 0).trans n0
                              have n1 := (congrFun (g104.1.at 9 (by decide)) 1).trans n1
                              have hT := g104.2.1
                              have hA := g104.2.2
                              refine bw_ifeq rfl (fun c107 => ?_) (fun c107 => ?_)
                              · first
                                | (exfalso; omega)
                                | (first
                                   | exact L123 1 _ _ _ _ _ _ hF hT hA hL ⟨n0, n1, by omega, by omega⟩ (fun q3 m h => by rw [pt_dr hp (by omega) (by rw [e1]) (by omega), dr_g (q := q3) (by unfold dr3 dr2; rw [e1, dsS_y h104, h115]; show (tmS a n on (.inr q115)).1 = _; rw [h])]; unfold dr3 dr2; rw [e1, dsS_y h104, h115]; show (Sum.inr (lsM q3 (hRunTo (lsH s) v42 v115 (tmS a n on (.inr q115)).2) _ _ _ _ _, 1) : Ro) = _; rw [h]) (fun e h => by rw [pt_dr hp (by omega) (by rw [e1]) (by omega)]; exact dr_f (by unfold dr3 dr2; rw [e1, dsS_y h104, h115]; exact h)) (by decide)
                                   | exact L123 1 _ _ _ _ _ _ hF hT hA hL ⟨n0, n1, by omega, by omega⟩ (fun q3 m h => by rw [pt_dr hp (by omega) (by rw [e1]) (by omega), dr_g (q := q3) (by unfold dr3 dr2; rw [e1, dsS_n h104]; show (tmS a n on (.inr q42)).1 = _; rw [h])]; unfold dr3 dr2; rw [e1, dsS_n h104]; show (Sum.inr (lsM q3 (hRunTo (lsH s) v42 v42 (tmS a n on (.inr q42)).2) _ _ _ _ _, 1) : Ro) = _; rw [h]) (fun e h => by rw [pt_dr hp (by omega) (by rw [e1]) (by omega)]; exact dr_f (by unfold dr3 dr2; rw [e1, dsS_n h104]; exact h)) (by decide)
                                   | exact L123 1 _ _ _ _ _ _ hF hT hA hL ⟨n0, n1, by omega, by omega⟩ (fun q3 m h => by rw [pt_b hp (dw h14) (by omega) h14, bk_g (q := q3) (by rw [h]), h]) (fun e h => by rw [pt_b hp (dw h14) (by omega) h14]; exact bk_f h) (by decide))
                              · first
                                | (exfalso; omega)
                                | (refine bw_aload rfl rfl ?_
                                   refine bw_push rfl ?_
                                   refine bw_push rfl ?_
                                   refine bw_push rfl ?_
                                   refine bw_callVi (e := d - 1) (as := [_, _, _]) rfl (by omega) rfl rfl (Nat.le_of_ble_eq_true rfl) (Nat.le_of_ble_eq_true rfl) rfl (c_needNumber hR hT hA (by omega) (by omega)) (fun r115 M115 hM115 => ?_)
                                   rcases hM115 with ⟨e, h115, rfl, f115⟩ | ⟨q115, v115, h115, rfl, g115, b115, k115⟩
                                   · have hz : ptS a n on s = .inl e := by (rw [pt_dr hp (by omega) (by rw [e1]) (by omega)]; exact dr_f (by unfold dr3 dr2; rw [e1, dsS_y h104, h115]; exact tm_l))
                                     have hX := FA.tr (s := pW) hF.1 f115 (fun _ k => k) P_W
                                     refine bw_ifne rfl (fun c118 => ?_) (fun c118 => ?_)
                                     · first
                                       | (exfalso; omega)
                                       | (first
                                          | exact L123 1 _ _ _ _ _ _ hF hT hA hL ⟨n0, n1, by omega, by omega⟩ (fun q3 m h => by rw [pt_dr hp (by omega) (by rw [e1]) (by omega), dr_g (q := q3) (by unfold dr3 dr2; rw [e1, dsS_y h104, h115]; show (tmS a n on (.inr q115)).1 = _; rw [h])]; unfold dr3 dr2; rw [e1, dsS_y h104, h115]; show (Sum.inr (lsM q3 (hRunTo (lsH s) v42 v115 (tmS a n on (.inr q115)).2) _ _ _ _ _, 1) : Ro) = _; rw [h]) (fun e h => by rw [pt_dr hp (by omega) (by rw [e1]) (by omega)]; exact dr_f (by unfold dr3 dr2; rw [e1, dsS_y h104, h115]; exact h)) (by decide)
                                          | exact L123 1 _ _ _ _ _ _ hF hT hA hL ⟨n0, n1, by omega, by omega⟩ (fun q3 m h => by rw [pt_dr hp (by omega) (by rw [e1]) (by omega), dr_g (q := q3) (by unfold dr3 dr2; rw [e1, dsS_n h104]; show (tmS a n on (.inr q42)).1 = _; rw [h])]; unfold dr3 dr2; rw [e1, dsS_n h104]; show (Sum.inr (lsM q3 (hRunTo (lsH s) v42 v42 (tmS a n on (.inr q42)).2) _ _ _ _ _, 1) : Ro) = _; rw [h]) (fun e h => by rw [pt_dr hp (by omega) (by rw [e1]) (by omega)]; exact dr_f (by unfold dr3 dr2; rw [e1, dsS_n h104]; exact h)) (by decide)
                                          | exact L123 1 _ _ _ _ _ _ hF hT hA hL ⟨n0, n1, by omega, by omega⟩ (fun q3 m h => by rw [pt_b hp (dw h14) (by omega) h14, bk_g (q := q3) (by rw [h]), h]) (fun e h => by rw [pt_b hp (dw h14) (by omega) h14]; exact bk_f h) (by decide))
                                     · first
                                       | (exfalso; omega)
                                       | (refine bw_push rfl ?_
                                          refine bw_retz rfl rfl (by omega) ?_
                                          exact ⟨rfl, _, rfl, Or.inl ⟨e, hz, rfl, hX⟩⟩)
                                   · skip
                                     have hF := hF.trans (g115.1.mono N_W)
                                     have hR := g115.1.RF hR
                                     have hL := CL_sm hL g115.1.1 (fun c c0 c1 => no_N4 c0 c1)
                                     have n0 := ((congrFun k115 0).trans (up_ne (by decide))).trans n0
                                     have n1 := (congrFun k115 1).trans (up_eq rfl)
                                     have hT := g115.2.1
                                     have hA := g115.2.2
                                     refine bw_ifne rfl (fun c118 => ?_) (fun c118 => ?_)
                                     · first
                                       | (exfalso; omega)
                                       | (first
                                          | exact L123 1 _ _ _ _ _ _ hF hT hA hL ⟨n0, n1, by omega, by omega⟩ (fun q3 m h => by rw [pt_dr hp (by omega) (by rw [e1]) (by omega), dr_g (q := q3) (by unfold dr3 dr2; rw [e1, dsS_y h104, h115]; show (tmS a n on (.inr q115)).1 = _; rw [h])]; unfold dr3 dr2; rw [e1, dsS_y h104, h115]; show (Sum.inr (lsM q3 (hRunTo (lsH s) v42 v115 (tmS a n on (.inr q115)).2) _ _ _ _ _, 1) : Ro) = _; rw [h]) (fun e h => by rw [pt_dr hp (by omega) (by rw [e1]) (by omega)]; exact dr_f (by unfold dr3 dr2; rw [e1, dsS_y h104, h115]; exact h)) (by decide)
                                          | exact L123 1 _ _ _ _ _ _ hF hT hA hL ⟨n0, n1, by omega, by omega⟩ (fun q3 m h => by rw [pt_dr hp (by omega) (by rw [e1]) (by omega), dr_g (q := q3) (by unfold dr3 dr2; rw [e1, dsS_n h104]; show (tmS a n on (.inr q42)).1 = _; rw [h])]; unfold dr3 dr2; rw [e1, dsS_n h104]; show (Sum.inr (lsM q3 (hRunTo (lsH s) v42 v42 (tmS a n on (.inr q42)).2) _ _ _ _ _, 1) : Ro) = _; rw [h]) (fun e h => by rw [pt_dr hp (by omega) (by rw [e1]) (by omega)]; exact dr_f (by unfold dr3 dr2; rw [e1, dsS_n h104]; exact h)) (by decide)
                                          | exact L123 1 _ _ _ _ _ _ hF hT hA hL ⟨n0, n1, by omega, by omega⟩ (fun q3 m h => by rw [pt_b hp (dw h14) (by omega) h14, bk_g (q := q3) (by rw [h]), h]) (fun e h => by rw [pt_b hp (dw h14) (by omega) h14]; exact bk_f h) (by decide))
                                     · first
                                       | (exfalso; omega)
                                       | (refine bw_push rfl ?_
                                          refine bw_retz rfl rfl (by omega) ?_
                                          exact ⟨rfl, _, rfl, Or.inl ⟨e, hz, rfl, hX⟩⟩))
                            · have g104 := go_n hT hA e104
                              have hF := hF.trans (g104.1.mono T_W)
                              have hR := g104.1.RF hR
                              have hL := CL_sm hL g104.1.1 (fun c c0 c1 => no_T4 c0)
                              have n0 := (congrFun (g104.1.at 9 (by decide)) 0).trans n0
                              have n1 := (congrFun (g104.1.at 9 (by decide)) 1).trans n1
                              have hT := g104.2.1
                              have hA := g104.2.2
                              refine bw_ifeq rfl (fun c107 => ?_) (fun c107 => ?_)
                              · first
                                | (exfalso; omega)
                                | (first
                                   | exact L123 1 _ _ _ _ _ _ hF hT hA hL ⟨n0, n1, by omega, by omega⟩ (fun q3 m h => by rw [pt_dr hp (by omega) (by rw [e1]) (by omega), dr_g (q := q3) (by unfold dr3 dr2; rw [e1, dsS_y h104, h115]; show (tmS a n on (.inr q115)).1 = _; rw [h])]; unfold dr3 dr2; rw [e1, dsS_y h104, h115]; show (Sum.inr (lsM q3 (hRunTo (lsH s) v42 v115 (tmS a n on (.inr q115)).2) _ _ _ _ _, 1) : Ro) = _; rw [h]) (fun e h => by rw [pt_dr hp (by omega) (by rw [e1]) (by omega)]; exact dr_f (by unfold dr3 dr2; rw [e1, dsS_y h104, h115]; exact h)) (by decide)
                                   | exact L123 1 _ _ _ _ _ _ hF hT hA hL ⟨n0, n1, by omega, by omega⟩ (fun q3 m h => by rw [pt_dr hp (by omega) (by rw [e1]) (by omega), dr_g (q := q3) (by unfold dr3 dr2; rw [e1, dsS_n h104]; show (tmS a n on (.inr q42)).1 = _; rw [h])]; unfold dr3 dr2; rw [e1, dsS_n h104]; show (Sum.inr (lsM q3 (hRunTo (lsH s) v42 v42 (tmS a n on (.inr q42)).2) _ _ _ _ _, 1) : Ro) = _; rw [h]) (fun e h => by rw [pt_dr hp (by omega) (by rw [e1]) (by omega)]; exact dr_f (by unfold dr3 dr2; rw [e1, dsS_n h104]; exact h)) (by decide)
                                   | exact L123 1 _ _ _ _ _ _ hF hT hA hL ⟨n0, n1, by omega, by omega⟩ (fun q3 m h => by rw [pt_b hp (dw h14) (by omega) h14, bk_g (q := q3) (by rw [h]), h]) (fun e h => by rw [pt_b hp (dw h14) (by omega) h14]; exact bk_f h) (by decide))
                              · first
                                | (exfalso; omega)
                                | (refine bw_aload rfl rfl ?_
                                   refine bw_push rfl ?_
                                   refine bw_push rfl ?_
                                   refine bw_push rfl ?_
                                   refine bw_callVi (e := d - 1) (as := [_, _, _]) rfl (by omega) rfl rfl (Nat.le_of_ble_eq_true rfl) (Nat.le_of_ble_eq_true rfl) rfl (c_needNumber hR hT hA (by omega) (by omega)) (fun r115 M115 hM115 => ?_)
                                   rcases hM115 with ⟨e, h115, rfl, f115⟩ | ⟨q115, v115, h115, rfl, g115, b115, k115⟩
                                   · have hz : ptS a n on s = .inl e := by (rw [pt_dr hp (by omega) (by rw [e1]) (by omega)]; exact dr_f (by unfold dr3 dr2; rw [e1, dsS_y h104, h115]; exact tm_l))
                                     have hX := FA.tr (s := pW) hF.1 f115 (fun _ k => k) P_W
                                     refine bw_ifne rfl (fun c118 => ?_) (fun c118 => ?_)
                                     · first
                                       | (exfalso; omega)
                                       | (first
                                          | exact L123 1 _ _ _ _ _ _ hF hT hA hL ⟨n0, n1, by omega, by omega⟩ (fun q3 m h => by rw [pt_dr hp (by omega) (by rw [e1]) (by omega), dr_g (q := q3) (by unfold dr3 dr2; rw [e1, dsS_y h104, h115]; show (tmS a n on (.inr q115)).1 = _; rw [h])]; unfold dr3 dr2; rw [e1, dsS_y h104, h115]; show (Sum.inr (lsM q3 (hRunTo (lsH s) v42 v115 (tmS a n on (.inr q115)).2) _ _ _ _ _, 1) : Ro) = _; rw [h]) (fun e h => by rw [pt_dr hp (by omega) (by rw [e1]) (by omega)]; exact dr_f (by unfold dr3 dr2; rw [e1, dsS_y h104, h115]; exact h)) (by decide)
                                          | exact L123 1 _ _ _ _ _ _ hF hT hA hL ⟨n0, n1, by omega, by omega⟩ (fun q3 m h => by rw [pt_dr hp (by omega) (by rw [e1]) (by omega), dr_g (q := q3) (by unfold dr3 dr2; rw [e1, dsS_n h104]; show (tmS a n on (.inr q42)).1 = _; rw [h])]; unfold dr3 dr2; rw [e1, dsS_n h104]; show (Sum.inr (lsM q3 (hRunTo (lsH s) v42 v42 (tmS a n on (.inr q42)).2) _ _ _ _ _, 1) : Ro) = _; rw [h]) (fun e h => by rw [pt_dr hp (by omega) (by rw [e1]) (by omega)]; exact dr_f (by unfold dr3 dr2; rw [e1, dsS_n h104]; exact h)) (by decide)
                                          | exact L123 1 _ _ _ _ _ _ hF hT hA hL ⟨n0, n1, by omega, by omega⟩ (fun q3 m h => by rw [pt_b hp (dw h14) (by omega) h14, bk_g (q := q3) (by rw [h]), h]) (fun e h => by rw [pt_b hp (dw h14) (by omega) h14]; exact bk_f h) (by decide))
                                     · first
                                       | (exfalso; omega)
                                       | (refine bw_push rfl ?_
                                          refine bw_retz rfl rfl (by omega) ?_
                                          exact ⟨rfl, _, rfl, Or.inl ⟨e, hz, rfl, hX⟩⟩)
                                   · skip
                                     have hF := hF.trans (g115.1.mono N_W)
                                     have hR := g115.1.RF hR
                                     have hL := CL_sm hL g115.1.1 (fun c c0 c1 => no_N4 c0 c1)
                                     have n0 := ((congrFun k115 0).trans (up_ne (by decide))).trans n0
                                     have n1 := (congrFun k115 1).trans (up_eq rfl)
                                     have hT := g115.2.1
                                     have hA := g115.2.2
                                     refine bw_ifne rfl (fun c118 => ?_) (fun c118 => ?_)
                                     · first
                                       | (exfalso; omega)
                                       | (first
                                          | exact L123 1 _ _ _ _ _ _ hF hT hA hL ⟨n0, n1, by omega, by omega⟩ (fun q3 m h => by rw [pt_dr hp (by omega) (by rw [e1]) (by omega), dr_g (q := q3) (by unfold dr3 dr2; rw [e1, dsS_y h104, h115]; show (tmS a n on (.inr q115)).1 = _; rw [h])]; unfold dr3 dr2; rw [e1, dsS_y h104, h115]; show (Sum.inr (lsM q3 (hRunTo (lsH s) v42 v115 (tmS a n on (.inr q115)).2) _ _ _ _ _, 1) : Ro) = _; rw [h]) (fun e h => by rw [pt_dr hp (by omega) (by rw [e1]) (by omega)]; exact dr_f (by unfold dr3 dr2; rw [e1, dsS_y h104, h115]; exact h)) (by decide)
                                          | exact L123 1 _ _ _ _ _ _ hF hT hA hL ⟨n0, n1, by omega, by omega⟩ (fun q3 m h => by rw [pt_dr hp (by omega) (by rw [e1]) (by omega), dr_g (q := q3) (by unfold dr3 dr2; rw [e1, dsS_n h104]; show (tmS a n on (.inr q42)).1 = _; rw [h])]; unfold dr3 dr2; rw [e1, dsS_n h104]; show (Sum.inr (lsM q3 (hRunTo (lsH s) v42 v42 (tmS a n on (.inr q42)).2) _ _ _ _ _, 1) : Ro) = _; rw [h]) (fun e h => by rw [pt_dr hp (by omega) (by rw [e1]) (by omega)]; exact dr_f (by unfold dr3 dr2; rw [e1, dsS_n h104]; exact h)) (by decide)
                                          | exact L123 1 _ _ _ _ _ _ hF hT hA hL ⟨n0, n1, by omega, by omega⟩ (fun q3 m h => by rw [pt_b hp (dw h14) (by omega) h14, bk_g (q := q3) (by rw [h]), h]) (fun e h => by rw [pt_b hp (dw h14) (by omega) h14]; exact bk_f h) (by decide))
                                     · first
                                       | (exfalso; omega)
                                       | (refine bw_push rfl ?_
                                          refine bw_retz rfl rfl (by omega) ?_
                                          exact ⟨rfl, _, rfl, Or.inl ⟨e, hz, rfl, hX⟩⟩)))
                     · skip
                       refine bw_aload rfl rfl ?_
                       refine bw_push rfl ?_
                       refine bw_iload rfl rfl ?_
                       refine bw_callVi (e := d - 1) (as := [_, _]) rfl (by omega) rfl rfl (Nat.le_of_ble_eq_true rfl) (Nat.le_of_ble_eq_true rfl) rfl (c_fail hR) (fun r65 M65 hM65 => ?_)
                       obtain ⟨rfl, rfl⟩ := hM65
                       refine bw_retz rfl rfl (by omega) ?_
                       first
                       | exact ⟨rfl, _, rfl, Or.inl ⟨_, pt_d4 hp (by omega) (by rw [e1]) (by omega), rfl, by rw [← a1]; exact FA.tr (s := pW) hF.1 (fa_of hT) (fun _ k => k) P_W⟩⟩
                       | exact ⟨rfl, _, rfl, Or.inl ⟨_, pt_4 hp (dw h14) (by omega), rfl, by rw [← a1]; exact FA.tr (s := pW) hF.1 (fa_of hT) (fun _ k => k) P_W⟩⟩)
                · first
                  | (exfalso; omega)
                  | (refine bw_push rfl ?_
                     refine bw_retz rfl rfl (by omega) ?_
                     exact ⟨rfl, _, rfl, Or.inl ⟨e, hz, rfl, hX⟩⟩)))
    · first
      | (exfalso; omega)
      | (refine bw_push rfl ?_
         refine bw_goto rfl ?_
         refine bw_istore (ls2 := [_, _, _]) rfl rfl (Nat.le_of_ble_eq_true rfl) rfl ?_
         refine bw_aload rfl rfl ?_
         refine bw_getr rfl rfl (hR _ _) ?_
         refine bw_push rfl ?_
         refine bw_push rfl ?_
         refine bw_asti rfl (by first | rfl | assumption) (by omega) (by omega) ?_
         obtain ⟨u9, hR, hT, hA, hL⟩ := st9 0 (0) hR hT hA hL
         have hF := hF.trans ((sq_of u9 (by decide)).mono a9_W)
         have n0 := n9_w hL
         refine bw_iload rfl rfl ?_
         refine bw_ifeq rfl (fun c34 => ?_) (fun c34 => ?_)
         · first
           | (exfalso; omega)
           | (refine bw_aload rfl rfl ?_
              refine bw_getr rfl rfl (hR _ _) ?_
              refine bw_getI rfl rfl ?_
              rw [hL.f8]
              refine bw_push rfl ?_
              refine bw_icne rfl (fun c59 => ?_) (fun c59 => ?_)
              · skip
                refine bw_aload rfl rfl ?_
                refine bw_getr rfl rfl (hR _ _) ?_
                first | refine bw_dup rfl ?_ | refine bw_dupi rfl ?_
                refine bw_getI rfl rfl ?_
                rw [hL.f8]
                refine bw_push rfl ?_
                refine bw_iadd rfl ⟨by omega, by omega⟩ ?_
                refine bw_putI rfl rfl ?_
                obtain ⟨u9, hR, hT, hA, hL⟩ := st8 hR hT hA hL
                have hF := hF.trans ((sq_of u9 (by decide)).mono a4_W)
                have n0 := (congrFun (u9.at 9 (by decide)) 0).trans n0
                refine bw_aload rfl rfl ?_
                refine bw_getr rfl rfl (hR _ _) ?_
                refine bw_push rfl ?_
                refine bw_aload rfl rfl ?_
                refine bw_getr rfl rfl (hR _ _) ?_
                refine bw_push rfl ?_
                refine bw_aldi rfl (by first | rfl | assumption) (by omega) (by omega) ?_
                rw [n0]
                refine bw_asti rfl (by first | rfl | assumption) (by omega) (by omega) ?_
                obtain ⟨u9, hR, hT, hA, hL⟩ := st9n n0 hR hT hA hL
                have hF := hF.trans ((sq_of u9 (by decide)).mono a9_W)
                have n0 := n9_k hL (show (0 : Int) ≠ 1 by decide) n0
                have n1 := n9_w hL
                refine bw_iload rfl rfl ?_
                refine bw_ifeq rfl (fun c95 => ?_) (fun c95 => ?_)
                · first
                  | (exfalso; omega)
                  | (first
                     | exact L123 1 _ _ _ _ _ _ hF hT hA hL ⟨n0, n1, by omega, by omega⟩ (fun q3 m h => by rw [pt_dr hp (by omega) (by rw [e1]) (by omega), dr_g (q := q3) (by unfold dr3 dr2; rw [e1, dsS_y h104, h115]; show (tmS a n on (.inr q115)).1 = _; rw [h])]; unfold dr3 dr2; rw [e1, dsS_y h104, h115]; show (Sum.inr (lsM q3 (hRunTo (lsH s) v42 v115 (tmS a n on (.inr q115)).2) _ _ _ _ _, 1) : Ro) = _; rw [h]) (fun e h => by rw [pt_dr hp (by omega) (by rw [e1]) (by omega)]; exact dr_f (by unfold dr3 dr2; rw [e1, dsS_y h104, h115]; exact h)) (by decide)
                     | exact L123 1 _ _ _ _ _ _ hF hT hA hL ⟨n0, n1, by omega, by omega⟩ (fun q3 m h => by rw [pt_dr hp (by omega) (by rw [e1]) (by omega), dr_g (q := q3) (by unfold dr3 dr2; rw [e1, dsS_n h104]; show (tmS a n on (.inr q42)).1 = _; rw [h])]; unfold dr3 dr2; rw [e1, dsS_n h104]; show (Sum.inr (lsM q3 (hRunTo (lsH s) v42 v42 (tmS a n on (.inr q42)).2) _ _ _ _ _, 1) : Ro) = _; rw [h]) (fun e h => by rw [pt_dr hp (by omega) (by rw [e1]) (by omega)]; exact dr_f (by unfold dr3 dr2; rw [e1, dsS_n h104]; exact h)) (by decide)
                     | exact L123 1 _ _ _ _ _ _ hF hT hA hL ⟨n0, n1, by omega, by omega⟩ (fun q3 m h => by rw [pt_b hp (dw h14) (by omega) h14, bk_g (q := q3) (by rw [h]), h]) (fun e h => by rw [pt_b hp (dw h14) (by omega) h14]; exact bk_f h) (by decide))
                · first
                  | (exfalso; omega)
                  | (refine bw_aload rfl rfl ?_
                     refine bw_getr rfl rfl (hR _ _) ?_
                     refine bw_push rfl ?_
                     refine bw_callVNi (e := d - 1) (as := [_]) rfl (by omega) rfl rfl (Nat.le_of_ble_eq_true rfl) (Nat.le_of_ble_eq_true rfl) rfl (c_takeSign (c := 45) hR hT hA (by decide) (by omega)) (fun r104 M104 hM104 => ?_)
                     rcases hM104 with ⟨h104, rfl, g104⟩ | ⟨h104, rfl, e104⟩
                     · have g104 := go_of g104
                       have hF := hF.trans (g104.1.mono T_W)
                       have hR := g104.1.RF hR
                       have hL := CL_sm hL g104.1.1 (fun c c0 c1 => no_T4 c0)
                       have n0 := (congrFun (g104.1.at 9 (by decide)) 0).trans n0
                       have n1 := (congrFun (g104.1.at 9 (by decide)) 1).trans n1
                       have hT := g104.2.1
                       have hA := g104.2.2
                       refine bw_ifeq rfl (fun c107 => ?_) (fun c107 => ?_)
                       · first
                         | (exfalso; omega)
                         | (first
                            | exact L123 1 _ _ _ _ _ _ hF hT hA hL ⟨n0, n1, by omega, by omega⟩ (fun q3 m h => by rw [pt_dr hp (by omega) (by rw [e1]) (by omega), dr_g (q := q3) (by unfold dr3 dr2; rw [e1, dsS_y h104, h115]; show (tmS a n on (.inr q115)).1 = _; rw [h])]; unfold dr3 dr2; rw [e1, dsS_y h104, h115]; show (Sum.inr (lsM q3 (hRunTo (lsH s) v42 v115 (tmS a n on (.inr q115)).2) _ _ _ _ _, 1) : Ro) = _; rw [h]) (fun e h => by rw [pt_dr hp (by omega) (by rw [e1]) (by omega)]; exact dr_f (by unfold dr3 dr2; rw [e1, dsS_y h104, h115]; exact h)) (by decide)
                            | exact L123 1 _ _ _ _ _ _ hF hT hA hL ⟨n0, n1, by omega, by omega⟩ (fun q3 m h => by rw [pt_dr hp (by omega) (by rw [e1]) (by omega), dr_g (q := q3) (by unfold dr3 dr2; rw [e1, dsS_n h104]; show (tmS a n on (.inr q42)).1 = _; rw [h])]; unfold dr3 dr2; rw [e1, dsS_n h104]; show (Sum.inr (lsM q3 (hRunTo (lsH s) v42 v42 (tmS a n on (.inr q42)).2) _ _ _ _ _, 1) : Ro) = _; rw [h]) (fun e h => by rw [pt_dr hp (by omega) (by rw [e1]) (by omega)]; exact dr_f (by unfold dr3 dr2; rw [e1, dsS_n h104]; exact h)) (by decide)
                            | exact L123 1 _ _ _ _ _ _ hF hT hA hL ⟨n0, n1, by omega, by omega⟩ (fun q3 m h => by rw [pt_b hp (dw h14) (by omega) h14, bk_g (q := q3) (by rw [h]), h]) (fun e h => by rw [pt_b hp (dw h14) (by omega) h14]; exact bk_f h) (by decide))
                       · first
                         | (exfalso; omega)
                         | (refine bw_aload rfl rfl ?_
                            refine bw_push rfl ?_
                            refine bw_push rfl ?_
                            refine bw_push rfl ?_
                            refine bw_callVi (e := d - 1) (as := [_, _, _]) rfl (by omega) rfl rfl (Nat.le_of_ble_eq_true rfl) (Nat.le_of_ble_eq_true rfl) rfl (c_needNumber hR hT hA (by omega) (by omega)) (fun r115 M115 hM115 => ?_)
                            rcases hM115 with ⟨e, h115, rfl, f115⟩ | ⟨q115, v115, h115, rfl, g115, b115, k115⟩
                            · have hz : ptS a n on s = .inl e := by (rw [pt_dr hp (by omega) (by rw [e1]) (by omega)]; exact dr_f (by unfold dr3 dr2; rw [e1, dsS_y h104, h115]; exact tm_l))
                              have hX := FA.tr (s := pW) hF.1 f115 (fun _ k => k) P_W
                              refine bw_ifne rfl (fun c118 => ?_) (fun c118 => ?_)
                              · first
                                | (exfalso; omega)
                                | (first
                                   | exact L123 1 _ _ _ _ _ _ hF hT hA hL ⟨n0, n1, by omega, by omega⟩ (fun q3 m h => by rw [pt_dr hp (by omega) (by rw [e1]) (by omega), dr_g (q := q3) (by unfold dr3 dr2; rw [e1, dsS_y h104, h115]; show (tmS a n on (.inr q115)).1 = _; rw [h])]; unfold dr3 dr2; rw [e1, dsS_y h104, h115]; show (Sum.inr (lsM q3 (hRunTo (lsH s) v42 v115 (tmS a n on (.inr q115)).2) _ _ _ _ _, 1) : Ro) = _; rw [h]) (fun e h => by rw [pt_dr hp (by omega) (by rw [e1]) (by omega)]; exact dr_f (by unfold dr3 dr2; rw [e1, dsS_y h104, h115]; exact h)) (by decide)
                                   | exact L123 1 _ _ _ _ _ _ hF hT hA hL ⟨n0, n1, by omega, by omega⟩ (fun q3 m h => by rw [pt_dr hp (by omega) (by rw [e1]) (by omega), dr_g (q := q3) (by unfold dr3 dr2; rw [e1, dsS_n h104]; show (tmS a n on (.inr q42)).1 = _; rw [h])]; unfold dr3 dr2; rw [e1, dsS_n h104]; show (Sum.inr (lsM q3 (hRunTo (lsH s) v42 v42 (tmS a n on (.inr q42)).2) _ _ _ _ _, 1) : Ro) = _; rw [h]) (fun e h => by rw [pt_dr hp (by omega) (by rw [e1]) (by omega)]; exact dr_f (by unfold dr3 dr2; rw [e1, dsS_n h104]; exact h)) (by decide)
                                   | exact L123 1 _ _ _ _ _ _ hF hT hA hL ⟨n0, n1, by omega, by omega⟩ (fun q3 m h => by rw [pt_b hp (dw h14) (by omega) h14, bk_g (q := q3) (by rw [h]), h]) (fun e h => by rw [pt_b hp (dw h14) (by omega) h14]; exact bk_f h) (by decide))
                              · first
                                | (exfalso; omega)
                                | (refine bw_push rfl ?_
                                   refine bw_retz rfl rfl (by omega) ?_
                                   exact ⟨rfl, _, rfl, Or.inl ⟨e, hz, rfl, hX⟩⟩)
                            · skip
                              have hF := hF.trans (g115.1.mono N_W)
                              have hR := g115.1.RF hR
                              have hL := CL_sm hL g115.1.1 (fun c c0 c1 => no_N4 c0 c1)
                              have n0 := ((congrFun k115 0).trans (up_ne (by decide))).trans n0
                              have n1 := (congrFun k115 1).trans (up_eq rfl)
                              have hT := g115.2.1
                              have hA := g115.2.2
                              refine bw_ifne rfl (fun c118 => ?_) (fun c118 => ?_)
                              · first
                                | (exfalso; omega)
                                | (first
                                   | exact L123 1 _ _ _ _ _ _ hF hT hA hL ⟨n0, n1, by omega, by omega⟩ (fun q3 m h => by rw [pt_dr hp (by omega) (by rw [e1]) (by omega), dr_g (q := q3) (by unfold dr3 dr2; rw [e1, dsS_y h104, h115]; show (tmS a n on (.inr q115)).1 = _; rw [h])]; unfold dr3 dr2; rw [e1, dsS_y h104, h115]; show (Sum.inr (lsM q3 (hRunTo (lsH s) v42 v115 (tmS a n on (.inr q115)).2) _ _ _ _ _, 1) : Ro) = _; rw [h]) (fun e h => by rw [pt_dr hp (by omega) (by rw [e1]) (by omega)]; exact dr_f (by unfold dr3 dr2; rw [e1, dsS_y h104, h115]; exact h)) (by decide)
                                   | exact L123 1 _ _ _ _ _ _ hF hT hA hL ⟨n0, n1, by omega, by omega⟩ (fun q3 m h => by rw [pt_dr hp (by omega) (by rw [e1]) (by omega), dr_g (q := q3) (by unfold dr3 dr2; rw [e1, dsS_n h104]; show (tmS a n on (.inr q42)).1 = _; rw [h])]; unfold dr3 dr2; rw [e1, dsS_n h104]; show (Sum.inr (lsM q3 (hRunTo (lsH s) v42 v42 (tmS a n on (.inr q42)).2) _ _ _ _ _, 1) : Ro) = _; rw [h]) (fun e h => by rw [pt_dr hp (by omega) (by rw [e1]) (by omega)]; exact dr_f (by unfold dr3 dr2; rw [e1, dsS_n h104]; exact h)) (by decide)
                                   | exact L123 1 _ _ _ _ _ _ hF hT hA hL ⟨n0, n1, by omega, by omega⟩ (fun q3 m h => by rw [pt_b hp (dw h14) (by omega) h14, bk_g (q := q3) (by rw [h]), h]) (fun e h => by rw [pt_b hp (dw h14) (by omega) h14]; exact bk_f h) (by decide))
                              · first
                                | (exfalso; omega)
                                | (refine bw_push rfl ?_
                                   refine bw_retz rfl rfl (by omega) ?_
                                   exact ⟨rfl, _, rfl, Or.inl ⟨e, hz, rfl, hX⟩⟩))
                     · have g104 := go_n hT hA e104
                       have hF := hF.trans (g104.1.mono T_W)
                       have hR := g104.1.RF hR
                       have hL := CL_sm hL g104.1.1 (fun c c0 c1 => no_T4 c0)
                       have n0 := (congrFun (g104.1.at 9 (by decide)) 0).trans n0
                       have n1 := (congrFun (g104.1.at 9 (by decide)) 1).trans n1
                       have hT := g104.2.1
                       have hA := g104.2.2
                       refine bw_ifeq rfl (fun c107 => ?_) (fun c107 => ?_)
                       · first
                         | (exfalso; omega)
                         | (first
                            | exact L123 1 _ _ _ _ _ _ hF hT hA hL ⟨n0, n1, by omega, by omega⟩ (fun q3 m h => by rw [pt_dr hp (by omega) (by rw [e1]) (by omega), dr_g (q := q3) (by unfold dr3 dr2; rw [e1, dsS_y h104, h115]; show (tmS a n on (.inr q115)).1 = _; rw [h])]; unfold dr3 dr2; rw [e1, dsS_y h104, h115]; show (Sum.inr (lsM q3 (hRunTo (lsH s) v42 v115 (tmS a n on (.inr q115)).2) _ _ _ _ _, 1) : Ro) = _; rw [h]) (fun e h => by rw [pt_dr hp (by omega) (by rw [e1]) (by omega)]; exact dr_f (by unfold dr3 dr2; rw [e1, dsS_y h104, h115]; exact h)) (by decide)
                            | exact L123 1 _ _ _ _ _ _ hF hT hA hL ⟨n0, n1, by omega, by omega⟩ (fun q3 m h => by rw [pt_dr hp (by omega) (by rw [e1]) (by omega), dr_g (q := q3) (by unfold dr3 dr2; rw [e1, dsS_n h104]; show (tmS a n on (.inr q42)).1 = _; rw [h])]; unfold dr3 dr2; rw [e1, dsS_n h104]; show (Sum.inr (lsM q3 (hRunTo (lsH s) v42 v42 (tmS a n on (.inr q42)).2) _ _ _ _ _, 1) : Ro) = _; rw [h]) (fun e h => by rw [pt_dr hp (by omega) (by rw [e1]) (by omega)]; exact dr_f (by unfold dr3 dr2; rw [e1, dsS_n h104]; exact h)) (by decide)
                            | exact L123 1 _ _ _ _ _ _ hF hT hA hL ⟨n0, n1, by omega, by omega⟩ (fun q3 m h => by rw [pt_b hp (dw h14) (by omega) h14, bk_g (q := q3) (by rw [h]), h]) (fun e h => by rw [pt_b hp (dw h14) (by omega) h14]; exact bk_f h) (by decide))
                       · first
                         | (exfalso; omega)
                         | (refine bw_aload rfl rfl ?_
                            refine bw_push rfl ?_
                            refine bw_push rfl ?_
                            refine bw_push rfl ?_
                            refine bw_callVi (e := d - 1) (as := [_, _, _]) rfl (by omega) rfl rfl (Nat.le_of_ble_eq_true rfl) (Nat.le_of_ble_eq_true rfl) rfl (c_needNumber hR hT hA (by omega) (by omega)) (fun r115 M115 hM115 => ?_)
                            rcases hM115 with ⟨e, h115, rfl, f115⟩ | ⟨q115, v115, h115, rfl, g115, b115, k115⟩
                            · have hz : ptS a n on s = .inl e := by (rw [pt_dr hp (by omega) (by rw [e1]) (by omega)]; exact dr_f (by unfold dr3 dr2; rw [e1, dsS_y h104, h115]; exact tm_l))
                              have hX := FA.tr (s := pW) hF.1 f115 (fun _ k => k) P_W
                              refine bw_ifne rfl (fun c118 => ?_) (fun c118 => ?_)
                              · first
                                | (exfalso; omega)
                                | (first
                                   | exact L123 1 _ _ _ _ _ _ hF hT hA hL ⟨n0, n1, by omega, by omega⟩ (fun q3 m h => by rw [pt_dr hp (by omega) (by rw [e1]) (by omega), dr_g (q := q3) (by unfold dr3 dr2; rw [e1, dsS_y h104, h115]; show (tmS a n on (.inr q115)).1 = _; rw [h])]; unfold dr3 dr2; rw [e1, dsS_y h104, h115]; show (Sum.inr (lsM q3 (hRunTo (lsH s) v42 v115 (tmS a n on (.inr q115)).2) _ _ _ _ _, 1) : Ro) = _; rw [h]) (fun e h => by rw [pt_dr hp (by omega) (by rw [e1]) (by omega)]; exact dr_f (by unfold dr3 dr2; rw [e1, dsS_y h104, h115]; exact h)) (by decide)
                                   | exact L123 1 _ _ _ _ _ _ hF hT hA hL ⟨n0, n1, by omega, by omega⟩ (fun q3 m h => by rw [pt_dr hp (by omega) (by rw [e1]) (by omega), dr_g (q := q3) (by unfold dr3 dr2; rw [e1, dsS_n h104]; show (tmS a n on (.inr q42)).1 = _; rw [h])]; unfold dr3 dr2; rw [e1, dsS_n h104]; show (Sum.inr (lsM q3 (hRunTo (lsH s) v42 v42 (tmS a n on (.inr q42)).2) _ _ _ _ _, 1) : Ro) = _; rw [h]) (fun e h => by rw [pt_dr hp (by omega) (by rw [e1]) (by omega)]; exact dr_f (by unfold dr3 dr2; rw [e1, dsS_n h104]; exact h)) (by decide)
                                   | exact L123 1 _ _ _ _ _ _ hF hT hA hL ⟨n0, n1, by omega, by omega⟩ (fun q3 m h => by rw [pt_b hp (dw h14) (by omega) h14, bk_g (q := q3) (by rw [h]), h]) (fun e h => by rw [pt_b hp (dw h14) (by omega) h14]; exact bk_f h) (by decide))
                              · first
                                | (exfalso; omega)
                                | (refine bw_push rfl ?_
                                   refine bw_retz rfl rfl (by omega) ?_
                                   exact ⟨rfl, _, rfl, Or.inl ⟨e, hz, rfl, hX⟩⟩)
                            · skip
                              have hF := hF.trans (g115.1.mono N_W)
                              have hR := g115.1.RF hR
                              have hL := CL_sm hL g115.1.1 (fun c c0 c1 => no_N4 c0 c1)
                              have n0 := ((congrFun k115 0).trans (up_ne (by decide))).trans n0
                              have n1 := (congrFun k115 1).trans (up_eq rfl)
                              have hT := g115.2.1
                              have hA := g115.2.2
                              refine bw_ifne rfl (fun c118 => ?_) (fun c118 => ?_)
                              · first
                                | (exfalso; omega)
                                | (first
                                   | exact L123 1 _ _ _ _ _ _ hF hT hA hL ⟨n0, n1, by omega, by omega⟩ (fun q3 m h => by rw [pt_dr hp (by omega) (by rw [e1]) (by omega), dr_g (q := q3) (by unfold dr3 dr2; rw [e1, dsS_y h104, h115]; show (tmS a n on (.inr q115)).1 = _; rw [h])]; unfold dr3 dr2; rw [e1, dsS_y h104, h115]; show (Sum.inr (lsM q3 (hRunTo (lsH s) v42 v115 (tmS a n on (.inr q115)).2) _ _ _ _ _, 1) : Ro) = _; rw [h]) (fun e h => by rw [pt_dr hp (by omega) (by rw [e1]) (by omega)]; exact dr_f (by unfold dr3 dr2; rw [e1, dsS_y h104, h115]; exact h)) (by decide)
                                   | exact L123 1 _ _ _ _ _ _ hF hT hA hL ⟨n0, n1, by omega, by omega⟩ (fun q3 m h => by rw [pt_dr hp (by omega) (by rw [e1]) (by omega), dr_g (q := q3) (by unfold dr3 dr2; rw [e1, dsS_n h104]; show (tmS a n on (.inr q42)).1 = _; rw [h])]; unfold dr3 dr2; rw [e1, dsS_n h104]; show (Sum.inr (lsM q3 (hRunTo (lsH s) v42 v42 (tmS a n on (.inr q42)).2) _ _ _ _ _, 1) : Ro) = _; rw [h]) (fun e h => by rw [pt_dr hp (by omega) (by rw [e1]) (by omega)]; exact dr_f (by unfold dr3 dr2; rw [e1, dsS_n h104]; exact h)) (by decide)
                                   | exact L123 1 _ _ _ _ _ _ hF hT hA hL ⟨n0, n1, by omega, by omega⟩ (fun q3 m h => by rw [pt_b hp (dw h14) (by omega) h14, bk_g (q := q3) (by rw [h]), h]) (fun e h => by rw [pt_b hp (dw h14) (by omega) h14]; exact bk_f h) (by decide))
                              · first
                                | (exfalso; omega)
                                | (refine bw_push rfl ?_
                                   refine bw_retz rfl rfl (by omega) ?_
                                   exact ⟨rfl, _, rfl, Or.inl ⟨e, hz, rfl, hX⟩⟩)))
              · skip
                refine bw_aload rfl rfl ?_
                refine bw_push rfl ?_
                refine bw_iload rfl rfl ?_
                refine bw_callVi (e := d - 1) (as := [_, _]) rfl (by omega) rfl rfl (Nat.le_of_ble_eq_true rfl) (Nat.le_of_ble_eq_true rfl) rfl (c_fail hR) (fun r65 M65 hM65 => ?_)
                obtain ⟨rfl, rfl⟩ := hM65
                refine bw_retz rfl rfl (by omega) ?_
                first
                | exact ⟨rfl, _, rfl, Or.inl ⟨_, pt_d4 hp (by omega) (by rw [e1]) (by omega), rfl, by rw [← a1]; exact FA.tr (s := pW) hF.1 (fa_of hT) (fun _ k => k) P_W⟩⟩
                | exact ⟨rfl, _, rfl, Or.inl ⟨_, pt_4 hp (dw h14) (by omega), rfl, by rw [← a1]; exact FA.tr (s := pW) hF.1 (fa_of hT) (fun _ k => k) P_W⟩⟩)
         · first
           | (exfalso; omega)
           | (refine bw_aload rfl rfl ?_
              refine bw_push rfl ?_
              refine bw_push rfl ?_
              refine bw_push rfl ?_
              refine bw_callVi (e := d - 1) (as := [_, _, _]) rfl (by omega) rfl rfl (Nat.le_of_ble_eq_true rfl) (Nat.le_of_ble_eq_true rfl) rfl (c_needNumber hR hT hA (by omega) (by omega)) (fun r42 M42 hM42 => ?_)
              rcases hM42 with ⟨e, h42, rfl, f42⟩ | ⟨q42, v42, h42, rfl, g42, b42, k42⟩
              · have hz : ptS a n on s = .inl e := by (first | exact pt_d hp (by omega) (by unfold dr1; rw [h42]))
                have hX := FA.tr (s := pW) hF.1 f42 (fun _ k => k) P_W
                refine bw_ifne rfl (fun c45 => ?_) (fun c45 => ?_)
                · first
                  | (exfalso; omega)
                  | (refine bw_aload rfl rfl ?_
                     refine bw_getr rfl rfl (hR _ _) ?_
                     refine bw_getI rfl rfl ?_
                     rw [hL.f8]
                     refine bw_push rfl ?_
                     refine bw_icne rfl (fun c59 => ?_) (fun c59 => ?_)
                     · skip
                       refine bw_aload rfl rfl ?_
                       refine bw_getr rfl rfl (hR _ _) ?_
                       first | refine bw_dup rfl ?_ | refine bw_dupi rfl ?_
                       refine bw_getI rfl rfl ?_
                       rw [hL.f8]
                       refine bw_push rfl ?_
                       refine bw_iadd rfl ⟨by omega, by omega⟩ ?_
                       refine bw_putI rfl rfl ?_
                       obtain ⟨u9, hR, hT, hA, hL⟩ := st8 hR hT hA hL
                       have hF := hF.trans ((sq_of u9 (by decide)).mono a4_W)
                       have n0 := (congrFun (u9.at 9 (by decide)) 0).trans n0
                       refine bw_aload rfl rfl ?_
                       refine bw_getr rfl rfl (hR _ _) ?_
                       refine bw_push rfl ?_
                       refine bw_aload rfl rfl ?_
                       refine bw_getr rfl rfl (hR _ _) ?_
                       refine bw_push rfl ?_
                       refine bw_aldi rfl (by first | rfl | assumption) (by omega) (by omega) ?_
                       rw [n0]
                       refine bw_asti rfl (by first | rfl | assumption) (by omega) (by omega) ?_
                       obtain ⟨u9, hR, hT, hA, hL⟩ := st9n n0 hR hT hA hL
                       have hF := hF.trans ((sq_of u9 (by decide)).mono a9_W)
                       have n0 := n9_k hL (show (0 : Int) ≠ 1 by decide) n0
                       have n1 := n9_w hL
                       refine bw_iload rfl rfl ?_
                       refine bw_ifeq rfl (fun c95 => ?_) (fun c95 => ?_)
                       · first
                         | (exfalso; omega)
                         | (first
                            | exact L123 1 _ _ _ _ _ _ hF hT hA hL ⟨n0, n1, by omega, by omega⟩ (fun q3 m h => by rw [pt_dr hp (by omega) (by rw [e1]) (by omega), dr_g (q := q3) (by unfold dr3 dr2; rw [e1, dsS_y h104, h115]; show (tmS a n on (.inr q115)).1 = _; rw [h])]; unfold dr3 dr2; rw [e1, dsS_y h104, h115]; show (Sum.inr (lsM q3 (hRunTo (lsH s) v42 v115 (tmS a n on (.inr q115)).2) _ _ _ _ _, 1) : Ro) = _; rw [h]) (fun e h => by rw [pt_dr hp (by omega) (by rw [e1]) (by omega)]; exact dr_f (by unfold dr3 dr2; rw [e1, dsS_y h104, h115]; exact h)) (by decide)
                            | exact L123 1 _ _ _ _ _ _ hF hT hA hL ⟨n0, n1, by omega, by omega⟩ (fun q3 m h => by rw [pt_dr hp (by omega) (by rw [e1]) (by omega), dr_g (q := q3) (by unfold dr3 dr2; rw [e1, dsS_n h104]; show (tmS a n on (.inr q42)).1 = _; rw [h])]; unfold dr3 dr2; rw [e1, dsS_n h104]; show (Sum.inr (lsM q3 (hRunTo (lsH s) v42 v42 (tmS a n on (.inr q42)).2) _ _ _ _ _, 1) : Ro) = _; rw [h]) (fun e h => by rw [pt_dr hp (by omega) (by rw [e1]) (by omega)]; exact dr_f (by unfold dr3 dr2; rw [e1, dsS_n h104]; exact h)) (by decide)
                            | exact L123 1 _ _ _ _ _ _ hF hT hA hL ⟨n0, n1, by omega, by omega⟩ (fun q3 m h => by rw [pt_b hp (dw h14) (by omega) h14, bk_g (q := q3) (by rw [h]), h]) (fun e h => by rw [pt_b hp (dw h14) (by omega) h14]; exact bk_f h) (by decide))
                       · first
                         | (exfalso; omega)
                         | (refine bw_aload rfl rfl ?_
                            refine bw_getr rfl rfl (hR _ _) ?_
                            refine bw_push rfl ?_
                            refine bw_callVNi (e := d - 1) (as := [_]) rfl (by omega) rfl rfl (Nat.le_of_ble_eq_true rfl) (Nat.le_of_ble_eq_true rfl) rfl (c_takeSign (c := 45) hR hT hA (by decide) (by omega)) (fun r104 M104 hM104 => ?_)
                            rcases hM104 with ⟨h104, rfl, g104⟩ | ⟨h104, rfl, e104⟩
                            · have g104 := go_of g104
                              have hF := hF.trans (g104.1.mono T_W)
                              have hR := g104.1.RF hR
                              have hL := CL_sm hL g104.1.1 (fun c c0 c1 => no_T4 c0)
                              have n0 := (congrFun (g104.1.at 9 (by decide)) 0).trans n0
                              have n1 := (congrFun (g104.1.at 9 (by decide)) 1).trans n1
                              have hT := g104.2.1
                              have hA := g104.2.2
                              refine bw_ifeq rfl (fun c107 => ?_) (fun c107 => ?_)
                              · first
                                | (exfalso; omega)
                                | (first
                                   | exact L123 1 _ _ _ _ _ _ hF hT hA hL ⟨n0, n1, by omega, by omega⟩ (fun q3 m h => by rw [pt_dr hp (by omega) (by rw [e1]) (by omega), dr_g (q := q3) (by unfold dr3 dr2; rw [e1, dsS_y h104, h115]; show (tmS a n on (.inr q115)).1 = _; rw [h])]; unfold dr3 dr2; rw [e1, dsS_y h104, h115]; show (Sum.inr (lsM q3 (hRunTo (lsH s) v42 v115 (tmS a n on (.inr q115)).2) _ _ _ _ _, 1) : Ro) = _; rw [h]) (fun e h => by rw [pt_dr hp (by omega) (by rw [e1]) (by omega)]; exact dr_f (by unfold dr3 dr2; rw [e1, dsS_y h104, h115]; exact h)) (by decide)
                                   | exact L123 1 _ _ _ _ _ _ hF hT hA hL ⟨n0, n1, by omega, by omega⟩ (fun q3 m h => by rw [pt_dr hp (by omega) (by rw [e1]) (by omega), dr_g (q := q3) (by unfold dr3 dr2; rw [e1, dsS_n h104]; show (tmS a n on (.inr q42)).1 = _; rw [h])]; unfold dr3 dr2; rw [e1, dsS_n h104]; show (Sum.inr (lsM q3 (hRunTo (lsH s) v42 v42 (tmS a n on (.inr q42)).2) _ _ _ _ _, 1) : Ro) = _; rw [h]) (fun e h => by rw [pt_dr hp (by omega) (by rw [e1]) (by omega)]; exact dr_f (by unfold dr3 dr2; rw [e1, dsS_n h104]; exact h)) (by decide)
                                   | exact L123 1 _ _ _ _ _ _ hF hT hA hL ⟨n0, n1, by omega, by omega⟩ (fun q3 m h => by rw [pt_b hp (dw h14) (by omega) h14, bk_g (q := q3) (by rw [h]), h]) (fun e h => by rw [pt_b hp (dw h14) (by omega) h14]; exact bk_f h) (by decide))
                              · first
                                | (exfalso; omega)
                                | (refine bw_aload rfl rfl ?_
                                   refine bw_push rfl ?_
                                   refine bw_push rfl ?_
                                   refine bw_push rfl ?_
                                   refine bw_callVi (e := d - 1) (as := [_, _, _]) rfl (by omega) rfl rfl (Nat.le_of_ble_eq_true rfl) (Nat.le_of_ble_eq_true rfl) rfl (c_needNumber hR hT hA (by omega) (by omega)) (fun r115 M115 hM115 => ?_)
                                   rcases hM115 with ⟨e, h115, rfl, f115⟩ | ⟨q115, v115, h115, rfl, g115, b115, k115⟩
                                   · have hz : ptS a n on s = .inl e := by (rw [pt_dr hp (by omega) (by rw [e1]) (by omega)]; exact dr_f (by unfold dr3 dr2; rw [e1, dsS_y h104, h115]; exact tm_l))
                                     have hX := FA.tr (s := pW) hF.1 f115 (fun _ k => k) P_W
                                     refine bw_ifne rfl (fun c118 => ?_) (fun c118 => ?_)
                                     · first
                                       | (exfalso; omega)
                                       | (first
                                          | exact L123 1 _ _ _ _ _ _ hF hT hA hL ⟨n0, n1, by omega, by omega⟩ (fun q3 m h => by rw [pt_dr hp (by omega) (by rw [e1]) (by omega), dr_g (q := q3) (by unfold dr3 dr2; rw [e1, dsS_y h104, h115]; show (tmS a n on (.inr q115)).1 = _; rw [h])]; unfold dr3 dr2; rw [e1, dsS_y h104, h115]; show (Sum.inr (lsM q3 (hRunTo (lsH s) v42 v115 (tmS a n on (.inr q115)).2) _ _ _ _ _, 1) : Ro) = _; rw [h]) (fun e h => by rw [pt_dr hp (by omega) (by rw [e1]) (by omega)]; exact dr_f (by unfold dr3 dr2; rw [e1, dsS_y h104, h115]; exact h)) (by decide)
                                          | exact L123 1 _ _ _ _ _ _ hF hT hA hL ⟨n0, n1, by omega, by omega⟩ (fun q3 m h => by rw [pt_dr hp (by omega) (by rw [e1]) (by omega), dr_g (q := q3) (by unfold dr3 dr2; rw [e1, dsS_n h104]; show (tmS a n on (.inr q42)).1 = _; rw [h])]; unfold dr3 dr2; rw [e1, dsS_n h104]; show (Sum.inr (lsM q3 (hRunTo (lsH s) v42 v42 (tmS a n on (.inr q42)).2) _ _ _ _ _, 1) : Ro) = _; rw [h]) (fun e h => by rw [pt_dr hp (by omega) (by rw [e1]) (by omega)]; exact dr_f (by unfold dr3 dr2; rw [e1, dsS_n h104]; exact h)) (by decide)
                                          | exact L123 1 _ _ _ _ _ _ hF hT hA hL ⟨n0, n1, by omega, by omega⟩ (fun q3 m h => by rw [pt_b hp (dw h14) (by omega) h14, bk_g (q := q3) (by rw [h]), h]) (fun e h => by rw [pt_b hp (dw h14) (by omega) h14]; exact bk_f h) (by decide))
                                     · first
                                       | (exfalso; omega)
                                       | (refine bw_push rfl ?_
                                          refine bw_retz rfl rfl (by omega) ?_
                                          exact ⟨rfl, _, rfl, Or.inl ⟨e, hz, rfl, hX⟩⟩)
                                   · skip
                                     have hF := hF.trans (g115.1.mono N_W)
                                     have hR := g115.1.RF hR
                                     have hL := CL_sm hL g115.1.1 (fun c c0 c1 => no_N4 c0 c1)
                                     have n0 := ((congrFun k115 0).trans (up_ne (by decide))).trans n0
                                     have n1 := (congrFun k115 1).trans (up_eq rfl)
                                     have hT := g115.2.1
                                     have hA := g115.2.2
                                     refine bw_ifne rfl (fun c118 => ?_) (fun c118 => ?_)
                                     · first
                                       | (exfalso; omega)
                                       | (first
                                          | exact L123 1 _ _ _ _ _ _ hF hT hA hL ⟨n0, n1, by omega, by omega⟩ (fun q3 m h => by rw [pt_dr hp (by omega) (by rw [e1]) (by omega), dr_g (q := q3) (by unfold dr3 dr2; rw [e1, dsS_y h104, h115]; show (tmS a n on (.inr q115)).1 = _; rw [h])]; unfold dr3 dr2; rw [e1, dsS_y h104, h115]; show (Sum.inr (lsM q3 (hRunTo (lsH s) v42 v115 (tmS a n on (.inr q115)).2) _ _ _ _ _, 1) : Ro) = _; rw [h]) (fun e h => by rw [pt_dr hp (by omega) (by rw [e1]) (by omega)]; exact dr_f (by unfold dr3 dr2; rw [e1, dsS_y h104, h115]; exact h)) (by decide)
                                          | exact L123 1 _ _ _ _ _ _ hF hT hA hL ⟨n0, n1, by omega, by omega⟩ (fun q3 m h => by rw [pt_dr hp (by omega) (by rw [e1]) (by omega), dr_g (q := q3) (by unfold dr3 dr2; rw [e1, dsS_n h104]; show (tmS a n on (.inr q42)).1 = _; rw [h])]; unfold dr3 dr2; rw [e1, dsS_n h104]; show (Sum.inr (lsM q3 (hRunTo (lsH s) v42 v42 (tmS a n on (.inr q42)).2) _ _ _ _ _, 1) : Ro) = _; rw [h]) (fun e h => by rw [pt_dr hp (by omega) (by rw [e1]) (by omega)]; exact dr_f (by unfold dr3 dr2; rw [e1, dsS_n h104]; exact h)) (by decide)
                                          | exact L123 1 _ _ _ _ _ _ hF hT hA hL ⟨n0, n1, by omega, by omega⟩ (fun q3 m h => by rw [pt_b hp (dw h14) (by omega) h14, bk_g (q := q3) (by rw [h]), h]) (fun e h => by rw [pt_b hp (dw h14) (by omega) h14]; exact bk_f h) (by decide))
                                     · first
                                       | (exfalso; omega)
                                       | (refine bw_push rfl ?_
                                          refine bw_retz rfl rfl (by omega) ?_
                                          exact ⟨rfl, _, rfl, Or.inl ⟨e, hz, rfl, hX⟩⟩))
                            · have g104 := go_n hT hA e104
                              have hF := hF.trans (g104.1.mono T_W)
                              have hR := g104.1.RF hR
                              have hL := CL_sm hL g104.1.1 (fun c c0 c1 => no_T4 c0)
                              have n0 := (congrFun (g104.1.at 9 (by decide)) 0).trans n0
                              have n1 := (congrFun (g104.1.at 9 (by decide)) 1).trans n1
                              have hT := g104.2.1
                              have hA := g104.2.2
                              refine bw_ifeq rfl (fun c107 => ?_) (fun c107 => ?_)
                              · first
                                | (exfalso; omega)
                                | (first
                                   | exact L123 1 _ _ _ _ _ _ hF hT hA hL ⟨n0, n1, by omega, by omega⟩ (fun q3 m h => by rw [pt_dr hp (by omega) (by rw [e1]) (by omega), dr_g (q := q3) (by unfold dr3 dr2; rw [e1, dsS_y h104, h115]; show (tmS a n on (.inr q115)).1 = _; rw [h])]; unfold dr3 dr2; rw [e1, dsS_y h104, h115]; show (Sum.inr (lsM q3 (hRunTo (lsH s) v42 v115 (tmS a n on (.inr q115)).2) _ _ _ _ _, 1) : Ro) = _; rw [h]) (fun e h => by rw [pt_dr hp (by omega) (by rw [e1]) (by omega)]; exact dr_f (by unfold dr3 dr2; rw [e1, dsS_y h104, h115]; exact h)) (by decide)
                                   | exact L123 1 _ _ _ _ _ _ hF hT hA hL ⟨n0, n1, by omega, by omega⟩ (fun q3 m h => by rw [pt_dr hp (by omega) (by rw [e1]) (by omega), dr_g (q := q3) (by unfold dr3 dr2; rw [e1, dsS_n h104]; show (tmS a n on (.inr q42)).1 = _; rw [h])]; unfold dr3 dr2; rw [e1, dsS_n h104]; show (Sum.inr (lsM q3 (hRunTo (lsH s) v42 v42 (tmS a n on (.inr q42)).2) _ _ _ _ _, 1) : Ro) = _; rw [h]) (fun e h => by rw [pt_dr hp (by omega) (by rw [e1]) (by omega)]; exact dr_f (by unfold dr3 dr2; rw [e1, dsS_n h104]; exact h)) (by decide)
                                   | exact L123 1 _ _ _ _ _ _ hF hT hA hL ⟨n0, n1, by omega, by omega⟩ (fun q3 m h => by rw [pt_b hp (dw h14) (by omega) h14, bk_g (q := q3) (by rw [h]), h]) (fun e h => by rw [pt_b hp (dw h14) (by omega) h14]; exact bk_f h) (by decide))
                              · first
                                | (exfalso; omega)
                                | (refine bw_aload rfl rfl ?_
                                   refine bw_push rfl ?_
                                   refine bw_push rfl ?_
                                   refine bw_push rfl ?_
                                   refine bw_callVi (e := d - 1) (as := [_, _, _]) rfl (by omega) rfl rfl (Nat.le_of_ble_eq_true rfl) (Nat.le_of_ble_eq_true rfl) rfl (c_needNumber hR hT hA (by omega) (by omega)) (fun r115 M115 hM115 => ?_)
                                   rcases hM115 with ⟨e, h115, rfl, f115⟩ | ⟨q115, v115, h115, rfl, g115, b115, k115⟩
                                   · have hz : ptS a n on s = .inl e := by (rw [pt_dr hp (by omega) (by rw [e1]) (by omega)]; exact dr_f (by unfold dr3 dr2; rw [e1, dsS_y h104, h115]; exact tm_l))
                                     have hX := FA.tr (s := pW) hF.1 f115 (fun _ k => k) P_W
                                     refine bw_ifne rfl (fun c118 => ?_) (fun c118 => ?_)
                                     · first
                                       | (exfalso; omega)
                                       | (first
                                          | exact L123 1 _ _ _ _ _ _ hF hT hA hL ⟨n0, n1, by omega, by omega⟩ (fun q3 m h => by rw [pt_dr hp (by omega) (by rw [e1]) (by omega), dr_g (q := q3) (by unfold dr3 dr2; rw [e1, dsS_y h104, h115]; show (tmS a n on (.inr q115)).1 = _; rw [h])]; unfold dr3 dr2; rw [e1, dsS_y h104, h115]; show (Sum.inr (lsM q3 (hRunTo (lsH s) v42 v115 (tmS a n on (.inr q115)).2) _ _ _ _ _, 1) : Ro) = _; rw [h]) (fun e h => by rw [pt_dr hp (by omega) (by rw [e1]) (by omega)]; exact dr_f (by unfold dr3 dr2; rw [e1, dsS_y h104, h115]; exact h)) (by decide)
                                          | exact L123 1 _ _ _ _ _ _ hF hT hA hL ⟨n0, n1, by omega, by omega⟩ (fun q3 m h => by rw [pt_dr hp (by omega) (by rw [e1]) (by omega), dr_g (q := q3) (by unfold dr3 dr2; rw [e1, dsS_n h104]; show (tmS a n on (.inr q42)).1 = _; rw [h])]; unfold dr3 dr2; rw [e1, dsS_n h104]; show (Sum.inr (lsM q3 (hRunTo (lsH s) v42 v42 (tmS a n on (.inr q42)).2) _ _ _ _ _, 1) : Ro) = _; rw [h]) (fun e h => by rw [pt_dr hp (by omega) (by rw [e1]) (by omega)]; exact dr_f (by unfold dr3 dr2; rw [e1, dsS_n h104]; exact h)) (by decide)
                                          | exact L123 1 _ _ _ _ _ _ hF hT hA hL ⟨n0, n1, by omega, by omega⟩ (fun q3 m h => by rw [pt_b hp (dw h14) (by omega) h14, bk_g (q := q3) (by rw [h]), h]) (fun e h => by rw [pt_b hp (dw h14) (by omega) h14]; exact bk_f h) (by decide))
                                     · first
                                       | (exfalso; omega)
                                       | (refine bw_push rfl ?_
                                          refine bw_retz rfl rfl (by omega) ?_
                                          exact ⟨rfl, _, rfl, Or.inl ⟨e, hz, rfl, hX⟩⟩)
                                   · skip
                                     have hF := hF.trans (g115.1.mono N_W)
                                     have hR := g115.1.RF hR
                                     have hL := CL_sm hL g115.1.1 (fun c c0 c1 => no_N4 c0 c1)
                                     have n0 := ((congrFun k115 0).trans (up_ne (by decide))).trans n0
                                     have n1 := (congrFun k115 1).trans (up_eq rfl)
                                     have hT := g115.2.1
                                     have hA := g115.2.2
                                     refine bw_ifne rfl (fun c118 => ?_) (fun c118 => ?_)
                                     · first
                                       | (exfalso; omega)
                                       | (first
                                          | exact L123 1 _ _ _ _ _ _ hF hT hA hL ⟨n0, n1, by omega, by omega⟩ (fun q3 m h => by rw [pt_dr hp (by omega) (by rw [e1]) (by omega), dr_g (q := q3) (by unfold dr3 dr2; rw [e1, dsS_y h104, h115]; show (tmS a n on (.inr q115)).1 = _; rw [h])]; unfold dr3 dr2; rw [e1, dsS_y h104, h115]; show (Sum.inr (lsM q3 (hRunTo (lsH s) v42 v115 (tmS a n on (.inr q115)).2) _ _ _ _ _, 1) : Ro) = _; rw [h]) (fun e h => by rw [pt_dr hp (by omega) (by rw [e1]) (by omega)]; exact dr_f (by unfold dr3 dr2; rw [e1, dsS_y h104, h115]; exact h)) (by decide)
                                          | exact L123 1 _ _ _ _ _ _ hF hT hA hL ⟨n0, n1, by omega, by omega⟩ (fun q3 m h => by rw [pt_dr hp (by omega) (by rw [e1]) (by omega), dr_g (q := q3) (by unfold dr3 dr2; rw [e1, dsS_n h104]; show (tmS a n on (.inr q42)).1 = _; rw [h])]; unfold dr3 dr2; rw [e1, dsS_n h104]; show (Sum.inr (lsM q3 (hRunTo (lsH s) v42 v42 (tmS a n on (.inr q42)).2) _ _ _ _ _, 1) : Ro) = _; rw [h]) (fun e h => by rw [pt_dr hp (by omega) (by rw [e1]) (by omega)]; exact dr_f (by unfold dr3 dr2; rw [e1, dsS_n h104]; exact h)) (by decide)
                                          | exact L123 1 _ _ _ _ _ _ hF hT hA hL ⟨n0, n1, by omega, by omega⟩ (fun q3 m h => by rw [pt_b hp (dw h14) (by omega) h14, bk_g (q := q3) (by rw [h]), h]) (fun e h => by rw [pt_b hp (dw h14) (by omega) h14]; exact bk_f h) (by decide))
                                     · first
                                       | (exfalso; omega)
                                       | (refine bw_push rfl ?_
                                          refine bw_retz rfl rfl (by omega) ?_
                                          exact ⟨rfl, _, rfl, Or.inl ⟨e, hz, rfl, hX⟩⟩)))
                     · skip
                       refine bw_aload rfl rfl ?_
                       refine bw_push rfl ?_
                       refine bw_iload rfl rfl ?_
                       refine bw_callVi (e := d - 1) (as := [_, _]) rfl (by omega) rfl rfl (Nat.le_of_ble_eq_true rfl) (Nat.le_of_ble_eq_true rfl) rfl (c_fail hR) (fun r65 M65 hM65 => ?_)
                       obtain ⟨rfl, rfl⟩ := hM65
                       refine bw_retz rfl rfl (by omega) ?_
                       first
                       | exact ⟨rfl, _, rfl, Or.inl ⟨_, pt_d4 hp (by omega) (by rw [e1]) (by omega), rfl, by rw [← a1]; exact FA.tr (s := pW) hF.1 (fa_of hT) (fun _ k => k) P_W⟩⟩
                       | exact ⟨rfl, _, rfl, Or.inl ⟨_, pt_4 hp (dw h14) (by omega), rfl, by rw [← a1]; exact FA.tr (s := pW) hF.1 (fa_of hT) (fun _ k => k) P_W⟩⟩)
                · first
                  | (exfalso; omega)
                  | (refine bw_push rfl ?_
                     refine bw_retz rfl rfl (by omega) ?_
                     exact ⟨rfl, _, rfl, Or.inl ⟨e, hz, rfl, hX⟩⟩)
              · skip
                have hF := hF.trans (g42.1.mono N_W)
                have hR := g42.1.RF hR
                have hL := CL_sm hL g42.1.1 (fun c c0 c1 => no_N4 c0 c1)
                have n0 := (congrFun k42 0).trans (up_eq rfl)
                have hT := g42.2.1
                have hA := g42.2.2
                have e1 : dr1 a n s = (.inr q42, v42) := h42
                refine bw_ifne rfl (fun c45 => ?_) (fun c45 => ?_)
                · first
                  | (exfalso; omega)
                  | (refine bw_aload rfl rfl ?_
                     refine bw_getr rfl rfl (hR _ _) ?_
                     refine bw_getI rfl rfl ?_
                     rw [hL.f8]
                     refine bw_push rfl ?_
                     refine bw_icne rfl (fun c59 => ?_) (fun c59 => ?_)
                     · skip
                       refine bw_aload rfl rfl ?_
                       refine bw_getr rfl rfl (hR _ _) ?_
                       first | refine bw_dup rfl ?_ | refine bw_dupi rfl ?_
                       refine bw_getI rfl rfl ?_
                       rw [hL.f8]
                       refine bw_push rfl ?_
                       refine bw_iadd rfl ⟨by omega, by omega⟩ ?_
                       refine bw_putI rfl rfl ?_
                       obtain ⟨u9, hR, hT, hA, hL⟩ := st8 hR hT hA hL
                       have hF := hF.trans ((sq_of u9 (by decide)).mono a4_W)
                       have n0 := (congrFun (u9.at 9 (by decide)) 0).trans n0
                       refine bw_aload rfl rfl ?_
                       refine bw_getr rfl rfl (hR _ _) ?_
                       refine bw_push rfl ?_
                       refine bw_aload rfl rfl ?_
                       refine bw_getr rfl rfl (hR _ _) ?_
                       refine bw_push rfl ?_
                       refine bw_aldi rfl (by first | rfl | assumption) (by omega) (by omega) ?_
                       rw [n0]
                       refine bw_asti rfl (by first | rfl | assumption) (by omega) (by omega) ?_
                       obtain ⟨u9, hR, hT, hA, hL⟩ := st9n n0 hR hT hA hL
                       have hF := hF.trans ((sq_of u9 (by decide)).mono a9_W)
                       have n0 := n9_k hL (show (0 : Int) ≠ 1 by decide) n0
                       have n1 := n9_w hL
                       refine bw_iload rfl rfl ?_
                       refine bw_ifeq rfl (fun c95 => ?_) (fun c95 => ?_)
                       · first
                         | (exfalso; omega)
                         | (first
                            | exact L123 1 _ _ _ _ _ _ hF hT hA hL ⟨n0, n1, by omega, by omega⟩ (fun q3 m h => by rw [pt_dr hp (by omega) (by rw [e1]) (by omega), dr_g (q := q3) (by unfold dr3 dr2; rw [e1, dsS_y h104, h115]; show (tmS a n on (.inr q115)).1 = _; rw [h])]; unfold dr3 dr2; rw [e1, dsS_y h104, h115]; show (Sum.inr (lsM q3 (hRunTo (lsH s) v42 v115 (tmS a n on (.inr q115)).2) _ _ _ _ _, 1) : Ro) = _; rw [h]) (fun e h => by rw [pt_dr hp (by omega) (by rw [e1]) (by omega)]; exact dr_f (by unfold dr3 dr2; rw [e1, dsS_y h104, h115]; exact h)) (by decide)
                            | exact L123 1 _ _ _ _ _ _ hF hT hA hL ⟨n0, n1, by omega, by omega⟩ (fun q3 m h => by rw [pt_dr hp (by omega) (by rw [e1]) (by omega), dr_g (q := q3) (by unfold dr3 dr2; rw [e1, dsS_n h104]; show (tmS a n on (.inr q42)).1 = _; rw [h])]; unfold dr3 dr2; rw [e1, dsS_n h104]; show (Sum.inr (lsM q3 (hRunTo (lsH s) v42 v42 (tmS a n on (.inr q42)).2) _ _ _ _ _, 1) : Ro) = _; rw [h]) (fun e h => by rw [pt_dr hp (by omega) (by rw [e1]) (by omega)]; exact dr_f (by unfold dr3 dr2; rw [e1, dsS_n h104]; exact h)) (by decide)
                            | exact L123 1 _ _ _ _ _ _ hF hT hA hL ⟨n0, n1, by omega, by omega⟩ (fun q3 m h => by rw [pt_b hp (dw h14) (by omega) h14, bk_g (q := q3) (by rw [h]), h]) (fun e h => by rw [pt_b hp (dw h14) (by omega) h14]; exact bk_f h) (by decide))
                       · first
                         | (exfalso; omega)
                         | (refine bw_aload rfl rfl ?_
                            refine bw_getr rfl rfl (hR _ _) ?_
                            refine bw_push rfl ?_
                            refine bw_callVNi (e := d - 1) (as := [_]) rfl (by omega) rfl rfl (Nat.le_of_ble_eq_true rfl) (Nat.le_of_ble_eq_true rfl) rfl (c_takeSign (c := 45) hR hT hA (by decide) (by omega)) (fun r104 M104 hM104 => ?_)
                            rcases hM104 with ⟨h104, rfl, g104⟩ | ⟨h104, rfl, e104⟩
                            · have g104 := go_of g104
                              have hF := hF.trans (g104.1.mono T_W)
                              have hR := g104.1.RF hR
                              have hL := CL_sm hL g104.1.1 (fun c c0 c1 => no_T4 c0)
                              have n0 := (congrFun (g104.1.at 9 (by decide)) 0).trans n0
                              have n1 := (congrFun (g104.1.at 9 (by decide)) 1).trans n1
                              have hT := g104.2.1
                              have hA := g104.2.2
                              refine bw_ifeq rfl (fun c107 => ?_) (fun c107 => ?_)
                              · first
                                | (exfalso; omega)
                                | (first
                                   | exact L123 1 _ _ _ _ _ _ hF hT hA hL ⟨n0, n1, by omega, by omega⟩ (fun q3 m h => by rw [pt_dr hp (by omega) (by rw [e1]) (by omega), dr_g (q := q3) (by unfold dr3 dr2; rw [e1, dsS_y h104, h115]; show (tmS a n on (.inr q115)).1 = _; rw [h])]; unfold dr3 dr2; rw [e1, dsS_y h104, h115]; show (Sum.inr (lsM q3 (hRunTo (lsH s) v42 v115 (tmS a n on (.inr q115)).2) _ _ _ _ _, 1) : Ro) = _; rw [h]) (fun e h => by rw [pt_dr hp (by omega) (by rw [e1]) (by omega)]; exact dr_f (by unfold dr3 dr2; rw [e1, dsS_y h104, h115]; exact h)) (by decide)
                                   | exact L123 1 _ _ _ _ _ _ hF hT hA hL ⟨n0, n1, by omega, by omega⟩ (fun q3 m h => by rw [pt_dr hp (by omega) (by rw [e1]) (by omega), dr_g (q := q3) (by unfold dr3 dr2; rw [e1, dsS_n h104]; show (tmS a n on (.inr q42)).1 = _; rw [h])]; unfold dr3 dr2; rw [e1, dsS_n h104]; show (Sum.inr (lsM q3 (hRunTo (lsH s) v42 v42 (tmS a n on (.inr q42)).2) _ _ _ _ _, 1) : Ro) = _; rw [h]) (fun e h => by rw [pt_dr hp (by omega) (by rw [e1]) (by omega)]; exact dr_f (by unfold dr3 dr2; rw [e1, dsS_n h104]; exact h)) (by decide)
                                   | exact L123 1 _ _ _ _ _ _ hF hT hA hL ⟨n0, n1, by omega, by omega⟩ (fun q3 m h => by rw [pt_b hp (dw h14) (by omega) h14, bk_g (q := q3) (by rw [h]), h]) (fun e h => by rw [pt_b hp (dw h14) (by omega) h14]; exact bk_f h) (by decide))
                              · first
                                | (exfalso; omega)
                                | (refine bw_aload rfl rfl ?_
                                   refine bw_push rfl ?_
                                   refine bw_push rfl ?_
                                   refine bw_push rfl ?_
                                   refine bw_callVi (e := d - 1) (as := [_, _, _]) rfl (by omega) rfl rfl (Nat.le_of_ble_eq_true rfl) (Nat.le_of_ble_eq_true rfl) rfl (c_needNumber hR hT hA (by omega) (by omega)) (fun r115 M115 hM115 => ?_)
                                   rcases hM115 with ⟨e, h115, rfl, f115⟩ | ⟨q115, v115, h115, rfl, g115, b115, k115⟩
                                   · have hz : ptS a n on s = .inl e := by (rw [pt_dr hp (by omega) (by rw [e1]) (by omega)]; exact dr_f (by unfold dr3 dr2; rw [e1, dsS_y h104, h115]; exact tm_l))
                                     have hX := FA.tr (s := pW) hF.1 f115 (fun _ k => k) P_W
                                     refine bw_ifne rfl (fun c118 => ?_) (fun c118 => ?_)
                                     · first
                                       | (exfalso; omega)
                                       | (first
                                          | exact L123 1 _ _ _ _ _ _ hF hT hA hL ⟨n0, n1, by omega, by omega⟩ (fun q3 m h => by rw [pt_dr hp (by omega) (by rw [e1]) (by omega), dr_g (q := q3) (by unfold dr3 dr2; rw [e1, dsS_y h104, h115]; show (tmS a n on (.inr q115)).1 = _; rw [h])]; unfold dr3 dr2; rw [e1, dsS_y h104, h115]; show (Sum.inr (lsM q3 (hRunTo (lsH s) v42 v115 (tmS a n on (.inr q115)).2) _ _ _ _ _, 1) : Ro) = _; rw [h]) (fun e h => by rw [pt_dr hp (by omega) (by rw [e1]) (by omega)]; exact dr_f (by unfold dr3 dr2; rw [e1, dsS_y h104, h115]; exact h)) (by decide)
                                          | exact L123 1 _ _ _ _ _ _ hF hT hA hL ⟨n0, n1, by omega, by omega⟩ (fun q3 m h => by rw [pt_dr hp (by omega) (by rw [e1]) (by omega), dr_g (q := q3) (by unfold dr3 dr2; rw [e1, dsS_n h104]; show (tmS a n on (.inr q42)).1 = _; rw [h])]; unfold dr3 dr2; rw [e1, dsS_n h104]; show (Sum.inr (lsM q3 (hRunTo (lsH s) v42 v42 (tmS a n on (.inr q42)).2) _ _ _ _ _, 1) : Ro) = _; rw [h]) (fun e h => by rw [pt_dr hp (by omega) (by rw [e1]) (by omega)]; exact dr_f (by unfold dr3 dr2; rw [e1, dsS_n h104]; exact h)) (by decide)
                                          | exact L123 1 _ _ _ _ _ _ hF hT hA hL ⟨n0, n1, by omega, by omega⟩ (fun q3 m h => by rw [pt_b hp (dw h14) (by omega) h14, bk_g (q := q3) (by rw [h]), h]) (fun e h => by rw [pt_b hp (dw h14) (by omega) h14]; exact bk_f h) (by decide))
                                     · first
                                       | (exfalso; omega)
                                       | (refine bw_push rfl ?_
                                          refine bw_retz rfl rfl (by omega) ?_
                                          exact ⟨rfl, _, rfl, Or.inl ⟨e, hz, rfl, hX⟩⟩)
                                   · skip
                                     have hF := hF.trans (g115.1.mono N_W)
                                     have hR := g115.1.RF hR
                                     have hL := CL_sm hL g115.1.1 (fun c c0 c1 => no_N4 c0 c1)
                                     have n0 := ((congrFun k115 0).trans (up_ne (by decide))).trans n0
                                     have n1 := (congrFun k115 1).trans (up_eq rfl)
                                     have hT := g115.2.1
                                     have hA := g115.2.2
                                     refine bw_ifne rfl (fun c118 => ?_) (fun c118 => ?_)
                                     · first
                                       | (exfalso; omega)
                                       | (first
                                          | exact L123 1 _ _ _ _ _ _ hF hT hA hL ⟨n0, n1, by omega, by omega⟩ (fun q3 m h => by rw [pt_dr hp (by omega) (by rw [e1]) (by omega), dr_g (q := q3) (by unfold dr3 dr2; rw [e1, dsS_y h104, h115]; show (tmS a n on (.inr q115)).1 = _; rw [h])]; unfold dr3 dr2; rw [e1, dsS_y h104, h115]; show (Sum.inr (lsM q3 (hRunTo (lsH s) v42 v115 (tmS a n on (.inr q115)).2) _ _ _ _ _, 1) : Ro) = _; rw [h]) (fun e h => by rw [pt_dr hp (by omega) (by rw [e1]) (by omega)]; exact dr_f (by unfold dr3 dr2; rw [e1, dsS_y h104, h115]; exact h)) (by decide)
                                          | exact L123 1 _ _ _ _ _ _ hF hT hA hL ⟨n0, n1, by omega, by omega⟩ (fun q3 m h => by rw [pt_dr hp (by omega) (by rw [e1]) (by omega), dr_g (q := q3) (by unfold dr3 dr2; rw [e1, dsS_n h104]; show (tmS a n on (.inr q42)).1 = _; rw [h])]; unfold dr3 dr2; rw [e1, dsS_n h104]; show (Sum.inr (lsM q3 (hRunTo (lsH s) v42 v42 (tmS a n on (.inr q42)).2) _ _ _ _ _, 1) : Ro) = _; rw [h]) (fun e h => by rw [pt_dr hp (by omega) (by rw [e1]) (by omega)]; exact dr_f (by unfold dr3 dr2; rw [e1, dsS_n h104]; exact h)) (by decide)
                                          | exact L123 1 _ _ _ _ _ _ hF hT hA hL ⟨n0, n1, by omega, by omega⟩ (fun q3 m h => by rw [pt_b hp (dw h14) (by omega) h14, bk_g (q := q3) (by rw [h]), h]) (fun e h => by rw [pt_b hp (dw h14) (by omega) h14]; exact bk_f h) (by decide))
                                     · first
                                       | (exfalso; omega)
                                       | (refine bw_push rfl ?_
                                          refine bw_retz rfl rfl (by omega) ?_
                                          exact ⟨rfl, _, rfl, Or.inl ⟨e, hz, rfl, hX⟩⟩))
                            · have g104 := go_n hT hA e104
                              have hF := hF.trans (g104.1.mono T_W)
                              have hR := g104.1.RF hR
                              have hL := CL_sm hL g104.1.1 (fun c c0 c1 => no_T4 c0)
                              have n0 := (congrFun (g104.1.at 9 (by decide)) 0).trans n0
                              have n1 := (congrFun (g104.1.at 9 (by decide)) 1).trans n1
                              have hT := g104.2.1
                              have hA := g104.2.2
                              refine bw_ifeq rfl (fun c107 => ?_) (fun c107 => ?_)
                              · first
                                | (exfalso; omega)
                                | (first
                                   | exact L123 1 _ _ _ _ _ _ hF hT hA hL ⟨n0, n1, by omega, by omega⟩ (fun q3 m h => by rw [pt_dr hp (by omega) (by rw [e1]) (by omega), dr_g (q := q3) (by unfold dr3 dr2; rw [e1, dsS_y h104, h115]; show (tmS a n on (.inr q115)).1 = _; rw [h])]; unfold dr3 dr2; rw [e1, dsS_y h104, h115]; show (Sum.inr (lsM q3 (hRunTo (lsH s) v42 v115 (tmS a n on (.inr q115)).2) _ _ _ _ _, 1) : Ro) = _; rw [h]) (fun e h => by rw [pt_dr hp (by omega) (by rw [e1]) (by omega)]; exact dr_f (by unfold dr3 dr2; rw [e1, dsS_y h104, h115]; exact h)) (by decide)
                                   | exact L123 1 _ _ _ _ _ _ hF hT hA hL ⟨n0, n1, by omega, by omega⟩ (fun q3 m h => by rw [pt_dr hp (by omega) (by rw [e1]) (by omega), dr_g (q := q3) (by unfold dr3 dr2; rw [e1, dsS_n h104]; show (tmS a n on (.inr q42)).1 = _; rw [h])]; unfold dr3 dr2; rw [e1, dsS_n h104]; show (Sum.inr (lsM q3 (hRunTo (lsH s) v42 v42 (tmS a n on (.inr q42)).2) _ _ _ _ _, 1) : Ro) = _; rw [h]) (fun e h => by rw [pt_dr hp (by omega) (by rw [e1]) (by omega)]; exact dr_f (by unfold dr3 dr2; rw [e1, dsS_n h104]; exact h)) (by decide)
                                   | exact L123 1 _ _ _ _ _ _ hF hT hA hL ⟨n0, n1, by omega, by omega⟩ (fun q3 m h => by rw [pt_b hp (dw h14) (by omega) h14, bk_g (q := q3) (by rw [h]), h]) (fun e h => by rw [pt_b hp (dw h14) (by omega) h14]; exact bk_f h) (by decide))
                              · first
                                | (exfalso; omega)
                                | (refine bw_aload rfl rfl ?_
                                   refine bw_push rfl ?_
                                   refine bw_push rfl ?_
                                   refine bw_push rfl ?_
                                   refine bw_callVi (e := d - 1) (as := [_, _, _]) rfl (by omega) rfl rfl (Nat.le_of_ble_eq_true rfl) (Nat.le_of_ble_eq_true rfl) rfl (c_needNumber hR hT hA (by omega) (by omega)) (fun r115 M115 hM115 => ?_)
                                   rcases hM115 with ⟨e, h115, rfl, f115⟩ | ⟨q115, v115, h115, rfl, g115, b115, k115⟩
                                   · have hz : ptS a n on s = .inl e := by (rw [pt_dr hp (by omega) (by rw [e1]) (by omega)]; exact dr_f (by unfold dr3 dr2; rw [e1, dsS_y h104, h115]; exact tm_l))
                                     have hX := FA.tr (s := pW) hF.1 f115 (fun _ k => k) P_W
                                     refine bw_ifne rfl (fun c118 => ?_) (fun c118 => ?_)
                                     · first
                                       | (exfalso; omega)
                                       | (first
                                          | exact L123 1 _ _ _ _ _ _ hF hT hA hL ⟨n0, n1, by omega, by omega⟩ (fun q3 m h => by rw [pt_dr hp (by omega) (by rw [e1]) (by omega), dr_g (q := q3) (by unfold dr3 dr2; rw [e1, dsS_y h104, h115]; show (tmS a n on (.inr q115)).1 = _; rw [h])]; unfold dr3 dr2; rw [e1, dsS_y h104, h115]; show (Sum.inr (lsM q3 (hRunTo (lsH s) v42 v115 (tmS a n on (.inr q115)).2) _ _ _ _ _, 1) : Ro) = _; rw [h]) (fun e h => by rw [pt_dr hp (by omega) (by rw [e1]) (by omega)]; exact dr_f (by unfold dr3 dr2; rw [e1, dsS_y h104, h115]; exact h)) (by decide)
                                          | exact L123 1 _ _ _ _ _ _ hF hT hA hL ⟨n0, n1, by omega, by omega⟩ (fun q3 m h => by rw [pt_dr hp (by omega) (by rw [e1]) (by omega), dr_g (q := q3) (by unfold dr3 dr2; rw [e1, dsS_n h104]; show (tmS a n on (.inr q42)).1 = _; rw [h])]; unfold dr3 dr2; rw [e1, dsS_n h104]; show (Sum.inr (lsM q3 (hRunTo (lsH s) v42 v42 (tmS a n on (.inr q42)).2) _ _ _ _ _, 1) : Ro) = _; rw [h]) (fun e h => by rw [pt_dr hp (by omega) (by rw [e1]) (by omega)]; exact dr_f (by unfold dr3 dr2; rw [e1, dsS_n h104]; exact h)) (by decide)
                                          | exact L123 1 _ _ _ _ _ _ hF hT hA hL ⟨n0, n1, by omega, by omega⟩ (fun q3 m h => by rw [pt_b hp (dw h14) (by omega) h14, bk_g (q := q3) (by rw [h]), h]) (fun e h => by rw [pt_b hp (dw h14) (by omega) h14]; exact bk_f h) (by decide))
                                     · first
                                       | (exfalso; omega)
                                       | (refine bw_push rfl ?_
                                          refine bw_retz rfl rfl (by omega) ?_
                                          exact ⟨rfl, _, rfl, Or.inl ⟨e, hz, rfl, hX⟩⟩)
                                   · skip
                                     have hF := hF.trans (g115.1.mono N_W)
                                     have hR := g115.1.RF hR
                                     have hL := CL_sm hL g115.1.1 (fun c c0 c1 => no_N4 c0 c1)
                                     have n0 := ((congrFun k115 0).trans (up_ne (by decide))).trans n0
                                     have n1 := (congrFun k115 1).trans (up_eq rfl)
                                     have hT := g115.2.1
                                     have hA := g115.2.2
                                     refine bw_ifne rfl (fun c118 => ?_) (fun c118 => ?_)
                                     · first
                                       | (exfalso; omega)
                                       | (first
                                          | exact L123 1 _ _ _ _ _ _ hF hT hA hL ⟨n0, n1, by omega, by omega⟩ (fun q3 m h => by rw [pt_dr hp (by omega) (by rw [e1]) (by omega), dr_g (q := q3) (by unfold dr3 dr2; rw [e1, dsS_y h104, h115]; show (tmS a n on (.inr q115)).1 = _; rw [h])]; unfold dr3 dr2; rw [e1, dsS_y h104, h115]; show (Sum.inr (lsM q3 (hRunTo (lsH s) v42 v115 (tmS a n on (.inr q115)).2) _ _ _ _ _, 1) : Ro) = _; rw [h]) (fun e h => by rw [pt_dr hp (by omega) (by rw [e1]) (by omega)]; exact dr_f (by unfold dr3 dr2; rw [e1, dsS_y h104, h115]; exact h)) (by decide)
                                          | exact L123 1 _ _ _ _ _ _ hF hT hA hL ⟨n0, n1, by omega, by omega⟩ (fun q3 m h => by rw [pt_dr hp (by omega) (by rw [e1]) (by omega), dr_g (q := q3) (by unfold dr3 dr2; rw [e1, dsS_n h104]; show (tmS a n on (.inr q42)).1 = _; rw [h])]; unfold dr3 dr2; rw [e1, dsS_n h104]; show (Sum.inr (lsM q3 (hRunTo (lsH s) v42 v42 (tmS a n on (.inr q42)).2) _ _ _ _ _, 1) : Ro) = _; rw [h]) (fun e h => by rw [pt_dr hp (by omega) (by rw [e1]) (by omega)]; exact dr_f (by unfold dr3 dr2; rw [e1, dsS_n h104]; exact h)) (by decide)
                                          | exact L123 1 _ _ _ _ _ _ hF hT hA hL ⟨n0, n1, by omega, by omega⟩ (fun q3 m h => by rw [pt_b hp (dw h14) (by omega) h14, bk_g (q := q3) (by rw [h]), h]) (fun e h => by rw [pt_b hp (dw h14) (by omega) h14]; exact bk_f h) (by decide))
                                     · first
                                       | (exfalso; omega)
                                       | (refine bw_push rfl ?_
                                          refine bw_retz rfl rfl (by omega) ?_
                                          exact ⟨rfl, _, rfl, Or.inl ⟨e, hz, rfl, hX⟩⟩)))
                     · skip
                       refine bw_aload rfl rfl ?_
                       refine bw_push rfl ?_
                       refine bw_iload rfl rfl ?_
                       refine bw_callVi (e := d - 1) (as := [_, _]) rfl (by omega) rfl rfl (Nat.le_of_ble_eq_true rfl) (Nat.le_of_ble_eq_true rfl) rfl (c_fail hR) (fun r65 M65 hM65 => ?_)
                       obtain ⟨rfl, rfl⟩ := hM65
                       refine bw_retz rfl rfl (by omega) ?_
                       first
                       | exact ⟨rfl, _, rfl, Or.inl ⟨_, pt_d4 hp (by omega) (by rw [e1]) (by omega), rfl, by rw [← a1]; exact FA.tr (s := pW) hF.1 (fa_of hT) (fun _ k => k) P_W⟩⟩
                       | exact ⟨rfl, _, rfl, Or.inl ⟨_, pt_4 hp (dw h14) (by omega), rfl, by rw [← a1]; exact FA.tr (s := pW) hF.1 (fa_of hT) (fun _ k => k) P_W⟩⟩)
                · first
                  | (exfalso; omega)
                  | (refine bw_push rfl ?_
                     refine bw_retz rfl rfl (by omega) ?_
                     exact ⟨rfl, _, rfl, Or.inl ⟨e, hz, rfl, hX⟩⟩)))
