theorem shP_mv {M N : abMem} {b b2 : Nat} {i i2 : Int} (h : shP M b i) (hl : gI M 568 1 ≤ 6) (hf : gI M 568 0 ≤ 96) (e8 : gI N 568 = gI M 568) (hc : ∀ l f : Int, 0 ≤ l → l < gI M 568 1 → 0 ≤ f → f < gI M 568 0 → gI N (b2 + 2 + l.toNat) f = gI M (b + 2 + l.toNat) f) (hs : ∀ p : Int, 0 ≤ p → p < 6 → gI N (b2 + 8) p = gI M (b + 8) p) (hT : ∀ j : Int, 0 ≤ j → j < 582 → gI N 569 (i2 + j) = gI M 569 (i + j)) : shP N b2 i2 := by
  obtain ⟨h1, h2, h3, h4⟩ := h
  have t : ∀ p : Int, 0 ≤ p → p < 6 → gI N 569 (i2 + 576 + p) = gI M 569 (i + 576 + p) := fun p p0 p1 => by
    rw [Int.add_assoc, hT (576 + p) (by omega) (by omega), Int.add_assoc]
  refine ⟨fun l f l0 l1 f0 f1 => ?_, fun p p0 p1 => ?_, fun p p0 p1 => ?_, fun l l0 l1 => ?_⟩
  · rw [e8] at l1 f1
    rw [hc l f l0 l1 f0 f1, h1 l f l0 l1 f0 f1, Int.add_assoc, Int.add_assoc, hT _ (by omega) (by omega)]
  · rw [hs p p0 p1, t p p0 p1]; exact h2 p p0 p1
  · rw [e8] at p1 ⊢
    rw [t p p0 (by omega)]; exact h3 p p0 p1
  · rw [e8] at l1 ⊢
    obtain ⟨p, p0, p1, p2⟩ := h4 l l0 l1
    exact ⟨p, p0, p1, by rw [t p p0 (by omega)]; exact p2⟩
theorem hix_old {n a j : Int} (hn : 0 ≤ n ∧ n < 20) (ha : 0 ≤ a ∧ a ≤ 20) (hj : 0 ≤ j ∧ j < min (a + 1) 20 - 1) : hix (nxU n) (min (a + 1) 20) j = hix n a (j + (if a = 20 then 1 else 0)) ∧ hix n a (j + (if a = 20 then 1 else 0)) ≠ n := by
  unfold hix nxU
  by_cases q : a = 20
  · rw [if_pos q]
    constructor <;> (repeat' split) <;> omega
  · rw [if_neg q]
    constructor <;> (repeat' split) <;> omega
theorem hix_new {n a : Int} (hn : 0 ≤ n ∧ n < 20) (ha : 0 ≤ a ∧ a ≤ 20) : hix (nxU n) (min (a + 1) 20) (min (a + 1) 20 - 1) = n := by
  unfold hix nxU
  (repeat' split) <;> omega
abbrev pAc (a : Nat) : Prop := a = 0 ∨ pSh 10 a ∨ (19 ≤ a ∧ a < 201) ∨ a = 546 ∨ a = 547
/-- the sheet as it was is remembered -/
def hisC (M N : abMem) : Prop := shE M N (21 + 9 * (gI M 19 1).toNat) 10 ∧ gI N 19 1 = nxU (gI M 19 1) ∧ gI N 19 2 = min (gI M 19 2 + 1) 20 ∧ ∀ a : Nat, 21 ≤ a → a < 201 → ¬ pSh (21 + 9 * (gI M 19 1).toNat) a → gI N a = gI M a
/-- the class has acted: its sheet is W -/
def actD (M : abMem) (W : Int → Int) (N : abMem) : Prop := sm pAc M N ∧ hisC M N ∧ gI N 0 14 = 0 ∧ (∀ l : Int, 0 ≤ l → l < gI M 568 1 → gI N 547 l = -1 ∨ (gI N 547 l = gI M 547 l ∧ ∀ f : Int, 0 ≤ f → f < gI M 568 0 → W (96 * l + f) = gI M 569 (96 * l + f))) ∧ (∀ l f : Int, 0 ≤ l → l < gI M 568 1 → 0 ≤ f → f < gI M 568 0 → gI N (12 + l.toNat) f = W (96 * l + f)) ∧ (∀ p : Int, 0 ≤ p → p < 6 → gI N 18 p = W (576 + p)) ∧ (∀ p : Int, 0 ≤ p → p < gI M 568 1 → 0 ≤ W (576 + p) ∧ W (576 + p) < gI M 568 1) ∧ (∀ l : Int, 0 ≤ l → l < gI M 568 1 → ∃ p : Int, 0 ≤ p ∧ p < gI M 568 1 ∧ W (576 + p) = l)
theorem act_inv {r : abRf} {M N N2 : abMem} {k : Int} {W : Int → Int} (h : INV r M k) (a : actD M W N) (F : acd N W N2) : INV r N2 k := by
  obtain ⟨a1, a2, a3, a4, a5, a6, a7, a8⟩ := a
  obtain ⟨F1, F2⟩ := F
  have la := h.la
  have fr := h.fr
  have g8 : gI N 568 = gI M 568 := a1.at 568 (fun z => by omega)
  have g9 : gI N 569 = gI M 569 := a1.at 569 (fun z => by omega)
  have g7 : gI N 567 = gI M 567 := a1.at 567 (fun z => by omega)
  rw [g9, g7] at F2
  obtain ⟨b1, t0, t1, t2, t3, tb⟩ := F2
  have c : ∀ c : Nat, c ≠ 567 → c ≠ 569 → gI N2 c = gI N c := fun c c1 c2 => F1.at c c2 c1
  have cM : ∀ c : Nat, c ≠ 567 → c ≠ 569 → ¬ pAc c → gI N2 c = gI M c := fun x x1 x2 x3 => (c x x1 x2).trans (a1.at x x3)
  have e8 : gI N2 568 = gI M 568 := cM 568 (by decide) (by decide) (fun z => by omega)
  have e7 : ∀ j : Int, j ≠ 3 → gI N2 567 j = gI M 567 j := fun j hj => by rw [F1.sl j hj, g7]
  have hR : RF r N2 := F1.RF (a1.RF h.rf)
  obtain ⟨i1, i2, i3⟩ := h.hi
  have x19 : gI N2 19 = gI N 19 := c 19 (by decide) (by decide)
  have b20 : gI N2 567 3 = min (gI M 567 3 + 1) 20 := b1
  have blk : ∀ q j : Int, 0 ≤ q → q < min (gI M 567 3 + 1) 20 - 1 → 0 ≤ j → j < 582 → gI N2 569 (2328 + 582 * q + j) = gI M 569 (2328 + 582 * (q + (if gI M 567 3 = 20 then 1 else 0)) + j) := fun q j q0 q1 j0 j1 => t2 q j q0 (by rw [b20]; exact q1) j0 j1
  refine ⟨hR, ⟨by rw [e8]; exact h.rb.sw, tb⟩, ?_, ⟨fun l f l0 l1 f0 f1 => ?_, fun p p0 p1 => ?_, fun p p0 p1 => ?_, fun l l0 l1 => ?_⟩, ⟨⟨by rw [x19, a2.2.2.1, b20, i1.1], by omega, by omega⟩, ?_, fun j j0 j1 => ?_⟩, fun q q0 q1 => ?_, ?_, ?_, ?_, fun l l0 l1 => ?_, Or.inl (by rw [c 0 (by decide) (by decide)]; exact a3), ?_, ?_⟩
  · rw [e8]
    exact SR_sm (M := M) (N := (N2.1, M.2)) (p := fun x => pAc x ∨ x = 567 ∨ x = 569) h.sr ⟨rfl, fun x hx => cM x (fun z => hx (Or.inr (Or.inl z))) (fun z => hx (Or.inr (Or.inr z))) (fun z => hx (Or.inl z))⟩ (fun x x0 x1 z => by have := cur_in r; omega)
  · rw [e8] at l1 f1
    rw [c _ (by omega) (by omega), show (10 + 2 + l.toNat) = 12 + l.toNat from rfl, a5 l f l0 l1 f0 f1, t0 _ (by omega) (by omega)]
    congr 1; omega
  · rw [c _ (by decide) (by decide), a6 p p0 p1, t0 _ (by omega) (by omega)]
    first | rfl | (congr 1; omega)
  · rw [e8] at p1 ⊢
    rw [show (0 : Int) + 576 + p = 576 + p by omega, t0 _ (by omega) (by omega)]; exact a7 p p0 p1
  · rw [e8] at l1 ⊢
    obtain ⟨p, p0, p1, p2⟩ := a8 l l0 l1
    exact ⟨p, p0, p1, by rw [show (0 : Int) + 576 + p = 576 + p by omega, t0 _ (by omega) (by omega)]; exact p2⟩
  · rw [x19, a2.2.1]
    unfold nxU
    split <;> omega
  · rw [x19, a2.2.1, b20]
    rw [b20] at j1
    by_cases q : j = min (gI M 567 3 + 1) 20 - 1
    · rw [q, hix_new i2 i1.2]
      refine shP_mv h.sh la.2 fr.2 e8 (fun l f l0 l1 f0 f1 => ?_) (fun p p0 p1 => ?_) (fun y y0 y1 => ?_)
      · rw [c _ (by omega) (by omega)]; exact a2.1.1 l f l0 (by omega) f0 (by omega)
      · rw [c _ (by omega) (by omega)]; exact a2.1.2 p p0 p1
      · rw [← b20, t3 y y0 y1]; congr 1; omega
    · have ho := hix_old (n := gI M 19 1) (a := gI M 567 3) (j := j) i2 i1.2 ⟨j0, by omega⟩
      have hj : 0 ≤ j + (if gI M 567 3 = 20 then 1 else 0) ∧ j + (if gI M 567 3 = 20 then 1 else 0) < gI M 567 3 := by split <;> omega
      have hi := hix_in i2 i1.2 hj
      rw [ho.1]
      have cell : ∀ x : Nat, 21 + 9 * (hix (gI M 19 1) (gI M 567 3) (j + (if gI M 567 3 = 20 then 1 else 0))).toNat ≤ x → x < 21 + 9 * (hix (gI M 19 1) (gI M 567 3) (j + (if gI M 567 3 = 20 then 1 else 0))).toNat + 9 → gI N2 x = gI M x := fun x x0 x1 => by
        generalize hix (gI M 19 1) (gI M 567 3) (j + (if gI M 567 3 = 20 then 1 else 0)) = w at ho hi x0 x1
        rw [c x (by omega) (by omega)]
        exact a2.2.2.2 x (by omega) (by omega) (fun z => by have := z.1; have := z.2; have := ho.2; omega)
      refine shP_mv (i3 _ hj.1 hj.2) la.2 fr.2 e8 (fun l f l0 l1 f0 f1 => ?_) (fun p p0 p1 => ?_) (fun y y0 y1 => blk j y j0 (by omega) y0 y1)
      · rw [cell _ (by omega) (by omega)]
      · rw [cell _ (by omega) (by omega)]
  · obtain ⟨k1, k2⟩ := h.ke q q0 q1
    rw [cM 202 (by decide) (by decide) (fun z => by omega), cM 570 (by decide) (by decide) (fun z => by omega)]
    refine ⟨k1, k2.elim Or.inl (fun z => Or.inr ⟨z.1, shP_mv z.2 la.2 fr.2 e8 (fun l f l0 l1 f0 f1 => ?_) (fun p p0 p1 => ?_) (fun y y0 y1 => t1 _ (by omega) (by omega))⟩)⟩
    · rw [cM _ (by omega) (by omega) (fun z => by omega)]
    · rw [cM _ (by omega) (by omega) (fun z => by omega)]
  · have i := h.ta
    unfold tapO at i ⊢
    rw [cM 1 (by decide) (by decide) (fun z => by omega), cM 2 (by decide) (by decide) (fun z => by omega), e7 5 (by decide), cM 571 (by decide) (by decide) (fun z => by omega)]
    exact i
  · have i := h.ow
    unfold ownO at i ⊢
    rw [cM 572 (by decide) (by decide) (fun z => by omega)]
    exact i
  · rw [cM 3 (by decide) (by decide) (fun z => by omega), e7 6 (by decide), e7 7 (by decide)]; exact h.fa
  · rw [e8] at l1 ⊢
    rw [c 547 (by decide) (by decide)]
    rcases a4 l l0 l1 with z | ⟨z, z2⟩
    · exact Or.inl z
    · rw [z]
      rcases h.mk l l0 l1 with w | w
      · exact Or.inl w
      · refine Or.inr (isMk_cg w (fun j j0 j1 => ?_))
        rw [mR0, mR0, t0 _ (by omega) (by omega)]
        exact (z2 j j0 j1).symm
  · exact cmrO_e h.cm (by rw [cM 203 (by decide) (by decide) (fun z => by omega)]) (cM 218 (by decide) (by decide) (fun z => by omega))
  · have i := h.ly
    unfold layO at i ⊢
    rw [e8]; exact i
/-- what the acts of one layer bring, of the numbers of the sheet -/
theorem rw_at {M : abMem} {l i f : Int} {g : Int → Int} (hl : 0 ≤ l ∧ l ≤ 5) (hn : gI M 568 0 ≤ 96) (hi : 0 ≤ i ∧ i ≤ 5) (hf : 0 ≤ f ∧ f < gI M 568 0) : rwW M l g (96 * i + f) = if i = l then g f else gI M 569 (96 * i + f) := by
  show paF (gI M 569) l (gI M 568 0) g (582 + (96 * i + f)) = _
  unfold paF
  by_cases q : i = l
  · rw [if_pos q, if_pos (by omega), q]; congr 1; omega
  · rw [if_neg q, if_neg (by omega), if_pos (by omega)]; congr 1; omega
theorem rw_st {M : abMem} {l p : Int} {g : Int → Int} (hl : 0 ≤ l ∧ l ≤ 5) (hn : gI M 568 0 ≤ 96) (hp : 0 ≤ p ∧ p < 6) : rwW M l g (576 + p) = gI M 569 (576 + p) := by
  show paF (gI M 569) l (gI M 568 0) g (582 + (576 + p)) = _
  unfold paF
  rw [if_neg (by omega), if_pos (by omega)]; congr 1; omega
set_option maxRecDepth 20000 in
set_option maxHeartbeats 4000000 in
theorem c_forgetAll {d L : Nat} {M : abMem} {r : abRf} (hR : RF r M) (hd : 1 ≤ d) : abW d (0, 0) 131 0 (abEnt (abL 131) [vr (some 0)]) [] (0, 0) (A0 L) M (qV (A0 L) (fun N => sm (fun a => a = 547 ∨ a = 0) M N ∧ (∀ l : Int, 0 ≤ l → l < 6 → gI N 547 l = -1) ∧ gI N 0 14 = 0 ∧ ∀ j : Int, j ≠ 14 → gI N 0 j = gI M 0 j)) := by
  show abW d (0, 0) 131 0 [some (vr (some 0))] [] (0, 0) (A0 L) M (qV (A0 L) (fun N => sm (fun a => a = 547 ∨ a = 0) M N ∧ (∀ l : Int, 0 ≤ l → l < 6 → gI N 547 l = -1) ∧ gI N 0 14 = 0 ∧ ∀ j : Int, j ≠ 14 → gI N 0 j = gI M 0 j))
  refine bw_aload rfl rfl ?_
  refine bw_getr rfl rfl (hR _ _) ?_
  refine bw_push rfl ?_
  refine bw_callSn (e := d - 1) (as := [_, _]) rfl (by omega) rfl rfl (Nat.le_of_ble_eq_true rfl) (Nat.le_of_ble_eq_true rfl) (j_fill hR rfl (by omega)) ?_
  refine bw_aload rfl rfl ?_
  refine bw_push rfl ?_
  refine bw_putZ rfl rfl (by omega) ?_
  refine bw_retv rfl rfl ?_
  exact ⟨rfl, rfl, ((sm_refl (fun a => a = 547 ∨ a = 0) M).wI _ (Or.inl rfl)).sI _ _ (Or.inr rfl), fun l l0 l1 => by rw [gI_sI_ne (by decide), gI_wI_eq]; exact if_pos ⟨l0, l1⟩, gI_sI_eq, fun j hj => by rw [gI_sI_nj hj, gI_wI_ne (by decide)]⟩
set_option maxRecDepth 20000 in
set_option maxHeartbeats 4000000 in
theorem c_putSpare {d L : Nat} {M : abMem} {r : abRf} (hR : RF r M) {s : Nat} (hs : s = 372 ∨ s = 459) (hc : cur r = s) {k : Int} (h : INV r M k) {l : Int} (hl : 0 ≤ l ∧ l < gI M 568 1) {G : Int → Int} (hG : ∀ f : Int, 0 ≤ f → f < gI M 568 0 → gI M 546 f = G f) (hd : 3 ≤ d) : abW d (0, 0) 130 0 (abEnt (abL 130) [vr (some 0), vi l]) [] (0, 0) (A0 L) M (qI (A0 L) (fun x N => x = cN (pD G (mR M 0 l)) (gI M 568 0).toNat ∧ actD M (rwW M l G) N)) := by
  rcases hs with rfl | rfl
  · have hS : SR M 372 (gI M 568) := by have q := h.sr; rw [hc] at q; exact q
    have b1 := h.fr
    have b2 := h.la
    have hrf := hR
    have hh1 := h.hi.1
    have hh2 := h.hi.2.1
    show abW d (0, 0) 130 0 [some (vr (some 0)), some (vi l), none] [] (0, 0) (A0 L) M (qI (A0 L) (fun x N => x = cN (pD G (mR M 0 l)) (gI M 568 0).toNat ∧ actD M (rwW M l G) N))
    refine bw_aload rfl rfl ?_
    refine bw_getr rfl rfl (hR _ _) ?_
    refine bw_getr rfl rfl (hR _ _) ?_
    refine bw_iload rfl rfl ?_
    refine bw_aldr rfl (by first | rfl | assumption) (by decide) (by omega) (by omega) ((hR _ _).trans (rr_row (fun _ => rfl) (by omega) (by omega) (by omega))) ?_
    refine bw_aload rfl rfl ?_
    refine bw_getr rfl rfl (hR _ _) ?_
    refine bw_aload rfl rfl ?_
    refine bw_getr rfl rfl (cur_r hR hc) ?_
    refine bw_getI rfl rfl ?_
    rw [show gI M 372 0 = gI M 568 0 from hS.c0]
    refine bw_callSNe (e := d - 1) (as := [_, _, _]) rfl (by omega) rfl rfl (Nat.le_of_ble_eq_true rfl) (Nat.le_of_ble_eq_true rfl) (c_differences (z := 96) (y := 96) (by decide) (kfa (L := L) (b := 12) (n := 6) (v := (20, 96)) (by decide) (by decide) ⟨by omega, by omega⟩) rfl (by omega)) ?_
    rw [pD_symm, pD_cg (f' := G) (g' := mR M 0 l) (fun j j0 j1 => ⟨hG j j0 j1, h.row hl ⟨j0, j1⟩⟩)]
    refine bw_istore (ls2 := [_, _, _]) rfl rfl (Nat.le_of_ble_eq_true rfl) rfl ?_
    refine bw_aload rfl rfl ?_
    refine bw_getr rfl rfl (hR _ _) ?_
    refine bw_aload rfl rfl ?_
    refine bw_getr rfl rfl (hR _ _) ?_
    refine bw_callVNv (e := d - 1) (as := [_]) rfl (by omega) rfl rfl (Nat.le_of_ble_eq_true rfl) (Nat.le_of_ble_eq_true rfl) rfl (c_remember (n := gI M 19 1) (k := gI M 19 2) hR ⟨rfl, by omega, by omega⟩ ⟨rfl, by omega, by omega⟩ (by omega)) (fun M32 hM32 => ?_)
    obtain ⟨u32, v32⟩ := hM32
    have hR := u32.RF hR
    have hS := SR_sm hS u32 (fun a a0 a1 z => by omega)
    refine bw_aload rfl rfl ?_
    refine bw_getr rfl rfl (hR _ _) ?_
    refine bw_push rfl ?_
    refine bw_aload rfl rfl ?_
    refine bw_getr rfl rfl (hR _ _) ?_
    refine bw_getr rfl rfl (hR _ _) ?_
    refine bw_iload rfl rfl ?_
    refine bw_aldr rfl (by first | rfl | assumption) (by decide) (by omega) (by omega) ((hR _ _).trans (rr_row (fun _ => rfl) (by omega) (by omega) (by omega))) ?_
    refine bw_push rfl ?_
    refine bw_aload rfl rfl ?_
    refine bw_getr rfl rfl (cur_r hR hc) ?_
    refine bw_getI rfl rfl ?_
    rw [show gI M32 372 0 = gI M 568 0 from hS.c0]
    refine bw_acopy rfl rfl (congrArg Prod.fst (kfa (L := L) (b := 12) (n := 6) (v := (20, 96)) (by decide) (by decide) ⟨by omega, by omega⟩)) (by decide) (by decide) (by omega) (by show (0 : Int) + gI M 568 0 ≤ 96; omega) (by rw [show (A0 L).2 (12 + l.toNat) = (20, 96) from (kfa (L := L) (b := 12) (n := 6) (v := (20, 96)) (by decide) (by decide) ⟨by omega, by omega⟩)]; show (0 : Int) + gI M 568 0 ≤ 96; omega) (by omega) (Nat.le_of_ble_eq_true rfl) ?_
    refine bw_aload rfl rfl ?_
    refine bw_getr rfl rfl (hR _ _) ?_
    refine bw_iload rfl rfl ?_
    refine bw_push rfl ?_
    refine bw_asti rfl (by first | rfl | assumption) (by omega) (by omega) ?_
    refine bw_aload rfl rfl ?_
    refine bw_push rfl ?_
    refine bw_putZ rfl rfl (by omega) ?_
    refine bw_iload rfl rfl ?_
    refine bw_ret rfl rfl ?_
    refine ⟨rfl, _, rfl, rfl, ?_⟩
    have e546 : gI M32 546 = gI M 546 := u32.at 546 (fun z => by omega)
    have n19 : ∀ x : Nat, 19 ≤ x → x < 201 → gI (sI (sI (wI M32 (12 + l.toNat) (fun j => if 0 ≤ j ∧ j < 0 + gI M 568 0 then gI M32 546 (0 + (j - 0)) else gI M32 (12 + l.toNat) j)) 547 l (-1)) 0 14 0) x = gI M32 x := fun x x0 x1 => by rw [gI_sI_ne (by omega), gI_sI_ne (by omega), gI_wI_ne (by omega)]
    refine ⟨(((u32.mono (fun a z => by omega)).wI _ (Or.inr (Or.inl ⟨by omega, by omega⟩))).sI _ _ (Or.inr (Or.inr (Or.inr (Or.inr rfl))))).sI _ _ (Or.inl rfl), ⟨⟨fun i f i0 i1 f0 f1 => ?_, fun p p0 p1 => ?_⟩, by rw [n19 19 (by decide) (by decide)]; exact v32.2.1, by rw [n19 19 (by decide) (by decide)]; exact v32.2.2, fun x x0 x1 hx => by rw [n19 x (by omega) (by omega)]; exact u32.at x (fun z => z.elim (fun q => by omega) hx)⟩, gI_sI_eq, fun i i0 i1 => ?_, fun i f i0 i1 f0 f1 => ?_, fun p p0 p1 => ?_, fun p p0 p1 => ?_, fun i i0 i1 => ?_⟩
    · rw [n19 _ (by omega) (by omega)]; exact v32.1.1 i f i0 i1 f0 f1
    · rw [n19 _ (by omega) (by omega)]; exact v32.1.2 p p0 p1
    · rw [gI_sI_ne (by decide)]
      by_cases q : i = l
      · rw [q, gI_sI_eq]; exact Or.inl rfl
      · refine Or.inr ⟨by rw [gI_sI_nj q, gI_wI_ne (by omega), u32.at 547 (fun z => by omega)], fun f f0 f1 => ?_⟩
        rw [rw_at (by omega) (by omega) (by omega) ⟨f0, f1⟩, if_neg q]
    · rw [rw_at (by omega) (by omega) (by omega) ⟨f0, f1⟩, gI_sI_ne (by omega), gI_sI_ne (by omega)]
      by_cases q : i = l
      · rw [if_pos q, q, gI_wI_eq, ac_if (by omega), e546]; exact hG f f0 f1
      · rw [if_neg q, gI_wI_ne (by omega), u32.at _ (fun z => by omega), h.row ⟨i0, i1⟩ ⟨f0, f1⟩, mR0]
    · rw [rw_st (by omega) (by omega) ⟨p0, p1⟩, gI_sI_ne (by decide), gI_sI_ne (by decide), gI_wI_ne (by omega), u32.at 18 (fun z => by omega)]
      exact (h.sh.2.1 p p0 p1).trans (by first | rfl | (congr 1; omega))
    · rw [rw_st (by omega) (by omega) ⟨p0, by omega⟩]
      have z := h.sh.2.2.1 p p0 p1
      rw [show (0 : Int) + 576 + p = 576 + p by omega] at z
      exact z
    · obtain ⟨p, p0, p1, p2⟩ := h.hp2 (l := i) i0 i1
      exact ⟨p, p0, p1, by rw [rw_st (by omega) (by omega) ⟨p0, by omega⟩]; exact p2⟩
  · have hS : SR M 459 (gI M 568) := by have q := h.sr; rw [hc] at q; exact q
    have b1 := h.fr
    have b2 := h.la
    have hrf := hR
    have hh1 := h.hi.1
    have hh2 := h.hi.2.1
    show abW d (0, 0) 130 0 [some (vr (some 0)), some (vi l), none] [] (0, 0) (A0 L) M (qI (A0 L) (fun x N => x = cN (pD G (mR M 0 l)) (gI M 568 0).toNat ∧ actD M (rwW M l G) N))
    refine bw_aload rfl rfl ?_
    refine bw_getr rfl rfl (hR _ _) ?_
    refine bw_getr rfl rfl (hR _ _) ?_
    refine bw_iload rfl rfl ?_
    refine bw_aldr rfl (by first | rfl | assumption) (by decide) (by omega) (by omega) ((hR _ _).trans (rr_row (fun _ => rfl) (by omega) (by omega) (by omega))) ?_
    refine bw_aload rfl rfl ?_
    refine bw_getr rfl rfl (hR _ _) ?_
    refine bw_aload rfl rfl ?_
    refine bw_getr rfl rfl (cur_r hR hc) ?_
    refine bw_getI rfl rfl ?_
    rw [show gI M 459 0 = gI M 568 0 from hS.c0]
    refine bw_callSNe (e := d - 1) (as := [_, _, _]) rfl (by omega) rfl rfl (Nat.le_of_ble_eq_true rfl) (Nat.le_of_ble_eq_true rfl) (c_differences (z := 96) (y := 96) (by decide) (kfa (L := L) (b := 12) (n := 6) (v := (20, 96)) (by decide) (by decide) ⟨by omega, by omega⟩) rfl (by omega)) ?_
    rw [pD_symm, pD_cg (f' := G) (g' := mR M 0 l) (fun j j0 j1 => ⟨hG j j0 j1, h.row hl ⟨j0, j1⟩⟩)]
    refine bw_istore (ls2 := [_, _, _]) rfl rfl (Nat.le_of_ble_eq_true rfl) rfl ?_
    refine bw_aload rfl rfl ?_
    refine bw_getr rfl rfl (hR _ _) ?_
    refine bw_aload rfl rfl ?_
    refine bw_getr rfl rfl (hR _ _) ?_
    refine bw_callVNv (e := d - 1) (as := [_]) rfl (by omega) rfl rfl (Nat.le_of_ble_eq_true rfl) (Nat.le_of_ble_eq_true rfl) rfl (c_remember (n := gI M 19 1) (k := gI M 19 2) hR ⟨rfl, by omega, by omega⟩ ⟨rfl, by omega, by omega⟩ (by omega)) (fun M32 hM32 => ?_)
    obtain ⟨u32, v32⟩ := hM32
    have hR := u32.RF hR
    have hS := SR_sm hS u32 (fun a a0 a1 z => by omega)
    refine bw_aload rfl rfl ?_
    refine bw_getr rfl rfl (hR _ _) ?_
    refine bw_push rfl ?_
    refine bw_aload rfl rfl ?_
    refine bw_getr rfl rfl (hR _ _) ?_
    refine bw_getr rfl rfl (hR _ _) ?_
    refine bw_iload rfl rfl ?_
    refine bw_aldr rfl (by first | rfl | assumption) (by decide) (by omega) (by omega) ((hR _ _).trans (rr_row (fun _ => rfl) (by omega) (by omega) (by omega))) ?_
    refine bw_push rfl ?_
    refine bw_aload rfl rfl ?_
    refine bw_getr rfl rfl (cur_r hR hc) ?_
    refine bw_getI rfl rfl ?_
    rw [show gI M32 459 0 = gI M 568 0 from hS.c0]
    refine bw_acopy rfl rfl (congrArg Prod.fst (kfa (L := L) (b := 12) (n := 6) (v := (20, 96)) (by decide) (by decide) ⟨by omega, by omega⟩)) (by decide) (by decide) (by omega) (by show (0 : Int) + gI M 568 0 ≤ 96; omega) (by rw [show (A0 L).2 (12 + l.toNat) = (20, 96) from (kfa (L := L) (b := 12) (n := 6) (v := (20, 96)) (by decide) (by decide) ⟨by omega, by omega⟩)]; show (0 : Int) + gI M 568 0 ≤ 96; omega) (by omega) (Nat.le_of_ble_eq_true rfl) ?_
    refine bw_aload rfl rfl ?_
    refine bw_getr rfl rfl (hR _ _) ?_
    refine bw_iload rfl rfl ?_
    refine bw_push rfl ?_
    refine bw_asti rfl (by first | rfl | assumption) (by omega) (by omega) ?_
    refine bw_aload rfl rfl ?_
    refine bw_push rfl ?_
    refine bw_putZ rfl rfl (by omega) ?_
    refine bw_iload rfl rfl ?_
    refine bw_ret rfl rfl ?_
    refine ⟨rfl, _, rfl, rfl, ?_⟩
    have e546 : gI M32 546 = gI M 546 := u32.at 546 (fun z => by omega)
    have n19 : ∀ x : Nat, 19 ≤ x → x < 201 → gI (sI (sI (wI M32 (12 + l.toNat) (fun j => if 0 ≤ j ∧ j < 0 + gI M 568 0 then gI M32 546 (0 + (j - 0)) else gI M32 (12 + l.toNat) j)) 547 l (-1)) 0 14 0) x = gI M32 x := fun x x0 x1 => by rw [gI_sI_ne (by omega), gI_sI_ne (by omega), gI_wI_ne (by omega)]
    refine ⟨(((u32.mono (fun a z => by omega)).wI _ (Or.inr (Or.inl ⟨by omega, by omega⟩))).sI _ _ (Or.inr (Or.inr (Or.inr (Or.inr rfl))))).sI _ _ (Or.inl rfl), ⟨⟨fun i f i0 i1 f0 f1 => ?_, fun p p0 p1 => ?_⟩, by rw [n19 19 (by decide) (by decide)]; exact v32.2.1, by rw [n19 19 (by decide) (by decide)]; exact v32.2.2, fun x x0 x1 hx => by rw [n19 x (by omega) (by omega)]; exact u32.at x (fun z => z.elim (fun q => by omega) hx)⟩, gI_sI_eq, fun i i0 i1 => ?_, fun i f i0 i1 f0 f1 => ?_, fun p p0 p1 => ?_, fun p p0 p1 => ?_, fun i i0 i1 => ?_⟩
    · rw [n19 _ (by omega) (by omega)]; exact v32.1.1 i f i0 i1 f0 f1
    · rw [n19 _ (by omega) (by omega)]; exact v32.1.2 p p0 p1
    · rw [gI_sI_ne (by decide)]
      by_cases q : i = l
      · rw [q, gI_sI_eq]; exact Or.inl rfl
      · refine Or.inr ⟨by rw [gI_sI_nj q, gI_wI_ne (by omega), u32.at 547 (fun z => by omega)], fun f f0 f1 => ?_⟩
        rw [rw_at (by omega) (by omega) (by omega) ⟨f0, f1⟩, if_neg q]
    · rw [rw_at (by omega) (by omega) (by omega) ⟨f0, f1⟩, gI_sI_ne (by omega), gI_sI_ne (by omega)]
      by_cases q : i = l
      · rw [if_pos q, q, gI_wI_eq, ac_if (by omega), e546]; exact hG f f0 f1
      · rw [if_neg q, gI_wI_ne (by omega), u32.at _ (fun z => by omega), h.row ⟨i0, i1⟩ ⟨f0, f1⟩, mR0]
    · rw [rw_st (by omega) (by omega) ⟨p0, p1⟩, gI_sI_ne (by decide), gI_sI_ne (by decide), gI_wI_ne (by omega), u32.at 18 (fun z => by omega)]
      exact (h.sh.2.1 p p0 p1).trans (by first | rfl | (congr 1; omega))
    · rw [rw_st (by omega) (by omega) ⟨p0, by omega⟩]
      have z := h.sh.2.2.1 p p0 p1
      rw [show (0 : Int) + 576 + p = 576 + p by omega] at z
      exact z
    · obtain ⟨p, p0, p1, p2⟩ := h.hp2 (l := i) i0 i1
      exact ⟨p, p0, p1, by rw [rw_st (by omega) (by omega) ⟨p0, by omega⟩]; exact p2⟩
