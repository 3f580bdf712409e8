theorem nwE_cg {E D : Int → Int → Prop} {n f : Int} (hf : 0 ≤ f ∧ f < n) (e : ∀ i j : Int, 0 ≤ i → i < n → 0 ≤ j → j < n → (E i j ↔ D i j)) : pB (nwE E) f = pB (nwE D) f := by
  have w : nwE E f ↔ nwE D f := ⟨fun h j j0 j1 k => h j j0 j1 ((e j f j0 (by omega) hf.1 hf.2).mpr k), fun h j j0 j1 k => h j j0 j1 ((e j f j0 (by omega) hf.1 hf.2).mp k)⟩
  by_cases q : nwE E f
  · rw [pB_t q, pB_t (w.mp q)]
  · rw [pB_f q, pB_f (fun k => q (w.mpr k))]
theorem tk_cg {E D : Int → Int → Prop} {n m : Int} (hm : m ≤ n) (e : ∀ i j : Int, 0 ≤ i → i < n → 0 ≤ j → j < n → (E i j ↔ D i j)) : cN (pB (nwE E)) m.toNat = cN (pB (nwE D)) m.toNat := cN_congr _ (fun j j0 j1 => nwE_cg ⟨j0, by omega⟩ e)
theorem tk_P {P Q : Int → Int → Int} {n : Int} (e : ∀ i : Int, 0 ≤ i → i < n → ∀ q : Int, P i q = Q i q) : cN (pB (nwE (plE8 P))) n.toNat = cN (pB (nwE (plE8 Q))) n.toNat := tk_cg (Int.le_refl _) (fun i j i0 i1 j0 j1 => ⟨fun z q q0 q1 => by rw [← e i i0 i1 q, ← e j j0 j1 q]; exact z q q0 q1, fun z q q0 q1 => by rw [e i i0 i1 q, e j j0 j1 q]; exact z q q0 q1⟩)
theorem tk_pa {r : abRf} {M : abMem} {k : Int} (h : INV r M k) {l : Int} (hl : 0 ≤ l ∧ l < gI M 568 1) {g : Int → Int} {P : Int → Int → Int} {st : Int → Int} {R0 : Int → Int → Int} (e18 : st = gI M 18) (eR : ∀ i : Int, 0 ≤ i → i < gI M 568 1 → R0 i = gI M (12 + i.toNat)) (hP : ∀ f : Int, 0 ≤ f → f < gI M 568 0 → ∀ q : Int, P f q = pcT (gI M 568) st R0 l f (g f) q) : tk (wI M 569 (paF (gI M 569) l (gI M 568 0) g)) 582 = cN (pB (nwE (plE8 P))) (gI M 568 0).toNat := by
  have la := h.la
  have fr := h.fr
  have e8 : gI (wI M 569 (paF (gI M 569) l (gI M 568 0) g)) 568 = gI M 568 := gI_wI_ne (by decide)
  have key : ∀ f : Int, 0 ≤ f → f < gI M 568 0 → ∀ q : Int, (pcI (wI M 569 (paF (gI M 569) l (gI M 568 0) g)) 582 f q).1 = P f q := fun f f0 f1 q => by
    rw [hP f f0 f1 q]
    unfold pcI pcT
    rw [e8, cB_congr (st' := st) (R' := tR R0 l (g f)) _ (fun p p0 p1 => ?_) q]
    have a := h.sh.2.1 p p0 (by omega)
    have b := h.sv.1 p p0 (by omega)
    have e1 : gI (wI M 569 (paF (gI M 569) l (gI M 568 0) g)) 569 (582 + 576 + p) = st p := by
      rw [gI_wI_eq, e18, show gI M 18 p = gI M 569 (0 + 576 + p) from a]
      unfold paF
      rw [if_neg (by omega), if_pos (by omega)]
      congr 1; omega
    refine ⟨e1, ?_⟩
    rw [e1, e18]
    generalize gI M 18 p = w at b
    show gI (wI M 569 (paF (gI M 569) l (gI M 568 0) g)) 569 (582 + 96 * w + f) = tR R0 l (g f) w f
    rw [gI_wI_eq]
    unfold tR
    by_cases q2 : w = l
    · rw [if_pos q2, q2, paF_row ⟨f0, f1⟩]
    · rw [if_neg q2, eR w b.1 b.2, h.row b ⟨f0, f1⟩, mR0]
      unfold paF
      rw [if_neg (by omega), if_pos (by omega)]
      congr 1; omega
  unfold tk
  rw [e8]
  refine tk_cg (n := gI M 568 0) (Int.le_refl _) (fun i j i0 i1 j0 j1 => ?_)
  unfold alk plE8
  exact ⟨fun z q q0 q1 => by rw [← key i i0 i1 q, ← key j j0 j1 q]; exact z q q0 q1, fun z q q0 q1 => by rw [key i i0 i1 q, key j j0 j1 q]; exact z q q0 q1⟩
theorem tki_ok {r : abRf} {M N1 N : abMem} {k rd c0 f x c2 t t' : Int} {s : Nat} {S st : Int → Int} {R0 : Int → Int → Int} {FB : Int → Int} {P : Int → Int → Int} (h : INV r M k) (hA : amD M r s t N1) (hT : TKI N1 N s S st R0 FB t' P (rd + 1) c0 f x c2) (hrd : gI M 203 4 = rd) : OKP r M N (k + 1) := by
  have a := h.cm.1
  refine ⟨cmR r s, rfl, INV_cm (r' := cmR r s) h (hT.2.1.RF hA.1) rfl ((am_sx hA).trans (hT.2.1.sx.mono (fun a z => z))) ⟨⟨by rw [hT.2.2.1.1]; omega, by rw [hT.2.2.1.1]; omega⟩, fun y y0 y1 => by rw [hT.2.2.1.1]; exact (hT.2.2.2.2.2.1 y y0 y1).1⟩⟩
theorem OKP.trans {r : abRf} {M N K : abMem} {k k' : Int} (h : ∃ r' : abRf, r'.1 = r.1 ∧ INV r' N k ∧ rfS M N) (g : ∀ r' : abRf, INV r' N k → OKP r' N K k') : OKP r M K k' := by
  obtain ⟨r1, e1, i1, f1⟩ := h
  obtain ⟨r2, e2, i2, f2⟩ := g r1 i1
  exact ⟨r2, e2.trans e1, i2, f1.trans f2⟩
theorem pD_symm {f g : Int → Int} {n : Int} : cN (pD f g) n.toNat = cN (pD g f) n.toNat := cN_congr _ (fun j _ _ => decide_eq_decide.mpr ⟨fun h k => h k.symm, fun h k => h k.symm⟩)
abbrev pSp (a : Nat) : Prop := a = 546
theorem INV_sp {r : abRf} {M N : abMem} {k : Int} (h : INV r M k) (g : sm pSp M N) : INV r N k ∧ rfS M N := by
  have e8 := g.at 568 (by decide)
  have e9 := g.at 569 (by decide)
  exact ⟨INV_sx h (g.RF h.rf) rfl g.sc.sx (fun a z => by have z : a = 546 := z; omega) (mkcO_e h.mk (g.at 547 (by decide)) e8 e9) (pctO_e h.pc (g.at 0 (by decide)) (g.at 548 (by decide)) e8 e9) (cmrO_e h.cm (by rw [g.at 203 (by decide)]) (g.at 218 (by decide))), rfS_sx g.sc.sx (fun a z => by have z : a = 546 := z; omega)⟩
set_option maxRecDepth 20000 in
set_option maxHeartbeats 4000000 in
theorem c_copyToSpare {d L : Nat} {M : abMem} {r : abRf} (hR : RF r M) {l : Int} (hl : 0 ≤ l ∧ l ≤ 5) (hd : 1 ≤ d) : abW d (0, 0) 128 0 (abEnt (abL 128) [vr (some 0), vi l]) [] (0, 0) (A0 L) M (qV (A0 L) (fun N => sm pSp M N ∧ ∀ j : Int, 0 ≤ j → j < 96 → gI N 546 j = gI M (12 + l.toNat) j)) := by
  show abW d (0, 0) 128 0 [some (vr (some 0)), some (vi l)] [] (0, 0) (A0 L) M (qV (A0 L) (fun N => sm pSp M N ∧ ∀ j : Int, 0 ≤ j → j < 96 → gI N 546 j = gI M (12 + l.toNat) j))
  refine bw_aload rfl rfl ?_
  refine bw_getr rfl rfl (hR _ _) ?_
  refine bw_getr rfl rfl (hR _ _) ?_
  refine bw_iload rfl rfl ?_
  refine bw_aldr rfl (by first | rfl | assumption) (by decide) (by omega) (by omega) ((hR _ _).trans (rr_row (fun _ => rfl) (by omega) (by omega) (by omega))) ?_
  refine bw_push rfl ?_
  refine bw_aload rfl rfl ?_
  refine bw_getr rfl rfl (hR _ _) ?_
  refine bw_push rfl ?_
  refine bw_push rfl ?_
  refine bw_acopy rfl (congrArg Prod.fst (kfa (L := L) (b := 12) (n := 6) (v := (20, 96)) (by decide) (by decide) ⟨by omega, by omega⟩)) rfl (by decide) (by decide) (by decide) (by rw [show (A0 L).2 (12 + l.toNat) = (20, 96) from (kfa (L := L) (b := 12) (n := 6) (v := (20, 96)) (by decide) (by decide) ⟨by omega, by omega⟩)]; decide) (by show (0 : Int) + 96 ≤ 96; decide) (by omega) (Nat.le_of_ble_eq_true rfl) ?_
  refine bw_retv rfl rfl ?_
  exact ⟨rfl, rfl, (sm_refl pSp M).wI _ rfl, fun j j0 j1 => by rw [gI_wI_eq]; exact ac_if ⟨j0, j1⟩⟩
set_option maxRecDepth 20000 in
set_option maxHeartbeats 4000000 in
theorem c_putOnTwos {d L : Nat} {M : abMem} {r : abRf} (hR : RF r M) {s : Nat} (hs : s = 372 ∨ s = 459) (hc : cur r = s) {k : Int} (h : INV r M k) {l : Int} (hl : 0 ≤ l ∧ l ≤ 5) (hd : 2 ≤ d) : abW d (0, 0) 129 0 (abEnt (abL 129) [vr (some 0), vi l]) [] (0, 0) (A0 L) M (qV (A0 L) (fun N => sm pSp M N ∧ ∀ j : Int, 0 ≤ j → j < gI M 568 0 → gI N 546 j = if j % 2 = 1 then gI M (12 + l.toNat) (j - 1) else gI M (12 + l.toNat) j)) := by
  rcases hs with rfl | rfl
  · have hS : SR M 372 (gI M 568) := by have q := h.sr; rw [hc] at q; exact q
    have b1 := h.fr
    have b2 := h.la
    have hrf := hR
    have L7 : ∀ (kf : Nat) (N : abMem) (i : Int), (sm pSp M N) → ((∀ j : Int, 0 ≤ j → j < 96 → gI N 546 j = if j % 2 = 1 ∧ j < i then gI M (12 + l.toNat) (j - 1) else gI M (12 + l.toNat) j)) → (1 ≤ i ∧ i ≤ 97 ∧ i % 2 = 1 ∧ i ≤ gI M 568 0 + 1) → ((98 - i).toNat) < kf → abW d (0, 0) 129 7 [some (vr (some 0)), some (vi l), some (vi i)] [] (0, 0) (A0 L) (N) (qV (A0 L) (fun N => sm pSp M N ∧ ∀ j : Int, 0 ≤ j → j < gI M 568 0 → gI N 546 j = if j % 2 = 1 then gI M (12 + l.toNat) (j - 1) else gI M (12 + l.toNat) j)) := by
      intro kf
      induction kf with
      | zero => intro N  i  g1 g2 g3 hm9; exact absurd hm9 (Nat.not_lt_zero _)
      | succ kf ih7 =>
        intro N  i  g1 g2 g3 hm7
        have ih := ih7
        have hR := g1.RF hR
        have hS := SR_sm hS g1 (fun a a0 a1 (z : a = 546) => by omega)
        refine bw_iload rfl rfl ?_
        refine bw_aload rfl rfl ?_
        refine bw_getr rfl rfl (cur_r hR hc) ?_
        refine bw_getI rfl rfl ?_
        rw [show gI N 372 0 = gI M 568 0 from hS.c0]
        refine bw_icge rfl (fun c15 => ?_) (fun c15 => ?_)
        · skip
          refine bw_retv rfl rfl ?_
          refine ⟨rfl, rfl, g1, fun j j0 j1 => ?_⟩
          rw [g2 j j0 (by omega)]
          by_cases q : j % 2 = 1
          · rw [if_pos ⟨q, by omega⟩, if_pos q]
          · rw [if_neg (fun z => q z.1), if_neg q]
        · skip
          refine bw_aload rfl rfl ?_
          refine bw_getr rfl rfl (hR _ _) ?_
          refine bw_iload rfl rfl ?_
          refine bw_aload rfl rfl ?_
          refine bw_getr rfl rfl (hR _ _) ?_
          refine bw_iload rfl rfl ?_
          refine bw_push rfl ?_
          refine bw_isub rfl ⟨by omega, by omega⟩ ?_
          refine bw_aldi rfl (by first | rfl | assumption) (by omega) (by omega) ?_
          refine bw_asti rfl (by first | rfl | assumption) (by omega) (by omega) ?_
          refine bw_iinc (ls2 := [_, _, _]) rfl rfl rfl ⟨by omega, by omega⟩ rfl ?_
          refine bw_goto rfl ?_
          refine ih _ _ (g1.sI _ _ rfl) (fun j j0 j1 => ?_) (by omega) (by omega)
          by_cases q : j = i
          · rw [q, gI_sI_eq, g2 (i - 1) (by omega) (by omega), if_neg (by omega), if_pos (by omega)]
          · rw [gI_sI_nj q, g2 j j0 j1]
            by_cases q2 : j % 2 = 1 ∧ j < i
            · rw [if_pos q2, if_pos (by omega)]
            · rw [if_neg q2, if_neg (by omega)]
    show abW d (0, 0) 129 0 [some (vr (some 0)), some (vi l), none] [] (0, 0) (A0 L) M (qV (A0 L) (fun N => sm pSp M N ∧ ∀ j : Int, 0 ≤ j → j < gI M 568 0 → gI N 546 j = if j % 2 = 1 then gI M (12 + l.toNat) (j - 1) else gI M (12 + l.toNat) j))
    refine bw_aload rfl rfl ?_
    refine bw_iload rfl rfl ?_
    refine bw_callVv (e := d - 1) (as := [_]) rfl (by omega) rfl rfl (Nat.le_of_ble_eq_true rfl) (Nat.le_of_ble_eq_true rfl) rfl (c_copyToSpare hR (by omega) (by omega)) (fun M2 hM2 => ?_)
    refine bw_push rfl ?_
    refine bw_istore (ls2 := [_, _, _]) rfl rfl (Nat.le_of_ble_eq_true rfl) rfl ?_
    exact L7 99 M2 1 hM2.1 (fun j j0 j1 => by rw [if_neg (by omega)]; exact hM2.2 j j0 j1) (by omega) (by omega)
  · have hS : SR M 459 (gI M 568) := by have q := h.sr; rw [hc] at q; exact q
    have b1 := h.fr
    have b2 := h.la
    have hrf := hR
    have L7 : ∀ (kf : Nat) (N : abMem) (i : Int), (sm pSp M N) → ((∀ j : Int, 0 ≤ j → j < 96 → gI N 546 j = if j % 2 = 1 ∧ j < i then gI M (12 + l.toNat) (j - 1) else gI M (12 + l.toNat) j)) → (1 ≤ i ∧ i ≤ 97 ∧ i % 2 = 1 ∧ i ≤ gI M 568 0 + 1) → ((98 - i).toNat) < kf → abW d (0, 0) 129 7 [some (vr (some 0)), some (vi l), some (vi i)] [] (0, 0) (A0 L) (N) (qV (A0 L) (fun N => sm pSp M N ∧ ∀ j : Int, 0 ≤ j → j < gI M 568 0 → gI N 546 j = if j % 2 = 1 then gI M (12 + l.toNat) (j - 1) else gI M (12 + l.toNat) j)) := by
      intro kf
      induction kf with
      | zero => intro N  i  g1 g2 g3 hm9; exact absurd hm9 (Nat.not_lt_zero _)
      | succ kf ih7 =>
        intro N  i  g1 g2 g3 hm7
        have ih := ih7
        have hR := g1.RF hR
        have hS := SR_sm hS g1 (fun a a0 a1 (z : a = 546) => by omega)
        refine bw_iload rfl rfl ?_
        refine bw_aload rfl rfl ?_
        refine bw_getr rfl rfl (cur_r hR hc) ?_
        refine bw_getI rfl rfl ?_
        rw [show gI N 459 0 = gI M 568 0 from hS.c0]
        refine bw_icge rfl (fun c15 => ?_) (fun c15 => ?_)
        · skip
          refine bw_retv rfl rfl ?_
          refine ⟨rfl, rfl, g1, fun j j0 j1 => ?_⟩
          rw [g2 j j0 (by omega)]
          by_cases q : j % 2 = 1
          · rw [if_pos ⟨q, by omega⟩, if_pos q]
          · rw [if_neg (fun z => q z.1), if_neg q]
        · skip
          refine bw_aload rfl rfl ?_
          refine bw_getr rfl rfl (hR _ _) ?_
          refine bw_iload rfl rfl ?_
          refine bw_aload rfl rfl ?_
          refine bw_getr rfl rfl (hR _ _) ?_
          refine bw_iload rfl rfl ?_
          refine bw_push rfl ?_
          refine bw_isub rfl ⟨by omega, by omega⟩ ?_
          refine bw_aldi rfl (by first | rfl | assumption) (by omega) (by omega) ?_
          refine bw_asti rfl (by first | rfl | assumption) (by omega) (by omega) ?_
          refine bw_iinc (ls2 := [_, _, _]) rfl rfl rfl ⟨by omega, by omega⟩ rfl ?_
          refine bw_goto rfl ?_
          refine ih _ _ (g1.sI _ _ rfl) (fun j j0 j1 => ?_) (by omega) (by omega)
          by_cases q : j = i
          · rw [q, gI_sI_eq, g2 (i - 1) (by omega) (by omega), if_neg (by omega), if_pos (by omega)]
          · rw [gI_sI_nj q, g2 j j0 j1]
            by_cases q2 : j % 2 = 1 ∧ j < i
            · rw [if_pos q2, if_pos (by omega)]
            · rw [if_neg q2, if_neg (by omega)]
    show abW d (0, 0) 129 0 [some (vr (some 0)), some (vi l), none] [] (0, 0) (A0 L) M (qV (A0 L) (fun N => sm pSp M N ∧ ∀ j : Int, 0 ≤ j → j < gI M 568 0 → gI N 546 j = if j % 2 = 1 then gI M (12 + l.toNat) (j - 1) else gI M (12 + l.toNat) j))
    refine bw_aload rfl rfl ?_
    refine bw_iload rfl rfl ?_
    refine bw_callVv (e := d - 1) (as := [_]) rfl (by omega) rfl rfl (Nat.le_of_ble_eq_true rfl) (Nat.le_of_ble_eq_true rfl) rfl (c_copyToSpare hR (by omega) (by omega)) (fun M2 hM2 => ?_)
    refine bw_push rfl ?_
    refine bw_istore (ls2 := [_, _, _]) rfl rfl (Nat.le_of_ble_eq_true rfl) rfl ?_
    exact L7 99 M2 1 hM2.1 (fun j j0 j1 => by rw [if_neg (by omega)]; exact hM2.2 j j0 j1) (by omega) (by omega)
theorem tkD_tn {r : abRf} {M N : abMem} {k l z f : Int} (h : INV r M k) (hl : 0 ≤ l ∧ l < gI M 568 1) (e : gI N (12 + l.toNat) = gI M (12 + l.toNat)) (hz : 0 ≤ z ∧ z < gI M 568 0) (hf : 0 ≤ f ∧ f < gI M 568 0) : tkD (gI N (12 + l.toNat)) (gI M 568 0) z f = tnG (gI M 569) (gI M 568 0) l z f := by
  unfold tkD tnG
  rw [e]
  by_cases q : f + z < gI M 568 0
  · rw [if_pos q, Int.emod_eq_of_lt (by omega) q, h.row hl ⟨by omega, q⟩]; rfl
  · rw [if_neg q, ← Int.sub_emod_right, Int.emod_eq_of_lt (by omega) (by omega), h.row hl ⟨by omega, by omega⟩]; rfl
set_option maxRecDepth 20000 in
set_option maxHeartbeats 4000000 in
theorem x_turned {d L : Nat} {M : abMem} {r : abRf} (hR : RF r M) {s : Nat} (hs : s = 372 ∨ s = 459) (hc : cur r = s) {k : Int} (h : INV r M k) {l z : Int} (hk : k ≤ 900000) (hd : 6 ≤ d) : abW d (0, 0) 111 0 (abEnt (abL 111) [vr (some 0), vi l, vi z]) [] (0, 0) (A0 L) M (qI (A0 L) (fun x N => OKP r M N (k + 1) ∧ ((0 ≤ l ∧ l < gI M 568 1 ∧ 0 ≤ z ∧ z < gI M 568 0) ∧ x = bsT M l z ∨ ¬ (0 ≤ l ∧ l < gI M 568 1 ∧ 0 ≤ z ∧ z < gI M 568 0) ∧ x = -1))) := by
  rcases hs with rfl | rfl
  · have hS : SR M 372 (gI M 568) := by have q := h.sr; rw [hc] at q; exact q
    have b1 := h.fr
    have b2 := h.la
    have hrf := hR
    show abW d (0, 0) 111 0 [some (vr (some 0)), some (vi l), some (vi z)] [] (0, 0) (A0 L) M (qI (A0 L) (fun x N => OKP r M N (k + 1) ∧ ((0 ≤ l ∧ l < gI M 568 1 ∧ 0 ≤ z ∧ z < gI M 568 0) ∧ x = bsT M l z ∨ ¬ (0 ≤ l ∧ l < gI M 568 1 ∧ 0 ≤ z ∧ z < gI M 568 0) ∧ x = -1)))
    refine bw_aload rfl rfl ?_
    refine bw_getr rfl rfl (cur_r hR hc) ?_
    refine bw_iload rfl rfl ?_
    refine bw_callVNj (e := d - 1) (as := [_]) rfl (by omega) rfl rfl (Nat.le_of_ble_eq_true rfl) (Nat.le_of_ble_eq_true rfl) rfl (c_hasLayer hR (by first | exact Or.inl rfl | exact Or.inr rfl) hS) (fun r5 hr5 => ?_)
    refine bw_ifeq rfl (fun c8 => ?_) (fun c8 => ?_)
    · skip
      refine bw_push rfl ?_
      refine bw_ret rfl rfl ?_
      first
      | exact ⟨rfl, _, rfl, OKP_refl h (by omega), Or.inr ⟨by omega, rfl⟩⟩
      | (refine ⟨rfl, _, rfl, hI, Or.inl ⟨by omega, ?_⟩⟩
         rw [vT.2.2.2.1]
         exact (tk_pa h (by omega) (gA.at 18 (fun z => by omega)) (fun i i0 i1 => gA.at _ (fun z => by omega)) (fun f f0 f1 q => by rw [tkD_tn h (by omega) (gA.at _ (fun z => by omega)) (by omega) ⟨f0, f1⟩])).symm)
    · skip
      refine bw_aload rfl rfl ?_
      refine bw_getr rfl rfl (cur_r hR hc) ?_
      refine bw_iload rfl rfl ?_
      refine bw_callVNj (e := d - 1) (as := [_]) rfl (by omega) rfl rfl (Nat.le_of_ble_eq_true rfl) (Nat.le_of_ble_eq_true rfl) rfl (c_hasFrame hR (by first | exact Or.inl rfl | exact Or.inr rfl) hS) (fun r16 hr16 => ?_)
      refine bw_ifne rfl (fun c19 => ?_) (fun c19 => ?_)
      · skip
        refine bw_aload rfl rfl ?_
        refine bw_getr rfl rfl (hR _ _) ?_
        refine bw_aload rfl rfl ?_
        refine bw_getr rfl rfl (cur_r hR hc) ?_
        refine bw_aload rfl rfl ?_
        refine bw_getr rfl rfl (hR _ _) ?_
        refine bw_iload rfl rfl ?_
        refine bw_callVNv (e := d - 1) (as := [_, _, _]) rfl (by omega) rfl rfl (Nat.le_of_ble_eq_true rfl) (Nat.le_of_ble_eq_true rfl) rfl (c_aim hR (by omega)) (fun M37 hM37 => ?_)
        have hR := hM37.1
        have gA := am_sx hM37
        have hS2 := SR_sx hS gA (fun a a0 a1 z => by omega)
        have hV2 := shV_e h.sv b2.2 (fun a ha => gA.at a (fun z => by omega))
        have hC0 := CAM_0 hS2 ⟨hM37.2.2.2.1, by omega, by omega⟩ hV2 (hM37.2.2.2.2 (by omega)).1 (hM37.2.2.2.2 (by omega)).2.1 (hM37.2.2.2.2 (by omega)).2.2
        have h4 : gI M37 203 4 = gI M 203 4 := hM37.2.2.1 4 (by decide)
        have hct : ∀ x : Int, 0 ≤ x → x < 3936 → gI M37 218 x ≤ gI M 203 4 := fun x x0 x1 => by rw [hM37.2.1.at 218 (by decide)]; exact h.cm.2 x x0 x1
        have hc0 := h.cm.1
        refine bw_aload rfl rfl ?_
        refine bw_getr rfl rfl (hR _ _) ?_
        refine bw_aload rfl rfl ?_
        refine bw_getr rfl rfl (hR _ _) ?_
        refine bw_getr rfl rfl (hR _ _) ?_
        refine bw_iload rfl rfl ?_
        refine bw_aldr rfl (by first | rfl | assumption) (by decide) (by omega) (by omega) ((hR _ _).trans (rr_row (fun _ => rfl) (by omega) (by omega) (by omega))) ?_
        refine bw_iload rfl rfl ?_
        refine bw_callVNi (e := d - 1) (as := [_, _]) rfl (by omega) rfl rfl (Nat.le_of_ble_eq_true rfl) (Nat.le_of_ble_eq_true rfl) rfl (c_countTakes hR (by first | exact Or.inl rfl | exact Or.inr rfl) rfl rfl hC0 (kfa (L := L) (b := 12) (n := 6) (v := (20, 96)) (by decide) (by decide) ⟨by omega, by omega⟩) (by omega) (fun j j0 j1 => by rw [gA.at (12 + l.toNat) (fun z => by omega)]; exact h.rv ⟨by omega, by omega⟩ ⟨j0, j1⟩) (by omega) h4 (by omega) hct (by omega)) (fun r54 M54 hM54 => ?_)
        obtain ⟨c2, vT⟩ := hM54
        have hI := tki_ok h hM37 vT rfl
        refine bw_ret rfl rfl ?_
        first
        | exact ⟨rfl, _, rfl, OKP_refl h (by omega), Or.inr ⟨by omega, rfl⟩⟩
        | (refine ⟨rfl, _, rfl, hI, Or.inl ⟨by omega, ?_⟩⟩
           rw [vT.2.2.2.1]
           exact (tk_pa h (by omega) (gA.at 18 (fun z => by omega)) (fun i i0 i1 => gA.at _ (fun z => by omega)) (fun f f0 f1 q => by rw [tkD_tn h (by omega) (gA.at _ (fun z => by omega)) (by omega) ⟨f0, f1⟩])).symm)
      · skip
        refine bw_push rfl ?_
        refine bw_ret rfl rfl ?_
        first
        | exact ⟨rfl, _, rfl, OKP_refl h (by omega), Or.inr ⟨by omega, rfl⟩⟩
        | (refine ⟨rfl, _, rfl, hI, Or.inl ⟨by omega, ?_⟩⟩
           rw [vT.2.2.2.1]
           exact (tk_pa h (by omega) (gA.at 18 (fun z => by omega)) (fun i i0 i1 => gA.at _ (fun z => by omega)) (fun f f0 f1 q => by rw [tkD_tn h (by omega) (gA.at _ (fun z => by omega)) (by omega) ⟨f0, f1⟩])).symm)
  · have hS : SR M 459 (gI M 568) := by have q := h.sr; rw [hc] at q; exact q
    have b1 := h.fr
    have b2 := h.la
    have hrf := hR
    show abW d (0, 0) 111 0 [some (vr (some 0)), some (vi l), some (vi z)] [] (0, 0) (A0 L) M (qI (A0 L) (fun x N => OKP r M N (k + 1) ∧ ((0 ≤ l ∧ l < gI M 568 1 ∧ 0 ≤ z ∧ z < gI M 568 0) ∧ x = bsT M l z ∨ ¬ (0 ≤ l ∧ l < gI M 568 1 ∧ 0 ≤ z ∧ z < gI M 568 0) ∧ x = -1)))
    refine bw_aload rfl rfl ?_
    refine bw_getr rfl rfl (cur_r hR hc) ?_
    refine bw_iload rfl rfl ?_
    refine bw_callVNj (e := d - 1) (as := [_]) rfl (by omega) rfl rfl (Nat.le_of_ble_eq_true rfl) (Nat.le_of_ble_eq_true rfl) rfl (c_hasLayer hR (by first | exact Or.inl rfl | exact Or.inr rfl) hS) (fun r5 hr5 => ?_)
    refine bw_ifeq rfl (fun c8 => ?_) (fun c8 => ?_)
    · skip
      refine bw_push rfl ?_
      refine bw_ret rfl rfl ?_
      first
      | exact ⟨rfl, _, rfl, OKP_refl h (by omega), Or.inr ⟨by omega, rfl⟩⟩
      | (refine ⟨rfl, _, rfl, hI, Or.inl ⟨by omega, ?_⟩⟩
         rw [vT.2.2.2.1]
         exact (tk_pa h (by omega) (gA.at 18 (fun z => by omega)) (fun i i0 i1 => gA.at _ (fun z => by omega)) (fun f f0 f1 q => by rw [tkD_tn h (by omega) (gA.at _ (fun z => by omega)) (by omega) ⟨f0, f1⟩])).symm)
    · skip
      refine bw_aload rfl rfl ?_
      refine bw_getr rfl rfl (cur_r hR hc) ?_
      refine bw_iload rfl rfl ?_
      refine bw_callVNj (e := d - 1) (as := [_]) rfl (by omega) rfl rfl (Nat.le_of_ble_eq_true rfl) (Nat.le_of_ble_eq_true rfl) rfl (c_hasFrame hR (by first | exact Or.inl rfl | exact Or.inr rfl) hS) (fun r16 hr16 => ?_)
      refine bw_ifne rfl (fun c19 => ?_) (fun c19 => ?_)
      · skip
        refine bw_aload rfl rfl ?_
        refine bw_getr rfl rfl (hR _ _) ?_
        refine bw_aload rfl rfl ?_
        refine bw_getr rfl rfl (cur_r hR hc) ?_
        refine bw_aload rfl rfl ?_
        refine bw_getr rfl rfl (hR _ _) ?_
        refine bw_iload rfl rfl ?_
        refine bw_callVNv (e := d - 1) (as := [_, _, _]) rfl (by omega) rfl rfl (Nat.le_of_ble_eq_true rfl) (Nat.le_of_ble_eq_true rfl) rfl (c_aim hR (by omega)) (fun M37 hM37 => ?_)
        have hR := hM37.1
        have gA := am_sx hM37
        have hS2 := SR_sx hS gA (fun a a0 a1 z => by omega)
        have hV2 := shV_e h.sv b2.2 (fun a ha => gA.at a (fun z => by omega))
        have hC0 := CAM_0 hS2 ⟨hM37.2.2.2.1, by omega, by omega⟩ hV2 (hM37.2.2.2.2 (by omega)).1 (hM37.2.2.2.2 (by omega)).2.1 (hM37.2.2.2.2 (by omega)).2.2
        have h4 : gI M37 203 4 = gI M 203 4 := hM37.2.2.1 4 (by decide)
        have hct : ∀ x : Int, 0 ≤ x → x < 3936 → gI M37 218 x ≤ gI M 203 4 := fun x x0 x1 => by rw [hM37.2.1.at 218 (by decide)]; exact h.cm.2 x x0 x1
        have hc0 := h.cm.1
        refine bw_aload rfl rfl ?_
        refine bw_getr rfl rfl (hR _ _) ?_
        refine bw_aload rfl rfl ?_
        refine bw_getr rfl rfl (hR _ _) ?_
        refine bw_getr rfl rfl (hR _ _) ?_
        refine bw_iload rfl rfl ?_
        refine bw_aldr rfl (by first | rfl | assumption) (by decide) (by omega) (by omega) ((hR _ _).trans (rr_row (fun _ => rfl) (by omega) (by omega) (by omega))) ?_
        refine bw_iload rfl rfl ?_
        refine bw_callVNi (e := d - 1) (as := [_, _]) rfl (by omega) rfl rfl (Nat.le_of_ble_eq_true rfl) (Nat.le_of_ble_eq_true rfl) rfl (c_countTakes hR (by first | exact Or.inl rfl | exact Or.inr rfl) rfl rfl hC0 (kfa (L := L) (b := 12) (n := 6) (v := (20, 96)) (by decide) (by decide) ⟨by omega, by omega⟩) (by omega) (fun j j0 j1 => by rw [gA.at (12 + l.toNat) (fun z => by omega)]; exact h.rv ⟨by omega, by omega⟩ ⟨j0, j1⟩) (by omega) h4 (by omega) hct (by omega)) (fun r54 M54 hM54 => ?_)
        obtain ⟨c2, vT⟩ := hM54
        have hI := tki_ok h hM37 vT rfl
        refine bw_ret rfl rfl ?_
        first
        | exact ⟨rfl, _, rfl, OKP_refl h (by omega), Or.inr ⟨by omega, rfl⟩⟩
        | (refine ⟨rfl, _, rfl, hI, Or.inl ⟨by omega, ?_⟩⟩
           rw [vT.2.2.2.1]
           exact (tk_pa h (by omega) (gA.at 18 (fun z => by omega)) (fun i i0 i1 => gA.at _ (fun z => by omega)) (fun f f0 f1 q => by rw [tkD_tn h (by omega) (gA.at _ (fun z => by omega)) (by omega) ⟨f0, f1⟩])).symm)
      · skip
        refine bw_push rfl ?_
        refine bw_ret rfl rfl ?_
        first
        | exact ⟨rfl, _, rfl, OKP_refl h (by omega), Or.inr ⟨by omega, rfl⟩⟩
        | (refine ⟨rfl, _, rfl, hI, Or.inl ⟨by omega, ?_⟩⟩
           rw [vT.2.2.2.1]
           exact (tk_pa h (by omega) (gA.at 18 (fun z => by omega)) (fun i i0 i1 => gA.at _ (fun z => by omega)) (fun f f0 f1 q => by rw [tkD_tn h (by omega) (gA.at _ (fun z => by omega)) (by omega) ⟨f0, f1⟩])).symm)
set_option maxRecDepth 20000 in
set_option maxHeartbeats 4000000 in
theorem x_without {d L : Nat} {M : abMem} {r : abRf} (hR : RF r M) {s : Nat} (hs : s = 372 ∨ s = 459) (hc : cur r = s) {k : Int} (h : INV r M k) {l : Int} (hk : k ≤ 900000) (hd : 6 ≤ d) : abW d (0, 0) 113 0 (abEnt (abL 113) [vr (some 0), vi l]) [] (0, 0) (A0 L) M (qI (A0 L) (fun x N => OKP r M N (k + 1) ∧ ((0 ≤ l ∧ l < gI M 568 1) ∧ x = tk (wI M 569 (paF (gI M 569) l (gI M 568 0) (fun _ => 0))) 582 ∨ ¬ (0 ≤ l ∧ l < gI M 568 1) ∧ x = -1))) := by
  rcases hs with rfl | rfl
  · have hS : SR M 372 (gI M 568) := by have q := h.sr; rw [hc] at q; exact q
    have b1 := h.fr
    have b2 := h.la
    have hrf := hR
    show abW d (0, 0) 113 0 [some (vr (some 0)), some (vi l)] [] (0, 0) (A0 L) M (qI (A0 L) (fun x N => OKP r M N (k + 1) ∧ ((0 ≤ l ∧ l < gI M 568 1) ∧ x = tk (wI M 569 (paF (gI M 569) l (gI M 568 0) (fun _ => 0))) 582 ∨ ¬ (0 ≤ l ∧ l < gI M 568 1) ∧ x = -1)))
    refine bw_aload rfl rfl ?_
    refine bw_getr rfl rfl (cur_r hR hc) ?_
    refine bw_iload rfl rfl ?_
    refine bw_callVNj (e := d - 1) (as := [_]) rfl (by omega) rfl rfl (Nat.le_of_ble_eq_true rfl) (Nat.le_of_ble_eq_true rfl) rfl (c_hasLayer hR (by first | exact Or.inl rfl | exact Or.inr rfl) hS) (fun r5 hr5 => ?_)
    refine bw_ifne rfl (fun c8 => ?_) (fun c8 => ?_)
    · skip
      refine bw_aload rfl rfl ?_
      refine bw_getr rfl rfl (hR _ _) ?_
      refine bw_push rfl ?_
      refine bw_callSn (e := d - 1) (as := [_, _]) rfl (by omega) rfl rfl (Nat.le_of_ble_eq_true rfl) (Nat.le_of_ble_eq_true rfl) (j_fill hR rfl (by omega)) ?_
      have gS : sm pSp M (wI M 546 (flF (gI M 546) 96 0)) := (sm_refl pSp M).wI _ rfl
      have z546 : ∀ j : Int, 0 ≤ j → j < 96 → gI (wI M 546 (flF (gI M 546) 96 0)) 546 j = 0 := fun j j0 j1 => by rw [gI_wI_eq]; exact if_pos ⟨j0, j1⟩
      generalize wI M 546 (flF (gI M 546) 96 0) = W at gS z546
      have hW := INV_sp h gS
      have e8 : gI W 568 = gI M 568 := gS.at 568 (by decide)
      have e9 : gI W 569 = gI M 569 := gS.at 569 (by decide)
      have hR := gS.RF hR
      have hSW := SR_sm hS gS (fun a a0 a1 (z : a = 546) => by omega)
      have b3 := hW.1.fr
      have b4 := hW.1.la
      refine bw_aload rfl rfl ?_
      refine bw_getr rfl rfl (hR _ _) ?_
      refine bw_aload rfl rfl ?_
      refine bw_getr rfl rfl (cur_r hR hc) ?_
      refine bw_aload rfl rfl ?_
      refine bw_getr rfl rfl (hR _ _) ?_
      refine bw_iload rfl rfl ?_
      refine bw_callVNv (e := d - 1) (as := [_, _, _]) rfl (by omega) rfl rfl (Nat.le_of_ble_eq_true rfl) (Nat.le_of_ble_eq_true rfl) rfl (c_aim hR (by omega)) (fun M34 hM34 => ?_)
      have hR := hM34.1
      have gA := am_sx hM34
      have hS2 := SR_sx hSW gA (fun a a0 a1 z => by omega)
      have hV2 := shV_e (S := gI M 568) (by have q := hW.1.sv; rw [e8] at q; exact q) (by rw [← e8]; exact b4.2) (fun a ha => gA.at a (fun z => by omega))
      have hC0 := CAM_0 hS2 ⟨hM34.2.2.2.1, by omega, by omega⟩ hV2 (hM34.2.2.2.2 (by omega)).1 (hM34.2.2.2.2 (by omega)).2.1 (hM34.2.2.2.2 (by omega)).2.2
      have h4 : gI M34 203 4 = gI W 203 4 := hM34.2.2.1 4 (by decide)
      have hct : ∀ x : Int, 0 ≤ x → x < 3936 → gI M34 218 x ≤ gI W 203 4 := fun x x0 x1 => by rw [hM34.2.1.at 218 (by decide)]; exact hW.1.cm.2 x x0 x1
      have hc0 := hW.1.cm.1
      refine bw_aload rfl rfl ?_
      refine bw_getr rfl rfl (hR _ _) ?_
      refine bw_aload rfl rfl ?_
      refine bw_getr rfl rfl (hR _ _) ?_
      refine bw_push rfl ?_
      refine bw_callVNi (e := d - 1) (as := [_, _]) rfl (by omega) rfl rfl (Nat.le_of_ble_eq_true rfl) (Nat.le_of_ble_eq_true rfl) rfl (c_countTakes hR (by first | exact Or.inl rfl | exact Or.inr rfl) rfl rfl hC0 rfl (by omega) (fun j j0 j1 => by rw [gA.at 546 (fun z => by omega), z546 j j0 (by omega)]; omega) (by omega) h4 (by omega) hct (by omega)) (fun r46 M46 hM46 => ?_)
      obtain ⟨c2, vT⟩ := hM46
      have hI : OKP r M M46 (k + 1) := by
        obtain ⟨r2, e2, i2, f2⟩ := tki_ok hW.1 hM34 vT rfl
        exact ⟨r2, e2, i2, hW.2.trans f2⟩
      refine bw_ret rfl rfl ?_
      first
      | exact ⟨rfl, _, rfl, OKP_refl h (by omega), Or.inr ⟨by omega, rfl⟩⟩
      | (refine ⟨rfl, _, rfl, hI, Or.inl ⟨by omega, ?_⟩⟩
         rw [vT.2.2.2.1, tk_eq (M := wI W 569 (paF (gI M 569) l (gI M 568 0) (fun _ => 0))) (by rw [gI_wI_ne (by decide), gI_wI_ne (by decide), e8]) (by rw [gI_wI_eq, gI_wI_eq])]
         have hh := tk_pa hW.1 (l := l) (g := fun _ => 0) (by rw [e8]; omega) (gA.at 18 (fun z => by omega)) (fun i i0 i1 => gA.at _ (fun z => by omega)) (fun f f0 f1 q => rfl)
         rw [e8, e9] at hh
         rw [hh]
         refine tk_P (fun i i0 i1 q => ?_)
         have e0 : tkD (gI M34 546) (gI M 568 0) 0 i = 0 := by
           unfold tkD
           rw [if_pos (by omega), gA.at 546 (fun z => by omega)]
           exact z546 _ (by omega) (by omega)
         show pcT _ _ _ l i (tkD (gI M34 546) (gI M 568 0) 0 i) q = _
         rw [e0])
    · skip
      refine bw_push rfl ?_
      refine bw_ret rfl rfl ?_
      first
      | exact ⟨rfl, _, rfl, OKP_refl h (by omega), Or.inr ⟨by omega, rfl⟩⟩
      | (refine ⟨rfl, _, rfl, hI, Or.inl ⟨by omega, ?_⟩⟩
         rw [vT.2.2.2.1, tk_eq (M := wI W 569 (paF (gI M 569) l (gI M 568 0) (fun _ => 0))) (by rw [gI_wI_ne (by decide), gI_wI_ne (by decide), e8]) (by rw [gI_wI_eq, gI_wI_eq])]
         have hh := tk_pa hW.1 (l := l) (g := fun _ => 0) (by rw [e8]; omega) (gA.at 18 (fun z => by omega)) (fun i i0 i1 => gA.at _ (fun z => by omega)) (fun f f0 f1 q => rfl)
         rw [e8, e9] at hh
         rw [hh]
         refine tk_P (fun i i0 i1 q => ?_)
         have e0 : tkD (gI M34 546) (gI M 568 0) 0 i = 0 := by
           unfold tkD
           rw [if_pos (by omega), gA.at 546 (fun z => by omega)]
           exact z546 _ (by omega) (by omega)
         show pcT _ _ _ l i (tkD (gI M34 546) (gI M 568 0) 0 i) q = _
         rw [e0])
  · have hS : SR M 459 (gI M 568) := by have q := h.sr; rw [hc] at q; exact q
    have b1 := h.fr
    have b2 := h.la
    have hrf := hR
    show abW d (0, 0) 113 0 [some (vr (some 0)), some (vi l)] [] (0, 0) (A0 L) M (qI (A0 L) (fun x N => OKP r M N (k + 1) ∧ ((0 ≤ l ∧ l < gI M 568 1) ∧ x = tk (wI M 569 (paF (gI M 569) l (gI M 568 0) (fun _ => 0))) 582 ∨ ¬ (0 ≤ l ∧ l < gI M 568 1) ∧ x = -1)))
    refine bw_aload rfl rfl ?_
    refine bw_getr rfl rfl (cur_r hR hc) ?_
    refine bw_iload rfl rfl ?_
    refine bw_callVNj (e := d - 1) (as := [_]) rfl (by omega) rfl rfl (Nat.le_of_ble_eq_true rfl) (Nat.le_of_ble_eq_true rfl) rfl (c_hasLayer hR (by first | exact Or.inl rfl | exact Or.inr rfl) hS) (fun r5 hr5 => ?_)
    refine bw_ifne rfl (fun c8 => ?_) (fun c8 => ?_)
    · skip
      refine bw_aload rfl rfl ?_
      refine bw_getr rfl rfl (hR _ _) ?_
      refine bw_push rfl ?_
      refine bw_callSn (e := d - 1) (as := [_, _]) rfl (by omega) rfl rfl (Nat.le_of_ble_eq_true rfl) (Nat.le_of_ble_eq_true rfl) (j_fill hR rfl (by omega)) ?_
      have gS : sm pSp M (wI M 546 (flF (gI M 546) 96 0)) := (sm_refl pSp M).wI _ rfl
      have z546 : ∀ j : Int, 0 ≤ j → j < 96 → gI (wI M 546 (flF (gI M 546) 96 0)) 546 j = 0 := fun j j0 j1 => by rw [gI_wI_eq]; exact if_pos ⟨j0, j1⟩
      generalize wI M 546 (flF (gI M 546) 96 0) = W at gS z546
      have hW := INV_sp h gS
      have e8 : gI W 568 = gI M 568 := gS.at 568 (by decide)
      have e9 : gI W 569 = gI M 569 := gS.at 569 (by decide)
      have hR := gS.RF hR
      have hSW := SR_sm hS gS (fun a a0 a1 (z : a = 546) => by omega)
      have b3 := hW.1.fr
      have b4 := hW.1.la
      refine bw_aload rfl rfl ?_
      refine bw_getr rfl rfl (hR _ _) ?_
      refine bw_aload rfl rfl ?_
      refine bw_getr rfl rfl (cur_r hR hc) ?_
      refine bw_aload rfl rfl ?_
      refine bw_getr rfl rfl (hR _ _) ?_
      refine bw_iload rfl rfl ?_
      refine bw_callVNv (e := d - 1) (as := [_, _, _]) rfl (by omega) rfl rfl (Nat.le_of_ble_eq_true rfl) (Nat.le_of_ble_eq_true rfl) rfl (c_aim hR (by omega)) (fun M34 hM34 => ?_)
      have hR := hM34.1
      have gA := am_sx hM34
      have hS2 := SR_sx hSW gA (fun a a0 a1 z => by omega)
      have hV2 := shV_e (S := gI M 568) (by have q := hW.1.sv; rw [e8] at q; exact q) (by rw [← e8]; exact b4.2) (fun a ha => gA.at a (fun z => by omega))
      have hC0 := CAM_0 hS2 ⟨hM34.2.2.2.1, by omega, by omega⟩ hV2 (hM34.2.2.2.2 (by omega)).1 (hM34.2.2.2.2 (by omega)).2.1 (hM34.2.2.2.2 (by omega)).2.2
      have h4 : gI M34 203 4 = gI W 203 4 := hM34.2.2.1 4 (by decide)
      have hct : ∀ x : Int, 0 ≤ x → x < 3936 → gI M34 218 x ≤ gI W 203 4 := fun x x0 x1 => by rw [hM34.2.1.at 218 (by decide)]; exact hW.1.cm.2 x x0 x1
      have hc0 := hW.1.cm.1
      refine bw_aload rfl rfl ?_
      refine bw_getr rfl rfl (hR _ _) ?_
      refine bw_aload rfl rfl ?_
      refine bw_getr rfl rfl (hR _ _) ?_
      refine bw_push rfl ?_
      refine bw_callVNi (e := d - 1) (as := [_, _]) rfl (by omega) rfl rfl (Nat.le_of_ble_eq_true rfl) (Nat.le_of_ble_eq_true rfl) rfl (c_countTakes hR (by first | exact Or.inl rfl | exact Or.inr rfl) rfl rfl hC0 rfl (by omega) (fun j j0 j1 => by rw [gA.at 546 (fun z => by omega), z546 j j0 (by omega)]; omega) (by omega) h4 (by omega) hct (by omega)) (fun r46 M46 hM46 => ?_)
      obtain ⟨c2, vT⟩ := hM46
      have hI : OKP r M M46 (k + 1) := by
        obtain ⟨r2, e2, i2, f2⟩ := tki_ok hW.1 hM34 vT rfl
        exact ⟨r2, e2, i2, hW.2.trans f2⟩
      refine bw_ret rfl rfl ?_
      first
      | exact ⟨rfl, _, rfl, OKP_refl h (by omega), Or.inr ⟨by omega, rfl⟩⟩
      | (refine ⟨rfl, _, rfl, hI, Or.inl ⟨by omega, ?_⟩⟩
         rw [vT.2.2.2.1, tk_eq (M := wI W 569 (paF (gI M 569) l (gI M 568 0) (fun _ => 0))) (by rw [gI_wI_ne (by decide), gI_wI_ne (by decide), e8]) (by rw [gI_wI_eq, gI_wI_eq])]
         have hh := tk_pa hW.1 (l := l) (g := fun _ => 0) (by rw [e8]; omega) (gA.at 18 (fun z => by omega)) (fun i i0 i1 => gA.at _ (fun z => by omega)) (fun f f0 f1 q => rfl)
         rw [e8, e9] at hh
         rw [hh]
         refine tk_P (fun i i0 i1 q => ?_)
         have e0 : tkD (gI M34 546) (gI M 568 0) 0 i = 0 := by
           unfold tkD
           rw [if_pos (by omega), gA.at 546 (fun z => by omega)]
           exact z546 _ (by omega) (by omega)
         show pcT _ _ _ l i (tkD (gI M34 546) (gI M 568 0) 0 i) q = _
         rw [e0])
    · skip
      refine bw_push rfl ?_
      refine bw_ret rfl rfl ?_
      first
      | exact ⟨rfl, _, rfl, OKP_refl h (by omega), Or.inr ⟨by omega, rfl⟩⟩
      | (refine ⟨rfl, _, rfl, hI, Or.inl ⟨by omega, ?_⟩⟩
         rw [vT.2.2.2.1, tk_eq (M := wI W 569 (paF (gI M 569) l (gI M 568 0) (fun _ => 0))) (by rw [gI_wI_ne (by decide), gI_wI_ne (by decide), e8]) (by rw [gI_wI_eq, gI_wI_eq])]
         have hh := tk_pa hW.1 (l := l) (g := fun _ => 0) (by rw [e8]; omega) (gA.at 18 (fun z => by omega)) (fun i i0 i1 => gA.at _ (fun z => by omega)) (fun f f0 f1 q => rfl)
         rw [e8, e9] at hh
         rw [hh]
         refine tk_P (fun i i0 i1 q => ?_)
         have e0 : tkD (gI M34 546) (gI M 568 0) 0 i = 0 := by
           unfold tkD
           rw [if_pos (by omega), gA.at 546 (fun z => by omega)]
           exact z546 _ (by omega) (by omega)
         show pcT _ _ _ l i (tkD (gI M34 546) (gI M 568 0) 0 i) q = _
         rw [e0])
set_option maxRecDepth 20000 in
set_option maxHeartbeats 4000000 in
theorem x_doubled {d L : Nat} {M : abMem} {r : abRf} (hR : RF r M) {s : Nat} (hs : s = 372 ∨ s = 459) (hc : cur r = s) {k : Int} (h : INV r M k) {l w : Int} (hk : k ≤ 900000) (hd : 6 ≤ d) : abW d (0, 0) 114 0 (abEnt (abL 114) [vr (some 0), vi l, vi w]) [] (0, 0) (A0 L) M (qI (A0 L) (fun x N => OKP r M N (k + 1) ∧ ((0 ≤ l ∧ l < gI M 568 1 ∧ 0 ≤ w ∧ w ≤ 2) ∧ (w = 0 ∧ x = cN (pD (dbG (gI M 569) l) (mR M 0 l)) (gI M 568 0).toNat ∨ w = 1 ∧ x = cN (pE (dbG (gI M 569) l)) (gI M 568 0).toNat ∨ w = 2 ∧ x = tk (wI M 569 (paF (gI M 569) l (gI M 568 0) (dbG (gI M 569) l))) 582) ∨ ¬ (0 ≤ l ∧ l < gI M 568 1 ∧ 0 ≤ w ∧ w ≤ 2) ∧ x = -1))) := by
  rcases hs with rfl | rfl
  · have hS : SR M 372 (gI M 568) := by have q := h.sr; rw [hc] at q; exact q
    have b1 := h.fr
    have b2 := h.la
    have hrf := hR
    show abW d (0, 0) 114 0 [some (vr (some 0)), some (vi l), some (vi w)] [] (0, 0) (A0 L) M (qI (A0 L) (fun x N => OKP r M N (k + 1) ∧ ((0 ≤ l ∧ l < gI M 568 1 ∧ 0 ≤ w ∧ w ≤ 2) ∧ (w = 0 ∧ x = cN (pD (dbG (gI M 569) l) (mR M 0 l)) (gI M 568 0).toNat ∨ w = 1 ∧ x = cN (pE (dbG (gI M 569) l)) (gI M 568 0).toNat ∨ w = 2 ∧ x = tk (wI M 569 (paF (gI M 569) l (gI M 568 0) (dbG (gI M 569) l))) 582) ∨ ¬ (0 ≤ l ∧ l < gI M 568 1 ∧ 0 ≤ w ∧ w ≤ 2) ∧ x = -1)))
    refine bw_aload rfl rfl ?_
    refine bw_getr rfl rfl (cur_r hR hc) ?_
    refine bw_iload rfl rfl ?_
    refine bw_callVNj (e := d - 1) (as := [_]) rfl (by omega) rfl rfl (Nat.le_of_ble_eq_true rfl) (Nat.le_of_ble_eq_true rfl) rfl (c_hasLayer hR (by first | exact Or.inl rfl | exact Or.inr rfl) hS) (fun r5 hr5 => ?_)
    refine bw_ifne rfl (fun c8 => ?_) (fun c8 => ?_)
    · skip
      refine bw_aload rfl rfl ?_
      refine bw_iload rfl rfl ?_
      refine bw_callVv (e := d - 1) (as := [_]) rfl (by omega) rfl rfl (Nat.le_of_ble_eq_true rfl) (Nat.le_of_ble_eq_true rfl) rfl (c_putOnTwos hR (by first | exact Or.inl rfl | exact Or.inr rfl) hc h (by omega) (by omega)) (fun M15 hM15 => ?_)
      obtain ⟨gS, v15⟩ := hM15
      have hW := INV_sp h gS
      have e8 : gI M15 568 = gI M 568 := gS.at 568 (by decide)
      have e9 : gI M15 569 = gI M 569 := gS.at 569 (by decide)
      have hR := gS.RF hR
      have hSW := SR_sm hS gS (fun a a0 a1 (z : a = 546) => by omega)
      have hS := hSW
      have b3 := hW.1.fr
      have b4 := hW.1.la
      have hdb : ∀ j : Int, 0 ≤ j → j < gI M 568 0 → gI M15 546 j = dbG (gI M 569) l j := fun j j0 j1 => by
        rw [v15 j j0 j1]
        unfold dbG
        by_cases q : j % 2 = 1
        · rw [if_pos q, if_pos q, h.row ⟨by omega, by omega⟩ ⟨by omega, by omega⟩, mR0]
        · rw [if_neg q, if_neg q, h.row ⟨by omega, by omega⟩ ⟨j0, j1⟩, mR0]
      refine bw_iload rfl rfl ?_
      by_cases s19_0 : w = 0
      · refine bw_switch (t := 44) rfl (by rw [s19_0]; rfl) ?_
        refine bw_aload rfl rfl ?_
        refine bw_getr rfl rfl (hR _ _) ?_
        refine bw_getr rfl rfl (hR _ _) ?_
        refine bw_iload rfl rfl ?_
        refine bw_aldr rfl (by first | rfl | assumption) (by decide) (by omega) (by omega) ((hR _ _).trans (rr_row (fun _ => rfl) (by omega) (by omega) (by omega))) ?_
        refine bw_aload rfl rfl ?_
        refine bw_getr rfl rfl (hR _ _) ?_
        refine bw_aload rfl rfl ?_
        refine bw_getr rfl rfl (cur_r hR hc) ?_
        refine bw_getI rfl rfl ?_
        rw [show gI M15 372 0 = gI M 568 0 from hS.c0]
        refine bw_callSNe (e := d - 1) (as := [_, _, _]) rfl (by omega) rfl rfl (Nat.le_of_ble_eq_true rfl) (Nat.le_of_ble_eq_true rfl) (c_differences (z := 96) (y := 96) (by decide) (kfa (L := L) (b := 12) (n := 6) (v := (20, 96)) (by decide) (by decide) ⟨by omega, by omega⟩) rfl (by omega)) ?_
        rw [pD_symm, pD_cg (fun j j0 j1 => ⟨hdb j j0 j1, (congrFun (gS.at (12 + l.toNat) (fun z => by have z : 12 + l.toNat = 546 := z; omega)) j).trans (h.row ⟨by omega, by omega⟩ ⟨j0, j1⟩)⟩)]
        refine bw_ret rfl rfl ?_
        first
        | exact ⟨rfl, _, rfl, OKP_refl h (by omega), Or.inr ⟨by omega, rfl⟩⟩
        | exact ⟨rfl, _, rfl, ⟨r, rfl, INV_sx hW.1 hR rfl (sx_refl (fun _ => False) M15) (fun _ z => z.elim) hW.1.mk hW.1.pc (cmrO_le hW.1.cm (by omega)), hW.2⟩, Or.inr ⟨by omega, rfl⟩⟩
        | exact ⟨rfl, _, rfl, ⟨r, rfl, INV_sx hW.1 hR rfl (sx_refl (fun _ => False) M15) (fun _ z => z.elim) hW.1.mk hW.1.pc (cmrO_le hW.1.cm (by omega)), hW.2⟩, Or.inl ⟨by omega, Or.inl ⟨by omega, rfl⟩⟩⟩
        | exact ⟨rfl, _, rfl, ⟨r, rfl, INV_sx hW.1 hR rfl (sx_refl (fun _ => False) M15) (fun _ z => z.elim) hW.1.mk hW.1.pc (cmrO_le hW.1.cm (by omega)), hW.2⟩, Or.inl ⟨by omega, Or.inr (Or.inl ⟨by omega, rfl⟩)⟩⟩
        | (refine ⟨rfl, _, rfl, hI, Or.inl ⟨by omega, Or.inr (Or.inr ⟨by omega, ?_⟩)⟩⟩
           rw [vT.2.2.2.1, tk_eq (M := wI M15 569 (paF (gI M 569) l (gI M 568 0) (dbG (gI M 569) l))) (by rw [gI_wI_ne (by decide), gI_wI_ne (by decide), e8]) (by rw [gI_wI_eq, gI_wI_eq])]
           have hh := tk_pa hW.1 (l := l) (g := dbG (gI M 569) l) (by rw [e8]; omega) (gA.at 18 (fun z => by omega)) (fun i i0 i1 => gA.at _ (fun z => by omega)) (fun f f0 f1 q => rfl)
           rw [e8, e9] at hh
           rw [hh]
           refine tk_P (fun i i0 i1 q => ?_)
           have e0 : tkD (gI M96 546) (gI M 568 0) 0 i = dbG (gI M 569) l i := by
             unfold tkD
             rw [if_pos (by omega), gA.at 546 (fun z => by omega), Int.add_zero]
             exact hdb _ i0 i1
           show pcT _ _ _ l i (tkD (gI M96 546) (gI M 568 0) 0 i) q = _
           rw [e0])
      · skip
        by_cases s19_1 : w = 1
        · refine bw_switch (t := 68) rfl (by rw [s19_1]; rfl) ?_
          refine bw_aload rfl rfl ?_
          refine bw_getr rfl rfl (hR _ _) ?_
          refine bw_aload rfl rfl ?_
          refine bw_getr rfl rfl (cur_r hR hc) ?_
          refine bw_getI rfl rfl ?_
          rw [show gI M15 372 0 = gI M 568 0 from hS.c0]
          refine bw_callSNe (e := d - 1) (as := [_, _]) rfl (by omega) rfl rfl (Nat.le_of_ble_eq_true rfl) (Nat.le_of_ble_eq_true rfl) (c_exposures (z := 96) (by decide) rfl (by omega)) ?_
          rw [pE_cg hdb]
          refine bw_ret rfl rfl ?_
          first
          | exact ⟨rfl, _, rfl, OKP_refl h (by omega), Or.inr ⟨by omega, rfl⟩⟩
          | exact ⟨rfl, _, rfl, ⟨r, rfl, INV_sx hW.1 hR rfl (sx_refl (fun _ => False) M15) (fun _ z => z.elim) hW.1.mk hW.1.pc (cmrO_le hW.1.cm (by omega)), hW.2⟩, Or.inr ⟨by omega, rfl⟩⟩
          | exact ⟨rfl, _, rfl, ⟨r, rfl, INV_sx hW.1 hR rfl (sx_refl (fun _ => False) M15) (fun _ z => z.elim) hW.1.mk hW.1.pc (cmrO_le hW.1.cm (by omega)), hW.2⟩, Or.inl ⟨by omega, Or.inl ⟨by omega, rfl⟩⟩⟩
          | exact ⟨rfl, _, rfl, ⟨r, rfl, INV_sx hW.1 hR rfl (sx_refl (fun _ => False) M15) (fun _ z => z.elim) hW.1.mk hW.1.pc (cmrO_le hW.1.cm (by omega)), hW.2⟩, Or.inl ⟨by omega, Or.inr (Or.inl ⟨by omega, rfl⟩)⟩⟩
          | (refine ⟨rfl, _, rfl, hI, Or.inl ⟨by omega, Or.inr (Or.inr ⟨by omega, ?_⟩)⟩⟩
             rw [vT.2.2.2.1, tk_eq (M := wI M15 569 (paF (gI M 569) l (gI M 568 0) (dbG (gI M 569) l))) (by rw [gI_wI_ne (by decide), gI_wI_ne (by decide), e8]) (by rw [gI_wI_eq, gI_wI_eq])]
             have hh := tk_pa hW.1 (l := l) (g := dbG (gI M 569) l) (by rw [e8]; omega) (gA.at 18 (fun z => by omega)) (fun i i0 i1 => gA.at _ (fun z => by omega)) (fun f f0 f1 q => rfl)
             rw [e8, e9] at hh
             rw [hh]
             refine tk_P (fun i i0 i1 q => ?_)
             have e0 : tkD (gI M96 546) (gI M 568 0) 0 i = dbG (gI M 569) l i := by
               unfold tkD
               rw [if_pos (by omega), gA.at 546 (fun z => by omega), Int.add_zero]
               exact hdb _ i0 i1
             show pcT _ _ _ l i (tkD (gI M96 546) (gI M 568 0) 0 i) q = _
             rw [e0])
        · skip
          by_cases s19_2 : w = 2
          · refine bw_switch (t := 83) rfl (by rw [s19_2]; rfl) ?_
            refine bw_aload rfl rfl ?_
            refine bw_getr rfl rfl (hR _ _) ?_
            refine bw_aload rfl rfl ?_
            refine bw_getr rfl rfl (cur_r hR hc) ?_
            refine bw_aload rfl rfl ?_
            refine bw_getr rfl rfl (hR _ _) ?_
            refine bw_iload rfl rfl ?_
            refine bw_callVNv (e := d - 1) (as := [_, _, _]) rfl (by omega) rfl rfl (Nat.le_of_ble_eq_true rfl) (Nat.le_of_ble_eq_true rfl) rfl (c_aim hR (by omega)) (fun M96 hM96 => ?_)
            have hR := hM96.1
            have gA := am_sx hM96
            have hS2 := SR_sx hSW gA (fun a a0 a1 z => by omega)
            have hV2 := shV_e (S := gI M 568) (by have q := hW.1.sv; rw [e8] at q; exact q) (by rw [← e8]; exact b4.2) (fun a ha => gA.at a (fun z => by omega))
            have hC0 := CAM_0 hS2 ⟨hM96.2.2.2.1, by omega, by omega⟩ hV2 (hM96.2.2.2.2 (by omega)).1 (hM96.2.2.2.2 (by omega)).2.1 (hM96.2.2.2.2 (by omega)).2.2
            have h4 : gI M96 203 4 = gI M15 203 4 := hM96.2.2.1 4 (by decide)
            have hct : ∀ x : Int, 0 ≤ x → x < 3936 → gI M96 218 x ≤ gI M15 203 4 := fun x x0 x1 => by rw [hM96.2.1.at 218 (by decide)]; exact hW.1.cm.2 x x0 x1
            have hc0 := hW.1.cm.1
            refine bw_aload rfl rfl ?_
            refine bw_getr rfl rfl (hR _ _) ?_
            refine bw_aload rfl rfl ?_
            refine bw_getr rfl rfl (hR _ _) ?_
            refine bw_push rfl ?_
            refine bw_callVNi (e := d - 1) (as := [_, _]) rfl (by omega) rfl rfl (Nat.le_of_ble_eq_true rfl) (Nat.le_of_ble_eq_true rfl) rfl (c_countTakes hR (by first | exact Or.inl rfl | exact Or.inr rfl) rfl rfl hC0 rfl (by omega) (fun j j0 j1 => by rw [gA.at 546 (fun z => by omega), hdb j j0 j1]; exact db_in h.rb (by omega) j j0 j1) (by omega) h4 (by omega) hct (by omega)) (fun r108 M108 hM108 => ?_)
            obtain ⟨c2, vT⟩ := hM108
            have hI : OKP r M M108 (k + 1) := by
              obtain ⟨r2, e2, i2, f2⟩ := tki_ok hW.1 hM96 vT rfl
              exact ⟨r2, e2, i2, hW.2.trans f2⟩
            refine bw_ret rfl rfl ?_
            first
            | exact ⟨rfl, _, rfl, OKP_refl h (by omega), Or.inr ⟨by omega, rfl⟩⟩
            | exact ⟨rfl, _, rfl, ⟨r, rfl, INV_sx hW.1 hR rfl (sx_refl (fun _ => False) M15) (fun _ z => z.elim) hW.1.mk hW.1.pc (cmrO_le hW.1.cm (by omega)), hW.2⟩, Or.inr ⟨by omega, rfl⟩⟩
            | exact ⟨rfl, _, rfl, ⟨r, rfl, INV_sx hW.1 hR rfl (sx_refl (fun _ => False) M15) (fun _ z => z.elim) hW.1.mk hW.1.pc (cmrO_le hW.1.cm (by omega)), hW.2⟩, Or.inl ⟨by omega, Or.inl ⟨by omega, rfl⟩⟩⟩
            | exact ⟨rfl, _, rfl, ⟨r, rfl, INV_sx hW.1 hR rfl (sx_refl (fun _ => False) M15) (fun _ z => z.elim) hW.1.mk hW.1.pc (cmrO_le hW.1.cm (by omega)), hW.2⟩, Or.inl ⟨by omega, Or.inr (Or.inl ⟨by omega, rfl⟩)⟩⟩
            | (refine ⟨rfl, _, rfl, hI, Or.inl ⟨by omega, Or.inr (Or.inr ⟨by omega, ?_⟩)⟩⟩
               rw [vT.2.2.2.1, tk_eq (M := wI M15 569 (paF (gI M 569) l (gI M 568 0) (dbG (gI M 569) l))) (by rw [gI_wI_ne (by decide), gI_wI_ne (by decide), e8]) (by rw [gI_wI_eq, gI_wI_eq])]
               have hh := tk_pa hW.1 (l := l) (g := dbG (gI M 569) l) (by rw [e8]; omega) (gA.at 18 (fun z => by omega)) (fun i i0 i1 => gA.at _ (fun z => by omega)) (fun f f0 f1 q => rfl)
               rw [e8, e9] at hh
               rw [hh]
               refine tk_P (fun i i0 i1 q => ?_)
               have e0 : tkD (gI M96 546) (gI M 568 0) 0 i = dbG (gI M 569) l i := by
                 unfold tkD
                 rw [if_pos (by omega), gA.at 546 (fun z => by omega), Int.add_zero]
                 exact hdb _ i0 i1
               show pcT _ _ _ l i (tkD (gI M96 546) (gI M 568 0) 0 i) q = _
               rw [e0])
          · skip
            refine bw_switch (t := 112) rfl (by show (if (w) < (0 : Int) ∨ (2 : Int) < (w) then _ else _) = _; rw [if_pos (by omega)]; rfl) ?_
            refine bw_push rfl ?_
            refine bw_ret rfl rfl ?_
            first
            | exact ⟨rfl, _, rfl, OKP_refl h (by omega), Or.inr ⟨by omega, rfl⟩⟩
            | exact ⟨rfl, _, rfl, ⟨r, rfl, INV_sx hW.1 hR rfl (sx_refl (fun _ => False) M15) (fun _ z => z.elim) hW.1.mk hW.1.pc (cmrO_le hW.1.cm (by omega)), hW.2⟩, Or.inr ⟨by omega, rfl⟩⟩
            | exact ⟨rfl, _, rfl, ⟨r, rfl, INV_sx hW.1 hR rfl (sx_refl (fun _ => False) M15) (fun _ z => z.elim) hW.1.mk hW.1.pc (cmrO_le hW.1.cm (by omega)), hW.2⟩, Or.inl ⟨by omega, Or.inl ⟨by omega, rfl⟩⟩⟩
            | exact ⟨rfl, _, rfl, ⟨r, rfl, INV_sx hW.1 hR rfl (sx_refl (fun _ => False) M15) (fun _ z => z.elim) hW.1.mk hW.1.pc (cmrO_le hW.1.cm (by omega)), hW.2⟩, Or.inl ⟨by omega, Or.inr (Or.inl ⟨by omega, rfl⟩)⟩⟩
            | (refine ⟨rfl, _, rfl, hI, Or.inl ⟨by omega, Or.inr (Or.inr ⟨by omega, ?_⟩)⟩⟩
               rw [vT.2.2.2.1, tk_eq (M := wI M15 569 (paF (gI M 569) l (gI M 568 0) (dbG (gI M 569) l))) (by rw [gI_wI_ne (by decide), gI_wI_ne (by decide), e8]) (by rw [gI_wI_eq, gI_wI_eq])]
               have hh := tk_pa hW.1 (l := l) (g := dbG (gI M 569) l) (by rw [e8]; omega) (gA.at 18 (fun z => by omega)) (fun i i0 i1 => gA.at _ (fun z => by omega)) (fun f f0 f1 q => rfl)
               rw [e8, e9] at hh
               rw [hh]
               refine tk_P (fun i i0 i1 q => ?_)
               have e0 : tkD (gI M96 546) (gI M 568 0) 0 i = dbG (gI M 569) l i := by
                 unfold tkD
                 rw [if_pos (by omega), gA.at 546 (fun z => by omega), Int.add_zero]
                 exact hdb _ i0 i1
               show pcT _ _ _ l i (tkD (gI M96 546) (gI M 568 0) 0 i) q = _
               rw [e0])
    · skip
      refine bw_push rfl ?_
      refine bw_ret rfl rfl ?_
      first
      | exact ⟨rfl, _, rfl, OKP_refl h (by omega), Or.inr ⟨by omega, rfl⟩⟩
      | exact ⟨rfl, _, rfl, ⟨r, rfl, INV_sx hW.1 hR rfl (sx_refl (fun _ => False) M15) (fun _ z => z.elim) hW.1.mk hW.1.pc (cmrO_le hW.1.cm (by omega)), hW.2⟩, Or.inr ⟨by omega, rfl⟩⟩
      | exact ⟨rfl, _, rfl, ⟨r, rfl, INV_sx hW.1 hR rfl (sx_refl (fun _ => False) M15) (fun _ z => z.elim) hW.1.mk hW.1.pc (cmrO_le hW.1.cm (by omega)), hW.2⟩, Or.inl ⟨by omega, Or.inl ⟨by omega, rfl⟩⟩⟩
      | exact ⟨rfl, _, rfl, ⟨r, rfl, INV_sx hW.1 hR rfl (sx_refl (fun _ => False) M15) (fun _ z => z.elim) hW.1.mk hW.1.pc (cmrO_le hW.1.cm (by omega)), hW.2⟩, Or.inl ⟨by omega, Or.inr (Or.inl ⟨by omega, rfl⟩)⟩⟩
      | (refine ⟨rfl, _, rfl, hI, Or.inl ⟨by omega, Or.inr (Or.inr ⟨by omega, ?_⟩)⟩⟩
         rw [vT.2.2.2.1, tk_eq (M := wI M15 569 (paF (gI M 569) l (gI M 568 0) (dbG (gI M 569) l))) (by rw [gI_wI_ne (by decide), gI_wI_ne (by decide), e8]) (by rw [gI_wI_eq, gI_wI_eq])]
         have hh := tk_pa hW.1 (l := l) (g := dbG (gI M 569) l) (by rw [e8]; omega) (gA.at 18 (fun z => by omega)) (fun i i0 i1 => gA.at _ (fun z => by omega)) (fun f f0 f1 q => rfl)
         rw [e8, e9] at hh
         rw [hh]
         refine tk_P (fun i i0 i1 q => ?_)
         have e0 : tkD (gI M96 546) (gI M 568 0) 0 i = dbG (gI M 569) l i := by
           unfold tkD
           rw [if_pos (by omega), gA.at 546 (fun z => by omega), Int.add_zero]
           exact hdb _ i0 i1
         show pcT _ _ _ l i (tkD (gI M96 546) (gI M 568 0) 0 i) q = _
         rw [e0])
  · have hS : SR M 459 (gI M 568) := by have q := h.sr; rw [hc] at q; exact q
    have b1 := h.fr
    have b2 := h.la
    have hrf := hR
    show abW d (0, 0) 114 0 [some (vr (some 0)), some (vi l), some (vi w)] [] (0, 0) (A0 L) M (qI (A0 L) (fun x N => OKP r M N (k + 1) ∧ ((0 ≤ l ∧ l < gI M 568 1 ∧ 0 ≤ w ∧ w ≤ 2) ∧ (w = 0 ∧ x = cN (pD (dbG (gI M 569) l) (mR M 0 l)) (gI M 568 0).toNat ∨ w = 1 ∧ x = cN (pE (dbG (gI M 569) l)) (gI M 568 0).toNat ∨ w = 2 ∧ x = tk (wI M 569 (paF (gI M 569) l (gI M 568 0) (dbG (gI M 569) l))) 582) ∨ ¬ (0 ≤ l ∧ l < gI M 568 1 ∧ 0 ≤ w ∧ w ≤ 2) ∧ x = -1)))
    refine bw_aload rfl rfl ?_
    refine bw_getr rfl rfl (cur_r hR hc) ?_
    refine bw_iload rfl rfl ?_
    refine bw_callVNj (e := d - 1) (as := [_]) rfl (by omega) rfl rfl (Nat.le_of_ble_eq_true rfl) (Nat.le_of_ble_eq_true rfl) rfl (c_hasLayer hR (by first | exact Or.inl rfl | exact Or.inr rfl) hS) (fun r5 hr5 => ?_)
    refine bw_ifne rfl (fun c8 => ?_) (fun c8 => ?_)
    · skip
      refine bw_aload rfl rfl ?_
      refine bw_iload rfl rfl ?_
      refine bw_callVv (e := d - 1) (as := [_]) rfl (by omega) rfl rfl (Nat.le_of_ble_eq_true rfl) (Nat.le_of_ble_eq_true rfl) rfl (c_putOnTwos hR (by first | exact Or.inl rfl | exact Or.inr rfl) hc h (by omega) (by omega)) (fun M15 hM15 => ?_)
      obtain ⟨gS, v15⟩ := hM15
      have hW := INV_sp h gS
      have e8 : gI M15 568 = gI M 568 := gS.at 568 (by decide)
      have e9 : gI M15 569 = gI M 569 := gS.at 569 (by decide)
      have hR := gS.RF hR
      have hSW := SR_sm hS gS (fun a a0 a1 (z : a = 546) => by omega)
      have hS := hSW
      have b3 := hW.1.fr
      have b4 := hW.1.la
      have hdb : ∀ j : Int, 0 ≤ j → j < gI M 568 0 → gI M15 546 j = dbG (gI M 569) l j := fun j j0 j1 => by
        rw [v15 j j0 j1]
        unfold dbG
        by_cases q : j % 2 = 1
        · rw [if_pos q, if_pos q, h.row ⟨by omega, by omega⟩ ⟨by omega, by omega⟩, mR0]
        · rw [if_neg q, if_neg q, h.row ⟨by omega, by omega⟩ ⟨j0, j1⟩, mR0]
      refine bw_iload rfl rfl ?_
      by_cases s19_0 : w = 0
      · refine bw_switch (t := 44) rfl (by rw [s19_0]; rfl) ?_
        refine bw_aload rfl rfl ?_
        refine bw_getr rfl rfl (hR _ _) ?_
        refine bw_getr rfl rfl (hR _ _) ?_
        refine bw_iload rfl rfl ?_
        refine bw_aldr rfl (by first | rfl | assumption) (by decide) (by omega) (by omega) ((hR _ _).trans (rr_row (fun _ => rfl) (by omega) (by omega) (by omega))) ?_
        refine bw_aload rfl rfl ?_
        refine bw_getr rfl rfl (hR _ _) ?_
        refine bw_aload rfl rfl ?_
        refine bw_getr rfl rfl (cur_r hR hc) ?_
        refine bw_getI rfl rfl ?_
        rw [show gI M15 459 0 = gI M 568 0 from hS.c0]
        refine bw_callSNe (e := d - 1) (as := [_, _, _]) rfl (by omega) rfl rfl (Nat.le_of_ble_eq_true rfl) (Nat.le_of_ble_eq_true rfl) (c_differences (z := 96) (y := 96) (by decide) (kfa (L := L) (b := 12) (n := 6) (v := (20, 96)) (by decide) (by decide) ⟨by omega, by omega⟩) rfl (by omega)) ?_
        rw [pD_symm, pD_cg (fun j j0 j1 => ⟨hdb j j0 j1, (congrFun (gS.at (12 + l.toNat) (fun z => by have z : 12 + l.toNat = 546 := z; omega)) j).trans (h.row ⟨by omega, by omega⟩ ⟨j0, j1⟩)⟩)]
        refine bw_ret rfl rfl ?_
        first
        | exact ⟨rfl, _, rfl, OKP_refl h (by omega), Or.inr ⟨by omega, rfl⟩⟩
        | exact ⟨rfl, _, rfl, ⟨r, rfl, INV_sx hW.1 hR rfl (sx_refl (fun _ => False) M15) (fun _ z => z.elim) hW.1.mk hW.1.pc (cmrO_le hW.1.cm (by omega)), hW.2⟩, Or.inr ⟨by omega, rfl⟩⟩
        | exact ⟨rfl, _, rfl, ⟨r, rfl, INV_sx hW.1 hR rfl (sx_refl (fun _ => False) M15) (fun _ z => z.elim) hW.1.mk hW.1.pc (cmrO_le hW.1.cm (by omega)), hW.2⟩, Or.inl ⟨by omega, Or.inl ⟨by omega, rfl⟩⟩⟩
        | exact ⟨rfl, _, rfl, ⟨r, rfl, INV_sx hW.1 hR rfl (sx_refl (fun _ => False) M15) (fun _ z => z.elim) hW.1.mk hW.1.pc (cmrO_le hW.1.cm (by omega)), hW.2⟩, Or.inl ⟨by omega, Or.inr (Or.inl ⟨by omega, rfl⟩)⟩⟩
        | (refine ⟨rfl, _, rfl, hI, Or.inl ⟨by omega, Or.inr (Or.inr ⟨by omega, ?_⟩)⟩⟩
           rw [vT.2.2.2.1, tk_eq (M := wI M15 569 (paF (gI M 569) l (gI M 568 0) (dbG (gI M 569) l))) (by rw [gI_wI_ne (by decide), gI_wI_ne (by decide), e8]) (by rw [gI_wI_eq, gI_wI_eq])]
           have hh := tk_pa hW.1 (l := l) (g := dbG (gI M 569) l) (by rw [e8]; omega) (gA.at 18 (fun z => by omega)) (fun i i0 i1 => gA.at _ (fun z => by omega)) (fun f f0 f1 q => rfl)
           rw [e8, e9] at hh
           rw [hh]
           refine tk_P (fun i i0 i1 q => ?_)
           have e0 : tkD (gI M96 546) (gI M 568 0) 0 i = dbG (gI M 569) l i := by
             unfold tkD
             rw [if_pos (by omega), gA.at 546 (fun z => by omega), Int.add_zero]
             exact hdb _ i0 i1
           show pcT _ _ _ l i (tkD (gI M96 546) (gI M 568 0) 0 i) q = _
           rw [e0])
      · skip
        by_cases s19_1 : w = 1
        · refine bw_switch (t := 68) rfl (by rw [s19_1]; rfl) ?_
          refine bw_aload rfl rfl ?_
          refine bw_getr rfl rfl (hR _ _) ?_
          refine bw_aload rfl rfl ?_
          refine bw_getr rfl rfl (cur_r hR hc) ?_
          refine bw_getI rfl rfl ?_
          rw [show gI M15 459 0 = gI M 568 0 from hS.c0]
          refine bw_callSNe (e := d - 1) (as := [_, _]) rfl (by omega) rfl rfl (Nat.le_of_ble_eq_true rfl) (Nat.le_of_ble_eq_true rfl) (c_exposures (z := 96) (by decide) rfl (by omega)) ?_
          rw [pE_cg hdb]
          refine bw_ret rfl rfl ?_
          first
          | exact ⟨rfl, _, rfl, OKP_refl h (by omega), Or.inr ⟨by omega, rfl⟩⟩
          | exact ⟨rfl, _, rfl, ⟨r, rfl, INV_sx hW.1 hR rfl (sx_refl (fun _ => False) M15) (fun _ z => z.elim) hW.1.mk hW.1.pc (cmrO_le hW.1.cm (by omega)), hW.2⟩, Or.inr ⟨by omega, rfl⟩⟩
          | exact ⟨rfl, _, rfl, ⟨r, rfl, INV_sx hW.1 hR rfl (sx_refl (fun _ => False) M15) (fun _ z => z.elim) hW.1.mk hW.1.pc (cmrO_le hW.1.cm (by omega)), hW.2⟩, Or.inl ⟨by omega, Or.inl ⟨by omega, rfl⟩⟩⟩
          | exact ⟨rfl, _, rfl, ⟨r, rfl, INV_sx hW.1 hR rfl (sx_refl (fun _ => False) M15) (fun _ z => z.elim) hW.1.mk hW.1.pc (cmrO_le hW.1.cm (by omega)), hW.2⟩, Or.inl ⟨by omega, Or.inr (Or.inl ⟨by omega, rfl⟩)⟩⟩
          | (refine ⟨rfl, _, rfl, hI, Or.inl ⟨by omega, Or.inr (Or.inr ⟨by omega, ?_⟩)⟩⟩
             rw [vT.2.2.2.1, tk_eq (M := wI M15 569 (paF (gI M 569) l (gI M 568 0) (dbG (gI M 569) l))) (by rw [gI_wI_ne (by decide), gI_wI_ne (by decide), e8]) (by rw [gI_wI_eq, gI_wI_eq])]
             have hh := tk_pa hW.1 (l := l) (g := dbG (gI M 569) l) (by rw [e8]; omega) (gA.at 18 (fun z => by omega)) (fun i i0 i1 => gA.at _ (fun z => by omega)) (fun f f0 f1 q => rfl)
             rw [e8, e9] at hh
             rw [hh]
             refine tk_P (fun i i0 i1 q => ?_)
             have e0 : tkD (gI M96 546) (gI M 568 0) 0 i = dbG (gI M 569) l i := by
               unfold tkD
               rw [if_pos (by omega), gA.at 546 (fun z => by omega), Int.add_zero]
               exact hdb _ i0 i1
             show pcT _ _ _ l i (tkD (gI M96 546) (gI M 568 0) 0 i) q = _
             rw [e0])
        · skip
          by_cases s19_2 : w = 2
          · refine bw_switch (t := 83) rfl (by rw [s19_2]; rfl) ?_
            refine bw_aload rfl rfl ?_
            refine bw_getr rfl rfl (hR _ _) ?_
            refine bw_aload rfl rfl ?_
            refine bw_getr rfl rfl (cur_r hR hc) ?_
            refine bw_aload rfl rfl ?_
            refine bw_getr rfl rfl (hR _ _) ?_
            refine bw_iload rfl rfl ?_
            refine bw_callVNv (e := d - 1) (as := [_, _, _]) rfl (by omega) rfl rfl (Nat.le_of_ble_eq_true rfl) (Nat.le_of_ble_eq_true rfl) rfl (c_aim hR (by omega)) (fun M96 hM96 => ?_)
            have hR := hM96.1
            have gA := am_sx hM96
            have hS2 := SR_sx hSW gA (fun a a0 a1 z => by omega)
            have hV2 := shV_e (S := gI M 568) (by have q := hW.1.sv; rw [e8] at q; exact q) (by rw [← e8]; exact b4.2) (fun a ha => gA.at a (fun z => by omega))
            have hC0 := CAM_0 hS2 ⟨hM96.2.2.2.1, by omega, by omega⟩ hV2 (hM96.2.2.2.2 (by omega)).1 (hM96.2.2.2.2 (by omega)).2.1 (hM96.2.2.2.2 (by omega)).2.2
            have h4 : gI M96 203 4 = gI M15 203 4 := hM96.2.2.1 4 (by decide)
            have hct : ∀ x : Int, 0 ≤ x → x < 3936 → gI M96 218 x ≤ gI M15 203 4 := fun x x0 x1 => by rw [hM96.2.1.at 218 (by decide)]; exact hW.1.cm.2 x x0 x1
            have hc0 := hW.1.cm.1
            refine bw_aload rfl rfl ?_
            refine bw_getr rfl rfl (hR _ _) ?_
            refine bw_aload rfl rfl ?_
            refine bw_getr rfl rfl (hR _ _) ?_
            refine bw_push rfl ?_
            refine bw_callVNi (e := d - 1) (as := [_, _]) rfl (by omega) rfl rfl (Nat.le_of_ble_eq_true rfl) (Nat.le_of_ble_eq_true rfl) rfl (c_countTakes hR (by first | exact Or.inl rfl | exact Or.inr rfl) rfl rfl hC0 rfl (by omega) (fun j j0 j1 => by rw [gA.at 546 (fun z => by omega), hdb j j0 j1]; exact db_in h.rb (by omega) j j0 j1) (by omega) h4 (by omega) hct (by omega)) (fun r108 M108 hM108 => ?_)
            obtain ⟨c2, vT⟩ := hM108
            have hI : OKP r M M108 (k + 1) := by
              obtain ⟨r2, e2, i2, f2⟩ := tki_ok hW.1 hM96 vT rfl
              exact ⟨r2, e2, i2, hW.2.trans f2⟩
            refine bw_ret rfl rfl ?_
            first
            | exact ⟨rfl, _, rfl, OKP_refl h (by omega), Or.inr ⟨by omega, rfl⟩⟩
            | exact ⟨rfl, _, rfl, ⟨r, rfl, INV_sx hW.1 hR rfl (sx_refl (fun _ => False) M15) (fun _ z => z.elim) hW.1.mk hW.1.pc (cmrO_le hW.1.cm (by omega)), hW.2⟩, Or.inr ⟨by omega, rfl⟩⟩
            | exact ⟨rfl, _, rfl, ⟨r, rfl, INV_sx hW.1 hR rfl (sx_refl (fun _ => False) M15) (fun _ z => z.elim) hW.1.mk hW.1.pc (cmrO_le hW.1.cm (by omega)), hW.2⟩, Or.inl ⟨by omega, Or.inl ⟨by omega, rfl⟩⟩⟩
            | exact ⟨rfl, _, rfl, ⟨r, rfl, INV_sx hW.1 hR rfl (sx_refl (fun _ => False) M15) (fun _ z => z.elim) hW.1.mk hW.1.pc (cmrO_le hW.1.cm (by omega)), hW.2⟩, Or.inl ⟨by omega, Or.inr (Or.inl ⟨by omega, rfl⟩)⟩⟩
            | (refine ⟨rfl, _, rfl, hI, Or.inl ⟨by omega, Or.inr (Or.inr ⟨by omega, ?_⟩)⟩⟩
               rw [vT.2.2.2.1, tk_eq (M := wI M15 569 (paF (gI M 569) l (gI M 568 0) (dbG (gI M 569) l))) (by rw [gI_wI_ne (by decide), gI_wI_ne (by decide), e8]) (by rw [gI_wI_eq, gI_wI_eq])]
               have hh := tk_pa hW.1 (l := l) (g := dbG (gI M 569) l) (by rw [e8]; omega) (gA.at 18 (fun z => by omega)) (fun i i0 i1 => gA.at _ (fun z => by omega)) (fun f f0 f1 q => rfl)
               rw [e8, e9] at hh
               rw [hh]
               refine tk_P (fun i i0 i1 q => ?_)
               have e0 : tkD (gI M96 546) (gI M 568 0) 0 i = dbG (gI M 569) l i := by
                 unfold tkD
                 rw [if_pos (by omega), gA.at 546 (fun z => by omega), Int.add_zero]
                 exact hdb _ i0 i1
               show pcT _ _ _ l i (tkD (gI M96 546) (gI M 568 0) 0 i) q = _
               rw [e0])
          · skip
            refine bw_switch (t := 112) rfl (by show (if (w) < (0 : Int) ∨ (2 : Int) < (w) then _ else _) = _; rw [if_pos (by omega)]; rfl) ?_
            refine bw_push rfl ?_
            refine bw_ret rfl rfl ?_
            first
            | exact ⟨rfl, _, rfl, OKP_refl h (by omega), Or.inr ⟨by omega, rfl⟩⟩
            | exact ⟨rfl, _, rfl, ⟨r, rfl, INV_sx hW.1 hR rfl (sx_refl (fun _ => False) M15) (fun _ z => z.elim) hW.1.mk hW.1.pc (cmrO_le hW.1.cm (by omega)), hW.2⟩, Or.inr ⟨by omega, rfl⟩⟩
            | exact ⟨rfl, _, rfl, ⟨r, rfl, INV_sx hW.1 hR rfl (sx_refl (fun _ => False) M15) (fun _ z => z.elim) hW.1.mk hW.1.pc (cmrO_le hW.1.cm (by omega)), hW.2⟩, Or.inl ⟨by omega, Or.inl ⟨by omega, rfl⟩⟩⟩
            | exact ⟨rfl, _, rfl, ⟨r, rfl, INV_sx hW.1 hR rfl (sx_refl (fun _ => False) M15) (fun _ z => z.elim) hW.1.mk hW.1.pc (cmrO_le hW.1.cm (by omega)), hW.2⟩, Or.inl ⟨by omega, Or.inr (Or.inl ⟨by omega, rfl⟩)⟩⟩
            | (refine ⟨rfl, _, rfl, hI, Or.inl ⟨by omega, Or.inr (Or.inr ⟨by omega, ?_⟩)⟩⟩
               rw [vT.2.2.2.1, tk_eq (M := wI M15 569 (paF (gI M 569) l (gI M 568 0) (dbG (gI M 569) l))) (by rw [gI_wI_ne (by decide), gI_wI_ne (by decide), e8]) (by rw [gI_wI_eq, gI_wI_eq])]
               have hh := tk_pa hW.1 (l := l) (g := dbG (gI M 569) l) (by rw [e8]; omega) (gA.at 18 (fun z => by omega)) (fun i i0 i1 => gA.at _ (fun z => by omega)) (fun f f0 f1 q => rfl)
               rw [e8, e9] at hh
               rw [hh]
               refine tk_P (fun i i0 i1 q => ?_)
               have e0 : tkD (gI M96 546) (gI M 568 0) 0 i = dbG (gI M 569) l i := by
                 unfold tkD
                 rw [if_pos (by omega), gA.at 546 (fun z => by omega), Int.add_zero]
                 exact hdb _ i0 i1
               show pcT _ _ _ l i (tkD (gI M96 546) (gI M 568 0) 0 i) q = _
               rw [e0])
    · skip
      refine bw_push rfl ?_
      refine bw_ret rfl rfl ?_
      first
      | exact ⟨rfl, _, rfl, OKP_refl h (by omega), Or.inr ⟨by omega, rfl⟩⟩
      | exact ⟨rfl, _, rfl, ⟨r, rfl, INV_sx hW.1 hR rfl (sx_refl (fun _ => False) M15) (fun _ z => z.elim) hW.1.mk hW.1.pc (cmrO_le hW.1.cm (by omega)), hW.2⟩, Or.inr ⟨by omega, rfl⟩⟩
      | exact ⟨rfl, _, rfl, ⟨r, rfl, INV_sx hW.1 hR rfl (sx_refl (fun _ => False) M15) (fun _ z => z.elim) hW.1.mk hW.1.pc (cmrO_le hW.1.cm (by omega)), hW.2⟩, Or.inl ⟨by omega, Or.inl ⟨by omega, rfl⟩⟩⟩
      | exact ⟨rfl, _, rfl, ⟨r, rfl, INV_sx hW.1 hR rfl (sx_refl (fun _ => False) M15) (fun _ z => z.elim) hW.1.mk hW.1.pc (cmrO_le hW.1.cm (by omega)), hW.2⟩, Or.inl ⟨by omega, Or.inr (Or.inl ⟨by omega, rfl⟩)⟩⟩
      | (refine ⟨rfl, _, rfl, hI, Or.inl ⟨by omega, Or.inr (Or.inr ⟨by omega, ?_⟩)⟩⟩
         rw [vT.2.2.2.1, tk_eq (M := wI M15 569 (paF (gI M 569) l (gI M 568 0) (dbG (gI M 569) l))) (by rw [gI_wI_ne (by decide), gI_wI_ne (by decide), e8]) (by rw [gI_wI_eq, gI_wI_eq])]
         have hh := tk_pa hW.1 (l := l) (g := dbG (gI M 569) l) (by rw [e8]; omega) (gA.at 18 (fun z => by omega)) (fun i i0 i1 => gA.at _ (fun z => by omega)) (fun f f0 f1 q => rfl)
         rw [e8, e9] at hh
         rw [hh]
         refine tk_P (fun i i0 i1 q => ?_)
         have e0 : tkD (gI M96 546) (gI M 568 0) 0 i = dbG (gI M 569) l i := by
           unfold tkD
           rw [if_pos (by omega), gA.at 546 (fun z => by omega), Int.add_zero]
           exact hdb _ i0 i1
         show pcT _ _ _ l i (tkD (gI M96 546) (gI M 568 0) 0 i) q = _
         rw [e0])
