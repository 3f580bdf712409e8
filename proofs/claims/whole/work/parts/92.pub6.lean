abbrev pFp (a : Nat) : Prop := (204 ≤ a ∧ a < 218) ∨ a = 548 ∨ a = 0
/-- what findPictures keeps -/
def fpI (N2 K : abMem) (s : Nat) (S st : Int → Int) (R0 : Int → Int → Int) (FB : Int → Int) (P : Int → Int → Int) (c i : Int) : Prop := CAM K s S st R0 FB 0 c ∧ sc pFp N2 K ∧ gI K 0 = gI N2 0 ∧ (∀ x : Int, 0 ≤ x → x < c → eq8 (apF K x) (apF N2 x)) ∧ ∀ f : Int, 0 ≤ f → f < i → (0 ≤ gI K 548 f ∧ gI K 548 f < c) ∧ PAP (apF K (gI K 548 f)) (P f)
theorem fpI_s {N2 K K2 : abMem} {s : Nat} {S st : Int → Int} {R0 : Int → Int → Int} {FB : Int → Int} {P : Int → Int → Int} {c c2 i x : Int} (h : fpI N2 K s S st R0 FB P c i) (hs : s = 372 ∨ s = 459) (hi : 0 ≤ i) (hX : ∃ y : Int, (0 ≤ y ∧ y < c) ∧ PAP (apF N2 y) (P i)) (w1 : sc pCa K K2) (w2 : CAM K2 s S st R0 FB 0 c2) (w3 : (0 ≤ x ∧ x < c2) ∧ PAP (apF K2 x) (P i)) (w4 : ∀ y : Int, 0 ≤ y → y < c → eq8 (apF K2 y) (apF K y)) (w5 : c2 = c ∨ (c2 = c + 1 ∧ x = c ∧ ∀ y : Int, 0 ≤ y → y < c → ¬ PAP (apF K y) (P i))) : fpI N2 (sI K2 548 i x) s S st R0 FB P c (i + 1) := by
  obtain ⟨h1, h2, h3, h4, h5⟩ := h
  obtain ⟨y, y0, y1⟩ := hX
  have e2 : c2 = c := by
    rcases w5 with q | ⟨_, _, q⟩
    · exact q
    · exact absurd (PAP_g y1 (h4 y y0.1 y0.2)) (q y y0.1 y0.2)
  subst e2
  have g : sc (fun a => a = 548) K2 (sI K2 548 i x) := ((sm_refl (fun a => a = 548) K2).sI _ _ rfl).sc
  have n548 : ¬ pCa 548 := fun z => by have := z.2; omega
  refine ⟨CAM_sp w2 hs g (fun a (z : a = 548) => by omega), (h2.trans (w1.mono (fun a z => Or.inl z))).trans (g.mono (fun a z => Or.inr (Or.inl z))), by rw [gI_sI_ne (by decide), w1.at 0 (fun z => by have := z.1; omega)]; exact h3, fun z z0 z1 => (w4 z z0 z1).trans (h4 z z0 z1), fun f f0 f1 => ?_⟩
  by_cases q : f = i
  · rw [q, gI_sI_eq]; exact w3
  · rw [gI_sI_nj q, w1.at 548 n548]
    have a := h5 f f0 (by omega)
    exact ⟨a.1, PAP_g a.2 (w4 _ a.1.1 a.1.2)⟩
set_option maxRecDepth 20000 in
set_option maxHeartbeats 4000000 in
theorem c_fp2 {d L : Nat} {M : abMem} {r : abRf} (hR : RF r M) {s : Nat} (hs : s = 372 ∨ s = 459) (hc : cur r = s) {N2 : abMem} {S st : Int → Int} {R0 : Int → Int → Int} {FB : Int → Int} {P : Int → Int → Int} {c : Int} (hr : r.2.2.1 = some s) (hr2 : r.2.2.2 = some 10) (hX : ∀ i : Int, 0 ≤ i → i < S 0 → ∃ y : Int, (0 ≤ y ∧ y < c) ∧ PAP (apF N2 y) (P i)) (hP : ∀ i : Int, 0 ≤ i → i < S 0 → ∀ q : Int, P i q = pcT S st R0 0 i (gI N2 12 i) q) (hv : ∀ i : Int, 0 ≤ i → i < S 0 → 0 ≤ gI N2 12 i ∧ gI N2 12 i ≤ 99) (hf : 0 ≤ S 0 ∧ S 0 ≤ 96) (g0 : fpI N2 M s S st R0 FB P c 0) (hd : 6 ≤ d) : abW d (0, 0) 132 62 [some (vr (some 0)), some (vi 0)] [] (0, 0) (A0 L) M (qV (A0 L) (fun G => ∃ K : abMem, fpI N2 K s S st R0 FB P c (S 0) ∧ G = sI K 0 14 1)) := by
  rcases hs with rfl | rfl
  · have L62 : ∀ (kf : Nat) (K : abMem) (i : Int), (fpI N2 K 372 S st R0 FB P c i) → (0 ≤ i ∧ i ≤ S 0) → ((S 0 - i).toNat) < kf → abW d (0, 0) 132 62 [some (vr (some 0)), some (vi i)] [] (0, 0) (A0 L) (K) (qV (A0 L) (fun G => ∃ K : abMem, fpI N2 K 372 S st R0 FB P c (S 0) ∧ G = sI K 0 14 1)) := by
      intro kf
      induction kf with
      | zero => intro K  i  k1 k2 hm9; exact absurd hm9 (Nat.not_lt_zero _)
      | succ kf ih62 =>
        intro K  i  k1 k2 hm62
        have ih := ih62
        have hR : RF r K := fun a j => by
          rw [← hR a j]
          show K.2.2 a j = M.2.2 a j
          rw [k1.2.1.1, g0.2.1.1]
        have hS := k1.1.sr
        refine bw_iload rfl rfl ?_
        refine bw_aload rfl rfl ?_
        refine bw_getr rfl rfl (cur_r hR hc) ?_
        refine bw_getI rfl rfl ?_
        rw [show gI K 372 0 = S 0 from hS.c0]
        refine bw_icge rfl (fun c70 => ?_) (fun c70 => ?_)
        · skip
          refine bw_aload rfl rfl ?_
          refine bw_push rfl ?_
          refine bw_putZ rfl rfl (by omega) ?_
          refine bw_retv rfl rfl ?_
          obtain rfl : i = S 0 := by omega
          exact ⟨rfl, rfl, K, k1, rfl⟩
        · skip
          refine bw_aload rfl rfl ?_
          refine bw_getr rfl rfl (hR _ _) ?_
          refine bw_iload rfl rfl ?_
          refine bw_aload rfl rfl ?_
          refine bw_getr rfl rfl (hR _ _) ?_
          refine bw_iload rfl rfl ?_
          refine bw_aload rfl rfl ?_
          refine bw_getr rfl rfl (hR _ _) ?_
          refine bw_getr rfl rfl (hR _ _) ?_
          refine bw_push rfl ?_
          refine bw_aldr rfl (by first | rfl | assumption) (by decide) (by omega) (by omega) ((hR _ _).trans (rr_row (fun _ => rfl) (by omega) (by omega) (by omega))) ?_
          refine bw_iload rfl rfl ?_
          refine bw_aldi rfl rfl (by omega) (by omega) ?_
          rw [show gI K (12 + (0 : Int).toNat) = gI N2 12 from k1.2.1.at 12 (fun z => by omega)]
          have hb := hv i (by omega) (by omega)
          refine bw_callVNi (e := d - 1) (as := [_, _]) rfl (by omega) rfl rfl (Nat.le_of_ble_eq_true rfl) (Nat.le_of_ble_eq_true rfl) rfl (c_pictureOf hR (by first | exact Or.inl rfl | exact Or.inr rfl) hr hr2 k1.1 (by omega) hb (by omega)) (fun r94 M94 hM94 => ?_)
          obtain ⟨c2, w1, w2, w3, w4, w5⟩ := hM94
          have ep := fun q : Int => (hP i (by omega) (by omega) q).symm
          refine bw_asti rfl (by first | rfl | assumption) (by omega) (by omega) ?_
          refine bw_iinc (ls2 := [_, _]) rfl rfl rfl ⟨by omega, by omega⟩ rfl ?_
          refine bw_goto rfl ?_
          exact ih _ _ (fpI_s k1 (by first | exact Or.inl rfl | exact Or.inr rfl) (by omega) (hX i (by omega) (by omega)) w1 w2 ⟨w3.1, PAP_congr w3.2 (fun q _ _ => ep q)⟩ w4 (w5.elim Or.inl (fun z => Or.inr ⟨z.1, z.2.1, fun y y0 y1 p => z.2.2 y y0 y1 (PAP_congr p (fun q _ _ => (ep q).symm))⟩))) (by omega) (by omega)
    exact L62 98 M 0 g0 (by omega) (by omega)
  · have L62 : ∀ (kf : Nat) (K : abMem) (i : Int), (fpI N2 K 459 S st R0 FB P c i) → (0 ≤ i ∧ i ≤ S 0) → ((S 0 - i).toNat) < kf → abW d (0, 0) 132 62 [some (vr (some 0)), some (vi i)] [] (0, 0) (A0 L) (K) (qV (A0 L) (fun G => ∃ K : abMem, fpI N2 K 459 S st R0 FB P c (S 0) ∧ G = sI K 0 14 1)) := by
      intro kf
      induction kf with
      | zero => intro K  i  k1 k2 hm9; exact absurd hm9 (Nat.not_lt_zero _)
      | succ kf ih62 =>
        intro K  i  k1 k2 hm62
        have ih := ih62
        have hR : RF r K := fun a j => by
          rw [← hR a j]
          show K.2.2 a j = M.2.2 a j
          rw [k1.2.1.1, g0.2.1.1]
        have hS := k1.1.sr
        refine bw_iload rfl rfl ?_
        refine bw_aload rfl rfl ?_
        refine bw_getr rfl rfl (cur_r hR hc) ?_
        refine bw_getI rfl rfl ?_
        rw [show gI K 459 0 = S 0 from hS.c0]
        refine bw_icge rfl (fun c70 => ?_) (fun c70 => ?_)
        · skip
          refine bw_aload rfl rfl ?_
          refine bw_push rfl ?_
          refine bw_putZ rfl rfl (by omega) ?_
          refine bw_retv rfl rfl ?_
          obtain rfl : i = S 0 := by omega
          exact ⟨rfl, rfl, K, k1, rfl⟩
        · skip
          refine bw_aload rfl rfl ?_
          refine bw_getr rfl rfl (hR _ _) ?_
          refine bw_iload rfl rfl ?_
          refine bw_aload rfl rfl ?_
          refine bw_getr rfl rfl (hR _ _) ?_
          refine bw_iload rfl rfl ?_
          refine bw_aload rfl rfl ?_
          refine bw_getr rfl rfl (hR _ _) ?_
          refine bw_getr rfl rfl (hR _ _) ?_
          refine bw_push rfl ?_
          refine bw_aldr rfl (by first | rfl | assumption) (by decide) (by omega) (by omega) ((hR _ _).trans (rr_row (fun _ => rfl) (by omega) (by omega) (by omega))) ?_
          refine bw_iload rfl rfl ?_
          refine bw_aldi rfl rfl (by omega) (by omega) ?_
          rw [show gI K (12 + (0 : Int).toNat) = gI N2 12 from k1.2.1.at 12 (fun z => by omega)]
          have hb := hv i (by omega) (by omega)
          refine bw_callVNi (e := d - 1) (as := [_, _]) rfl (by omega) rfl rfl (Nat.le_of_ble_eq_true rfl) (Nat.le_of_ble_eq_true rfl) rfl (c_pictureOf hR (by first | exact Or.inl rfl | exact Or.inr rfl) hr hr2 k1.1 (by omega) hb (by omega)) (fun r94 M94 hM94 => ?_)
          obtain ⟨c2, w1, w2, w3, w4, w5⟩ := hM94
          have ep := fun q : Int => (hP i (by omega) (by omega) q).symm
          refine bw_asti rfl (by first | rfl | assumption) (by omega) (by omega) ?_
          refine bw_iinc (ls2 := [_, _]) rfl rfl rfl ⟨by omega, by omega⟩ rfl ?_
          refine bw_goto rfl ?_
          exact ih _ _ (fpI_s k1 (by first | exact Or.inl rfl | exact Or.inr rfl) (by omega) (hX i (by omega) (by omega)) w1 w2 ⟨w3.1, PAP_congr w3.2 (fun q _ _ => ep q)⟩ w4 (w5.elim Or.inl (fun z => Or.inr ⟨z.1, z.2.1, fun y y0 y1 p => z.2.2 y y0 y1 (PAP_congr p (fun q _ _ => (ep q).symm))⟩))) (by omega) (by omega)
    exact L62 98 M 0 g0 (by omega) (by omega)
set_option maxRecDepth 20000 in
set_option maxHeartbeats 4000000 in
theorem c_findPictures {d L : Nat} {M : abMem} {r : abRf} (hR : RF r M) {s : Nat} (hs : s = 372 ∨ s = 459) (hc : cur r = s) {k : Int} (h : INV r M k) (hk : k ≤ 900000) (hd : 6 ≤ d) : abW d (0, 0) 132 0 (abEnt (abL 132) [vr (some 0)]) [] (0, 0) (A0 L) M (qV (A0 L) (fun N => OKP r M N (k + 1) ∧ gI N 0 14 = 1)) := by
  rcases hs with rfl | rfl
  · have hS : SR M 372 (gI M 568) := by have q := h.sr; rw [hc] at q; exact q
    have b1 := h.fr
    have b2 := h.la
    have hrf := hR
    show abW d (0, 0) 132 0 [some (vr (some 0)), none] [] (0, 0) (A0 L) M (qV (A0 L) (fun N => OKP r M N (k + 1) ∧ gI N 0 14 = 1))
    refine bw_aload rfl rfl ?_
    refine bw_getI rfl rfl ?_
    obtain ⟨v, ev⟩ : ∃ v, v = gI M 0 14 := ⟨_, rfl⟩
    rw [← ev]
    have hv : v = 0 ∨ v = 1 := by
      rcases h.pc with q | ⟨q, _⟩
      · exact Or.inl (ev.trans q)
      · exact Or.inr (ev.trans q)
    refine bw_ifeq rfl (fun c4 => ?_) (fun c4 => ?_)
    · skip
      refine bw_aload rfl rfl ?_
      refine bw_push rfl ?_
      refine bw_putI rfl rfl ?_
      have gW : sm (fun a => a = 0) M (sI M 0 13 0) := (sm_refl (fun a => a = 0) M).sI _ _ rfl
      have w14 : gI (sI M 0 13 0) 0 14 = 0 := by rw [gI_sI_nj (by decide)]; omega
      have w13 : gI (sI M 0 13 0) 0 13 = 0 := gI_sI_eq
      generalize sI M 0 13 0 = W at gW w14 w13
      have e8 : gI W 568 = gI M 568 := gW.at 568 (by decide)
      have e9 : gI W 569 = gI M 569 := gW.at 569 (by decide)
      have hR := gW.RF hR
      have hW : INV r W k := INV_sx h hR rfl gW.sc.sx (fun a (z : a = 0) => Or.inl z) (mkcO_e h.mk (gW.at 547 (by decide)) e8 e9) (Or.inl w14) (cmrO_e h.cm (by rw [gW.at 203 (by decide)]) (gW.at 218 (by decide)))
      have fW : rfS M W := rfS_sx gW.sc.sx (fun a (z : a = 0) => Or.inl z)
      have hS := SR_sm hS gW (fun a a0 a1 (z : a = 0) => by omega)
      refine bw_aload rfl rfl ?_
      refine bw_getr rfl rfl (cur_r hR hc) ?_
      refine bw_getI rfl rfl ?_
      rw [show gI W 372 2 = gI M 568 1 from hS.c2]
      refine bw_ifle rfl (fun c20 => ?_) (fun c20 => ?_)
      · skip
        refine bw_aload rfl rfl ?_
        refine bw_push rfl ?_
        refine bw_putZ rfl rfl (by omega) ?_
        refine bw_retv rfl rfl ?_
        have l0 : gI M 568 1 = 0 := by omega
        have n0 : gI M 568 0 = 0 := h.ly.1 l0
        have gF : sm (fun a => a = 0) W (sI W 0 14 1) := (sm_refl (fun a => a = 0) W).sI _ _ rfl
        have g8 : gI (sI W 0 14 1) 568 = gI W 568 := gF.at 568 (by decide)
        have g9 : gI (sI W 0 14 1) 569 = gI W 569 := gF.at 569 (by decide)
        refine ⟨rfl, rfl, ⟨r, rfl, INV_sx hW (gF.RF hR) rfl gF.sc.sx (fun a (z : a = 0) => Or.inl z) (mkcO_e hW.mk (gF.at 547 (by decide)) g8 g9) (Or.inr ⟨gI_sI_eq, ?_, fun f f0 f1 => ?_⟩) (cmrO_le (cmrO_e hW.cm (by rw [gF.at 203 (by decide)]) (gF.at 218 (by decide))) (by omega)), fW.trans (rfS_sx gF.sc.sx (fun a (z : a = 0) => Or.inl z))⟩, gI_sI_eq⟩
        · rw [gI_sI_nj (by decide), w13]
          unfold tk
          rw [g8, e8, n0]
          rfl
        · rw [g8, e8, n0] at f1; omega
      · skip
        refine bw_aload rfl rfl ?_
        refine bw_getr rfl rfl (hR _ _) ?_
        refine bw_aload rfl rfl ?_
        refine bw_getr rfl rfl (cur_r hR hc) ?_
        refine bw_aload rfl rfl ?_
        refine bw_getr rfl rfl (hR _ _) ?_
        refine bw_push rfl ?_
        refine bw_callVNv (e := d - 1) (as := [_, _, _]) rfl (by omega) rfl rfl (Nat.le_of_ble_eq_true rfl) (Nat.le_of_ble_eq_true rfl) rfl (c_aim hR (by omega)) (fun M36 hM36 => ?_)
        have hR := hM36.1
        have gA := am_sx hM36
        have hS2 := SR_sx hS gA (fun a a0 a1 z => by omega)
        have hV2 := shV_e (S := gI M 568) (by have q := hW.sv; rw [e8] at q; exact q) b2.2 (fun a ha => gA.at a (fun z => by omega))
        have hC0 := CAM_0 hS2 ⟨hM36.2.2.2.1, by omega, by omega⟩ hV2 (hM36.2.2.2.2 (by omega)).1 (hM36.2.2.2.2 (by omega)).2.1 (hM36.2.2.2.2 (by omega)).2.2
        have h4 : gI M36 203 4 = gI W 203 4 := hM36.2.2.1 4 (by decide)
        have hct : ∀ x : Int, 0 ≤ x → x < 3936 → gI M36 218 x ≤ gI W 203 4 := fun x x0 x1 => by rw [hM36.2.1.at 218 (by decide)]; exact hW.cm.2 x x0 x1
        have hc0 := hW.cm.1
        refine bw_aload rfl rfl ?_
        refine bw_aload rfl rfl ?_
        refine bw_getr rfl rfl (hR _ _) ?_
        refine bw_aload rfl rfl ?_
        refine bw_getr rfl rfl (hR _ _) ?_
        refine bw_getr rfl rfl (hR _ _) ?_
        refine bw_push rfl ?_
        refine bw_aldr rfl (by first | rfl | assumption) (by decide) (by omega) (by omega) ((hR _ _).trans (rr_row (fun _ => rfl) (by omega) (by omega) (by omega))) ?_
        refine bw_push rfl ?_
        refine bw_callVNi (e := d - 1) (as := [_, _]) rfl (by omega) rfl rfl (Nat.le_of_ble_eq_true rfl) (Nat.le_of_ble_eq_true rfl) rfl (c_countTakes (o := 12) hR (by first | exact Or.inl rfl | exact Or.inr rfl) rfl rfl hC0 rfl (by omega) (fun j j0 j1 => by rw [show gI M36 12 = gI W 12 from gA.at 12 (fun z => by omega), gW.at 12 (by decide)]; exact h.rv (l := 0) ⟨by decide, by omega⟩ ⟨j0, j1⟩) (by omega) h4 (by omega) hct (by omega)) (fun r54 M54 hM54 => ?_)
        obtain ⟨c2, vT⟩ := hM54
        have hI := tki_ok hW hM36 vT rfl
        refine bw_putI rfl rfl ?_
        have hR := vT.2.1.RF hM36.1
        have gT : sc (fun a => a = 0) M54 (sI M54 0 13 r54) := ((sm_refl (fun a => a = 0) M54).sI _ _ rfl).sc
        have t13 : gI (sI M54 0 13 r54) 0 13 = r54 := gI_sI_eq
        generalize sI M54 0 13 r54 = N2 at gT t13
        have hR := gT.RF hR
        refine bw_push rfl ?_
        refine bw_istore (ls2 := [_, _]) rfl rfl (Nat.le_of_ble_eq_true rfl) rfl ?_
        have g0 : fpI N2 N2 372 (gI M 568) (gI M36 18) (fun l => gI M36 (12 + l.toNat)) (gI M36 (452 + (0 : Int).toNat)) (fun j => pcT (gI M 568) (gI M36 18) (fun l => gI M36 (12 + l.toNat)) 0 j (tkD (gI M36 12) (gI M 568 0) 0 j)) c2 0 := ⟨CAM_sp vT.1 (by first | exact Or.inl rfl | exact Or.inr rfl) gT (fun a (z : a = 0) => Or.inl z), sc_refl _ _, rfl, fun x _ _ y _ _ => rfl, fun f f0 f1 => by omega⟩
        have eL : ∀ y : Int, apF N2 y = apF M54 y := fun y => by funext j; exact congrFun (gT.atL (208 + j.toNat) (fun (z : 208 + j.toNat = 0) => by omega)) y
        have e12 : gI N2 12 = gI M36 12 := (gT.at 12 (by decide)).trans (vT.2.1.at 12 (fun z => by omega))
        have w12 : gI M36 12 = gI W 12 := gA.at 12 (fun z => by omega)
        have hD : ∀ i : Int, 0 ≤ i → i < gI M 568 0 → tkD (gI M36 12) (gI M 568 0) 0 i = gI M36 12 i := fun i i0 i1 => by
          unfold tkD
          rw [if_pos (by omega), Int.add_zero]
        refine bw_conseq (c_fp2 hR (by first | exact Or.inl rfl | exact Or.inr rfl) hc rfl rfl (fun i i0 i1 => by obtain ⟨y, y0, y1⟩ := vT.2.2.2.2.2.2.1 i i0 i1; exact ⟨y, y0, by rw [eL]; exact y1⟩) (fun i i0 i1 q => by rw [e12, ← hD i i0 i1]) (fun i i0 i1 => by rw [e12, w12, gW.at 12 (by decide)]; exact h.rv (l := 0) ⟨by decide, by omega⟩ ⟨i0, i1⟩) b1 g0 (by omega)) (fun v A2 M2 hh => ?_)
        obtain ⟨rfl, rfl, K, hK, rfl⟩ := hh
        obtain ⟨r1, q1, i1, f1⟩ := hI
        have gF : sc pFp M54 (sI K 0 14 1) := (((gT.mono (fun a (z : a = 0) => Or.inr (Or.inr z))).trans hK.2.1).trans (((sm_refl (fun a => a = 0) K).sI _ _ rfl).sc.mono (fun a (z : a = 0) => Or.inr (Or.inr z))))
        have g8 : gI (sI K 0 14 1) 568 = gI M54 568 := gF.at 568 (fun z => by omega)
        have g9 : gI (sI K 0 14 1) 569 = gI M54 569 := gF.at 569 (fun z => by omega)
        have m8 : gI M54 568 = gI W 568 := f1 568 (by decide)
        have m9 : gI M54 569 = gI W 569 := f1 569 (by decide)
        have hfr := vT.2.2.2.2.2.2.2 rfl
        have hpo := pic_ok (N := M) hW (P := fun j => pcT (gI M 568) (gI M36 18) (fun l => gI M36 (12 + l.toNat)) 0 j (tkD (gI M36 12) (gI M 568 0) 0 j)) (fun f f0 f1 q => pcI_now hW (D := fun j => tkD (gI M36 12) (gI M 568 0) 0 j) (by rw [e8]; omega) (gA.at 18 (fun z => by omega)) (fun i i0 i1 => gA.at _ (fun z => by rw [e8] at i1; omega)) ⟨f0, f1⟩ ((hD f f0 (by rw [e8] at f1; exact f1)).trans (congrFun w12 f)) q (by rw [e8])) hK.1.al (by rw [e8]; exact vT.2.2.2.1) hfr.1 (fun j j0 j1 nj => ?_) (fun f f0 f1 => hK.2.2.2.2 f f0 (by rw [e8] at f1; exact f1))
        · have hpic : picO (sI K 0 14 1) := by
            unfold picO
            rw [g8, m8, alk_e (g8.trans m8) (g9.trans m9), tk_eq (g8.trans m8) (g9.trans m9), gI_sI_nj (by decide), hK.2.2.1, t13, gI_sI_ne (by decide)]
            exact hpo
          refine ⟨rfl, rfl, ⟨r1, q1, INV_sx i1 (gF.RF i1.rf) rfl gF.sx (fun a z => by omega) (mkcO_e i1.mk (gF.at 547 (fun z => by omega)) g8 g9) (Or.inr ⟨gI_sI_eq, hpic⟩) (cmrO_e i1.cm (by rw [gF.at 203 (fun z => by omega)]) (gF.at 218 (fun z => by omega))), (fW.trans f1).trans (rfS_sx gF.sx (fun a z => by omega))⟩, gI_sI_eq⟩
        · have b := cN_in (pB (nwE (plE8 (fun j => pcT (gI M 568) (gI M36 18) (fun l => gI M36 (12 + l.toNat)) 0 j (tkD (gI M36 12) (gI M 568 0) 0 j))))) j.toNat
          rw [e8] at j1
          have pj := hfr.2.2 j j0 j1 nj
          refine PAP_g pj (fun y y0 y1 => ?_)
          have b2 : cN (pB (nwE (plE8 (fun j => pcT (gI M 568) (gI M36 18) (fun l => gI M36 (12 + l.toNat)) 0 j (tkD (gI M36 12) (gI M 568 0) 0 j))))) j.toNat < c2 := by
            have a1 := cN_mn (pB (nwE (plE8 (fun j => pcT (gI M 568) (gI M36 18) (fun l => gI M36 (12 + l.toNat)) 0 j (tkD (gI M36 12) (gI M 568 0) 0 j))))) (a := j + 1) (b := gI M 568 0) (by omega) (by omega)
            have a2 := cN_t (f := pB (nwE (plE8 (fun j => pcT (gI M 568) (gI M36 18) (fun l => gI M36 (12 + l.toNat)) 0 j (tkD (gI M36 12) (gI M 568 0) 0 j))))) j0 rfl (pB_t nj)
            have a3 := vT.2.2.2.1
            have a4 := hfr.1
            omega
          rw [hK.2.2.2.1 _ b.1 b2 y y0 y1, eL]
    · skip
      refine bw_retv rfl rfl ?_
      refine ⟨rfl, rfl, OKP_refl h (by omega), ?_⟩
      rw [← ev]; omega
  · have hS : SR M 459 (gI M 568) := by have q := h.sr; rw [hc] at q; exact q
    have b1 := h.fr
    have b2 := h.la
    have hrf := hR
    show abW d (0, 0) 132 0 [some (vr (some 0)), none] [] (0, 0) (A0 L) M (qV (A0 L) (fun N => OKP r M N (k + 1) ∧ gI N 0 14 = 1))
    refine bw_aload rfl rfl ?_
    refine bw_getI rfl rfl ?_
    obtain ⟨v, ev⟩ : ∃ v, v = gI M 0 14 := ⟨_, rfl⟩
    rw [← ev]
    have hv : v = 0 ∨ v = 1 := by
      rcases h.pc with q | ⟨q, _⟩
      · exact Or.inl (ev.trans q)
      · exact Or.inr (ev.trans q)
    refine bw_ifeq rfl (fun c4 => ?_) (fun c4 => ?_)
    · skip
      refine bw_aload rfl rfl ?_
      refine bw_push rfl ?_
      refine bw_putI rfl rfl ?_
      have gW : sm (fun a => a = 0) M (sI M 0 13 0) := (sm_refl (fun a => a = 0) M).sI _ _ rfl
      have w14 : gI (sI M 0 13 0) 0 14 = 0 := by rw [gI_sI_nj (by decide)]; omega
      have w13 : gI (sI M 0 13 0) 0 13 = 0 := gI_sI_eq
      generalize sI M 0 13 0 = W at gW w14 w13
      have e8 : gI W 568 = gI M 568 := gW.at 568 (by decide)
      have e9 : gI W 569 = gI M 569 := gW.at 569 (by decide)
      have hR := gW.RF hR
      have hW : INV r W k := INV_sx h hR rfl gW.sc.sx (fun a (z : a = 0) => Or.inl z) (mkcO_e h.mk (gW.at 547 (by decide)) e8 e9) (Or.inl w14) (cmrO_e h.cm (by rw [gW.at 203 (by decide)]) (gW.at 218 (by decide)))
      have fW : rfS M W := rfS_sx gW.sc.sx (fun a (z : a = 0) => Or.inl z)
      have hS := SR_sm hS gW (fun a a0 a1 (z : a = 0) => by omega)
      refine bw_aload rfl rfl ?_
      refine bw_getr rfl rfl (cur_r hR hc) ?_
      refine bw_getI rfl rfl ?_
      rw [show gI W 459 2 = gI M 568 1 from hS.c2]
      refine bw_ifle rfl (fun c20 => ?_) (fun c20 => ?_)
      · skip
        refine bw_aload rfl rfl ?_
        refine bw_push rfl ?_
        refine bw_putZ rfl rfl (by omega) ?_
        refine bw_retv rfl rfl ?_
        have l0 : gI M 568 1 = 0 := by omega
        have n0 : gI M 568 0 = 0 := h.ly.1 l0
        have gF : sm (fun a => a = 0) W (sI W 0 14 1) := (sm_refl (fun a => a = 0) W).sI _ _ rfl
        have g8 : gI (sI W 0 14 1) 568 = gI W 568 := gF.at 568 (by decide)
        have g9 : gI (sI W 0 14 1) 569 = gI W 569 := gF.at 569 (by decide)
        refine ⟨rfl, rfl, ⟨r, rfl, INV_sx hW (gF.RF hR) rfl gF.sc.sx (fun a (z : a = 0) => Or.inl z) (mkcO_e hW.mk (gF.at 547 (by decide)) g8 g9) (Or.inr ⟨gI_sI_eq, ?_, fun f f0 f1 => ?_⟩) (cmrO_le (cmrO_e hW.cm (by rw [gF.at 203 (by decide)]) (gF.at 218 (by decide))) (by omega)), fW.trans (rfS_sx gF.sc.sx (fun a (z : a = 0) => Or.inl z))⟩, gI_sI_eq⟩
        · rw [gI_sI_nj (by decide), w13]
          unfold tk
          rw [g8, e8, n0]
          rfl
        · rw [g8, e8, n0] at f1; omega
      · skip
        refine bw_aload rfl rfl ?_
        refine bw_getr rfl rfl (hR _ _) ?_
        refine bw_aload rfl rfl ?_
        refine bw_getr rfl rfl (cur_r hR hc) ?_
        refine bw_aload rfl rfl ?_
        refine bw_getr rfl rfl (hR _ _) ?_
        refine bw_push rfl ?_
        refine bw_callVNv (e := d - 1) (as := [_, _, _]) rfl (by omega) rfl rfl (Nat.le_of_ble_eq_true rfl) (Nat.le_of_ble_eq_true rfl) rfl (c_aim hR (by omega)) (fun M36 hM36 => ?_)
        have hR := hM36.1
        have gA := am_sx hM36
        have hS2 := SR_sx hS gA (fun a a0 a1 z => by omega)
        have hV2 := shV_e (S := gI M 568) (by have q := hW.sv; rw [e8] at q; exact q) b2.2 (fun a ha => gA.at a (fun z => by omega))
        have hC0 := CAM_0 hS2 ⟨hM36.2.2.2.1, by omega, by omega⟩ hV2 (hM36.2.2.2.2 (by omega)).1 (hM36.2.2.2.2 (by omega)).2.1 (hM36.2.2.2.2 (by omega)).2.2
        have h4 : gI M36 203 4 = gI W 203 4 := hM36.2.2.1 4 (by decide)
        have hct : ∀ x : Int, 0 ≤ x → x < 3936 → gI M36 218 x ≤ gI W 203 4 := fun x x0 x1 => by rw [hM36.2.1.at 218 (by decide)]; exact hW.cm.2 x x0 x1
        have hc0 := hW.cm.1
        refine bw_aload rfl rfl ?_
        refine bw_aload rfl rfl ?_
        refine bw_getr rfl rfl (hR _ _) ?_
        refine bw_aload rfl rfl ?_
        refine bw_getr rfl rfl (hR _ _) ?_
        refine bw_getr rfl rfl (hR _ _) ?_
        refine bw_push rfl ?_
        refine bw_aldr rfl (by first | rfl | assumption) (by decide) (by omega) (by omega) ((hR _ _).trans (rr_row (fun _ => rfl) (by omega) (by omega) (by omega))) ?_
        refine bw_push rfl ?_
        refine bw_callVNi (e := d - 1) (as := [_, _]) rfl (by omega) rfl rfl (Nat.le_of_ble_eq_true rfl) (Nat.le_of_ble_eq_true rfl) rfl (c_countTakes (o := 12) hR (by first | exact Or.inl rfl | exact Or.inr rfl) rfl rfl hC0 rfl (by omega) (fun j j0 j1 => by rw [show gI M36 12 = gI W 12 from gA.at 12 (fun z => by omega), gW.at 12 (by decide)]; exact h.rv (l := 0) ⟨by decide, by omega⟩ ⟨j0, j1⟩) (by omega) h4 (by omega) hct (by omega)) (fun r54 M54 hM54 => ?_)
        obtain ⟨c2, vT⟩ := hM54
        have hI := tki_ok hW hM36 vT rfl
        refine bw_putI rfl rfl ?_
        have hR := vT.2.1.RF hM36.1
        have gT : sc (fun a => a = 0) M54 (sI M54 0 13 r54) := ((sm_refl (fun a => a = 0) M54).sI _ _ rfl).sc
        have t13 : gI (sI M54 0 13 r54) 0 13 = r54 := gI_sI_eq
        generalize sI M54 0 13 r54 = N2 at gT t13
        have hR := gT.RF hR
        refine bw_push rfl ?_
        refine bw_istore (ls2 := [_, _]) rfl rfl (Nat.le_of_ble_eq_true rfl) rfl ?_
        have g0 : fpI N2 N2 459 (gI M 568) (gI M36 18) (fun l => gI M36 (12 + l.toNat)) (gI M36 (539 + (0 : Int).toNat)) (fun j => pcT (gI M 568) (gI M36 18) (fun l => gI M36 (12 + l.toNat)) 0 j (tkD (gI M36 12) (gI M 568 0) 0 j)) c2 0 := ⟨CAM_sp vT.1 (by first | exact Or.inl rfl | exact Or.inr rfl) gT (fun a (z : a = 0) => Or.inl z), sc_refl _ _, rfl, fun x _ _ y _ _ => rfl, fun f f0 f1 => by omega⟩
        have eL : ∀ y : Int, apF N2 y = apF M54 y := fun y => by funext j; exact congrFun (gT.atL (208 + j.toNat) (fun (z : 208 + j.toNat = 0) => by omega)) y
        have e12 : gI N2 12 = gI M36 12 := (gT.at 12 (by decide)).trans (vT.2.1.at 12 (fun z => by omega))
        have w12 : gI M36 12 = gI W 12 := gA.at 12 (fun z => by omega)
        have hD : ∀ i : Int, 0 ≤ i → i < gI M 568 0 → tkD (gI M36 12) (gI M 568 0) 0 i = gI M36 12 i := fun i i0 i1 => by
          unfold tkD
          rw [if_pos (by omega), Int.add_zero]
        refine bw_conseq (c_fp2 hR (by first | exact Or.inl rfl | exact Or.inr rfl) hc rfl rfl (fun i i0 i1 => by obtain ⟨y, y0, y1⟩ := vT.2.2.2.2.2.2.1 i i0 i1; exact ⟨y, y0, by rw [eL]; exact y1⟩) (fun i i0 i1 q => by rw [e12, ← hD i i0 i1]) (fun i i0 i1 => by rw [e12, w12, gW.at 12 (by decide)]; exact h.rv (l := 0) ⟨by decide, by omega⟩ ⟨i0, i1⟩) b1 g0 (by omega)) (fun v A2 M2 hh => ?_)
        obtain ⟨rfl, rfl, K, hK, rfl⟩ := hh
        obtain ⟨r1, q1, i1, f1⟩ := hI
        have gF : sc pFp M54 (sI K 0 14 1) := (((gT.mono (fun a (z : a = 0) => Or.inr (Or.inr z))).trans hK.2.1).trans (((sm_refl (fun a => a = 0) K).sI _ _ rfl).sc.mono (fun a (z : a = 0) => Or.inr (Or.inr z))))
        have g8 : gI (sI K 0 14 1) 568 = gI M54 568 := gF.at 568 (fun z => by omega)
        have g9 : gI (sI K 0 14 1) 569 = gI M54 569 := gF.at 569 (fun z => by omega)
        have m8 : gI M54 568 = gI W 568 := f1 568 (by decide)
        have m9 : gI M54 569 = gI W 569 := f1 569 (by decide)
        have hfr := vT.2.2.2.2.2.2.2 rfl
        have hpo := pic_ok (N := M) hW (P := fun j => pcT (gI M 568) (gI M36 18) (fun l => gI M36 (12 + l.toNat)) 0 j (tkD (gI M36 12) (gI M 568 0) 0 j)) (fun f f0 f1 q => pcI_now hW (D := fun j => tkD (gI M36 12) (gI M 568 0) 0 j) (by rw [e8]; omega) (gA.at 18 (fun z => by omega)) (fun i i0 i1 => gA.at _ (fun z => by rw [e8] at i1; omega)) ⟨f0, f1⟩ ((hD f f0 (by rw [e8] at f1; exact f1)).trans (congrFun w12 f)) q (by rw [e8])) hK.1.al (by rw [e8]; exact vT.2.2.2.1) hfr.1 (fun j j0 j1 nj => ?_) (fun f f0 f1 => hK.2.2.2.2 f f0 (by rw [e8] at f1; exact f1))
        · have hpic : picO (sI K 0 14 1) := by
            unfold picO
            rw [g8, m8, alk_e (g8.trans m8) (g9.trans m9), tk_eq (g8.trans m8) (g9.trans m9), gI_sI_nj (by decide), hK.2.2.1, t13, gI_sI_ne (by decide)]
            exact hpo
          refine ⟨rfl, rfl, ⟨r1, q1, INV_sx i1 (gF.RF i1.rf) rfl gF.sx (fun a z => by omega) (mkcO_e i1.mk (gF.at 547 (fun z => by omega)) g8 g9) (Or.inr ⟨gI_sI_eq, hpic⟩) (cmrO_e i1.cm (by rw [gF.at 203 (fun z => by omega)]) (gF.at 218 (fun z => by omega))), (fW.trans f1).trans (rfS_sx gF.sx (fun a z => by omega))⟩, gI_sI_eq⟩
        · have b := cN_in (pB (nwE (plE8 (fun j => pcT (gI M 568) (gI M36 18) (fun l => gI M36 (12 + l.toNat)) 0 j (tkD (gI M36 12) (gI M 568 0) 0 j))))) j.toNat
          rw [e8] at j1
          have pj := hfr.2.2 j j0 j1 nj
          refine PAP_g pj (fun y y0 y1 => ?_)
          have b2 : cN (pB (nwE (plE8 (fun j => pcT (gI M 568) (gI M36 18) (fun l => gI M36 (12 + l.toNat)) 0 j (tkD (gI M36 12) (gI M 568 0) 0 j))))) j.toNat < c2 := by
            have a1 := cN_mn (pB (nwE (plE8 (fun j => pcT (gI M 568) (gI M36 18) (fun l => gI M36 (12 + l.toNat)) 0 j (tkD (gI M36 12) (gI M 568 0) 0 j))))) (a := j + 1) (b := gI M 568 0) (by omega) (by omega)
            have a2 := cN_t (f := pB (nwE (plE8 (fun j => pcT (gI M 568) (gI M36 18) (fun l => gI M36 (12 + l.toNat)) 0 j (tkD (gI M36 12) (gI M 568 0) 0 j))))) j0 rfl (pB_t nj)
            have a3 := vT.2.2.2.1
            have a4 := hfr.1
            omega
          rw [hK.2.2.2.1 _ b.1 b2 y y0 y1, eL]
    · skip
      refine bw_retv rfl rfl ?_
      refine ⟨rfl, rfl, OKP_refl h (by omega), ?_⟩
      rw [← ev]; omega
