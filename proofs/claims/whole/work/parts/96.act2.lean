theorem rwW_e {M M2 : abMem} {l : Int} {G : Int → Int} (e8 : gI M2 568 = gI M 568) (e9 : gI M2 569 = gI M 569) : rwW M2 l G = rwW M l G := by
  show (fun j => paF (gI M2 569) l (gI M2 568 0) G (582 + j)) = fun j => paF (gI M 569) l (gI M 568 0) G (582 + j)
  rw [e8, e9]
theorem act_sp {M M2 N : abMem} {l : Int} {G : Int → Int} (g : sm pSp M M2) (a : actD M2 (rwW M2 l G) N) : actD M (rwW M l G) N := by
  have e8 : gI M2 568 = gI M 568 := g.at 568 (by decide)
  have e9 : gI M2 569 = gI M 569 := g.at 569 (by decide)
  have e19 : gI M2 19 = gI M 19 := g.at 19 (by decide)
  rw [rwW_e e8 e9] at a
  obtain ⟨a1, ⟨h1, h2, h3, h4⟩, a3, a4, a5, a6, a7, a8⟩ := a
  rw [e19] at h1 h2 h3 h4
  rw [e8, e9, g.at 547 (by decide)] at a4
  rw [e8] at a5 a7 a8
  refine ⟨(g.mono (fun x (z : x = 546) => Or.inr (Or.inr (Or.inr (Or.inl z))))).trans a1, ⟨⟨fun i f i0 i1 f0 f1 => ?_, fun p p0 p1 => ?_⟩, h2, h3, fun x x0 x1 hx => (h4 x x0 x1 hx).trans (g.at x (fun (z : x = 546) => by omega))⟩, a3, a4, a5, a6, a7, a8⟩
  · rw [h1.1 i f i0 i1 f0 f1, g.at _ (fun (z : 10 + 2 + i.toNat = 546) => by omega)]
  · rw [h1.2 p p0 p1, g.at _ (by decide)]
/-- the spare row: g from t up to i, else the row -/
def spI (M N : abMem) (l t i : Int) (g : Int → Int) : Prop := ∀ j : Int, 0 ≤ j → j < 96 → gI N 546 j = if t ≤ j ∧ j < i then g j else gI M (12 + l.toNat) j
theorem spI_s {M N : abMem} {l t i x : Int} {g : Int → Int} (h : spI M N l t i g) (hi : t ≤ i) (hx : x = g i) : spI M (sI N 546 i x) l t (i + 1) g := fun j j0 j1 => by
  by_cases q : j = i
  · rw [q, gI_sI_eq, if_pos (by omega)]; exact hx
  · rw [gI_sI_nj q, h j j0 j1]
    by_cases q2 : t ≤ j ∧ j < i
    · rw [if_pos q2, if_pos (by omega)]
    · rw [if_neg q2, if_neg (by omega)]
theorem spI_0 {M N : abMem} {l t : Int} {g : Int → Int} (h : ∀ j : Int, 0 ≤ j → j < 96 → gI N 546 j = gI M (12 + l.toNat) j) : spI M N l t t g := fun j j0 j1 => by rw [if_neg (by omega)]; exact h j j0 j1
set_option maxRecDepth 20000 in
set_option maxHeartbeats 4000000 in
theorem x_twos {d L : Nat} {M : abMem} {r : abRf} (hR : RF r M) {s : Nat} (hs : s = 372 ∨ s = 459) (hc : cur r = s) {k : Int} (h : INV r M k) {l : Int} (hd : 4 ≤ d) : abW d (0, 0) 120 0 (abEnt (abL 120) [vr (some 0), vi l]) [] (0, 0) (A0 L) M (qI (A0 L) (fun x N => (0 ≤ l ∧ l < gI M 568 1) ∧ (cN (pD (dbG (gI M 569) l) (mR M 0 l)) (gI M 568 0).toNat = 0 ∧ x = -3 ∧ sm pSp M N ∨ cN (pD (dbG (gI M 569) l) (mR M 0 l)) (gI M 568 0).toNat ≠ 0 ∧ x = cN (pD (dbG (gI M 569) l) (mR M 0 l)) (gI M 568 0).toNat ∧ actD M (rwW M l (dbG (gI M 569) l)) N) ∨ ¬ (0 ≤ l ∧ l < gI M 568 1) ∧ x = -2 ∧ N = M)) := by
  rcases hs with rfl | rfl
  · have hS : SR M 372 (gI M 568) := by have q := h.sr; rw [hc] at q; exact q
    have b1 := h.fr
    have b2 := h.la
    have hrf := hR
    have hRo := hR
    have hSo := hS
    show abW d (0, 0) 120 0 [some (vr (some 0)), some (vi l)] [] (0, 0) (A0 L) M (qI (A0 L) (fun x N => (0 ≤ l ∧ l < gI M 568 1) ∧ (cN (pD (dbG (gI M 569) l) (mR M 0 l)) (gI M 568 0).toNat = 0 ∧ x = -3 ∧ sm pSp M N ∨ cN (pD (dbG (gI M 569) l) (mR M 0 l)) (gI M 568 0).toNat ≠ 0 ∧ x = cN (pD (dbG (gI M 569) l) (mR M 0 l)) (gI M 568 0).toNat ∧ actD M (rwW M l (dbG (gI M 569) l)) N) ∨ ¬ (0 ≤ l ∧ l < gI M 568 1) ∧ x = -2 ∧ N = M))
    refine bw_aload rfl rfl ?_
    refine bw_getr rfl rfl (cur_r hR hc) ?_
    refine bw_iload rfl rfl ?_
    refine bw_callVNj (e := d - 1) (as := [_]) rfl (by omega) rfl rfl (Nat.le_of_ble_eq_true rfl) (Nat.le_of_ble_eq_true rfl) rfl (c_hasLayer hR (by first | exact Or.inl rfl | exact Or.inr rfl) hS) (fun r5 hr5 => ?_)
    refine bw_ifne rfl (fun c8 => ?_) (fun c8 => ?_)
    · skip
      refine bw_aload rfl rfl ?_
      refine bw_iload rfl rfl ?_
      refine bw_callVv (e := d - 1) (as := [_]) rfl (by omega) rfl rfl (Nat.le_of_ble_eq_true rfl) (Nat.le_of_ble_eq_true rfl) rfl (c_putOnTwos hR (by first | exact Or.inl rfl | exact Or.inr rfl) hc h (by omega) (by omega)) (fun M16 hM16 => ?_)
      obtain ⟨u16, v16⟩ := hM16
      have hW := INV_sp h u16
      have e8 : gI M16 568 = gI M 568 := u16.at 568 (by decide)
      have e9 : gI M16 569 = gI M 569 := u16.at 569 (by decide)
      have hR := u16.RF hRo
      have hS := SR_sm hSo u16 (fun a a0 a1 (z : a = 546) => by omega)
      have eRw : ∀ j : Int, gI M16 (12 + l.toNat) j = gI M (12 + l.toNat) j := fun j => congrFun (u16.at (12 + l.toNat) (fun (z : 12 + l.toNat = 546) => by omega)) j
      have hdb : ∀ j : Int, 0 ≤ j → j < gI M 568 0 → gI M16 546 j = dbG (gI M 569) l j := fun j j0 j1 => by
        rw [v16 j j0 j1]
        unfold dbG
        by_cases q : j % 2 = 1
        · rw [if_pos q, if_pos q, h.row ⟨by omega, by omega⟩ ⟨by omega, by omega⟩, mR0]
        · rw [if_neg q, if_neg q, h.row ⟨by omega, by omega⟩ ⟨j0, j1⟩, mR0]
      refine bw_aload rfl rfl ?_
      refine bw_getr rfl rfl (hR _ _) ?_
      refine bw_getr rfl rfl (hR _ _) ?_
      refine bw_iload rfl rfl ?_
      refine bw_aldr rfl (by first | rfl | assumption) (by decide) (by omega) (by omega) ((hR _ _).trans (rr_row (fun _ => rfl) (by omega) (by omega) (by omega))) ?_
      refine bw_aload rfl rfl ?_
      refine bw_getr rfl rfl (hR _ _) ?_
      refine bw_aload rfl rfl ?_
      refine bw_getr rfl rfl (cur_r hR hc) ?_
      refine bw_getI rfl rfl ?_
      rw [show gI M16 372 0 = gI M 568 0 from hS.c0]
      refine bw_callSNe (e := d - 1) (as := [_, _, _]) rfl (by omega) rfl rfl (Nat.le_of_ble_eq_true rfl) (Nat.le_of_ble_eq_true rfl) (c_differences (z := 96) (y := 96) (by decide) (kfa (L := L) (b := 12) (n := 6) (v := (20, 96)) (by decide) (by decide) ⟨by omega, by omega⟩) rfl (by omega)) ?_
      rw [pD_symm, pD_cg (f' := dbG (gI M 569) l) (g' := mR M 0 l) (fun j j0 j1 => ⟨hdb j j0 j1, (eRw j).trans (h.row ⟨by omega, by omega⟩ ⟨j0, j1⟩)⟩)]
      refine bw_ifne rfl (fun c42 => ?_) (fun c42 => ?_)
      · skip
        refine bw_aload rfl rfl ?_
        refine bw_iload rfl rfl ?_
        refine bw_callVi (e := d - 1) (as := [_]) rfl (by omega) rfl rfl (Nat.le_of_ble_eq_true rfl) (Nat.le_of_ble_eq_true rfl) rfl (c_putSpare (M := M16) (G := dbG (gI M 569) l) hR (by first | exact Or.inl rfl | exact Or.inr rfl) hc hW.1 (by rw [e8]; omega) (fun f f0 f1 => hdb f f0 (by rw [← e8]; exact f1)) (by omega)) (fun r52 M52 hM52 => ?_)
        obtain ⟨x52, v52⟩ := hM52
        have v52 := act_sp (by assumption) v52
        rw [mR_e e9, e8] at x52
        refine bw_ret rfl rfl ?_
        first
        | exact ⟨rfl, _, rfl, Or.inl ⟨by omega, Or.inl ⟨by omega, rfl, u16⟩⟩⟩
        | exact ⟨rfl, _, rfl, Or.inl ⟨by omega, Or.inr ⟨by omega, x52, v52⟩⟩⟩
      · skip
        refine bw_push rfl ?_
        refine bw_goto rfl ?_
        refine bw_ret rfl rfl ?_
        first
        | exact ⟨rfl, _, rfl, Or.inl ⟨by omega, Or.inl ⟨by omega, rfl, u16⟩⟩⟩
        | exact ⟨rfl, _, rfl, Or.inl ⟨by omega, Or.inr ⟨by omega, x52, v52⟩⟩⟩
    · skip
      refine bw_push rfl ?_
      refine bw_ret rfl rfl ?_
      exact ⟨rfl, _, rfl, Or.inr ⟨by omega, rfl, rfl⟩⟩
  · have hS : SR M 459 (gI M 568) := by have q := h.sr; rw [hc] at q; exact q
    have b1 := h.fr
    have b2 := h.la
    have hrf := hR
    have hRo := hR
    have hSo := hS
    show abW d (0, 0) 120 0 [some (vr (some 0)), some (vi l)] [] (0, 0) (A0 L) M (qI (A0 L) (fun x N => (0 ≤ l ∧ l < gI M 568 1) ∧ (cN (pD (dbG (gI M 569) l) (mR M 0 l)) (gI M 568 0).toNat = 0 ∧ x = -3 ∧ sm pSp M N ∨ cN (pD (dbG (gI M 569) l) (mR M 0 l)) (gI M 568 0).toNat ≠ 0 ∧ x = cN (pD (dbG (gI M 569) l) (mR M 0 l)) (gI M 568 0).toNat ∧ actD M (rwW M l (dbG (gI M 569) l)) N) ∨ ¬ (0 ≤ l ∧ l < gI M 568 1) ∧ x = -2 ∧ N = M))
    refine bw_aload rfl rfl ?_
    refine bw_getr rfl rfl (cur_r hR hc) ?_
    refine bw_iload rfl rfl ?_
    refine bw_callVNj (e := d - 1) (as := [_]) rfl (by omega) rfl rfl (Nat.le_of_ble_eq_true rfl) (Nat.le_of_ble_eq_true rfl) rfl (c_hasLayer hR (by first | exact Or.inl rfl | exact Or.inr rfl) hS) (fun r5 hr5 => ?_)
    refine bw_ifne rfl (fun c8 => ?_) (fun c8 => ?_)
    · skip
      refine bw_aload rfl rfl ?_
      refine bw_iload rfl rfl ?_
      refine bw_callVv (e := d - 1) (as := [_]) rfl (by omega) rfl rfl (Nat.le_of_ble_eq_true rfl) (Nat.le_of_ble_eq_true rfl) rfl (c_putOnTwos hR (by first | exact Or.inl rfl | exact Or.inr rfl) hc h (by omega) (by omega)) (fun M16 hM16 => ?_)
      obtain ⟨u16, v16⟩ := hM16
      have hW := INV_sp h u16
      have e8 : gI M16 568 = gI M 568 := u16.at 568 (by decide)
      have e9 : gI M16 569 = gI M 569 := u16.at 569 (by decide)
      have hR := u16.RF hRo
      have hS := SR_sm hSo u16 (fun a a0 a1 (z : a = 546) => by omega)
      have eRw : ∀ j : Int, gI M16 (12 + l.toNat) j = gI M (12 + l.toNat) j := fun j => congrFun (u16.at (12 + l.toNat) (fun (z : 12 + l.toNat = 546) => by omega)) j
      have hdb : ∀ j : Int, 0 ≤ j → j < gI M 568 0 → gI M16 546 j = dbG (gI M 569) l j := fun j j0 j1 => by
        rw [v16 j j0 j1]
        unfold dbG
        by_cases q : j % 2 = 1
        · rw [if_pos q, if_pos q, h.row ⟨by omega, by omega⟩ ⟨by omega, by omega⟩, mR0]
        · rw [if_neg q, if_neg q, h.row ⟨by omega, by omega⟩ ⟨j0, j1⟩, mR0]
      refine bw_aload rfl rfl ?_
      refine bw_getr rfl rfl (hR _ _) ?_
      refine bw_getr rfl rfl (hR _ _) ?_
      refine bw_iload rfl rfl ?_
      refine bw_aldr rfl (by first | rfl | assumption) (by decide) (by omega) (by omega) ((hR _ _).trans (rr_row (fun _ => rfl) (by omega) (by omega) (by omega))) ?_
      refine bw_aload rfl rfl ?_
      refine bw_getr rfl rfl (hR _ _) ?_
      refine bw_aload rfl rfl ?_
      refine bw_getr rfl rfl (cur_r hR hc) ?_
      refine bw_getI rfl rfl ?_
      rw [show gI M16 459 0 = gI M 568 0 from hS.c0]
      refine bw_callSNe (e := d - 1) (as := [_, _, _]) rfl (by omega) rfl rfl (Nat.le_of_ble_eq_true rfl) (Nat.le_of_ble_eq_true rfl) (c_differences (z := 96) (y := 96) (by decide) (kfa (L := L) (b := 12) (n := 6) (v := (20, 96)) (by decide) (by decide) ⟨by omega, by omega⟩) rfl (by omega)) ?_
      rw [pD_symm, pD_cg (f' := dbG (gI M 569) l) (g' := mR M 0 l) (fun j j0 j1 => ⟨hdb j j0 j1, (eRw j).trans (h.row ⟨by omega, by omega⟩ ⟨j0, j1⟩)⟩)]
      refine bw_ifne rfl (fun c42 => ?_) (fun c42 => ?_)
      · skip
        refine bw_aload rfl rfl ?_
        refine bw_iload rfl rfl ?_
        refine bw_callVi (e := d - 1) (as := [_]) rfl (by omega) rfl rfl (Nat.le_of_ble_eq_true rfl) (Nat.le_of_ble_eq_true rfl) rfl (c_putSpare (M := M16) (G := dbG (gI M 569) l) hR (by first | exact Or.inl rfl | exact Or.inr rfl) hc hW.1 (by rw [e8]; omega) (fun f f0 f1 => hdb f f0 (by rw [← e8]; exact f1)) (by omega)) (fun r52 M52 hM52 => ?_)
        obtain ⟨x52, v52⟩ := hM52
        have v52 := act_sp (by assumption) v52
        rw [mR_e e9, e8] at x52
        refine bw_ret rfl rfl ?_
        first
        | exact ⟨rfl, _, rfl, Or.inl ⟨by omega, Or.inl ⟨by omega, rfl, u16⟩⟩⟩
        | exact ⟨rfl, _, rfl, Or.inl ⟨by omega, Or.inr ⟨by omega, x52, v52⟩⟩⟩
      · skip
        refine bw_push rfl ?_
        refine bw_goto rfl ?_
        refine bw_ret rfl rfl ?_
        first
        | exact ⟨rfl, _, rfl, Or.inl ⟨by omega, Or.inl ⟨by omega, rfl, u16⟩⟩⟩
        | exact ⟨rfl, _, rfl, Or.inl ⟨by omega, Or.inr ⟨by omega, x52, v52⟩⟩⟩
    · skip
      refine bw_push rfl ?_
      refine bw_ret rfl rfl ?_
      exact ⟨rfl, _, rfl, Or.inr ⟨by omega, rfl, rfl⟩⟩
set_option maxRecDepth 20000 in
set_option maxHeartbeats 4000000 in
theorem x_expose {d L : Nat} {M : abMem} {r : abRf} (hR : RF r M) {s : Nat} (hs : s = 372 ∨ s = 459) (hc : cur r = s) {k : Int} (h : INV r M k) {l t u v : Int} (hd : 4 ≤ d) : abW d (0, 0) 115 0 (abEnt (abL 115) [vr (some 0), vi l, vi t, vi u, vi v]) [] (0, 0) (A0 L) M (qI (A0 L) (fun x N => (0 ≤ l ∧ l < gI M 568 1 ∧ 0 ≤ t ∧ t ≤ u ∧ u < gI M 568 0 ∧ 0 ≤ v ∧ v ≤ 99) ∧ (cN (pD (exG (mR M 0 l) t u v) (mR M 0 l)) (gI M 568 0).toNat = 0 ∧ x = -3 ∧ sm pSp M N ∨ cN (pD (exG (mR M 0 l) t u v) (mR M 0 l)) (gI M 568 0).toNat ≠ 0 ∧ x = cN (pD (exG (mR M 0 l) t u v) (mR M 0 l)) (gI M 568 0).toNat ∧ actD M (rwW M l (exG (mR M 0 l) t u v)) N) ∨ ¬ (0 ≤ l ∧ l < gI M 568 1 ∧ 0 ≤ t ∧ t ≤ u ∧ u < gI M 568 0 ∧ 0 ≤ v ∧ v ≤ 99) ∧ x = -2 ∧ N = M)) := by
  rcases hs with rfl | rfl
  · have hS : SR M 372 (gI M 568) := by have q := h.sr; rw [hc] at q; exact q
    have b1 := h.fr
    have b2 := h.la
    have hrf := hR
    have hRo := hR
    have hSo := hS
    have L44 : ∀ (kf : Nat) (N : abMem) (i : Int), (sm pSp M N) → (spI M N l t i (fun _ => v)) → (t ≤ i ∧ i ≤ u + 1) → (0 ≤ l ∧ l < gI M 568 1 ∧ 0 ≤ t ∧ t ≤ u ∧ u < gI M 568 0 ∧ 0 ≤ v ∧ v ≤ 99) → ((u + 1 - i).toNat) < kf → abW d (0, 0) 115 44 [some (vr (some 0)), some (vi l), some (vi t), some (vi u), some (vi v), some (vi i)] [] (0, 0) (A0 L) (N) (qI (A0 L) (fun x N => (0 ≤ l ∧ l < gI M 568 1 ∧ 0 ≤ t ∧ t ≤ u ∧ u < gI M 568 0 ∧ 0 ≤ v ∧ v ≤ 99) ∧ (cN (pD (exG (mR M 0 l) t u v) (mR M 0 l)) (gI M 568 0).toNat = 0 ∧ x = -3 ∧ sm pSp M N ∨ cN (pD (exG (mR M 0 l) t u v) (mR M 0 l)) (gI M 568 0).toNat ≠ 0 ∧ x = cN (pD (exG (mR M 0 l) t u v) (mR M 0 l)) (gI M 568 0).toNat ∧ actD M (rwW M l (exG (mR M 0 l) t u v)) N) ∨ ¬ (0 ≤ l ∧ l < gI M 568 1 ∧ 0 ≤ t ∧ t ≤ u ∧ u < gI M 568 0 ∧ 0 ≤ v ∧ v ≤ 99) ∧ x = -2 ∧ N = M)) := by
      intro kf
      induction kf with
      | zero => intro N  i  g1 g2 g3 g4 hm9; exact absurd hm9 (Nat.not_lt_zero _)
      | succ kf ih44 =>
        intro N  i  g1 g2 g3 g4 hm44
        have ih := ih44
        have hW := INV_sp h g1
        have e8 : gI N 568 = gI M 568 := g1.at 568 (by decide)
        have e9 : gI N 569 = gI M 569 := g1.at 569 (by decide)
        have hR := g1.RF hRo
        have hS := SR_sm hSo g1 (fun a a0 a1 (z : a = 546) => by omega)
        have eRw : ∀ j : Int, gI N (12 + l.toNat) j = gI M (12 + l.toNat) j := fun j => congrFun (g1.at (12 + l.toNat) (fun (z : 12 + l.toNat = 546) => by omega)) j
        refine bw_iload rfl rfl ?_
        refine bw_iload rfl rfl ?_
        refine bw_icgt rfl (fun c47 => ?_) (fun c47 => ?_)
        · skip
          have hsp : ∀ j : Int, 0 ≤ j → j < gI M 568 0 → gI N 546 j = exG (mR M 0 l) t u v j := fun j j0 j1 => by
            rw [g2 j j0 (by omega)]
            unfold exG
            by_cases q : t ≤ j ∧ j ≤ u
            · rw [if_pos q, if_pos (by omega)]
            · rw [if_neg q, if_neg (by omega), h.row ⟨by omega, by omega⟩ ⟨j0, j1⟩]
          refine bw_aload rfl rfl ?_
          refine bw_getr rfl rfl (hR _ _) ?_
          refine bw_getr rfl rfl (hR _ _) ?_
          refine bw_iload rfl rfl ?_
          refine bw_aldr rfl (by first | rfl | assumption) (by decide) (by omega) (by omega) ((hR _ _).trans (rr_row (fun _ => rfl) (by omega) (by omega) (by omega))) ?_
          refine bw_aload rfl rfl ?_
          refine bw_getr rfl rfl (hR _ _) ?_
          refine bw_aload rfl rfl ?_
          refine bw_getr rfl rfl (cur_r hR hc) ?_
          refine bw_getI rfl rfl ?_
          rw [show gI N 372 0 = gI M 568 0 from hS.c0]
          refine bw_callSNe (e := d - 1) (as := [_, _, _]) rfl (by omega) rfl rfl (Nat.le_of_ble_eq_true rfl) (Nat.le_of_ble_eq_true rfl) (c_differences (z := 96) (y := 96) (by decide) (kfa (L := L) (b := 12) (n := 6) (v := (20, 96)) (by decide) (by decide) ⟨by omega, by omega⟩) rfl (by omega)) ?_
          rw [pD_symm, pD_cg (f' := exG (mR M 0 l) t u v) (g' := mR M 0 l) (fun j j0 j1 => ⟨hsp j j0 j1, (eRw j).trans (h.row ⟨by omega, by omega⟩ ⟨j0, j1⟩)⟩)]
          refine bw_ifne rfl (fun c88 => ?_) (fun c88 => ?_)
          · skip
            refine bw_aload rfl rfl ?_
            refine bw_iload rfl rfl ?_
            refine bw_callVi (e := d - 1) (as := [_]) rfl (by omega) rfl rfl (Nat.le_of_ble_eq_true rfl) (Nat.le_of_ble_eq_true rfl) rfl (c_putSpare (M := N) (G := exG (mR M 0 l) t u v) hR (by first | exact Or.inl rfl | exact Or.inr rfl) hc hW.1 (by rw [e8]; omega) (fun f f0 f1 => hsp f f0 (by rw [← e8]; exact f1)) (by omega)) (fun r98 M98 hM98 => ?_)
            obtain ⟨x98, v98⟩ := hM98
            have v98 := act_sp (by assumption) v98
            rw [mR_e e9, e8] at x98
            refine bw_ret rfl rfl ?_
            first
            | exact ⟨rfl, _, rfl, Or.inl ⟨g4, Or.inl ⟨by omega, rfl, g1⟩⟩⟩
            | exact ⟨rfl, _, rfl, Or.inl ⟨g4, Or.inr ⟨by omega, x98, v98⟩⟩⟩
          · skip
            refine bw_push rfl ?_
            refine bw_goto rfl ?_
            refine bw_ret rfl rfl ?_
            first
            | exact ⟨rfl, _, rfl, Or.inl ⟨g4, Or.inl ⟨by omega, rfl, g1⟩⟩⟩
            | exact ⟨rfl, _, rfl, Or.inl ⟨g4, Or.inr ⟨by omega, x98, v98⟩⟩⟩
        · skip
          refine bw_aload rfl rfl ?_
          refine bw_getr rfl rfl (hR _ _) ?_
          refine bw_iload rfl rfl ?_
          refine bw_iload rfl rfl ?_
          refine bw_asti rfl (by first | rfl | assumption) (by omega) (by omega) ?_
          refine bw_iinc (ls2 := [_, _, _, _, _, _]) rfl rfl rfl ⟨by omega, by omega⟩ rfl ?_
          refine bw_goto rfl ?_
          exact ih _ _ (g1.sI _ _ rfl) (spI_s g2 (by omega) rfl) (by omega) g4 (by omega)
    show abW d (0, 0) 115 0 [some (vr (some 0)), some (vi l), some (vi t), some (vi u), some (vi v), none] [] (0, 0) (A0 L) M (qI (A0 L) (fun x N => (0 ≤ l ∧ l < gI M 568 1 ∧ 0 ≤ t ∧ t ≤ u ∧ u < gI M 568 0 ∧ 0 ≤ v ∧ v ≤ 99) ∧ (cN (pD (exG (mR M 0 l) t u v) (mR M 0 l)) (gI M 568 0).toNat = 0 ∧ x = -3 ∧ sm pSp M N ∨ cN (pD (exG (mR M 0 l) t u v) (mR M 0 l)) (gI M 568 0).toNat ≠ 0 ∧ x = cN (pD (exG (mR M 0 l) t u v) (mR M 0 l)) (gI M 568 0).toNat ∧ actD M (rwW M l (exG (mR M 0 l) t u v)) N) ∨ ¬ (0 ≤ l ∧ l < gI M 568 1 ∧ 0 ≤ t ∧ t ≤ u ∧ u < gI M 568 0 ∧ 0 ≤ v ∧ v ≤ 99) ∧ x = -2 ∧ N = M))
    refine bw_aload rfl rfl ?_
    refine bw_iload rfl rfl ?_
    refine bw_iload rfl rfl ?_
    refine bw_callVj (e := d - 1) (as := [_, _]) rfl (by omega) rfl rfl (Nat.le_of_ble_eq_true rfl) (Nat.le_of_ble_eq_true rfl) rfl (c_hasPlace hR (by first | exact Or.inl rfl | exact Or.inr rfl) hc h (by omega)) (fun r3 hr3 => ?_)
    refine bw_ifeq rfl (fun c6 => ?_) (fun c6 => ?_)
    · skip
      refine bw_push rfl ?_
      refine bw_ret rfl rfl ?_
      exact ⟨rfl, _, rfl, Or.inr ⟨by omega, rfl, rfl⟩⟩
    · skip
      refine bw_aload rfl rfl ?_
      refine bw_getr rfl rfl (cur_r hR hc) ?_
      refine bw_iload rfl rfl ?_
      refine bw_callVNj (e := d - 1) (as := [_]) rfl (by omega) rfl rfl (Nat.le_of_ble_eq_true rfl) (Nat.le_of_ble_eq_true rfl) rfl (c_hasFrame hR (by first | exact Or.inl rfl | exact Or.inr rfl) hS) (fun r14 hr14 => ?_)
      refine bw_ifeq rfl (fun c17 => ?_) (fun c17 => ?_)
      · skip
        refine bw_push rfl ?_
        refine bw_ret rfl rfl ?_
        exact ⟨rfl, _, rfl, Or.inr ⟨by omega, rfl, rfl⟩⟩
      · skip
        refine bw_iload rfl rfl ?_
        refine bw_iload rfl rfl ?_
        refine bw_iclt rfl (fun c22 => ?_) (fun c22 => ?_)
        · skip
          refine bw_push rfl ?_
          refine bw_ret rfl rfl ?_
          exact ⟨rfl, _, rfl, Or.inr ⟨by omega, rfl, rfl⟩⟩
        · skip
          refine bw_iload rfl rfl ?_
          refine bw_callSj (e := d - 1) (as := [_]) rfl (by omega) rfl rfl (Nat.le_of_ble_eq_true rfl) (Nat.le_of_ble_eq_true rfl) (c_isDrawing hR) (fun r27 hr27 => ?_)
          refine bw_ifne rfl (fun c30 => ?_) (fun c30 => ?_)
          · skip
            refine bw_aload rfl rfl ?_
            refine bw_iload rfl rfl ?_
            refine bw_callVv (e := d - 1) (as := [_]) rfl (by omega) rfl rfl (Nat.le_of_ble_eq_true rfl) (Nat.le_of_ble_eq_true rfl) rfl (c_copyToSpare hR (by omega) (by omega)) (fun M38 hM38 => ?_)
            refine bw_iload rfl rfl ?_
            refine bw_istore (ls2 := [_, _, _, _, _, _]) rfl rfl (Nat.le_of_ble_eq_true rfl) rfl ?_
            exact L44 98 M38 t hM38.1 (spI_0 hM38.2) (by omega) (by omega) (by omega)
          · skip
            refine bw_push rfl ?_
            refine bw_ret rfl rfl ?_
            exact ⟨rfl, _, rfl, Or.inr ⟨by omega, rfl, rfl⟩⟩
  · have hS : SR M 459 (gI M 568) := by have q := h.sr; rw [hc] at q; exact q
    have b1 := h.fr
    have b2 := h.la
    have hrf := hR
    have hRo := hR
    have hSo := hS
    have L44 : ∀ (kf : Nat) (N : abMem) (i : Int), (sm pSp M N) → (spI M N l t i (fun _ => v)) → (t ≤ i ∧ i ≤ u + 1) → (0 ≤ l ∧ l < gI M 568 1 ∧ 0 ≤ t ∧ t ≤ u ∧ u < gI M 568 0 ∧ 0 ≤ v ∧ v ≤ 99) → ((u + 1 - i).toNat) < kf → abW d (0, 0) 115 44 [some (vr (some 0)), some (vi l), some (vi t), some (vi u), some (vi v), some (vi i)] [] (0, 0) (A0 L) (N) (qI (A0 L) (fun x N => (0 ≤ l ∧ l < gI M 568 1 ∧ 0 ≤ t ∧ t ≤ u ∧ u < gI M 568 0 ∧ 0 ≤ v ∧ v ≤ 99) ∧ (cN (pD (exG (mR M 0 l) t u v) (mR M 0 l)) (gI M 568 0).toNat = 0 ∧ x = -3 ∧ sm pSp M N ∨ cN (pD (exG (mR M 0 l) t u v) (mR M 0 l)) (gI M 568 0).toNat ≠ 0 ∧ x = cN (pD (exG (mR M 0 l) t u v) (mR M 0 l)) (gI M 568 0).toNat ∧ actD M (rwW M l (exG (mR M 0 l) t u v)) N) ∨ ¬ (0 ≤ l ∧ l < gI M 568 1 ∧ 0 ≤ t ∧ t ≤ u ∧ u < gI M 568 0 ∧ 0 ≤ v ∧ v ≤ 99) ∧ x = -2 ∧ N = M)) := by
      intro kf
      induction kf with
      | zero => intro N  i  g1 g2 g3 g4 hm9; exact absurd hm9 (Nat.not_lt_zero _)
      | succ kf ih44 =>
        intro N  i  g1 g2 g3 g4 hm44
        have ih := ih44
        have hW := INV_sp h g1
        have e8 : gI N 568 = gI M 568 := g1.at 568 (by decide)
        have e9 : gI N 569 = gI M 569 := g1.at 569 (by decide)
        have hR := g1.RF hRo
        have hS := SR_sm hSo g1 (fun a a0 a1 (z : a = 546) => by omega)
        have eRw : ∀ j : Int, gI N (12 + l.toNat) j = gI M (12 + l.toNat) j := fun j => congrFun (g1.at (12 + l.toNat) (fun (z : 12 + l.toNat = 546) => by omega)) j
        refine bw_iload rfl rfl ?_
        refine bw_iload rfl rfl ?_
        refine bw_icgt rfl (fun c47 => ?_) (fun c47 => ?_)
        · skip
          have hsp : ∀ j : Int, 0 ≤ j → j < gI M 568 0 → gI N 546 j = exG (mR M 0 l) t u v j := fun j j0 j1 => by
            rw [g2 j j0 (by omega)]
            unfold exG
            by_cases q : t ≤ j ∧ j ≤ u
            · rw [if_pos q, if_pos (by omega)]
            · rw [if_neg q, if_neg (by omega), h.row ⟨by omega, by omega⟩ ⟨j0, j1⟩]
          refine bw_aload rfl rfl ?_
          refine bw_getr rfl rfl (hR _ _) ?_
          refine bw_getr rfl rfl (hR _ _) ?_
          refine bw_iload rfl rfl ?_
          refine bw_aldr rfl (by first | rfl | assumption) (by decide) (by omega) (by omega) ((hR _ _).trans (rr_row (fun _ => rfl) (by omega) (by omega) (by omega))) ?_
          refine bw_aload rfl rfl ?_
          refine bw_getr rfl rfl (hR _ _) ?_
          refine bw_aload rfl rfl ?_
          refine bw_getr rfl rfl (cur_r hR hc) ?_
          refine bw_getI rfl rfl ?_
          rw [show gI N 459 0 = gI M 568 0 from hS.c0]
          refine bw_callSNe (e := d - 1) (as := [_, _, _]) rfl (by omega) rfl rfl (Nat.le_of_ble_eq_true rfl) (Nat.le_of_ble_eq_true rfl) (c_differences (z := 96) (y := 96) (by decide) (kfa (L := L) (b := 12) (n := 6) (v := (20, 96)) (by decide) (by decide) ⟨by omega, by omega⟩) rfl (by omega)) ?_
          rw [pD_symm, pD_cg (f' := exG (mR M 0 l) t u v) (g' := mR M 0 l) (fun j j0 j1 => ⟨hsp j j0 j1, (eRw j).trans (h.row ⟨by omega, by omega⟩ ⟨j0, j1⟩)⟩)]
          refine bw_ifne rfl (fun c88 => ?_) (fun c88 => ?_)
          · skip
            refine bw_aload rfl rfl ?_
            refine bw_iload rfl rfl ?_
            refine bw_callVi (e := d - 1) (as := [_]) rfl (by omega) rfl rfl (Nat.le_of_ble_eq_true rfl) (Nat.le_of_ble_eq_true rfl) rfl (c_putSpare (M := N) (G := exG (mR M 0 l) t u v) hR (by first | exact Or.inl rfl | exact Or.inr rfl) hc hW.1 (by rw [e8]; omega) (fun f f0 f1 => hsp f f0 (by rw [← e8]; exact f1)) (by omega)) (fun r98 M98 hM98 => ?_)
            obtain ⟨x98, v98⟩ := hM98
            have v98 := act_sp (by assumption) v98
            rw [mR_e e9, e8] at x98
            refine bw_ret rfl rfl ?_
            first
            | exact ⟨rfl, _, rfl, Or.inl ⟨g4, Or.inl ⟨by omega, rfl, g1⟩⟩⟩
            | exact ⟨rfl, _, rfl, Or.inl ⟨g4, Or.inr ⟨by omega, x98, v98⟩⟩⟩
          · skip
            refine bw_push rfl ?_
            refine bw_goto rfl ?_
            refine bw_ret rfl rfl ?_
            first
            | exact ⟨rfl, _, rfl, Or.inl ⟨g4, Or.inl ⟨by omega, rfl, g1⟩⟩⟩
            | exact ⟨rfl, _, rfl, Or.inl ⟨g4, Or.inr ⟨by omega, x98, v98⟩⟩⟩
        · skip
          refine bw_aload rfl rfl ?_
          refine bw_getr rfl rfl (hR _ _) ?_
          refine bw_iload rfl rfl ?_
          refine bw_iload rfl rfl ?_
          refine bw_asti rfl (by first | rfl | assumption) (by omega) (by omega) ?_
          refine bw_iinc (ls2 := [_, _, _, _, _, _]) rfl rfl rfl ⟨by omega, by omega⟩ rfl ?_
          refine bw_goto rfl ?_
          exact ih _ _ (g1.sI _ _ rfl) (spI_s g2 (by omega) rfl) (by omega) g4 (by omega)
    show abW d (0, 0) 115 0 [some (vr (some 0)), some (vi l), some (vi t), some (vi u), some (vi v), none] [] (0, 0) (A0 L) M (qI (A0 L) (fun x N => (0 ≤ l ∧ l < gI M 568 1 ∧ 0 ≤ t ∧ t ≤ u ∧ u < gI M 568 0 ∧ 0 ≤ v ∧ v ≤ 99) ∧ (cN (pD (exG (mR M 0 l) t u v) (mR M 0 l)) (gI M 568 0).toNat = 0 ∧ x = -3 ∧ sm pSp M N ∨ cN (pD (exG (mR M 0 l) t u v) (mR M 0 l)) (gI M 568 0).toNat ≠ 0 ∧ x = cN (pD (exG (mR M 0 l) t u v) (mR M 0 l)) (gI M 568 0).toNat ∧ actD M (rwW M l (exG (mR M 0 l) t u v)) N) ∨ ¬ (0 ≤ l ∧ l < gI M 568 1 ∧ 0 ≤ t ∧ t ≤ u ∧ u < gI M 568 0 ∧ 0 ≤ v ∧ v ≤ 99) ∧ x = -2 ∧ N = M))
    refine bw_aload rfl rfl ?_
    refine bw_iload rfl rfl ?_
    refine bw_iload rfl rfl ?_
    refine bw_callVj (e := d - 1) (as := [_, _]) rfl (by omega) rfl rfl (Nat.le_of_ble_eq_true rfl) (Nat.le_of_ble_eq_true rfl) rfl (c_hasPlace hR (by first | exact Or.inl rfl | exact Or.inr rfl) hc h (by omega)) (fun r3 hr3 => ?_)
    refine bw_ifeq rfl (fun c6 => ?_) (fun c6 => ?_)
    · skip
      refine bw_push rfl ?_
      refine bw_ret rfl rfl ?_
      exact ⟨rfl, _, rfl, Or.inr ⟨by omega, rfl, rfl⟩⟩
    · skip
      refine bw_aload rfl rfl ?_
      refine bw_getr rfl rfl (cur_r hR hc) ?_
      refine bw_iload rfl rfl ?_
      refine bw_callVNj (e := d - 1) (as := [_]) rfl (by omega) rfl rfl (Nat.le_of_ble_eq_true rfl) (Nat.le_of_ble_eq_true rfl) rfl (c_hasFrame hR (by first | exact Or.inl rfl | exact Or.inr rfl) hS) (fun r14 hr14 => ?_)
      refine bw_ifeq rfl (fun c17 => ?_) (fun c17 => ?_)
      · skip
        refine bw_push rfl ?_
        refine bw_ret rfl rfl ?_
        exact ⟨rfl, _, rfl, Or.inr ⟨by omega, rfl, rfl⟩⟩
      · skip
        refine bw_iload rfl rfl ?_
        refine bw_iload rfl rfl ?_
        refine bw_iclt rfl (fun c22 => ?_) (fun c22 => ?_)
        · skip
          refine bw_push rfl ?_
          refine bw_ret rfl rfl ?_
          exact ⟨rfl, _, rfl, Or.inr ⟨by omega, rfl, rfl⟩⟩
        · skip
          refine bw_iload rfl rfl ?_
          refine bw_callSj (e := d - 1) (as := [_]) rfl (by omega) rfl rfl (Nat.le_of_ble_eq_true rfl) (Nat.le_of_ble_eq_true rfl) (c_isDrawing hR) (fun r27 hr27 => ?_)
          refine bw_ifne rfl (fun c30 => ?_) (fun c30 => ?_)
          · skip
            refine bw_aload rfl rfl ?_
            refine bw_iload rfl rfl ?_
            refine bw_callVv (e := d - 1) (as := [_]) rfl (by omega) rfl rfl (Nat.le_of_ble_eq_true rfl) (Nat.le_of_ble_eq_true rfl) rfl (c_copyToSpare hR (by omega) (by omega)) (fun M38 hM38 => ?_)
            refine bw_iload rfl rfl ?_
            refine bw_istore (ls2 := [_, _, _, _, _, _]) rfl rfl (Nat.le_of_ble_eq_true rfl) rfl ?_
            exact L44 98 M38 t hM38.1 (spI_0 hM38.2) (by omega) (by omega) (by omega)
          · skip
            refine bw_push rfl ?_
            refine bw_ret rfl rfl ?_
            exact ⟨rfl, _, rfl, Or.inr ⟨by omega, rfl, rfl⟩⟩
set_option maxRecDepth 20000 in
set_option maxHeartbeats 4000000 in
theorem x_push {d L : Nat} {M : abMem} {r : abRf} (hR : RF r M) {s : Nat} (hs : s = 372 ∨ s = 459) (hc : cur r = s) {k : Int} (h : INV r M k) {l t z : Int} (hd : 4 ≤ d) : abW d (0, 0) 116 0 (abEnt (abL 116) [vr (some 0), vi l, vi t, vi z]) [] (0, 0) (A0 L) M (qI (A0 L) (fun x N => (0 ≤ l ∧ l < gI M 568 1 ∧ 0 ≤ t ∧ t < gI M 568 0 ∧ 1 ≤ z ∧ z ≤ 96) ∧ x = cN (pF (mR M 0 l)) (gI M 568 0).toNat - cN (pF (mR M 0 l)) (max t (gI M 568 0 - z)).toNat ∧ actD M (rwW M l (psG (mR M 0 l) t z)) N ∨ ¬ (0 ≤ l ∧ l < gI M 568 1 ∧ 0 ≤ t ∧ t < gI M 568 0 ∧ 1 ≤ z ∧ z ≤ 96) ∧ x = -2 ∧ N = M)) := by
  rcases hs with rfl | rfl
  · have hS : SR M 372 (gI M 568) := by have q := h.sr; rw [hc] at q; exact q
    have b1 := h.fr
    have b2 := h.la
    have hrf := hR
    have hRo := hR
    have hSo := hS
    have L107 : ∀ (kf : Nat) (N : abMem) (c i : Int), (sm pSp M N) → (spI M N l t (gI M 568 0) (psG (mR M 0 l) t z)) → (max t (gI M 568 0 - z) ≤ i ∧ i ≤ gI M 568 0) → (0 ≤ l ∧ l < gI M 568 1 ∧ 0 ≤ t ∧ t < gI M 568 0 ∧ 1 ≤ z ∧ z ≤ 96) → (c + cN (pF (mR M 0 l)) (max t (gI M 568 0 - z)).toNat = cN (pF (mR M 0 l)) i.toNat) → ((gI M 568 0 - i).toNat) < kf → abW d (0, 0) 116 107 [some (vr (some 0)), some (vi l), some (vi t), some (vi z), some (vr (some (12 + l.toNat))), some (vi c), some (vi i)] [] (0, 0) (A0 L) (N) (qI (A0 L) (fun x N => (0 ≤ l ∧ l < gI M 568 1 ∧ 0 ≤ t ∧ t < gI M 568 0 ∧ 1 ≤ z ∧ z ≤ 96) ∧ x = cN (pF (mR M 0 l)) (gI M 568 0).toNat - cN (pF (mR M 0 l)) (max t (gI M 568 0 - z)).toNat ∧ actD M (rwW M l (psG (mR M 0 l) t z)) N ∨ ¬ (0 ≤ l ∧ l < gI M 568 1 ∧ 0 ≤ t ∧ t < gI M 568 0 ∧ 1 ≤ z ∧ z ≤ 96) ∧ x = -2 ∧ N = M)) := by
      intro kf
      induction kf with
      | zero => intro N  c i  g1 g2 g3 g4 g5 hm9; exact absurd hm9 (Nat.not_lt_zero _)
      | succ kf ih107 =>
        intro N  c i  g1 g2 g3 g4 g5 hm107
        have ih := ih107
        have hW := INV_sp h g1
        have e8 : gI N 568 = gI M 568 := g1.at 568 (by decide)
        have e9 : gI N 569 = gI M 569 := g1.at 569 (by decide)
        have hR := g1.RF hRo
        have hS := SR_sm hSo g1 (fun a a0 a1 (z : a = 546) => by omega)
        have eRw : ∀ j : Int, gI N (12 + l.toNat) j = gI M (12 + l.toNat) j := fun j => congrFun (g1.at (12 + l.toNat) (fun (z : 12 + l.toNat = 546) => by omega)) j
        have b9 := cN_in (pF (mR M 0 l)) i.toNat
        have b8 := cN_in (pF (mR M 0 l)) (max t (gI M 568 0 - z)).toNat
        refine bw_iload rfl rfl ?_
        refine bw_aload rfl rfl ?_
        refine bw_getr rfl rfl (cur_r hR hc) ?_
        refine bw_getI rfl rfl ?_
        rw [show gI N 372 0 = gI M 568 0 from hS.c0]
        refine bw_icge rfl (fun c116 => ?_) (fun c116 => ?_)
        · skip
          obtain rfl : i = gI M 568 0 := by omega
          have hsp : ∀ j : Int, 0 ≤ j → j < gI M 568 0 → gI N 546 j = psG (mR M 0 l) t z j := fun j j0 j1 => by
            rw [g2 j j0 (by omega)]
            by_cases q : t ≤ j ∧ j < gI M 568 0
            · rw [if_pos q]
            · rw [if_neg q, h.row ⟨by omega, by omega⟩ ⟨j0, j1⟩]
              unfold psG
              rw [if_pos (by omega)]
          refine bw_aload rfl rfl ?_
          refine bw_iload rfl rfl ?_
          refine bw_callVi (e := d - 1) (as := [_]) rfl (by omega) rfl rfl (Nat.le_of_ble_eq_true rfl) (Nat.le_of_ble_eq_true rfl) rfl (c_putSpare (M := N) (G := psG (mR M 0 l) t z) hR (by first | exact Or.inl rfl | exact Or.inr rfl) hc hW.1 (by rw [e8]; omega) (fun f f0 f1 => hsp f f0 (by rw [← e8]; exact f1)) (by omega)) (fun r138 M138 hM138 => ?_)
          obtain ⟨x138, v138⟩ := hM138
          have v138 := act_sp (by assumption) v138
          rw [mR_e e9, e8] at x138
          refine bw_pop rfl ?_
          refine bw_iload rfl rfl ?_
          refine bw_ret rfl rfl ?_
          exact ⟨rfl, _, rfl, Or.inl ⟨g4, by omega, v138⟩⟩
        · skip
          refine bw_aload rfl rfl ?_
          refine bw_iload rfl rfl ?_
          refine bw_aldi rfl (kfa (b := 12) (n := 6) (v := (20, 96)) (by decide) (by decide) ⟨by omega, by omega⟩) (by omega) (by omega) ?_
          rw [eRw, h.row ⟨by omega, by omega⟩ ⟨by omega, by omega⟩]
          refine bw_ifeq rfl (fun c124 => ?_) (fun c124 => ?_)
          · skip
            refine bw_iinc (ls2 := [_, _, _, _, _, _, _]) rfl rfl rfl ⟨by omega, by omega⟩ rfl ?_
            refine bw_goto rfl ?_
            have e := cN_s (pF (mR M 0 l)) (i := i) (by omega)
            first
            | exact ih _ _ _ g1 g2 (by omega) g4 (by rw [e, ← g5, if_pos (show pF (mR M 0 l) i = true from decide_eq_true (by omega))]; omega) (by omega)
            | exact ih _ _ _ g1 g2 (by omega) g4 (by rw [e, ← g5, if_neg (show ¬ pF (mR M 0 l) i = true from fun z => by have := of_decide_eq_true z; omega)]; omega) (by omega)
          · skip
            refine bw_iinc (ls2 := [_, _, _, _, _, _, _]) rfl rfl rfl ⟨by omega, by omega⟩ rfl ?_
            refine bw_iinc (ls2 := [_, _, _, _, _, _, _]) rfl rfl rfl ⟨by omega, by omega⟩ rfl ?_
            refine bw_goto rfl ?_
            have e := cN_s (pF (mR M 0 l)) (i := i) (by omega)
            first
            | exact ih _ _ _ g1 g2 (by omega) g4 (by rw [e, ← g5, if_pos (show pF (mR M 0 l) i = true from decide_eq_true (by omega))]; omega) (by omega)
            | exact ih _ _ _ g1 g2 (by omega) g4 (by rw [e, ← g5, if_neg (show ¬ pF (mR M 0 l) i = true from fun z => by have := of_decide_eq_true z; omega)]; omega) (by omega)
    have L42 : ∀ (kf : Nat) (N : abMem) (i : Int), (sm pSp M N) → (spI M N l t i (psG (mR M 0 l) t z)) → (t ≤ i ∧ i ≤ gI M 568 0) → (0 ≤ l ∧ l < gI M 568 1 ∧ 0 ≤ t ∧ t < gI M 568 0 ∧ 1 ≤ z ∧ z ≤ 96) → ((gI M 568 0 - i).toNat) < kf → abW d (0, 0) 116 42 [some (vr (some 0)), some (vi l), some (vi t), some (vi z), some (vr (some (12 + l.toNat))), some (vi i), none] [] (0, 0) (A0 L) (N) (qI (A0 L) (fun x N => (0 ≤ l ∧ l < gI M 568 1 ∧ 0 ≤ t ∧ t < gI M 568 0 ∧ 1 ≤ z ∧ z ≤ 96) ∧ x = cN (pF (mR M 0 l)) (gI M 568 0).toNat - cN (pF (mR M 0 l)) (max t (gI M 568 0 - z)).toNat ∧ actD M (rwW M l (psG (mR M 0 l) t z)) N ∨ ¬ (0 ≤ l ∧ l < gI M 568 1 ∧ 0 ≤ t ∧ t < gI M 568 0 ∧ 1 ≤ z ∧ z ≤ 96) ∧ x = -2 ∧ N = M)) := by
      intro kf
      induction kf with
      | zero => intro N  i  g1 g2 g3 g4 hm9; exact absurd hm9 (Nat.not_lt_zero _)
      | succ kf ih42 =>
        intro N  i  g1 g2 g3 g4 hm42
        have ih := ih42
        have hW := INV_sp h g1
        have e8 : gI N 568 = gI M 568 := g1.at 568 (by decide)
        have e9 : gI N 569 = gI M 569 := g1.at 569 (by decide)
        have hR := g1.RF hRo
        have hS := SR_sm hSo g1 (fun a a0 a1 (z : a = 546) => by omega)
        have eRw : ∀ j : Int, gI N (12 + l.toNat) j = gI M (12 + l.toNat) j := fun j => congrFun (g1.at (12 + l.toNat) (fun (z : 12 + l.toNat = 546) => by omega)) j
        refine bw_iload rfl rfl ?_
        refine bw_aload rfl rfl ?_
        refine bw_getr rfl rfl (cur_r hR hc) ?_
        refine bw_getI rfl rfl ?_
        rw [show gI N 372 0 = gI M 568 0 from hS.c0]
        refine bw_icge rfl (fun c51 => ?_) (fun c51 => ?_)
        · skip
          refine bw_push rfl ?_
          refine bw_istore (ls2 := [_, _, _, _, _, _, _]) rfl rfl (Nat.le_of_ble_eq_true rfl) rfl ?_
          refine bw_iload rfl rfl ?_
          refine bw_aload rfl rfl ?_
          refine bw_getr rfl rfl (cur_r hR hc) ?_
          refine bw_getI rfl rfl ?_
          rw [show gI N 372 0 = gI M 568 0 from hS.c0]
          refine bw_iload rfl rfl ?_
          refine bw_isub rfl ⟨by omega, by omega⟩ ?_
          refine bw_max rfl (by omega) (Nat.le_of_ble_eq_true rfl) (by decide) (by decide) ?_
          refine bw_istore (ls2 := [_, _, _, _, _, _, _]) rfl rfl (Nat.le_of_ble_eq_true rfl) rfl ?_
          obtain rfl : i = gI M 568 0 := by omega
          exact L107 98 N 0 _ g1 g2 (by omega) g4 (by omega) (by omega)
        · skip
          refine bw_aload rfl rfl ?_
          refine bw_getr rfl rfl (hR _ _) ?_
          refine bw_iload rfl rfl ?_
          refine bw_iload rfl rfl ?_
          refine bw_iload rfl rfl ?_
          refine bw_isub rfl ⟨by omega, by omega⟩ ?_
          refine bw_iload rfl rfl ?_
          refine bw_icle rfl (fun c65 => ?_) (fun c65 => ?_)
          · skip
            refine bw_aload rfl rfl ?_
            refine bw_iload rfl rfl ?_
            refine bw_aldi rfl (kfa (b := 12) (n := 6) (v := (20, 96)) (by decide) (by decide) ⟨by omega, by omega⟩) (by omega) (by omega) ?_
            rw [eRw, h.row ⟨by omega, by omega⟩ ⟨by omega, by omega⟩]
            refine bw_asti rfl (by first | rfl | assumption) (by omega) (by omega) ?_
            refine bw_iinc (ls2 := [_, _, _, _, _, _, _]) rfl rfl rfl ⟨by omega, by omega⟩ rfl ?_
            refine bw_goto rfl ?_
            have ep : ∀ x : Int, x = psG (mR M 0 l) t z i → abW d (0, 0) 116 42 [some (vr (some 0)), some (vi l), some (vi t), some (vi z), some (vr (some (12 + l.toNat))), some (vi (i + 1)), none] [] (0, 0) (A0 L) (sI N 546 i x) (qI (A0 L) (fun x N => (0 ≤ l ∧ l < gI M 568 1 ∧ 0 ≤ t ∧ t < gI M 568 0 ∧ 1 ≤ z ∧ z ≤ 96) ∧ x = cN (pF (mR M 0 l)) (gI M 568 0).toNat - cN (pF (mR M 0 l)) (max t (gI M 568 0 - z)).toNat ∧ actD M (rwW M l (psG (mR M 0 l) t z)) N ∨ ¬ (0 ≤ l ∧ l < gI M 568 1 ∧ 0 ≤ t ∧ t < gI M 568 0 ∧ 1 ≤ z ∧ z ≤ 96) ∧ x = -2 ∧ N = M)) := fun x hx => ih _ _ (g1.sI _ _ rfl) (spI_s g2 (by omega) hx) (by omega) g4 (by omega)
            refine ep _ ?_
            unfold psG
            by_cases q : i < t + z
            · first
              | (exfalso; omega)
              | rw [if_neg (by omega), if_pos q]
            · first
              | (rw [if_neg (by omega), if_neg q]; done)
              | (rw [if_neg (by omega), if_neg q]; congr 1; omega)
          · skip
            refine bw_aload rfl rfl ?_
            refine bw_iload rfl rfl ?_
            refine bw_iload rfl rfl ?_
            refine bw_isub rfl ⟨by omega, by omega⟩ ?_
            refine bw_aldi rfl (kfa (b := 12) (n := 6) (v := (20, 96)) (by decide) (by decide) ⟨by omega, by omega⟩) (by omega) (by omega) ?_
            rw [eRw, h.row ⟨by omega, by omega⟩ ⟨by omega, by omega⟩]
            refine bw_goto rfl ?_
            refine bw_asti rfl (by first | rfl | assumption) (by omega) (by omega) ?_
            refine bw_iinc (ls2 := [_, _, _, _, _, _, _]) rfl rfl rfl ⟨by omega, by omega⟩ rfl ?_
            refine bw_goto rfl ?_
            have ep : ∀ x : Int, x = psG (mR M 0 l) t z i → abW d (0, 0) 116 42 [some (vr (some 0)), some (vi l), some (vi t), some (vi z), some (vr (some (12 + l.toNat))), some (vi (i + 1)), none] [] (0, 0) (A0 L) (sI N 546 i x) (qI (A0 L) (fun x N => (0 ≤ l ∧ l < gI M 568 1 ∧ 0 ≤ t ∧ t < gI M 568 0 ∧ 1 ≤ z ∧ z ≤ 96) ∧ x = cN (pF (mR M 0 l)) (gI M 568 0).toNat - cN (pF (mR M 0 l)) (max t (gI M 568 0 - z)).toNat ∧ actD M (rwW M l (psG (mR M 0 l) t z)) N ∨ ¬ (0 ≤ l ∧ l < gI M 568 1 ∧ 0 ≤ t ∧ t < gI M 568 0 ∧ 1 ≤ z ∧ z ≤ 96) ∧ x = -2 ∧ N = M)) := fun x hx => ih _ _ (g1.sI _ _ rfl) (spI_s g2 (by omega) hx) (by omega) g4 (by omega)
            refine ep _ ?_
            unfold psG
            by_cases q : i < t + z
            · first
              | (exfalso; omega)
              | rw [if_neg (by omega), if_pos q]
            · first
              | (rw [if_neg (by omega), if_neg q]; done)
              | (rw [if_neg (by omega), if_neg q]; congr 1; omega)
    show abW d (0, 0) 116 0 [some (vr (some 0)), some (vi l), some (vi t), some (vi z), none, none, none] [] (0, 0) (A0 L) M (qI (A0 L) (fun x N => (0 ≤ l ∧ l < gI M 568 1 ∧ 0 ≤ t ∧ t < gI M 568 0 ∧ 1 ≤ z ∧ z ≤ 96) ∧ x = cN (pF (mR M 0 l)) (gI M 568 0).toNat - cN (pF (mR M 0 l)) (max t (gI M 568 0 - z)).toNat ∧ actD M (rwW M l (psG (mR M 0 l) t z)) N ∨ ¬ (0 ≤ l ∧ l < gI M 568 1 ∧ 0 ≤ t ∧ t < gI M 568 0 ∧ 1 ≤ z ∧ z ≤ 96) ∧ x = -2 ∧ N = M))
    refine bw_aload rfl rfl ?_
    refine bw_iload rfl rfl ?_
    refine bw_iload rfl rfl ?_
    refine bw_callVj (e := d - 1) (as := [_, _]) rfl (by omega) rfl rfl (Nat.le_of_ble_eq_true rfl) (Nat.le_of_ble_eq_true rfl) rfl (c_hasPlace hR (by first | exact Or.inl rfl | exact Or.inr rfl) hc h (by omega)) (fun r3 hr3 => ?_)
    refine bw_ifeq rfl (fun c6 => ?_) (fun c6 => ?_)
    · skip
      refine bw_push rfl ?_
      refine bw_ret rfl rfl ?_
      exact ⟨rfl, _, rfl, Or.inr ⟨by omega, rfl, rfl⟩⟩
    · skip
      refine bw_iload rfl rfl ?_
      refine bw_push rfl ?_
      refine bw_iclt rfl (fun c11 => ?_) (fun c11 => ?_)
      · skip
        refine bw_push rfl ?_
        refine bw_ret rfl rfl ?_
        exact ⟨rfl, _, rfl, Or.inr ⟨by omega, rfl, rfl⟩⟩
      · skip
        refine bw_iload rfl rfl ?_
        refine bw_push rfl ?_
        refine bw_icle rfl (fun c17 => ?_) (fun c17 => ?_)
        · skip
          refine bw_aload rfl rfl ?_
          refine bw_getr rfl rfl (hR _ _) ?_
          refine bw_getr rfl rfl (hR _ _) ?_
          refine bw_iload rfl rfl ?_
          refine bw_aldr rfl (by first | rfl | assumption) (by decide) (by omega) (by omega) ((hR _ _).trans (rr_row (fun _ => rfl) (by omega) (by omega) (by omega))) ?_
          refine bw_astore (ls2 := [_, _, _, _, _, _, _]) rfl rfl (Nat.le_of_ble_eq_true rfl) rfl ?_
          refine bw_aload rfl rfl ?_
          refine bw_iload rfl rfl ?_
          refine bw_callVv (e := d - 1) (as := [_]) rfl (by omega) rfl rfl (Nat.le_of_ble_eq_true rfl) (Nat.le_of_ble_eq_true rfl) rfl (c_copyToSpare hR (by omega) (by omega)) (fun M36 hM36 => ?_)
          refine bw_iload rfl rfl ?_
          refine bw_istore (ls2 := [_, _, _, _, _, _, _]) rfl rfl (Nat.le_of_ble_eq_true rfl) rfl ?_
          exact L42 98 M36 t hM36.1 (spI_0 hM36.2) (by omega) (by omega) (by omega)
        · skip
          refine bw_push rfl ?_
          refine bw_ret rfl rfl ?_
          exact ⟨rfl, _, rfl, Or.inr ⟨by omega, rfl, rfl⟩⟩
  · have hS : SR M 459 (gI M 568) := by have q := h.sr; rw [hc] at q; exact q
    have b1 := h.fr
    have b2 := h.la
    have hrf := hR
    have hRo := hR
    have hSo := hS
    have L107 : ∀ (kf : Nat) (N : abMem) (c i : Int), (sm pSp M N) → (spI M N l t (gI M 568 0) (psG (mR M 0 l) t z)) → (max t (gI M 568 0 - z) ≤ i ∧ i ≤ gI M 568 0) → (0 ≤ l ∧ l < gI M 568 1 ∧ 0 ≤ t ∧ t < gI M 568 0 ∧ 1 ≤ z ∧ z ≤ 96) → (c + cN (pF (mR M 0 l)) (max t (gI M 568 0 - z)).toNat = cN (pF (mR M 0 l)) i.toNat) → ((gI M 568 0 - i).toNat) < kf → abW d (0, 0) 116 107 [some (vr (some 0)), some (vi l), some (vi t), some (vi z), some (vr (some (12 + l.toNat))), some (vi c), some (vi i)] [] (0, 0) (A0 L) (N) (qI (A0 L) (fun x N => (0 ≤ l ∧ l < gI M 568 1 ∧ 0 ≤ t ∧ t < gI M 568 0 ∧ 1 ≤ z ∧ z ≤ 96) ∧ x = cN (pF (mR M 0 l)) (gI M 568 0).toNat - cN (pF (mR M 0 l)) (max t (gI M 568 0 - z)).toNat ∧ actD M (rwW M l (psG (mR M 0 l) t z)) N ∨ ¬ (0 ≤ l ∧ l < gI M 568 1 ∧ 0 ≤ t ∧ t < gI M 568 0 ∧ 1 ≤ z ∧ z ≤ 96) ∧ x = -2 ∧ N = M)) := by
      intro kf
      induction kf with
      | zero => intro N  c i  g1 g2 g3 g4 g5 hm9; exact absurd hm9 (Nat.not_lt_zero _)
      | succ kf ih107 =>
        intro N  c i  g1 g2 g3 g4 g5 hm107
        have ih := ih107
        have hW := INV_sp h g1
        have e8 : gI N 568 = gI M 568 := g1.at 568 (by decide)
        have e9 : gI N 569 = gI M 569 := g1.at 569 (by decide)
        have hR := g1.RF hRo
        have hS := SR_sm hSo g1 (fun a a0 a1 (z : a = 546) => by omega)
        have eRw : ∀ j : Int, gI N (12 + l.toNat) j = gI M (12 + l.toNat) j := fun j => congrFun (g1.at (12 + l.toNat) (fun (z : 12 + l.toNat = 546) => by omega)) j
        have b9 := cN_in (pF (mR M 0 l)) i.toNat
        have b8 := cN_in (pF (mR M 0 l)) (max t (gI M 568 0 - z)).toNat
        refine bw_iload rfl rfl ?_
        refine bw_aload rfl rfl ?_
        refine bw_getr rfl rfl (cur_r hR hc) ?_
        refine bw_getI rfl rfl ?_
        rw [show gI N 459 0 = gI M 568 0 from hS.c0]
        refine bw_icge rfl (fun c116 => ?_) (fun c116 => ?_)
        · skip
          obtain rfl : i = gI M 568 0 := by omega
          have hsp : ∀ j : Int, 0 ≤ j → j < gI M 568 0 → gI N 546 j = psG (mR M 0 l) t z j := fun j j0 j1 => by
            rw [g2 j j0 (by omega)]
            by_cases q : t ≤ j ∧ j < gI M 568 0
            · rw [if_pos q]
            · rw [if_neg q, h.row ⟨by omega, by omega⟩ ⟨j0, j1⟩]
              unfold psG
              rw [if_pos (by omega)]
          refine bw_aload rfl rfl ?_
          refine bw_iload rfl rfl ?_
          refine bw_callVi (e := d - 1) (as := [_]) rfl (by omega) rfl rfl (Nat.le_of_ble_eq_true rfl) (Nat.le_of_ble_eq_true rfl) rfl (c_putSpare (M := N) (G := psG (mR M 0 l) t z) hR (by first | exact Or.inl rfl | exact Or.inr rfl) hc hW.1 (by rw [e8]; omega) (fun f f0 f1 => hsp f f0 (by rw [← e8]; exact f1)) (by omega)) (fun r138 M138 hM138 => ?_)
          obtain ⟨x138, v138⟩ := hM138
          have v138 := act_sp (by assumption) v138
          rw [mR_e e9, e8] at x138
          refine bw_pop rfl ?_
          refine bw_iload rfl rfl ?_
          refine bw_ret rfl rfl ?_
          exact ⟨rfl, _, rfl, Or.inl ⟨g4, by omega, v138⟩⟩
        · skip
          refine bw_aload rfl rfl ?_
          refine bw_iload rfl rfl ?_
          refine bw_aldi rfl (kfa (b := 12) (n := 6) (v := (20, 96)) (by decide) (by decide) ⟨by omega, by omega⟩) (by omega) (by omega) ?_
          rw [eRw, h.row ⟨by omega, by omega⟩ ⟨by omega, by omega⟩]
          refine bw_ifeq rfl (fun c124 => ?_) (fun c124 => ?_)
          · skip
            refine bw_iinc (ls2 := [_, _, _, _, _, _, _]) rfl rfl rfl ⟨by omega, by omega⟩ rfl ?_
            refine bw_goto rfl ?_
            have e := cN_s (pF (mR M 0 l)) (i := i) (by omega)
            first
            | exact ih _ _ _ g1 g2 (by omega) g4 (by rw [e, ← g5, if_pos (show pF (mR M 0 l) i = true from decide_eq_true (by omega))]; omega) (by omega)
            | exact ih _ _ _ g1 g2 (by omega) g4 (by rw [e, ← g5, if_neg (show ¬ pF (mR M 0 l) i = true from fun z => by have := of_decide_eq_true z; omega)]; omega) (by omega)
          · skip
            refine bw_iinc (ls2 := [_, _, _, _, _, _, _]) rfl rfl rfl ⟨by omega, by omega⟩ rfl ?_
            refine bw_iinc (ls2 := [_, _, _, _, _, _, _]) rfl rfl rfl ⟨by omega, by omega⟩ rfl ?_
            refine bw_goto rfl ?_
            have e := cN_s (pF (mR M 0 l)) (i := i) (by omega)
            first
            | exact ih _ _ _ g1 g2 (by omega) g4 (by rw [e, ← g5, if_pos (show pF (mR M 0 l) i = true from decide_eq_true (by omega))]; omega) (by omega)
            | exact ih _ _ _ g1 g2 (by omega) g4 (by rw [e, ← g5, if_neg (show ¬ pF (mR M 0 l) i = true from fun z => by have := of_decide_eq_true z; omega)]; omega) (by omega)
    have L42 : ∀ (kf : Nat) (N : abMem) (i : Int), (sm pSp M N) → (spI M N l t i (psG (mR M 0 l) t z)) → (t ≤ i ∧ i ≤ gI M 568 0) → (0 ≤ l ∧ l < gI M 568 1 ∧ 0 ≤ t ∧ t < gI M 568 0 ∧ 1 ≤ z ∧ z ≤ 96) → ((gI M 568 0 - i).toNat) < kf → abW d (0, 0) 116 42 [some (vr (some 0)), some (vi l), some (vi t), some (vi z), some (vr (some (12 + l.toNat))), some (vi i), none] [] (0, 0) (A0 L) (N) (qI (A0 L) (fun x N => (0 ≤ l ∧ l < gI M 568 1 ∧ 0 ≤ t ∧ t < gI M 568 0 ∧ 1 ≤ z ∧ z ≤ 96) ∧ x = cN (pF (mR M 0 l)) (gI M 568 0).toNat - cN (pF (mR M 0 l)) (max t (gI M 568 0 - z)).toNat ∧ actD M (rwW M l (psG (mR M 0 l) t z)) N ∨ ¬ (0 ≤ l ∧ l < gI M 568 1 ∧ 0 ≤ t ∧ t < gI M 568 0 ∧ 1 ≤ z ∧ z ≤ 96) ∧ x = -2 ∧ N = M)) := by
      intro kf
      induction kf with
      | zero => intro N  i  g1 g2 g3 g4 hm9; exact absurd hm9 (Nat.not_lt_zero _)
      | succ kf ih42 =>
        intro N  i  g1 g2 g3 g4 hm42
        have ih := ih42
        have hW := INV_sp h g1
        have e8 : gI N 568 = gI M 568 := g1.at 568 (by decide)
        have e9 : gI N 569 = gI M 569 := g1.at 569 (by decide)
        have hR := g1.RF hRo
        have hS := SR_sm hSo g1 (fun a a0 a1 (z : a = 546) => by omega)
        have eRw : ∀ j : Int, gI N (12 + l.toNat) j = gI M (12 + l.toNat) j := fun j => congrFun (g1.at (12 + l.toNat) (fun (z : 12 + l.toNat = 546) => by omega)) j
        refine bw_iload rfl rfl ?_
        refine bw_aload rfl rfl ?_
        refine bw_getr rfl rfl (cur_r hR hc) ?_
        refine bw_getI rfl rfl ?_
        rw [show gI N 459 0 = gI M 568 0 from hS.c0]
        refine bw_icge rfl (fun c51 => ?_) (fun c51 => ?_)
        · skip
          refine bw_push rfl ?_
          refine bw_istore (ls2 := [_, _, _, _, _, _, _]) rfl rfl (Nat.le_of_ble_eq_true rfl) rfl ?_
          refine bw_iload rfl rfl ?_
          refine bw_aload rfl rfl ?_
          refine bw_getr rfl rfl (cur_r hR hc) ?_
          refine bw_getI rfl rfl ?_
          rw [show gI N 459 0 = gI M 568 0 from hS.c0]
          refine bw_iload rfl rfl ?_
          refine bw_isub rfl ⟨by omega, by omega⟩ ?_
          refine bw_max rfl (by omega) (Nat.le_of_ble_eq_true rfl) (by decide) (by decide) ?_
          refine bw_istore (ls2 := [_, _, _, _, _, _, _]) rfl rfl (Nat.le_of_ble_eq_true rfl) rfl ?_
          obtain rfl : i = gI M 568 0 := by omega
          exact L107 98 N 0 _ g1 g2 (by omega) g4 (by omega) (by omega)
        · skip
          refine bw_aload rfl rfl ?_
          refine bw_getr rfl rfl (hR _ _) ?_
          refine bw_iload rfl rfl ?_
          refine bw_iload rfl rfl ?_
          refine bw_iload rfl rfl ?_
          refine bw_isub rfl ⟨by omega, by omega⟩ ?_
          refine bw_iload rfl rfl ?_
          refine bw_icle rfl (fun c65 => ?_) (fun c65 => ?_)
          · skip
            refine bw_aload rfl rfl ?_
            refine bw_iload rfl rfl ?_
            refine bw_aldi rfl (kfa (b := 12) (n := 6) (v := (20, 96)) (by decide) (by decide) ⟨by omega, by omega⟩) (by omega) (by omega) ?_
            rw [eRw, h.row ⟨by omega, by omega⟩ ⟨by omega, by omega⟩]
            refine bw_asti rfl (by first | rfl | assumption) (by omega) (by omega) ?_
            refine bw_iinc (ls2 := [_, _, _, _, _, _, _]) rfl rfl rfl ⟨by omega, by omega⟩ rfl ?_
            refine bw_goto rfl ?_
            have ep : ∀ x : Int, x = psG (mR M 0 l) t z i → abW d (0, 0) 116 42 [some (vr (some 0)), some (vi l), some (vi t), some (vi z), some (vr (some (12 + l.toNat))), some (vi (i + 1)), none] [] (0, 0) (A0 L) (sI N 546 i x) (qI (A0 L) (fun x N => (0 ≤ l ∧ l < gI M 568 1 ∧ 0 ≤ t ∧ t < gI M 568 0 ∧ 1 ≤ z ∧ z ≤ 96) ∧ x = cN (pF (mR M 0 l)) (gI M 568 0).toNat - cN (pF (mR M 0 l)) (max t (gI M 568 0 - z)).toNat ∧ actD M (rwW M l (psG (mR M 0 l) t z)) N ∨ ¬ (0 ≤ l ∧ l < gI M 568 1 ∧ 0 ≤ t ∧ t < gI M 568 0 ∧ 1 ≤ z ∧ z ≤ 96) ∧ x = -2 ∧ N = M)) := fun x hx => ih _ _ (g1.sI _ _ rfl) (spI_s g2 (by omega) hx) (by omega) g4 (by omega)
            refine ep _ ?_
            unfold psG
            by_cases q : i < t + z
            · first
              | (exfalso; omega)
              | rw [if_neg (by omega), if_pos q]
            · first
              | (rw [if_neg (by omega), if_neg q]; done)
              | (rw [if_neg (by omega), if_neg q]; congr 1; omega)
          · skip
            refine bw_aload rfl rfl ?_
            refine bw_iload rfl rfl ?_
            refine bw_iload rfl rfl ?_
            refine bw_isub rfl ⟨by omega, by omega⟩ ?_
            refine bw_aldi rfl (kfa (b := 12) (n := 6) (v := (20, 96)) (by decide) (by decide) ⟨by omega, by omega⟩) (by omega) (by omega) ?_
            rw [eRw, h.row ⟨by omega, by omega⟩ ⟨by omega, by omega⟩]
            refine bw_goto rfl ?_
            refine bw_asti rfl (by first | rfl | assumption) (by omega) (by omega) ?_
            refine bw_iinc (ls2 := [_, _, _, _, _, _, _]) rfl rfl rfl ⟨by omega, by omega⟩ rfl ?_
            refine bw_goto rfl ?_
            have ep : ∀ x : Int, x = psG (mR M 0 l) t z i → abW d (0, 0) 116 42 [some (vr (some 0)), some (vi l), some (vi t), some (vi z), some (vr (some (12 + l.toNat))), some (vi (i + 1)), none] [] (0, 0) (A0 L) (sI N 546 i x) (qI (A0 L) (fun x N => (0 ≤ l ∧ l < gI M 568 1 ∧ 0 ≤ t ∧ t < gI M 568 0 ∧ 1 ≤ z ∧ z ≤ 96) ∧ x = cN (pF (mR M 0 l)) (gI M 568 0).toNat - cN (pF (mR M 0 l)) (max t (gI M 568 0 - z)).toNat ∧ actD M (rwW M l (psG (mR M 0 l) t z)) N ∨ ¬ (0 ≤ l ∧ l < gI M 568 1 ∧ 0 ≤ t ∧ t < gI M 568 0 ∧ 1 ≤ z ∧ z ≤ 96) ∧ x = -2 ∧ N = M)) := fun x hx => ih _ _ (g1.sI _ _ rfl) (spI_s g2 (by omega) hx) (by omega) g4 (by omega)
            refine ep _ ?_
            unfold psG
            by_cases q : i < t + z
            · first
              | (exfalso; omega)
              | rw [if_neg (by omega), if_pos q]
            · first
              | (rw [if_neg (by omega), if_neg q]; done)
              | (rw [if_neg (by omega), if_neg q]; congr 1; omega)
    show abW d (0, 0) 116 0 [some (vr (some 0)), some (vi l), some (vi t), some (vi z), none, none, none] [] (0, 0) (A0 L) M (qI (A0 L) (fun x N => (0 ≤ l ∧ l < gI M 568 1 ∧ 0 ≤ t ∧ t < gI M 568 0 ∧ 1 ≤ z ∧ z ≤ 96) ∧ x = cN (pF (mR M 0 l)) (gI M 568 0).toNat - cN (pF (mR M 0 l)) (max t (gI M 568 0 - z)).toNat ∧ actD M (rwW M l (psG (mR M 0 l) t z)) N ∨ ¬ (0 ≤ l ∧ l < gI M 568 1 ∧ 0 ≤ t ∧ t < gI M 568 0 ∧ 1 ≤ z ∧ z ≤ 96) ∧ x = -2 ∧ N = M))
    refine bw_aload rfl rfl ?_
    refine bw_iload rfl rfl ?_
    refine bw_iload rfl rfl ?_
    refine bw_callVj (e := d - 1) (as := [_, _]) rfl (by omega) rfl rfl (Nat.le_of_ble_eq_true rfl) (Nat.le_of_ble_eq_true rfl) rfl (c_hasPlace hR (by first | exact Or.inl rfl | exact Or.inr rfl) hc h (by omega)) (fun r3 hr3 => ?_)
    refine bw_ifeq rfl (fun c6 => ?_) (fun c6 => ?_)
    · skip
      refine bw_push rfl ?_
      refine bw_ret rfl rfl ?_
      exact ⟨rfl, _, rfl, Or.inr ⟨by omega, rfl, rfl⟩⟩
    · skip
      refine bw_iload rfl rfl ?_
      refine bw_push rfl ?_
      refine bw_iclt rfl (fun c11 => ?_) (fun c11 => ?_)
      · skip
        refine bw_push rfl ?_
        refine bw_ret rfl rfl ?_
        exact ⟨rfl, _, rfl, Or.inr ⟨by omega, rfl, rfl⟩⟩
      · skip
        refine bw_iload rfl rfl ?_
        refine bw_push rfl ?_
        refine bw_icle rfl (fun c17 => ?_) (fun c17 => ?_)
        · skip
          refine bw_aload rfl rfl ?_
          refine bw_getr rfl rfl (hR _ _) ?_
          refine bw_getr rfl rfl (hR _ _) ?_
          refine bw_iload rfl rfl ?_
          refine bw_aldr rfl (by first | rfl | assumption) (by decide) (by omega) (by omega) ((hR _ _).trans (rr_row (fun _ => rfl) (by omega) (by omega) (by omega))) ?_
          refine bw_astore (ls2 := [_, _, _, _, _, _, _]) rfl rfl (Nat.le_of_ble_eq_true rfl) rfl ?_
          refine bw_aload rfl rfl ?_
          refine bw_iload rfl rfl ?_
          refine bw_callVv (e := d - 1) (as := [_]) rfl (by omega) rfl rfl (Nat.le_of_ble_eq_true rfl) (Nat.le_of_ble_eq_true rfl) rfl (c_copyToSpare hR (by omega) (by omega)) (fun M36 hM36 => ?_)
          refine bw_iload rfl rfl ?_
          refine bw_istore (ls2 := [_, _, _, _, _, _, _]) rfl rfl (Nat.le_of_ble_eq_true rfl) rfl ?_
          exact L42 98 M36 t hM36.1 (spI_0 hM36.2) (by omega) (by omega) (by omega)
        · skip
          refine bw_push rfl ?_
          refine bw_ret rfl rfl ?_
          exact ⟨rfl, _, rfl, Or.inr ⟨by omega, rfl, rfl⟩⟩
set_option maxRecDepth 20000 in
set_option maxHeartbeats 4000000 in
theorem x_pull {d L : Nat} {M : abMem} {r : abRf} (hR : RF r M) {s : Nat} (hs : s = 372 ∨ s = 459) (hc : cur r = s) {k : Int} (h : INV r M k) {l t z : Int} (ht : In32 t) (hd : 4 ≤ d) : abW d (0, 0) 117 0 (abEnt (abL 117) [vr (some 0), vi l, vi t, vi z]) [] (0, 0) (A0 L) M (qI (A0 L) (fun x N => (0 ≤ l ∧ l < gI M 568 1 ∧ 0 ≤ t ∧ t < gI M 568 0 ∧ 1 ≤ z ∧ z ≤ gI M 568 0 - t) ∧ x = cN (pD (plG (mR M 0 l) (gI M 568 0) t z) (mR M 0 l)) (gI M 568 0).toNat ∧ actD M (rwW M l (plG (mR M 0 l) (gI M 568 0) t z)) N ∨ ¬ (0 ≤ l ∧ l < gI M 568 1 ∧ 0 ≤ t ∧ t < gI M 568 0 ∧ 1 ≤ z ∧ z ≤ gI M 568 0 - t) ∧ x = -2 ∧ N = M)) := by
  rcases hs with rfl | rfl
  · have hS : SR M 372 (gI M 568) := by have q := h.sr; rw [hc] at q; exact q
    have b1 := h.fr
    have b2 := h.la
    have hrf := hR
    have hRo := hR
    have hSo := hS
    have L111 : ∀ (kf : Nat) (N : abMem) (e i : Int), (sm pSp M N) → ((∀ j : Int, 0 ≤ j → j < i → gI N 546 j = plG (mR M 0 l) (gI M 568 0) t z j)) → (gI M 568 0 - z ≤ i ∧ i ≤ gI M 568 0) → (0 ≤ l ∧ l < gI M 568 1 ∧ 0 ≤ t ∧ t < gI M 568 0 ∧ 1 ≤ z ∧ z ≤ gI M 568 0 - t) → (e = plE (mR M 0 l) (gI M 568 0) t z) → ((gI M 568 0 - i).toNat) < kf → abW d (0, 0) 117 111 [some (vr (some 0)), some (vi l), some (vi t), some (vi z), some (vr (some (12 + l.toNat))), some (vi (gI M 568 0 - z)), some (vi e), some (vi i)] [] (0, 0) (A0 L) (N) (qI (A0 L) (fun x N => (0 ≤ l ∧ l < gI M 568 1 ∧ 0 ≤ t ∧ t < gI M 568 0 ∧ 1 ≤ z ∧ z ≤ gI M 568 0 - t) ∧ x = cN (pD (plG (mR M 0 l) (gI M 568 0) t z) (mR M 0 l)) (gI M 568 0).toNat ∧ actD M (rwW M l (plG (mR M 0 l) (gI M 568 0) t z)) N ∨ ¬ (0 ≤ l ∧ l < gI M 568 1 ∧ 0 ≤ t ∧ t < gI M 568 0 ∧ 1 ≤ z ∧ z ≤ gI M 568 0 - t) ∧ x = -2 ∧ N = M)) := by
      intro kf
      induction kf with
      | zero => intro N  e i  g1 g2 g3 g4 g5 hm9; exact absurd hm9 (Nat.not_lt_zero _)
      | succ kf ih111 =>
        intro N  e i  g1 g2 g3 g4 g5 hm111
        have ih := ih111
        have hW := INV_sp h g1
        have e8 : gI N 568 = gI M 568 := g1.at 568 (by decide)
        have e9 : gI N 569 = gI M 569 := g1.at 569 (by decide)
        have hR := g1.RF hRo
        have hS := SR_sm hSo g1 (fun a a0 a1 (z : a = 546) => by omega)
        have eRw : ∀ j : Int, gI N (12 + l.toNat) j = gI M (12 + l.toNat) j := fun j => congrFun (g1.at (12 + l.toNat) (fun (z : 12 + l.toNat = 546) => by omega)) j
        refine bw_iload rfl rfl ?_
        refine bw_aload rfl rfl ?_
        refine bw_getr rfl rfl (cur_r hR hc) ?_
        refine bw_getI rfl rfl ?_
        rw [show gI N 372 0 = gI M 568 0 from hS.c0]
        refine bw_icge rfl (fun c120 => ?_) (fun c120 => ?_)
        · skip
          obtain rfl : i = gI M 568 0 := by omega
          have hsp := g2
          refine bw_aload rfl rfl ?_
          refine bw_iload rfl rfl ?_
          refine bw_callVi (e := d - 1) (as := [_]) rfl (by omega) rfl rfl (Nat.le_of_ble_eq_true rfl) (Nat.le_of_ble_eq_true rfl) rfl (c_putSpare (M := N) (G := plG (mR M 0 l) (gI M 568 0) t z) hR (by first | exact Or.inl rfl | exact Or.inr rfl) hc hW.1 (by rw [e8]; omega) (fun f f0 f1 => hsp f f0 (by rw [← e8]; exact f1)) (by omega)) (fun r140 M140 hM140 => ?_)
          obtain ⟨x140, v140⟩ := hM140
          have v140 := act_sp (by assumption) v140
          rw [mR_e e9, e8] at x140
          refine bw_ret rfl rfl ?_
          exact ⟨rfl, _, rfl, Or.inl ⟨g4, x140, v140⟩⟩
        · skip
          refine bw_aload rfl rfl ?_
          refine bw_getr rfl rfl (hR _ _) ?_
          refine bw_iload rfl rfl ?_
          refine bw_iload rfl rfl ?_
          refine bw_asti rfl (by first | rfl | assumption) (by omega) (by omega) ?_
          refine bw_iinc (ls2 := [_, _, _, _, _, _, _, _]) rfl rfl rfl ⟨by omega, by omega⟩ rfl ?_
          refine bw_goto rfl ?_
          refine ih _ _ _ (g1.sI _ _ rfl) (fun j j0 j1 => ?_) (by omega) g4 g5 (by omega)
          by_cases q : j = i
          · rw [q, gI_sI_eq, g5]
            unfold plG
            rw [if_neg (by omega), if_neg (by omega)]
          · rw [gI_sI_nj q]; exact g2 j j0 (by omega)
    have L60 : ∀ (kf : Nat) (N : abMem) (i : Int), (sm pSp M N) → (spI M N l t i (plG (mR M 0 l) (gI M 568 0) t z)) → (t ≤ i ∧ (i ≤ gI M 568 0 - z ∨ i = t)) → (0 ≤ l ∧ l < gI M 568 1 ∧ 0 ≤ t ∧ t < gI M 568 0 ∧ 1 ≤ z ∧ z ≤ gI M 568 0 - t) → ((gI M 568 0 - i).toNat) < kf → abW d (0, 0) 117 60 [some (vr (some 0)), some (vi l), some (vi t), some (vi z), some (vr (some (12 + l.toNat))), some (vi (gI M 568 0 - z)), some (vi i), none] [] (0, 0) (A0 L) (N) (qI (A0 L) (fun x N => (0 ≤ l ∧ l < gI M 568 1 ∧ 0 ≤ t ∧ t < gI M 568 0 ∧ 1 ≤ z ∧ z ≤ gI M 568 0 - t) ∧ x = cN (pD (plG (mR M 0 l) (gI M 568 0) t z) (mR M 0 l)) (gI M 568 0).toNat ∧ actD M (rwW M l (plG (mR M 0 l) (gI M 568 0) t z)) N ∨ ¬ (0 ≤ l ∧ l < gI M 568 1 ∧ 0 ≤ t ∧ t < gI M 568 0 ∧ 1 ≤ z ∧ z ≤ gI M 568 0 - t) ∧ x = -2 ∧ N = M)) := by
      intro kf
      induction kf with
      | zero => intro N  i  g1 g2 g3 g4 hm9; exact absurd hm9 (Nat.not_lt_zero _)
      | succ kf ih60 =>
        intro N  i  g1 g2 g3 g4 hm60
        have ih := ih60
        have hW := INV_sp h g1
        have e8 : gI N 568 = gI M 568 := g1.at 568 (by decide)
        have e9 : gI N 569 = gI M 569 := g1.at 569 (by decide)
        have hR := g1.RF hRo
        have hS := SR_sm hSo g1 (fun a a0 a1 (z : a = 546) => by omega)
        have eRw : ∀ j : Int, gI N (12 + l.toNat) j = gI M (12 + l.toNat) j := fun j => congrFun (g1.at (12 + l.toNat) (fun (z : 12 + l.toNat = 546) => by omega)) j
        refine bw_iload rfl rfl ?_
        refine bw_iload rfl rfl ?_
        refine bw_icge rfl (fun c64 => ?_) (fun c64 => ?_)
        · skip
          refine bw_iload rfl rfl ?_
          refine bw_ifle rfl (fun c89 => ?_) (fun c89 => ?_)
          · skip
            refine bw_push rfl ?_
            refine bw_istore (ls2 := [_, _, _, _, _, _, _, _]) rfl rfl (Nat.le_of_ble_eq_true rfl) rfl ?_
            refine bw_iload rfl rfl ?_
            refine bw_istore (ls2 := [_, _, _, _, _, _, _, _]) rfl rfl (Nat.le_of_ble_eq_true rfl) rfl ?_
            have hsp : ∀ j : Int, 0 ≤ j → j < gI M 568 0 - z → gI N 546 j = plG (mR M 0 l) (gI M 568 0) t z j := fun j j0 j1 => by
              rw [g2 j j0 (by omega)]
              by_cases q : t ≤ j ∧ j < i
              · rw [if_pos q]
              · rw [if_neg q, h.row ⟨by omega, by omega⟩ ⟨j0, by omega⟩]
                unfold plG
                rw [if_pos (by omega)]
            first
            | exact L111 98 N _ _ g1 hsp (by omega) g4 (pl_e0 (by omega)).symm (by omega)
            | (refine L111 98 N _ _ g1 hsp (by omega) g4 ?_ (by omega)
               rw [hsp _ (by omega) (by omega)]
               exact pl_e1 (by omega))
          · skip
            refine bw_aload rfl rfl ?_
            refine bw_getr rfl rfl (hR _ _) ?_
            refine bw_iload rfl rfl ?_
            refine bw_push rfl ?_
            refine bw_isub rfl ⟨by omega, by omega⟩ ?_
            refine bw_aldi rfl (by first | rfl | assumption) (by omega) (by omega) ?_
            refine bw_goto rfl ?_
            refine bw_istore (ls2 := [_, _, _, _, _, _, _, _]) rfl rfl (Nat.le_of_ble_eq_true rfl) rfl ?_
            refine bw_iload rfl rfl ?_
            refine bw_istore (ls2 := [_, _, _, _, _, _, _, _]) rfl rfl (Nat.le_of_ble_eq_true rfl) rfl ?_
            have hsp : ∀ j : Int, 0 ≤ j → j < gI M 568 0 - z → gI N 546 j = plG (mR M 0 l) (gI M 568 0) t z j := fun j j0 j1 => by
              rw [g2 j j0 (by omega)]
              by_cases q : t ≤ j ∧ j < i
              · rw [if_pos q]
              · rw [if_neg q, h.row ⟨by omega, by omega⟩ ⟨j0, by omega⟩]
                unfold plG
                rw [if_pos (by omega)]
            first
            | exact L111 98 N _ _ g1 hsp (by omega) g4 (pl_e0 (by omega)).symm (by omega)
            | (refine L111 98 N _ _ g1 hsp (by omega) g4 ?_ (by omega)
               rw [hsp _ (by omega) (by omega)]
               exact pl_e1 (by omega))
        · skip
          refine bw_aload rfl rfl ?_
          refine bw_getr rfl rfl (hR _ _) ?_
          refine bw_iload rfl rfl ?_
          refine bw_aload rfl rfl ?_
          refine bw_iload rfl rfl ?_
          refine bw_iload rfl rfl ?_
          refine bw_iadd rfl ⟨by omega, by omega⟩ ?_
          refine bw_aldi rfl (kfa (b := 12) (n := 6) (v := (20, 96)) (by decide) (by decide) ⟨by omega, by omega⟩) (by omega) (by omega) ?_
          rw [eRw, h.row ⟨by omega, by omega⟩ ⟨by omega, by omega⟩]
          refine bw_asti rfl (by first | rfl | assumption) (by omega) (by omega) ?_
          refine bw_iinc (ls2 := [_, _, _, _, _, _, _, _]) rfl rfl rfl ⟨by omega, by omega⟩ rfl ?_
          refine bw_goto rfl ?_
          refine ih _ _ (g1.sI _ _ rfl) (spI_s g2 (by omega) ?_) (by omega) g4 (by omega)
          unfold plG
          rw [if_neg (by omega), if_pos (by omega)]
    show abW d (0, 0) 117 0 [some (vr (some 0)), some (vi l), some (vi t), some (vi z), none, none, none, none] [] (0, 0) (A0 L) M (qI (A0 L) (fun x N => (0 ≤ l ∧ l < gI M 568 1 ∧ 0 ≤ t ∧ t < gI M 568 0 ∧ 1 ≤ z ∧ z ≤ gI M 568 0 - t) ∧ x = cN (pD (plG (mR M 0 l) (gI M 568 0) t z) (mR M 0 l)) (gI M 568 0).toNat ∧ actD M (rwW M l (plG (mR M 0 l) (gI M 568 0) t z)) N ∨ ¬ (0 ≤ l ∧ l < gI M 568 1 ∧ 0 ≤ t ∧ t < gI M 568 0 ∧ 1 ≤ z ∧ z ≤ gI M 568 0 - t) ∧ x = -2 ∧ N = M))
    refine bw_aload rfl rfl ?_
    refine bw_iload rfl rfl ?_
    refine bw_iload rfl rfl ?_
    refine bw_callVj (e := d - 1) (as := [_, _]) rfl (by omega) rfl rfl (Nat.le_of_ble_eq_true rfl) (Nat.le_of_ble_eq_true rfl) rfl (c_hasPlace hR (by first | exact Or.inl rfl | exact Or.inr rfl) hc h (by omega)) (fun r3 hr3 => ?_)
    refine bw_ifeq rfl (fun c6 => ?_) (fun c6 => ?_)
    · skip
      refine bw_push rfl ?_
      refine bw_ret rfl rfl ?_
      exact ⟨rfl, _, rfl, Or.inr ⟨by omega, rfl, rfl⟩⟩
    · skip
      refine bw_iload rfl rfl ?_
      refine bw_push rfl ?_
      refine bw_iclt rfl (fun c11 => ?_) (fun c11 => ?_)
      · skip
        refine bw_push rfl ?_
        refine bw_ret rfl rfl ?_
        exact ⟨rfl, _, rfl, Or.inr ⟨by omega, rfl, rfl⟩⟩
      · skip
        refine bw_iload rfl rfl ?_
        refine bw_aload rfl rfl ?_
        refine bw_getr rfl rfl (cur_r hR hc) ?_
        refine bw_getI rfl rfl ?_
        rw [show gI M 372 0 = gI M 568 0 from hS.c0]
        refine bw_iload rfl rfl ?_
        refine bw_isub rfl ⟨by omega, by omega⟩ ?_
        refine bw_icle rfl (fun c24 => ?_) (fun c24 => ?_)
        · skip
          refine bw_aload rfl rfl ?_
          refine bw_getr rfl rfl (hR _ _) ?_
          refine bw_getr rfl rfl (hR _ _) ?_
          refine bw_iload rfl rfl ?_
          refine bw_aldr rfl (by first | rfl | assumption) (by decide) (by omega) (by omega) ((hR _ _).trans (rr_row (fun _ => rfl) (by omega) (by omega) (by omega))) ?_
          refine bw_astore (ls2 := [_, _, _, _, _, _, _, _]) rfl rfl (Nat.le_of_ble_eq_true rfl) rfl ?_
          refine bw_aload rfl rfl ?_
          refine bw_iload rfl rfl ?_
          refine bw_callVv (e := d - 1) (as := [_]) rfl (by omega) rfl rfl (Nat.le_of_ble_eq_true rfl) (Nat.le_of_ble_eq_true rfl) rfl (c_copyToSpare hR (by omega) (by omega)) (fun M43 hM43 => ?_)
          have hR := hM43.1.RF hRo
          refine bw_aload rfl rfl ?_
          refine bw_getr rfl rfl (cur_r hR hc) ?_
          refine bw_getI rfl rfl ?_
          rw [show gI M43 372 0 = gI M 568 0 from (SR_sm hSo hM43.1 (fun a a0 a1 (z : a = 546) => by omega)).c0]
          refine bw_iload rfl rfl ?_
          refine bw_isub rfl ⟨by omega, by omega⟩ ?_
          refine bw_istore (ls2 := [_, _, _, _, _, _, _, _]) rfl rfl (Nat.le_of_ble_eq_true rfl) rfl ?_
          refine bw_iload rfl rfl ?_
          refine bw_istore (ls2 := [_, _, _, _, _, _, _, _]) rfl rfl (Nat.le_of_ble_eq_true rfl) rfl ?_
          exact L60 98 M43 t hM43.1 (spI_0 hM43.2) (by omega) (by omega) (by omega)
        · skip
          refine bw_push rfl ?_
          refine bw_ret rfl rfl ?_
          exact ⟨rfl, _, rfl, Or.inr ⟨by omega, rfl, rfl⟩⟩
  · have hS : SR M 459 (gI M 568) := by have q := h.sr; rw [hc] at q; exact q
    have b1 := h.fr
    have b2 := h.la
    have hrf := hR
    have hRo := hR
    have hSo := hS
    have L111 : ∀ (kf : Nat) (N : abMem) (e i : Int), (sm pSp M N) → ((∀ j : Int, 0 ≤ j → j < i → gI N 546 j = plG (mR M 0 l) (gI M 568 0) t z j)) → (gI M 568 0 - z ≤ i ∧ i ≤ gI M 568 0) → (0 ≤ l ∧ l < gI M 568 1 ∧ 0 ≤ t ∧ t < gI M 568 0 ∧ 1 ≤ z ∧ z ≤ gI M 568 0 - t) → (e = plE (mR M 0 l) (gI M 568 0) t z) → ((gI M 568 0 - i).toNat) < kf → abW d (0, 0) 117 111 [some (vr (some 0)), some (vi l), some (vi t), some (vi z), some (vr (some (12 + l.toNat))), some (vi (gI M 568 0 - z)), some (vi e), some (vi i)] [] (0, 0) (A0 L) (N) (qI (A0 L) (fun x N => (0 ≤ l ∧ l < gI M 568 1 ∧ 0 ≤ t ∧ t < gI M 568 0 ∧ 1 ≤ z ∧ z ≤ gI M 568 0 - t) ∧ x = cN (pD (plG (mR M 0 l) (gI M 568 0) t z) (mR M 0 l)) (gI M 568 0).toNat ∧ actD M (rwW M l (plG (mR M 0 l) (gI M 568 0) t z)) N ∨ ¬ (0 ≤ l ∧ l < gI M 568 1 ∧ 0 ≤ t ∧ t < gI M 568 0 ∧ 1 ≤ z ∧ z ≤ gI M 568 0 - t) ∧ x = -2 ∧ N = M)) := by
      intro kf
      induction kf with
      | zero => intro N  e i  g1 g2 g3 g4 g5 hm9; exact absurd hm9 (Nat.not_lt_zero _)
      | succ kf ih111 =>
        intro N  e i  g1 g2 g3 g4 g5 hm111
        have ih := ih111
        have hW := INV_sp h g1
        have e8 : gI N 568 = gI M 568 := g1.at 568 (by decide)
        have e9 : gI N 569 = gI M 569 := g1.at 569 (by decide)
        have hR := g1.RF hRo
        have hS := SR_sm hSo g1 (fun a a0 a1 (z : a = 546) => by omega)
        have eRw : ∀ j : Int, gI N (12 + l.toNat) j = gI M (12 + l.toNat) j := fun j => congrFun (g1.at (12 + l.toNat) (fun (z : 12 + l.toNat = 546) => by omega)) j
        refine bw_iload rfl rfl ?_
        refine bw_aload rfl rfl ?_
        refine bw_getr rfl rfl (cur_r hR hc) ?_
        refine bw_getI rfl rfl ?_
        rw [show gI N 459 0 = gI M 568 0 from hS.c0]
        refine bw_icge rfl (fun c120 => ?_) (fun c120 => ?_)
        · skip
          obtain rfl : i = gI M 568 0 := by omega
          have hsp := g2
          refine bw_aload rfl rfl ?_
          refine bw_iload rfl rfl ?_
          refine bw_callVi (e := d - 1) (as := [_]) rfl (by omega) rfl rfl (Nat.le_of_ble_eq_true rfl) (Nat.le_of_ble_eq_true rfl) rfl (c_putSpare (M := N) (G := plG (mR M 0 l) (gI M 568 0) t z) hR (by first | exact Or.inl rfl | exact Or.inr rfl) hc hW.1 (by rw [e8]; omega) (fun f f0 f1 => hsp f f0 (by rw [← e8]; exact f1)) (by omega)) (fun r140 M140 hM140 => ?_)
          obtain ⟨x140, v140⟩ := hM140
          have v140 := act_sp (by assumption) v140
          rw [mR_e e9, e8] at x140
          refine bw_ret rfl rfl ?_
          exact ⟨rfl, _, rfl, Or.inl ⟨g4, x140, v140⟩⟩
        · skip
          refine bw_aload rfl rfl ?_
          refine bw_getr rfl rfl (hR _ _) ?_
          refine bw_iload rfl rfl ?_
          refine bw_iload rfl rfl ?_
          refine bw_asti rfl (by first | rfl | assumption) (by omega) (by omega) ?_
          refine bw_iinc (ls2 := [_, _, _, _, _, _, _, _]) rfl rfl rfl ⟨by omega, by omega⟩ rfl ?_
          refine bw_goto rfl ?_
          refine ih _ _ _ (g1.sI _ _ rfl) (fun j j0 j1 => ?_) (by omega) g4 g5 (by omega)
          by_cases q : j = i
          · rw [q, gI_sI_eq, g5]
            unfold plG
            rw [if_neg (by omega), if_neg (by omega)]
          · rw [gI_sI_nj q]; exact g2 j j0 (by omega)
    have L60 : ∀ (kf : Nat) (N : abMem) (i : Int), (sm pSp M N) → (spI M N l t i (plG (mR M 0 l) (gI M 568 0) t z)) → (t ≤ i ∧ (i ≤ gI M 568 0 - z ∨ i = t)) → (0 ≤ l ∧ l < gI M 568 1 ∧ 0 ≤ t ∧ t < gI M 568 0 ∧ 1 ≤ z ∧ z ≤ gI M 568 0 - t) → ((gI M 568 0 - i).toNat) < kf → abW d (0, 0) 117 60 [some (vr (some 0)), some (vi l), some (vi t), some (vi z), some (vr (some (12 + l.toNat))), some (vi (gI M 568 0 - z)), some (vi i), none] [] (0, 0) (A0 L) (N) (qI (A0 L) (fun x N => (0 ≤ l ∧ l < gI M 568 1 ∧ 0 ≤ t ∧ t < gI M 568 0 ∧ 1 ≤ z ∧ z ≤ gI M 568 0 - t) ∧ x = cN (pD (plG (mR M 0 l) (gI M 568 0) t z) (mR M 0 l)) (gI M 568 0).toNat ∧ actD M (rwW M l (plG (mR M 0 l) (gI M 568 0) t z)) N ∨ ¬ (0 ≤ l ∧ l < gI M 568 1 ∧ 0 ≤ t ∧ t < gI M 568 0 ∧ 1 ≤ z ∧ z ≤ gI M 568 0 - t) ∧ x = -2 ∧ N = M)) := by
      intro kf
      induction kf with
      | zero => intro N  i  g1 g2 g3 g4 hm9; exact absurd hm9 (Nat.not_lt_zero _)
      | succ kf ih60 =>
        intro N  i  g1 g2 g3 g4 hm60
        have ih := ih60
        have hW := INV_sp h g1
        have e8 : gI N 568 = gI M 568 := g1.at 568 (by decide)
        have e9 : gI N 569 = gI M 569 := g1.at 569 (by decide)
        have hR := g1.RF hRo
        have hS := SR_sm hSo g1 (fun a a0 a1 (z : a = 546) => by omega)
        have eRw : ∀ j : Int, gI N (12 + l.toNat) j = gI M (12 + l.toNat) j := fun j => congrFun (g1.at (12 + l.toNat) (fun (z : 12 + l.toNat = 546) => by omega)) j
        refine bw_iload rfl rfl ?_
        refine bw_iload rfl rfl ?_
        refine bw_icge rfl (fun c64 => ?_) (fun c64 => ?_)
        · skip
          refine bw_iload rfl rfl ?_
          refine bw_ifle rfl (fun c89 => ?_) (fun c89 => ?_)
          · skip
            refine bw_push rfl ?_
            refine bw_istore (ls2 := [_, _, _, _, _, _, _, _]) rfl rfl (Nat.le_of_ble_eq_true rfl) rfl ?_
            refine bw_iload rfl rfl ?_
            refine bw_istore (ls2 := [_, _, _, _, _, _, _, _]) rfl rfl (Nat.le_of_ble_eq_true rfl) rfl ?_
            have hsp : ∀ j : Int, 0 ≤ j → j < gI M 568 0 - z → gI N 546 j = plG (mR M 0 l) (gI M 568 0) t z j := fun j j0 j1 => by
              rw [g2 j j0 (by omega)]
              by_cases q : t ≤ j ∧ j < i
              · rw [if_pos q]
              · rw [if_neg q, h.row ⟨by omega, by omega⟩ ⟨j0, by omega⟩]
                unfold plG
                rw [if_pos (by omega)]
            first
            | exact L111 98 N _ _ g1 hsp (by omega) g4 (pl_e0 (by omega)).symm (by omega)
            | (refine L111 98 N _ _ g1 hsp (by omega) g4 ?_ (by omega)
               rw [hsp _ (by omega) (by omega)]
               exact pl_e1 (by omega))
          · skip
            refine bw_aload rfl rfl ?_
            refine bw_getr rfl rfl (hR _ _) ?_
            refine bw_iload rfl rfl ?_
            refine bw_push rfl ?_
            refine bw_isub rfl ⟨by omega, by omega⟩ ?_
            refine bw_aldi rfl (by first | rfl | assumption) (by omega) (by omega) ?_
            refine bw_goto rfl ?_
            refine bw_istore (ls2 := [_, _, _, _, _, _, _, _]) rfl rfl (Nat.le_of_ble_eq_true rfl) rfl ?_
            refine bw_iload rfl rfl ?_
            refine bw_istore (ls2 := [_, _, _, _, _, _, _, _]) rfl rfl (Nat.le_of_ble_eq_true rfl) rfl ?_
            have hsp : ∀ j : Int, 0 ≤ j → j < gI M 568 0 - z → gI N 546 j = plG (mR M 0 l) (gI M 568 0) t z j := fun j j0 j1 => by
              rw [g2 j j0 (by omega)]
              by_cases q : t ≤ j ∧ j < i
              · rw [if_pos q]
              · rw [if_neg q, h.row ⟨by omega, by omega⟩ ⟨j0, by omega⟩]
                unfold plG
                rw [if_pos (by omega)]
            first
            | exact L111 98 N _ _ g1 hsp (by omega) g4 (pl_e0 (by omega)).symm (by omega)
            | (refine L111 98 N _ _ g1 hsp (by omega) g4 ?_ (by omega)
               rw [hsp _ (by omega) (by omega)]
               exact pl_e1 (by omega))
        · skip
          refine bw_aload rfl rfl ?_
          refine bw_getr rfl rfl (hR _ _) ?_
          refine bw_iload rfl rfl ?_
          refine bw_aload rfl rfl ?_
          refine bw_iload rfl rfl ?_
          refine bw_iload rfl rfl ?_
          refine bw_iadd rfl ⟨by omega, by omega⟩ ?_
          refine bw_aldi rfl (kfa (b := 12) (n := 6) (v := (20, 96)) (by decide) (by decide) ⟨by omega, by omega⟩) (by omega) (by omega) ?_
          rw [eRw, h.row ⟨by omega, by omega⟩ ⟨by omega, by omega⟩]
          refine bw_asti rfl (by first | rfl | assumption) (by omega) (by omega) ?_
          refine bw_iinc (ls2 := [_, _, _, _, _, _, _, _]) rfl rfl rfl ⟨by omega, by omega⟩ rfl ?_
          refine bw_goto rfl ?_
          refine ih _ _ (g1.sI _ _ rfl) (spI_s g2 (by omega) ?_) (by omega) g4 (by omega)
          unfold plG
          rw [if_neg (by omega), if_pos (by omega)]
    show abW d (0, 0) 117 0 [some (vr (some 0)), some (vi l), some (vi t), some (vi z), none, none, none, none] [] (0, 0) (A0 L) M (qI (A0 L) (fun x N => (0 ≤ l ∧ l < gI M 568 1 ∧ 0 ≤ t ∧ t < gI M 568 0 ∧ 1 ≤ z ∧ z ≤ gI M 568 0 - t) ∧ x = cN (pD (plG (mR M 0 l) (gI M 568 0) t z) (mR M 0 l)) (gI M 568 0).toNat ∧ actD M (rwW M l (plG (mR M 0 l) (gI M 568 0) t z)) N ∨ ¬ (0 ≤ l ∧ l < gI M 568 1 ∧ 0 ≤ t ∧ t < gI M 568 0 ∧ 1 ≤ z ∧ z ≤ gI M 568 0 - t) ∧ x = -2 ∧ N = M))
    refine bw_aload rfl rfl ?_
    refine bw_iload rfl rfl ?_
    refine bw_iload rfl rfl ?_
    refine bw_callVj (e := d - 1) (as := [_, _]) rfl (by omega) rfl rfl (Nat.le_of_ble_eq_true rfl) (Nat.le_of_ble_eq_true rfl) rfl (c_hasPlace hR (by first | exact Or.inl rfl | exact Or.inr rfl) hc h (by omega)) (fun r3 hr3 => ?_)
    refine bw_ifeq rfl (fun c6 => ?_) (fun c6 => ?_)
    · skip
      refine bw_push rfl ?_
      refine bw_ret rfl rfl ?_
      exact ⟨rfl, _, rfl, Or.inr ⟨by omega, rfl, rfl⟩⟩
    · skip
      refine bw_iload rfl rfl ?_
      refine bw_push rfl ?_
      refine bw_iclt rfl (fun c11 => ?_) (fun c11 => ?_)
      · skip
        refine bw_push rfl ?_
        refine bw_ret rfl rfl ?_
        exact ⟨rfl, _, rfl, Or.inr ⟨by omega, rfl, rfl⟩⟩
      · skip
        refine bw_iload rfl rfl ?_
        refine bw_aload rfl rfl ?_
        refine bw_getr rfl rfl (cur_r hR hc) ?_
        refine bw_getI rfl rfl ?_
        rw [show gI M 459 0 = gI M 568 0 from hS.c0]
        refine bw_iload rfl rfl ?_
        refine bw_isub rfl ⟨by omega, by omega⟩ ?_
        refine bw_icle rfl (fun c24 => ?_) (fun c24 => ?_)
        · skip
          refine bw_aload rfl rfl ?_
          refine bw_getr rfl rfl (hR _ _) ?_
          refine bw_getr rfl rfl (hR _ _) ?_
          refine bw_iload rfl rfl ?_
          refine bw_aldr rfl (by first | rfl | assumption) (by decide) (by omega) (by omega) ((hR _ _).trans (rr_row (fun _ => rfl) (by omega) (by omega) (by omega))) ?_
          refine bw_astore (ls2 := [_, _, _, _, _, _, _, _]) rfl rfl (Nat.le_of_ble_eq_true rfl) rfl ?_
          refine bw_aload rfl rfl ?_
          refine bw_iload rfl rfl ?_
          refine bw_callVv (e := d - 1) (as := [_]) rfl (by omega) rfl rfl (Nat.le_of_ble_eq_true rfl) (Nat.le_of_ble_eq_true rfl) rfl (c_copyToSpare hR (by omega) (by omega)) (fun M43 hM43 => ?_)
          have hR := hM43.1.RF hRo
          refine bw_aload rfl rfl ?_
          refine bw_getr rfl rfl (cur_r hR hc) ?_
          refine bw_getI rfl rfl ?_
          rw [show gI M43 459 0 = gI M 568 0 from (SR_sm hSo hM43.1 (fun a a0 a1 (z : a = 546) => by omega)).c0]
          refine bw_iload rfl rfl ?_
          refine bw_isub rfl ⟨by omega, by omega⟩ ?_
          refine bw_istore (ls2 := [_, _, _, _, _, _, _, _]) rfl rfl (Nat.le_of_ble_eq_true rfl) rfl ?_
          refine bw_iload rfl rfl ?_
          refine bw_istore (ls2 := [_, _, _, _, _, _, _, _]) rfl rfl (Nat.le_of_ble_eq_true rfl) rfl ?_
          exact L60 98 M43 t hM43.1 (spI_0 hM43.2) (by omega) (by omega) (by omega)
        · skip
          refine bw_push rfl ?_
          refine bw_ret rfl rfl ?_
          exact ⟨rfl, _, rfl, Or.inr ⟨by omega, rfl, rfl⟩⟩
set_option maxRecDepth 20000 in
set_option maxHeartbeats 4000000 in
theorem x_turn {d L : Nat} {M : abMem} {r : abRf} (hR : RF r M) {s : Nat} (hs : s = 372 ∨ s = 459) (hc : cur r = s) {k : Int} (h : INV r M k) {l z : Int} (hd : 4 ≤ d) : abW d (0, 0) 118 0 (abEnt (abL 118) [vr (some 0), vi l, vi z]) [] (0, 0) (A0 L) M (qI (A0 L) (fun x N => (0 ≤ l ∧ l < gI M 568 1 ∧ 1 ≤ z ∧ z < gI M 568 0) ∧ x = cN (pD (tnG (gI M 569) (gI M 568 0) l z) (mR M 0 l)) (gI M 568 0).toNat ∧ actD M (rwW M l (tnG (gI M 569) (gI M 568 0) l z)) N ∨ ¬ (0 ≤ l ∧ l < gI M 568 1 ∧ 1 ≤ z ∧ z < gI M 568 0) ∧ x = -2 ∧ N = M)) := by
  rcases hs with rfl | rfl
  · have hS : SR M 372 (gI M 568) := by have q := h.sr; rw [hc] at q; exact q
    have b1 := h.fr
    have b2 := h.la
    have hrf := hR
    have hRo := hR
    have hSo := hS
    have L29 : ∀ (kf : Nat) (N : abMem) (i : Int), (sm pSp M N) → ((∀ j : Int, 0 ≤ j → j < i → gI N 546 j = tnG (gI M 569) (gI M 568 0) l z j)) → (0 ≤ i ∧ i ≤ gI M 568 0) → (0 ≤ l ∧ l < gI M 568 1 ∧ 1 ≤ z ∧ z < gI M 568 0) → ((gI M 568 0 - i).toNat) < kf → abW d (0, 0) 118 29 [some (vr (some 0)), some (vi l), some (vi z), some (vr (some (12 + l.toNat))), some (vi i), none] [] (0, 0) (A0 L) (N) (qI (A0 L) (fun x N => (0 ≤ l ∧ l < gI M 568 1 ∧ 1 ≤ z ∧ z < gI M 568 0) ∧ x = cN (pD (tnG (gI M 569) (gI M 568 0) l z) (mR M 0 l)) (gI M 568 0).toNat ∧ actD M (rwW M l (tnG (gI M 569) (gI M 568 0) l z)) N ∨ ¬ (0 ≤ l ∧ l < gI M 568 1 ∧ 1 ≤ z ∧ z < gI M 568 0) ∧ x = -2 ∧ N = M)) := by
      intro kf
      induction kf with
      | zero => intro N  i  g1 g2 g3 g4 hm9; exact absurd hm9 (Nat.not_lt_zero _)
      | succ kf ih29 =>
        intro N  i  g1 g2 g3 g4 hm29
        have ih := ih29
        have hW := INV_sp h g1
        have e8 : gI N 568 = gI M 568 := g1.at 568 (by decide)
        have e9 : gI N 569 = gI M 569 := g1.at 569 (by decide)
        have hR := g1.RF hRo
        have hS := SR_sm hSo g1 (fun a a0 a1 (z : a = 546) => by omega)
        have eRw : ∀ j : Int, gI N (12 + l.toNat) j = gI M (12 + l.toNat) j := fun j => congrFun (g1.at (12 + l.toNat) (fun (z : 12 + l.toNat = 546) => by omega)) j
        refine bw_iload rfl rfl ?_
        refine bw_aload rfl rfl ?_
        refine bw_getr rfl rfl (cur_r hR hc) ?_
        refine bw_getI rfl rfl ?_
        rw [show gI N 372 0 = gI M 568 0 from hS.c0]
        refine bw_icge rfl (fun c38 => ?_) (fun c38 => ?_)
        · skip
          obtain rfl : i = gI M 568 0 := by omega
          have hsp := g2
          refine bw_aload rfl rfl ?_
          refine bw_iload rfl rfl ?_
          refine bw_callVi (e := d - 1) (as := [_]) rfl (by omega) rfl rfl (Nat.le_of_ble_eq_true rfl) (Nat.le_of_ble_eq_true rfl) rfl (c_putSpare (M := N) (G := tnG (gI M 569) (gI M 568 0) l z) hR (by first | exact Or.inl rfl | exact Or.inr rfl) hc hW.1 (by rw [e8]; omega) (fun f f0 f1 => hsp f f0 (by rw [← e8]; exact f1)) (by omega)) (fun r91 M91 hM91 => ?_)
          obtain ⟨x91, v91⟩ := hM91
          have v91 := act_sp (by assumption) v91
          rw [mR_e e9, e8] at x91
          refine bw_ret rfl rfl ?_
          exact ⟨rfl, _, rfl, Or.inl ⟨g4, x91, v91⟩⟩
        · skip
          refine bw_iload rfl rfl ?_
          refine bw_iload rfl rfl ?_
          refine bw_iadd rfl ⟨by omega, by omega⟩ ?_
          refine bw_istore (ls2 := [_, _, _, _, _, _]) rfl rfl (Nat.le_of_ble_eq_true rfl) rfl ?_
          refine bw_aload rfl rfl ?_
          refine bw_getr rfl rfl (hR _ _) ?_
          refine bw_iload rfl rfl ?_
          refine bw_aload rfl rfl ?_
          refine bw_iload rfl rfl ?_
          refine bw_aload rfl rfl ?_
          refine bw_getr rfl rfl (cur_r hR hc) ?_
          refine bw_getI rfl rfl ?_
          rw [show gI N 372 0 = gI M 568 0 from hS.c0]
          refine bw_icge rfl (fun c63 => ?_) (fun c63 => ?_)
          · skip
            refine bw_iload rfl rfl ?_
            refine bw_aload rfl rfl ?_
            refine bw_getr rfl rfl (cur_r hR hc) ?_
            refine bw_getI rfl rfl ?_
            rw [show gI N 372 0 = gI M 568 0 from hS.c0]
            refine bw_isub rfl ⟨by omega, by omega⟩ ?_
            refine bw_aldi rfl (kfa (b := 12) (n := 6) (v := (20, 96)) (by decide) (by decide) ⟨by omega, by omega⟩) (by omega) (by omega) ?_
            rw [eRw, h.row ⟨by omega, by omega⟩ ⟨by omega, by omega⟩]
            refine bw_asti rfl (by first | rfl | assumption) (by omega) (by omega) ?_
            refine bw_iinc (ls2 := [_, _, _, _, _, _]) rfl rfl rfl ⟨by omega, by omega⟩ rfl ?_
            refine bw_goto rfl ?_
            refine bw_forget (ls2 := [some (vr (some 0)), some (vi l), some (vi z), some (vr (some (12 + l.toNat))), some (vi _), none]) ⟨rfl, rfl, rfl, rfl, rfl, trivial⟩ ?_
            refine ih _ _ (g1.sI _ _ rfl) (fun j j0 j1 => ?_) (by omega) g4 (by omega)
            by_cases q : j = i
            · rw [q, gI_sI_eq]
              unfold tnG
              first
              | (rw [Int.emod_eq_of_lt (by omega) (by omega)]; rfl)
              | (rw [← Int.sub_emod_right, Int.emod_eq_of_lt (by omega) (by omega)]; rfl)
            · rw [gI_sI_nj q]; exact g2 j j0 (by omega)
          · skip
            refine bw_iload rfl rfl ?_
            refine bw_goto rfl ?_
            refine bw_aldi rfl (kfa (b := 12) (n := 6) (v := (20, 96)) (by decide) (by decide) ⟨by omega, by omega⟩) (by omega) (by omega) ?_
            rw [eRw, h.row ⟨by omega, by omega⟩ ⟨by omega, by omega⟩]
            refine bw_asti rfl (by first | rfl | assumption) (by omega) (by omega) ?_
            refine bw_iinc (ls2 := [_, _, _, _, _, _]) rfl rfl rfl ⟨by omega, by omega⟩ rfl ?_
            refine bw_goto rfl ?_
            refine bw_forget (ls2 := [some (vr (some 0)), some (vi l), some (vi z), some (vr (some (12 + l.toNat))), some (vi _), none]) ⟨rfl, rfl, rfl, rfl, rfl, trivial⟩ ?_
            refine ih _ _ (g1.sI _ _ rfl) (fun j j0 j1 => ?_) (by omega) g4 (by omega)
            by_cases q : j = i
            · rw [q, gI_sI_eq]
              unfold tnG
              first
              | (rw [Int.emod_eq_of_lt (by omega) (by omega)]; rfl)
              | (rw [← Int.sub_emod_right, Int.emod_eq_of_lt (by omega) (by omega)]; rfl)
            · rw [gI_sI_nj q]; exact g2 j j0 (by omega)
    show abW d (0, 0) 118 0 [some (vr (some 0)), some (vi l), some (vi z), none, none, none] [] (0, 0) (A0 L) M (qI (A0 L) (fun x N => (0 ≤ l ∧ l < gI M 568 1 ∧ 1 ≤ z ∧ z < gI M 568 0) ∧ x = cN (pD (tnG (gI M 569) (gI M 568 0) l z) (mR M 0 l)) (gI M 568 0).toNat ∧ actD M (rwW M l (tnG (gI M 569) (gI M 568 0) l z)) N ∨ ¬ (0 ≤ l ∧ l < gI M 568 1 ∧ 1 ≤ z ∧ z < gI M 568 0) ∧ x = -2 ∧ N = M))
    refine bw_aload rfl rfl ?_
    refine bw_iload rfl rfl ?_
    refine bw_iload rfl rfl ?_
    refine bw_callVj (e := d - 1) (as := [_, _]) rfl (by omega) rfl rfl (Nat.le_of_ble_eq_true rfl) (Nat.le_of_ble_eq_true rfl) rfl (c_hasPlace hR (by first | exact Or.inl rfl | exact Or.inr rfl) hc h (by omega)) (fun r3 hr3 => ?_)
    refine bw_ifeq rfl (fun c6 => ?_) (fun c6 => ?_)
    · skip
      refine bw_push rfl ?_
      refine bw_ret rfl rfl ?_
      exact ⟨rfl, _, rfl, Or.inr ⟨by omega, rfl, rfl⟩⟩
    · skip
      refine bw_iload rfl rfl ?_
      refine bw_ifne rfl (fun c10 => ?_) (fun c10 => ?_)
      · skip
        refine bw_aload rfl rfl ?_
        refine bw_getr rfl rfl (hR _ _) ?_
        refine bw_getr rfl rfl (hR _ _) ?_
        refine bw_iload rfl rfl ?_
        refine bw_aldr rfl (by first | rfl | assumption) (by decide) (by omega) (by omega) ((hR _ _).trans (rr_row (fun _ => rfl) (by omega) (by omega) (by omega))) ?_
        refine bw_astore (ls2 := [_, _, _, _, _, _]) rfl rfl (Nat.le_of_ble_eq_true rfl) rfl ?_
        refine bw_push rfl ?_
        refine bw_istore (ls2 := [_, _, _, _, _, _]) rfl rfl (Nat.le_of_ble_eq_true rfl) rfl ?_
        exact L29 98 M 0 (sm_refl _ _) (fun j j0 j1 => by omega) (by omega) (by omega) (by omega)
      · skip
        refine bw_push rfl ?_
        refine bw_ret rfl rfl ?_
        exact ⟨rfl, _, rfl, Or.inr ⟨by omega, rfl, rfl⟩⟩
  · have hS : SR M 459 (gI M 568) := by have q := h.sr; rw [hc] at q; exact q
    have b1 := h.fr
    have b2 := h.la
    have hrf := hR
    have hRo := hR
    have hSo := hS
    have L29 : ∀ (kf : Nat) (N : abMem) (i : Int), (sm pSp M N) → ((∀ j : Int, 0 ≤ j → j < i → gI N 546 j = tnG (gI M 569) (gI M 568 0) l z j)) → (0 ≤ i ∧ i ≤ gI M 568 0) → (0 ≤ l ∧ l < gI M 568 1 ∧ 1 ≤ z ∧ z < gI M 568 0) → ((gI M 568 0 - i).toNat) < kf → abW d (0, 0) 118 29 [some (vr (some 0)), some (vi l), some (vi z), some (vr (some (12 + l.toNat))), some (vi i), none] [] (0, 0) (A0 L) (N) (qI (A0 L) (fun x N => (0 ≤ l ∧ l < gI M 568 1 ∧ 1 ≤ z ∧ z < gI M 568 0) ∧ x = cN (pD (tnG (gI M 569) (gI M 568 0) l z) (mR M 0 l)) (gI M 568 0).toNat ∧ actD M (rwW M l (tnG (gI M 569) (gI M 568 0) l z)) N ∨ ¬ (0 ≤ l ∧ l < gI M 568 1 ∧ 1 ≤ z ∧ z < gI M 568 0) ∧ x = -2 ∧ N = M)) := by
      intro kf
      induction kf with
      | zero => intro N  i  g1 g2 g3 g4 hm9; exact absurd hm9 (Nat.not_lt_zero _)
      | succ kf ih29 =>
        intro N  i  g1 g2 g3 g4 hm29
        have ih := ih29
        have hW := INV_sp h g1
        have e8 : gI N 568 = gI M 568 := g1.at 568 (by decide)
        have e9 : gI N 569 = gI M 569 := g1.at 569 (by decide)
        have hR := g1.RF hRo
        have hS := SR_sm hSo g1 (fun a a0 a1 (z : a = 546) => by omega)
        have eRw : ∀ j : Int, gI N (12 + l.toNat) j = gI M (12 + l.toNat) j := fun j => congrFun (g1.at (12 + l.toNat) (fun (z : 12 + l.toNat = 546) => by omega)) j
        refine bw_iload rfl rfl ?_
        refine bw_aload rfl rfl ?_
        refine bw_getr rfl rfl (cur_r hR hc) ?_
        refine bw_getI rfl rfl ?_
        rw [show gI N 459 0 = gI M 568 0 from hS.c0]
        refine bw_icge rfl (fun c38 => ?_) (fun c38 => ?_)
        · skip
          obtain rfl : i = gI M 568 0 := by omega
          have hsp := g2
          refine bw_aload rfl rfl ?_
          refine bw_iload rfl rfl ?_
          refine bw_callVi (e := d - 1) (as := [_]) rfl (by omega) rfl rfl (Nat.le_of_ble_eq_true rfl) (Nat.le_of_ble_eq_true rfl) rfl (c_putSpare (M := N) (G := tnG (gI M 569) (gI M 568 0) l z) hR (by first | exact Or.inl rfl | exact Or.inr rfl) hc hW.1 (by rw [e8]; omega) (fun f f0 f1 => hsp f f0 (by rw [← e8]; exact f1)) (by omega)) (fun r91 M91 hM91 => ?_)
          obtain ⟨x91, v91⟩ := hM91
          have v91 := act_sp (by assumption) v91
          rw [mR_e e9, e8] at x91
          refine bw_ret rfl rfl ?_
          exact ⟨rfl, _, rfl, Or.inl ⟨g4, x91, v91⟩⟩
        · skip
          refine bw_iload rfl rfl ?_
          refine bw_iload rfl rfl ?_
          refine bw_iadd rfl ⟨by omega, by omega⟩ ?_
          refine bw_istore (ls2 := [_, _, _, _, _, _]) rfl rfl (Nat.le_of_ble_eq_true rfl) rfl ?_
          refine bw_aload rfl rfl ?_
          refine bw_getr rfl rfl (hR _ _) ?_
          refine bw_iload rfl rfl ?_
          refine bw_aload rfl rfl ?_
          refine bw_iload rfl rfl ?_
          refine bw_aload rfl rfl ?_
          refine bw_getr rfl rfl (cur_r hR hc) ?_
          refine bw_getI rfl rfl ?_
          rw [show gI N 459 0 = gI M 568 0 from hS.c0]
          refine bw_icge rfl (fun c63 => ?_) (fun c63 => ?_)
          · skip
            refine bw_iload rfl rfl ?_
            refine bw_aload rfl rfl ?_
            refine bw_getr rfl rfl (cur_r hR hc) ?_
            refine bw_getI rfl rfl ?_
            rw [show gI N 459 0 = gI M 568 0 from hS.c0]
            refine bw_isub rfl ⟨by omega, by omega⟩ ?_
            refine bw_aldi rfl (kfa (b := 12) (n := 6) (v := (20, 96)) (by decide) (by decide) ⟨by omega, by omega⟩) (by omega) (by omega) ?_
            rw [eRw, h.row ⟨by omega, by omega⟩ ⟨by omega, by omega⟩]
            refine bw_asti rfl (by first | rfl | assumption) (by omega) (by omega) ?_
            refine bw_iinc (ls2 := [_, _, _, _, _, _]) rfl rfl rfl ⟨by omega, by omega⟩ rfl ?_
            refine bw_goto rfl ?_
            refine bw_forget (ls2 := [some (vr (some 0)), some (vi l), some (vi z), some (vr (some (12 + l.toNat))), some (vi _), none]) ⟨rfl, rfl, rfl, rfl, rfl, trivial⟩ ?_
            refine ih _ _ (g1.sI _ _ rfl) (fun j j0 j1 => ?_) (by omega) g4 (by omega)
            by_cases q : j = i
            · rw [q, gI_sI_eq]
              unfold tnG
              first
              | (rw [Int.emod_eq_of_lt (by omega) (by omega)]; rfl)
              | (rw [← Int.sub_emod_right, Int.emod_eq_of_lt (by omega) (by omega)]; rfl)
            · rw [gI_sI_nj q]; exact g2 j j0 (by omega)
          · skip
            refine bw_iload rfl rfl ?_
            refine bw_goto rfl ?_
            refine bw_aldi rfl (kfa (b := 12) (n := 6) (v := (20, 96)) (by decide) (by decide) ⟨by omega, by omega⟩) (by omega) (by omega) ?_
            rw [eRw, h.row ⟨by omega, by omega⟩ ⟨by omega, by omega⟩]
            refine bw_asti rfl (by first | rfl | assumption) (by omega) (by omega) ?_
            refine bw_iinc (ls2 := [_, _, _, _, _, _]) rfl rfl rfl ⟨by omega, by omega⟩ rfl ?_
            refine bw_goto rfl ?_
            refine bw_forget (ls2 := [some (vr (some 0)), some (vi l), some (vi z), some (vr (some (12 + l.toNat))), some (vi _), none]) ⟨rfl, rfl, rfl, rfl, rfl, trivial⟩ ?_
            refine ih _ _ (g1.sI _ _ rfl) (fun j j0 j1 => ?_) (by omega) g4 (by omega)
            by_cases q : j = i
            · rw [q, gI_sI_eq]
              unfold tnG
              first
              | (rw [Int.emod_eq_of_lt (by omega) (by omega)]; rfl)
              | (rw [← Int.sub_emod_right, Int.emod_eq_of_lt (by omega) (by omega)]; rfl)
            · rw [gI_sI_nj q]; exact g2 j j0 (by omega)
    show abW d (0, 0) 118 0 [some (vr (some 0)), some (vi l), some (vi z), none, none, none] [] (0, 0) (A0 L) M (qI (A0 L) (fun x N => (0 ≤ l ∧ l < gI M 568 1 ∧ 1 ≤ z ∧ z < gI M 568 0) ∧ x = cN (pD (tnG (gI M 569) (gI M 568 0) l z) (mR M 0 l)) (gI M 568 0).toNat ∧ actD M (rwW M l (tnG (gI M 569) (gI M 568 0) l z)) N ∨ ¬ (0 ≤ l ∧ l < gI M 568 1 ∧ 1 ≤ z ∧ z < gI M 568 0) ∧ x = -2 ∧ N = M))
    refine bw_aload rfl rfl ?_
    refine bw_iload rfl rfl ?_
    refine bw_iload rfl rfl ?_
    refine bw_callVj (e := d - 1) (as := [_, _]) rfl (by omega) rfl rfl (Nat.le_of_ble_eq_true rfl) (Nat.le_of_ble_eq_true rfl) rfl (c_hasPlace hR (by first | exact Or.inl rfl | exact Or.inr rfl) hc h (by omega)) (fun r3 hr3 => ?_)
    refine bw_ifeq rfl (fun c6 => ?_) (fun c6 => ?_)
    · skip
      refine bw_push rfl ?_
      refine bw_ret rfl rfl ?_
      exact ⟨rfl, _, rfl, Or.inr ⟨by omega, rfl, rfl⟩⟩
    · skip
      refine bw_iload rfl rfl ?_
      refine bw_ifne rfl (fun c10 => ?_) (fun c10 => ?_)
      · skip
        refine bw_aload rfl rfl ?_
        refine bw_getr rfl rfl (hR _ _) ?_
        refine bw_getr rfl rfl (hR _ _) ?_
        refine bw_iload rfl rfl ?_
        refine bw_aldr rfl (by first | rfl | assumption) (by decide) (by omega) (by omega) ((hR _ _).trans (rr_row (fun _ => rfl) (by omega) (by omega) (by omega))) ?_
        refine bw_astore (ls2 := [_, _, _, _, _, _]) rfl rfl (Nat.le_of_ble_eq_true rfl) rfl ?_
        refine bw_push rfl ?_
        refine bw_istore (ls2 := [_, _, _, _, _, _]) rfl rfl (Nat.le_of_ble_eq_true rfl) rfl ?_
        exact L29 98 M 0 (sm_refl _ _) (fun j j0 j1 => by omega) (by omega) (by omega) (by omega)
      · skip
        refine bw_push rfl ?_
        refine bw_ret rfl rfl ?_
        exact ⟨rfl, _, rfl, Or.inr ⟨by omega, rfl, rfl⟩⟩
