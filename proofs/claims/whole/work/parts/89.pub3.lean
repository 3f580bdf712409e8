theorem shP_g {M N : abMem} {b : Nat} {i : Int} (h : shP M b i) (hl : gI M 568 1 ≤ 6) (g : ∀ a : Nat, (b ≤ a ∧ a < b + 9) ∨ a = 568 ∨ a = 569 → gI N a = gI M a) : shP N b i := by
  have e8 := g 568 (Or.inr (Or.inl rfl))
  have e9 := g 569 (Or.inr (Or.inr rfl))
  obtain ⟨h1, h2, h3, h4⟩ := h
  refine ⟨fun l f l0 l1 f0 f1 => ?_, fun p p0 p1 => ?_, fun p p0 p1 => ?_, fun l l0 l1 => ?_⟩
  · rw [e8] at l1 f1
    rw [e9, g (b + 2 + l.toNat) (Or.inl ⟨by omega, by omega⟩)]; exact h1 l f l0 l1 f0 f1
  · rw [e9, g (b + 8) (Or.inl ⟨by omega, by omega⟩)]; exact h2 p p0 p1
  · rw [e8] at p1 ⊢
    rw [e9]; exact h3 p p0 p1
  · rw [e8] at l1 ⊢
    rw [e9]; exact h4 l l0 l1
/-- what caches and the camera may change -/
abbrev pCc (a : Nat) : Prop := a = 0 ∨ (203 ≤ a ∧ a < 372) ∨ (546 ≤ a ∧ a ≤ 548)
theorem mR_e {M N : abMem} (e : gI N 569 = gI M 569) (i l : Int) : mR N i l = mR M i l := by
  funext f
  show gI N 569 _ = gI M 569 _
  rw [e]
theorem alk_e {M N : abMem} (e8 : gI N 568 = gI M 568) (e9 : gI N 569 = gI M 569) : alk N = alk M := by
  funext a f e
  unfold alk
  rw [pcI_eq e8 e9]
theorem mkcO_e {M N : abMem} (h : mkcO M) (e : gI N 547 = gI M 547) (e8 : gI N 568 = gI M 568) (e9 : gI N 569 = gI M 569) : mkcO N := fun l l0 l1 => by
  rw [e, e8, mR_e e9]
  exact h l l0 (by rw [← e8]; exact l1)
theorem pctO_e {M N : abMem} (h : pctO M) (e : gI N 0 = gI M 0) (e7 : gI N 548 = gI M 548) (e8 : gI N 568 = gI M 568) (e9 : gI N 569 = gI M 569) : pctO N := by
  unfold pctO picO at h ⊢
  rw [e, e7, e8, alk_e e8 e9, tk_eq e8 e9]
  exact h
theorem cmrO_e {M N : abMem} {k : Int} (h : cmrO M k) (e : gI N 203 4 = gI M 203 4) (e7 : gI N 218 = gI M 218) : cmrO N k := by
  unfold cmrO at h ⊢
  rw [e, e7]
  exact h
theorem cmrO_le {M : abMem} {k k' : Int} (h : cmrO M k) (e : k ≤ k') : cmrO M k' := ⟨⟨h.1.1, Int.le_trans h.1.2 e⟩, h.2⟩
theorem INV_sx {r r' : abRf} {M N : abMem} {k k' : Int} {p : Nat → Prop} (h : INV r M k) (hR : RF r' N) (hc : r'.1 = r.1) (g : sx p M N) (hp : ∀ a, p a → pCc a) (h1 : mkcO N) (h2 : pctO N) (h3 : cmrO N k') : INV r' N k' := by
  have q : ∀ a : Nat, ¬ pCc a → gI N a = gI M a := fun a ha => g.at a (fun k => ha (hp a k))
  have e8 := q 568 (by omega)
  have e9 := q 569 (by omega)
  have e7 := q 567 (by omega)
  have la := h.la
  have hs : cur r' = cur r := by unfold cur; rw [hc]
  have sh : ∀ (b : Nat) (i : Int), shP M b i → (∀ a, b ≤ a → a < b + 9 → ¬ pCc a) → shP N b i := fun b i hb hq => shP_g hb la.2 (fun a ha => q a (by rcases ha with z | z | z; exact hq a z.1 z.2; omega; omega))
  refine ⟨hR, ⟨by rw [e8]; exact h.rb.sw, by rw [e9]; exact h.rb.sh⟩, ?_, sh 10 0 h.sh (fun a a0 a1 => by omega), ?_, ?_, ?_, ?_, ?_, h1, h2, h3, ?_⟩
  · rw [hs, e8]
    exact SR_sx h.sr g (fun a a0 a1 z => by have := hp a z; have := cur_in r; omega)
  · obtain ⟨i1, i2, i3⟩ := h.hi
    unfold hisO
    rw [q 19 (by omega), e7]
    refine ⟨i1, i2, fun j j0 j1 => sh _ _ (i3 j j0 j1) (fun a a0 a1 => ?_)⟩
    have := hix_in i2 i1.2 ⟨j0, j1⟩
    omega
  · intro k k0 k1
    obtain ⟨i1, i2⟩ := h.ke k k0 k1
    rw [q 202 (by omega), q 570 (by omega)]
    exact ⟨i1, i2.elim Or.inl (fun z => Or.inr ⟨z.1, sh _ _ z.2 (fun a a0 a1 => by omega)⟩)⟩
  · have i := h.ta
    unfold tapO at i ⊢
    rw [q 1 (by omega), q 2 (by omega), e7, q 571 (by omega)]
    exact i
  · have i := h.ow
    unfold ownO at i ⊢
    rw [q 572 (by omega)]
    exact i
  · rw [q 3 (by omega), e7]; exact h.fa
  · have i := h.ly
    unfold layO at i ⊢
    rw [e8]; exact i
/-- the reference is as it was -/
def rfS (M N : abMem) : Prop := ∀ a : Nat, 567 ≤ a → gI N a = gI M a
theorem rfS_refl (M : abMem) : rfS M M := fun _ _ => rfl
theorem rfS.trans {M N K : abMem} (h : rfS M N) (g : rfS N K) : rfS M K := fun a ha => (g a ha).trans (h a ha)
theorem rfS_sx {M N : abMem} {p : Nat → Prop} (g : sx p M N) (hp : ∀ a, p a → pCc a) : rfS M N := fun a ha => g.at a (fun z => by have := hp a z; omega)
/-- the class's caches may have changed, no more -/
def OKP (r : abRf) (M N : abMem) (k : Int) : Prop := ∃ r' : abRf, r'.1 = r.1 ∧ INV r' N k ∧ rfS M N
theorem OKP_refl {r : abRf} {M : abMem} {k k' : Int} (h : INV r M k) (e : k ≤ k') : OKP r M M k' := ⟨r, rfl, INV_sx h h.rf rfl (sx_refl (fun _ => False) M) (fun _ z => z.elim) h.mk h.pc (cmrO_le h.cm e), rfS_refl M⟩
abbrev pMq (a : Nat) : Prop := pMk a ∨ a = 547
set_option maxRecDepth 20000 in
set_option maxHeartbeats 4000000 in
theorem x_marks {d L : Nat} {M : abMem} {r : abRf} (hR : RF r M) {s : Nat} (hs : s = 372 ∨ s = 459) (hc : cur r = s) {k : Int} (h : INV r M k) {l : Int} (hd : 4 ≤ d) : abW d (0, 0) 98 0 (abEnt (abL 98) [vr (some 0), vi l]) [] (0, 0) (A0 L) M (qI (A0 L) (fun x N => sm pMq M N ∧ INV r N k ∧ ((0 ≤ l ∧ l < gI M 568 1) ∧ isMk (mR M 0 l) (gI M 568 0) x ∨ ¬ (0 ≤ l ∧ l < gI M 568 1) ∧ x = -1))) := by
  rcases hs with rfl | rfl
  · have hS : SR M 372 (gI M 568) := by have q := h.sr; rw [hc] at q; exact q
    have b1 := h.fr
    have b2 := h.la
    have hrf := hR
    show abW d (0, 0) 98 0 [some (vr (some 0)), some (vi l)] [] (0, 0) (A0 L) M (qI (A0 L) (fun x N => sm pMq M N ∧ INV r N k ∧ ((0 ≤ l ∧ l < gI M 568 1) ∧ isMk (mR M 0 l) (gI M 568 0) x ∨ ¬ (0 ≤ l ∧ l < gI M 568 1) ∧ x = -1)))
    refine bw_aload rfl rfl ?_
    refine bw_getr rfl rfl (cur_r hR hc) ?_
    refine bw_iload rfl rfl ?_
    refine bw_callVNj (e := d - 1) (as := [_]) rfl (by omega) rfl rfl (Nat.le_of_ble_eq_true rfl) (Nat.le_of_ble_eq_true rfl) rfl (c_hasLayer hR (by first | exact Or.inl rfl | exact Or.inr rfl) hS) (fun r5 hr5 => ?_)
    refine bw_ifne rfl (fun c8 => ?_) (fun c8 => ?_)
    · skip
      refine bw_aload rfl rfl ?_
      refine bw_getr rfl rfl (hR _ _) ?_
      refine bw_iload rfl rfl ?_
      refine bw_aldi rfl (by first | rfl | assumption) (by omega) (by omega) ?_
      obtain ⟨v, ev⟩ : ∃ v, v = gI M 547 l := ⟨_, rfl⟩
      have hv := h.mk l (by omega) (by omega)
      rw [← ev] at hv ⊢
      refine bw_push rfl ?_
      refine bw_icne rfl (fun c20 => ?_) (fun c20 => ?_)
      · skip
        refine bw_aload rfl rfl ?_
        refine bw_getr rfl rfl (hR _ _) ?_
        refine bw_iload rfl rfl ?_
        refine bw_aldi rfl (by first | rfl | assumption) (by omega) (by omega) ?_
        refine bw_ret rfl rfl ?_
        first
        | (refine ⟨rfl, _, rfl, sm_refl _ _, h, Or.inl ⟨by omega, ?_⟩⟩
           rw [← ev]
           exact hv.resolve_left (by omega))
        | (have hg : sm pMq M (sI M48 547 l r48) := (u48.mono (fun a z => Or.inl z)).sI _ _ (Or.inr rfl)
           have e8 : gI (sI M48 547 l r48) 568 = gI M 568 := hg.at 568 (fun z => by omega)
           have e9 : gI (sI M48 547 l r48) 569 = gI M 569 := hg.at 569 (fun z => by omega)
           refine ⟨rfl, _, rfl, hg, INV_sx h hR rfl hg.sc.sx (fun a z => by omega) (fun i i0 i1 => ?_) (pctO_e h.pc (hg.at 0 (fun z => by omega)) (hg.at 548 (fun z => by omega)) e8 e9) (cmrO_e h.cm (by rw [hg.at 203 (fun z => by omega)]) (hg.at 218 (fun z => by omega))), Or.inl ⟨by omega, by rw [gI_sI_eq]; exact w48⟩⟩
           rw [e8, mR_e e9]
           rw [e8] at i1
           by_cases q : i = l
           · rw [q, gI_sI_eq]; exact Or.inr w48
           · rw [gI_sI_nj q, u48.at 547 (fun z => by omega)]; exact h.mk i i0 i1)
      · skip
        refine bw_aload rfl rfl ?_
        refine bw_getr rfl rfl (hR _ _) ?_
        refine bw_iload rfl rfl ?_
        refine bw_aload rfl rfl ?_
        refine bw_getr rfl rfl (hR _ _) ?_
        refine bw_aload rfl rfl ?_
        refine bw_getr rfl rfl (hR _ _) ?_
        refine bw_getr rfl rfl (hR _ _) ?_
        refine bw_iload rfl rfl ?_
        refine bw_aldr rfl (by first | rfl | assumption) (by decide) (by omega) (by omega) ((hR _ _).trans (rr_row (fun _ => rfl) (by omega) (by omega) (by omega))) ?_
        refine bw_aload rfl rfl ?_
        refine bw_getr rfl rfl (cur_r hR hc) ?_
        refine bw_getI rfl rfl ?_
        rw [show gI M 372 0 = gI M 568 0 from hS.c0]
        refine bw_callVNi (e := d - 1) (as := [_, _]) rfl (by omega) rfl rfl (Nat.le_of_ble_eq_true rfl) (Nat.le_of_ble_eq_true rfl) rfl (c_fewest hR (kfa (L := L) (b := 12) (n := 6) (v := (20, 96)) (by decide) (by decide) ⟨by omega, by omega⟩) (by omega) (by omega) (fun j j0 j1 => h.rv ⟨by omega, by omega⟩ ⟨j0, j1⟩) (by omega)) (fun r48 M48 hM48 => ?_)
        obtain ⟨u48, v48⟩ := hM48
        have hR := u48.RF hR
        have w48 := isMk_cg v48 (fun j j0 j1 => h.row ⟨by omega, by omega⟩ ⟨j0, j1⟩)
        refine bw_asti rfl (by first | rfl | assumption) (by omega) (by omega) ?_
        refine bw_aload rfl rfl ?_
        refine bw_getr rfl rfl (hR _ _) ?_
        refine bw_iload rfl rfl ?_
        refine bw_aldi rfl (by first | rfl | assumption) (by omega) (by omega) ?_
        refine bw_ret rfl rfl ?_
        first
        | (refine ⟨rfl, _, rfl, sm_refl _ _, h, Or.inl ⟨by omega, ?_⟩⟩
           rw [← ev]
           exact hv.resolve_left (by omega))
        | (have hg : sm pMq M (sI M48 547 l r48) := (u48.mono (fun a z => Or.inl z)).sI _ _ (Or.inr rfl)
           have e8 : gI (sI M48 547 l r48) 568 = gI M 568 := hg.at 568 (fun z => by omega)
           have e9 : gI (sI M48 547 l r48) 569 = gI M 569 := hg.at 569 (fun z => by omega)
           refine ⟨rfl, _, rfl, hg, INV_sx h hR rfl hg.sc.sx (fun a z => by omega) (fun i i0 i1 => ?_) (pctO_e h.pc (hg.at 0 (fun z => by omega)) (hg.at 548 (fun z => by omega)) e8 e9) (cmrO_e h.cm (by rw [hg.at 203 (fun z => by omega)]) (hg.at 218 (fun z => by omega))), Or.inl ⟨by omega, by rw [gI_sI_eq]; exact w48⟩⟩
           rw [e8, mR_e e9]
           rw [e8] at i1
           by_cases q : i = l
           · rw [q, gI_sI_eq]; exact Or.inr w48
           · rw [gI_sI_nj q, u48.at 547 (fun z => by omega)]; exact h.mk i i0 i1)
    · skip
      refine bw_push rfl ?_
      refine bw_ret rfl rfl ?_
      exact ⟨rfl, _, rfl, sm_refl _ _, h, Or.inr ⟨by omega, rfl⟩⟩
  · have hS : SR M 459 (gI M 568) := by have q := h.sr; rw [hc] at q; exact q
    have b1 := h.fr
    have b2 := h.la
    have hrf := hR
    show abW d (0, 0) 98 0 [some (vr (some 0)), some (vi l)] [] (0, 0) (A0 L) M (qI (A0 L) (fun x N => sm pMq M N ∧ INV r N k ∧ ((0 ≤ l ∧ l < gI M 568 1) ∧ isMk (mR M 0 l) (gI M 568 0) x ∨ ¬ (0 ≤ l ∧ l < gI M 568 1) ∧ x = -1)))
    refine bw_aload rfl rfl ?_
    refine bw_getr rfl rfl (cur_r hR hc) ?_
    refine bw_iload rfl rfl ?_
    refine bw_callVNj (e := d - 1) (as := [_]) rfl (by omega) rfl rfl (Nat.le_of_ble_eq_true rfl) (Nat.le_of_ble_eq_true rfl) rfl (c_hasLayer hR (by first | exact Or.inl rfl | exact Or.inr rfl) hS) (fun r5 hr5 => ?_)
    refine bw_ifne rfl (fun c8 => ?_) (fun c8 => ?_)
    · skip
      refine bw_aload rfl rfl ?_
      refine bw_getr rfl rfl (hR _ _) ?_
      refine bw_iload rfl rfl ?_
      refine bw_aldi rfl (by first | rfl | assumption) (by omega) (by omega) ?_
      obtain ⟨v, ev⟩ : ∃ v, v = gI M 547 l := ⟨_, rfl⟩
      have hv := h.mk l (by omega) (by omega)
      rw [← ev] at hv ⊢
      refine bw_push rfl ?_
      refine bw_icne rfl (fun c20 => ?_) (fun c20 => ?_)
      · skip
        refine bw_aload rfl rfl ?_
        refine bw_getr rfl rfl (hR _ _) ?_
        refine bw_iload rfl rfl ?_
        refine bw_aldi rfl (by first | rfl | assumption) (by omega) (by omega) ?_
        refine bw_ret rfl rfl ?_
        first
        | (refine ⟨rfl, _, rfl, sm_refl _ _, h, Or.inl ⟨by omega, ?_⟩⟩
           rw [← ev]
           exact hv.resolve_left (by omega))
        | (have hg : sm pMq M (sI M48 547 l r48) := (u48.mono (fun a z => Or.inl z)).sI _ _ (Or.inr rfl)
           have e8 : gI (sI M48 547 l r48) 568 = gI M 568 := hg.at 568 (fun z => by omega)
           have e9 : gI (sI M48 547 l r48) 569 = gI M 569 := hg.at 569 (fun z => by omega)
           refine ⟨rfl, _, rfl, hg, INV_sx h hR rfl hg.sc.sx (fun a z => by omega) (fun i i0 i1 => ?_) (pctO_e h.pc (hg.at 0 (fun z => by omega)) (hg.at 548 (fun z => by omega)) e8 e9) (cmrO_e h.cm (by rw [hg.at 203 (fun z => by omega)]) (hg.at 218 (fun z => by omega))), Or.inl ⟨by omega, by rw [gI_sI_eq]; exact w48⟩⟩
           rw [e8, mR_e e9]
           rw [e8] at i1
           by_cases q : i = l
           · rw [q, gI_sI_eq]; exact Or.inr w48
           · rw [gI_sI_nj q, u48.at 547 (fun z => by omega)]; exact h.mk i i0 i1)
      · skip
        refine bw_aload rfl rfl ?_
        refine bw_getr rfl rfl (hR _ _) ?_
        refine bw_iload rfl rfl ?_
        refine bw_aload rfl rfl ?_
        refine bw_getr rfl rfl (hR _ _) ?_
        refine bw_aload rfl rfl ?_
        refine bw_getr rfl rfl (hR _ _) ?_
        refine bw_getr rfl rfl (hR _ _) ?_
        refine bw_iload rfl rfl ?_
        refine bw_aldr rfl (by first | rfl | assumption) (by decide) (by omega) (by omega) ((hR _ _).trans (rr_row (fun _ => rfl) (by omega) (by omega) (by omega))) ?_
        refine bw_aload rfl rfl ?_
        refine bw_getr rfl rfl (cur_r hR hc) ?_
        refine bw_getI rfl rfl ?_
        rw [show gI M 459 0 = gI M 568 0 from hS.c0]
        refine bw_callVNi (e := d - 1) (as := [_, _]) rfl (by omega) rfl rfl (Nat.le_of_ble_eq_true rfl) (Nat.le_of_ble_eq_true rfl) rfl (c_fewest hR (kfa (L := L) (b := 12) (n := 6) (v := (20, 96)) (by decide) (by decide) ⟨by omega, by omega⟩) (by omega) (by omega) (fun j j0 j1 => h.rv ⟨by omega, by omega⟩ ⟨j0, j1⟩) (by omega)) (fun r48 M48 hM48 => ?_)
        obtain ⟨u48, v48⟩ := hM48
        have hR := u48.RF hR
        have w48 := isMk_cg v48 (fun j j0 j1 => h.row ⟨by omega, by omega⟩ ⟨j0, j1⟩)
        refine bw_asti rfl (by first | rfl | assumption) (by omega) (by omega) ?_
        refine bw_aload rfl rfl ?_
        refine bw_getr rfl rfl (hR _ _) ?_
        refine bw_iload rfl rfl ?_
        refine bw_aldi rfl (by first | rfl | assumption) (by omega) (by omega) ?_
        refine bw_ret rfl rfl ?_
        first
        | (refine ⟨rfl, _, rfl, sm_refl _ _, h, Or.inl ⟨by omega, ?_⟩⟩
           rw [← ev]
           exact hv.resolve_left (by omega))
        | (have hg : sm pMq M (sI M48 547 l r48) := (u48.mono (fun a z => Or.inl z)).sI _ _ (Or.inr rfl)
           have e8 : gI (sI M48 547 l r48) 568 = gI M 568 := hg.at 568 (fun z => by omega)
           have e9 : gI (sI M48 547 l r48) 569 = gI M 569 := hg.at 569 (fun z => by omega)
           refine ⟨rfl, _, rfl, hg, INV_sx h hR rfl hg.sc.sx (fun a z => by omega) (fun i i0 i1 => ?_) (pctO_e h.pc (hg.at 0 (fun z => by omega)) (hg.at 548 (fun z => by omega)) e8 e9) (cmrO_e h.cm (by rw [hg.at 203 (fun z => by omega)]) (hg.at 218 (fun z => by omega))), Or.inl ⟨by omega, by rw [gI_sI_eq]; exact w48⟩⟩
           rw [e8, mR_e e9]
           rw [e8] at i1
           by_cases q : i = l
           · rw [q, gI_sI_eq]; exact Or.inr w48
           · rw [gI_sI_nj q, u48.at 547 (fun z => by omega)]; exact h.mk i i0 i1)
    · skip
      refine bw_push rfl ?_
      refine bw_ret rfl rfl ?_
      exact ⟨rfl, _, rfl, sm_refl _ _, h, Or.inr ⟨by omega, rfl⟩⟩
theorem cB_inv {r : abRf} {M N : abMem} {k t dr : Int} (h : INV r M k) (e18 : gI N 18 = gI M 18) (er : ∀ l : Int, 0 ≤ l → l < gI M 568 1 → gI N (12 + l.toNat) = gI M (12 + l.toNat)) {f : Int} (hf : 0 ≤ f ∧ f < gI M 568 0) {R : Int → Int → Int} (hR : ∀ l : Int, 0 ≤ l → l < gI M 568 1 → R l f = mR M 0 l f) (q : Int) : cB (gI M 568) (gI N 18) R f q (gI M 568 1).toNat = pcI M 0 f q := by
  have la := h.la
  refine cB_congr _ (fun p p0 p1 => ?_) q
  have a := h.sh.2.1 p p0 (by omega)
  have b := h.sv.1 p p0 (by omega)
  rw [e18]
  exact ⟨a, hR _ b.1 b.2⟩
/-- the camera's part of the memory has changed -/
abbrev pCm (a : Nat) : Prop := 203 ≤ a ∧ a < 219
theorem INV_cm {r r' : abRf} {M N : abMem} {k k' : Int} (h : INV r M k) (hR : RF r' N) (hc : r'.1 = r.1) (g : sx pCm M N) (h3 : cmrO N k') : INV r' N k' ∧ rfS M N := by
  have e8 := g.at 568 (fun z => by omega)
  have e9 := g.at 569 (fun z => by omega)
  exact ⟨INV_sx h hR hc g (fun a z => by omega) (mkcO_e h.mk (g.at 547 (fun z => by omega)) e8 e9) (pctO_e h.pc (g.at 0 (fun z => by omega)) (g.at 548 (fun z => by omega)) e8 e9) h3, rfS_sx g (fun a z => by omega)⟩
theorem am_sx {M N : abMem} {r : abRf} {s : Nat} {t : Int} (h : amD M r s t N) : sx pCm M N := h.2.1.mono (fun a z => by omega)
theorem shV_e {M N : abMem} {S : Int → Int} (h : shV M S) (hl : S 1 ≤ 6) (g : ∀ a : Nat, a < 203 → gI N a = gI M a) : shV N S := ⟨fun p p0 p1 => by rw [g 18 (by decide)]; exact h.1 p p0 p1, fun l f l0 l1 f0 f1 => by rw [g (12 + l.toNat) (by omega)]; exact h.2 l f l0 l1 f0 f1⟩
set_option maxRecDepth 20000 in
set_option maxHeartbeats 4000000 in
theorem x_cell {d L : Nat} {M : abMem} {r : abRf} (hR : RF r M) {s : Nat} (hs : s = 372 ∨ s = 459) (hc : cur r = s) {k : Int} (h : INV r M k) {f u v : Int} (hd : 4 ≤ d) : abW d (0, 0) 101 0 (abEnt (abL 101) [vr (some 0), vi f, vi u, vi v]) [] (0, 0) (A0 L) M (qI (A0 L) (fun x N => OKP r M N k ∧ x = if (0 ≤ f ∧ f < gI M 568 0) ∧ (0 ≤ u ∧ u ≤ 11) ∧ (0 ≤ v ∧ v ≤ 7) then (pcI M 0 f (12 * v + u)).1 else -1)) := by
  rcases hs with rfl | rfl
  · have hS : SR M 372 (gI M 568) := by have q := h.sr; rw [hc] at q; exact q
    have b1 := h.fr
    have b2 := h.la
    have hrf := hR
    show abW d (0, 0) 101 0 [some (vr (some 0)), some (vi f), some (vi u), some (vi v)] [] (0, 0) (A0 L) M (qI (A0 L) (fun x N => OKP r M N k ∧ x = if (0 ≤ f ∧ f < gI M 568 0) ∧ (0 ≤ u ∧ u ≤ 11) ∧ (0 ≤ v ∧ v ≤ 7) then (pcI M 0 f (12 * v + u)).1 else -1))
    refine bw_aload rfl rfl ?_
    refine bw_getr rfl rfl (cur_r hR hc) ?_
    refine bw_iload rfl rfl ?_
    refine bw_callVNj (e := d - 1) (as := [_]) rfl (by omega) rfl rfl (Nat.le_of_ble_eq_true rfl) (Nat.le_of_ble_eq_true rfl) rfl (c_hasFrame hR (by first | exact Or.inl rfl | exact Or.inr rfl) hS) (fun r5 hr5 => ?_)
    refine bw_ifeq rfl (fun c8 => ?_) (fun c8 => ?_)
    · skip
      refine bw_push rfl ?_
      refine bw_ret rfl rfl ?_
      first
      | exact ⟨rfl, _, rfl, OKP_refl h (Int.le_refl _), (if_neg (by omega)).symm⟩
      | (refine ⟨rfl, _, rfl, ⟨cmR r 372, rfl, hI.1, hI.2⟩, ?_⟩
         rw [if_pos (by omega)]
         unfold cmF
         rw [if_neg (by decide), hE])
    · skip
      refine bw_iload rfl rfl ?_
      refine bw_iload rfl rfl ?_
      refine bw_callSj (e := d - 1) (as := [_, _]) rfl (by omega) rfl rfl (Nat.le_of_ble_eq_true rfl) (Nat.le_of_ble_eq_true rfl) (c_isOnPaper hR) (fun r13 hr13 => ?_)
      refine bw_ifne rfl (fun c16 => ?_) (fun c16 => ?_)
      · skip
        refine bw_aload rfl rfl ?_
        refine bw_getr rfl rfl (hR _ _) ?_
        refine bw_aload rfl rfl ?_
        refine bw_getr rfl rfl (cur_r hR hc) ?_
        refine bw_aload rfl rfl ?_
        refine bw_getr rfl rfl (hR _ _) ?_
        refine bw_push rfl ?_
        refine bw_callVNv (e := d - 1) (as := [_, _, _]) rfl (by omega) rfl rfl (Nat.le_of_ble_eq_true rfl) (Nat.le_of_ble_eq_true rfl) rfl (c_aim hR (by omega)) (fun M34 hM34 => ?_)
        have hR := hM34.1
        have gA := am_sx hM34
        have hS2 := SR_sx hS gA (fun a a0 a1 z => by omega)
        have hV2 := shV_e h.sv b2.2 (fun a ha => gA.at a (fun z => by omega))
        refine bw_aload rfl rfl ?_
        refine bw_getr rfl rfl (hR _ _) ?_
        refine bw_iload rfl rfl ?_
        refine bw_push rfl ?_
        refine bw_push rfl ?_
        refine bw_callVNv (e := d - 1) (as := [_, _, _]) rfl (by omega) rfl rfl (Nat.le_of_ble_eq_true rfl) (Nat.le_of_ble_eq_true rfl) rfl (c_compose hR (by first | exact Or.inl rfl | exact Or.inr rfl) hS2 rfl rfl hV2 hM34.2.2.2.1 (by omega) (by omega) (by omega) (by omega)) (fun M44 hM44 => ?_)
        obtain ⟨uC, vC⟩ := hM44
        have hR := uC.RF hR
        have gC : sx pCm M M44 := gA.trans (uC.sx.mono (fun a z => by have z : a = 204 := z; omega))
        have hI := INV_cm (r' := cmR r 372) h hR rfl gC (cmrO_e h.cm (by rw [uC.at 203 (by decide)]; exact hM34.2.2.1 4 (by decide)) (by rw [uC.at 218 (by decide)]; exact hM34.2.1.at 218 (by decide)))
        have hE : ∀ q : Int, cB (gI M 568) (gI M34 18) (rwF M34 (-1) 0) f q (gI M 568 1).toNat = pcI M 0 f q := cB_inv h (t := 0) (dr := 0) (gA.at 18 (fun z => by omega)) (fun l l0 l1 => gA.at _ (fun z => by omega)) ⟨by omega, by omega⟩ (fun l l0 l1 => by
          unfold rwF
          rw [if_neg (by omega), gA.at _ (fun z => by omega)]
          exact h.row ⟨l0, l1⟩ ⟨by omega, by omega⟩)
        refine bw_aload rfl rfl ?_
        refine bw_getr rfl rfl (hR _ _) ?_
        refine bw_iload rfl rfl ?_
        refine bw_iload rfl rfl ?_
        refine bw_callVNe (e := d - 1) (as := [_, _]) rfl (by omega) rfl rfl (Nat.le_of_ble_eq_true rfl) (Nat.le_of_ble_eq_true rfl) rfl (c_valueAt hR vC (by omega) (by omega)) ?_
        refine bw_ret rfl rfl ?_
        first
        | exact ⟨rfl, _, rfl, OKP_refl h (Int.le_refl _), (if_neg (by omega)).symm⟩
        | (refine ⟨rfl, _, rfl, ⟨cmR r 372, rfl, hI.1, hI.2⟩, ?_⟩
           rw [if_pos (by omega)]
           unfold cmF
           rw [if_neg (by decide), hE])
      · skip
        refine bw_push rfl ?_
        refine bw_ret rfl rfl ?_
        first
        | exact ⟨rfl, _, rfl, OKP_refl h (Int.le_refl _), (if_neg (by omega)).symm⟩
        | (refine ⟨rfl, _, rfl, ⟨cmR r 372, rfl, hI.1, hI.2⟩, ?_⟩
           rw [if_pos (by omega)]
           unfold cmF
           rw [if_neg (by decide), hE])
  · have hS : SR M 459 (gI M 568) := by have q := h.sr; rw [hc] at q; exact q
    have b1 := h.fr
    have b2 := h.la
    have hrf := hR
    show abW d (0, 0) 101 0 [some (vr (some 0)), some (vi f), some (vi u), some (vi v)] [] (0, 0) (A0 L) M (qI (A0 L) (fun x N => OKP r M N k ∧ x = if (0 ≤ f ∧ f < gI M 568 0) ∧ (0 ≤ u ∧ u ≤ 11) ∧ (0 ≤ v ∧ v ≤ 7) then (pcI M 0 f (12 * v + u)).1 else -1))
    refine bw_aload rfl rfl ?_
    refine bw_getr rfl rfl (cur_r hR hc) ?_
    refine bw_iload rfl rfl ?_
    refine bw_callVNj (e := d - 1) (as := [_]) rfl (by omega) rfl rfl (Nat.le_of_ble_eq_true rfl) (Nat.le_of_ble_eq_true rfl) rfl (c_hasFrame hR (by first | exact Or.inl rfl | exact Or.inr rfl) hS) (fun r5 hr5 => ?_)
    refine bw_ifeq rfl (fun c8 => ?_) (fun c8 => ?_)
    · skip
      refine bw_push rfl ?_
      refine bw_ret rfl rfl ?_
      first
      | exact ⟨rfl, _, rfl, OKP_refl h (Int.le_refl _), (if_neg (by omega)).symm⟩
      | (refine ⟨rfl, _, rfl, ⟨cmR r 459, rfl, hI.1, hI.2⟩, ?_⟩
         rw [if_pos (by omega)]
         unfold cmF
         rw [if_neg (by decide), hE])
    · skip
      refine bw_iload rfl rfl ?_
      refine bw_iload rfl rfl ?_
      refine bw_callSj (e := d - 1) (as := [_, _]) rfl (by omega) rfl rfl (Nat.le_of_ble_eq_true rfl) (Nat.le_of_ble_eq_true rfl) (c_isOnPaper hR) (fun r13 hr13 => ?_)
      refine bw_ifne rfl (fun c16 => ?_) (fun c16 => ?_)
      · skip
        refine bw_aload rfl rfl ?_
        refine bw_getr rfl rfl (hR _ _) ?_
        refine bw_aload rfl rfl ?_
        refine bw_getr rfl rfl (cur_r hR hc) ?_
        refine bw_aload rfl rfl ?_
        refine bw_getr rfl rfl (hR _ _) ?_
        refine bw_push rfl ?_
        refine bw_callVNv (e := d - 1) (as := [_, _, _]) rfl (by omega) rfl rfl (Nat.le_of_ble_eq_true rfl) (Nat.le_of_ble_eq_true rfl) rfl (c_aim hR (by omega)) (fun M34 hM34 => ?_)
        have hR := hM34.1
        have gA := am_sx hM34
        have hS2 := SR_sx hS gA (fun a a0 a1 z => by omega)
        have hV2 := shV_e h.sv b2.2 (fun a ha => gA.at a (fun z => by omega))
        refine bw_aload rfl rfl ?_
        refine bw_getr rfl rfl (hR _ _) ?_
        refine bw_iload rfl rfl ?_
        refine bw_push rfl ?_
        refine bw_push rfl ?_
        refine bw_callVNv (e := d - 1) (as := [_, _, _]) rfl (by omega) rfl rfl (Nat.le_of_ble_eq_true rfl) (Nat.le_of_ble_eq_true rfl) rfl (c_compose hR (by first | exact Or.inl rfl | exact Or.inr rfl) hS2 rfl rfl hV2 hM34.2.2.2.1 (by omega) (by omega) (by omega) (by omega)) (fun M44 hM44 => ?_)
        obtain ⟨uC, vC⟩ := hM44
        have hR := uC.RF hR
        have gC : sx pCm M M44 := gA.trans (uC.sx.mono (fun a z => by have z : a = 204 := z; omega))
        have hI := INV_cm (r' := cmR r 459) h hR rfl gC (cmrO_e h.cm (by rw [uC.at 203 (by decide)]; exact hM34.2.2.1 4 (by decide)) (by rw [uC.at 218 (by decide)]; exact hM34.2.1.at 218 (by decide)))
        have hE : ∀ q : Int, cB (gI M 568) (gI M34 18) (rwF M34 (-1) 0) f q (gI M 568 1).toNat = pcI M 0 f q := cB_inv h (t := 0) (dr := 0) (gA.at 18 (fun z => by omega)) (fun l l0 l1 => gA.at _ (fun z => by omega)) ⟨by omega, by omega⟩ (fun l l0 l1 => by
          unfold rwF
          rw [if_neg (by omega), gA.at _ (fun z => by omega)]
          exact h.row ⟨l0, l1⟩ ⟨by omega, by omega⟩)
        refine bw_aload rfl rfl ?_
        refine bw_getr rfl rfl (hR _ _) ?_
        refine bw_iload rfl rfl ?_
        refine bw_iload rfl rfl ?_
        refine bw_callVNe (e := d - 1) (as := [_, _]) rfl (by omega) rfl rfl (Nat.le_of_ble_eq_true rfl) (Nat.le_of_ble_eq_true rfl) rfl (c_valueAt hR vC (by omega) (by omega)) ?_
        refine bw_ret rfl rfl ?_
        first
        | exact ⟨rfl, _, rfl, OKP_refl h (Int.le_refl _), (if_neg (by omega)).symm⟩
        | (refine ⟨rfl, _, rfl, ⟨cmR r 459, rfl, hI.1, hI.2⟩, ?_⟩
           rw [if_pos (by omega)]
           unfold cmF
           rw [if_neg (by decide), hE])
      · skip
        refine bw_push rfl ?_
        refine bw_ret rfl rfl ?_
        first
        | exact ⟨rfl, _, rfl, OKP_refl h (Int.le_refl _), (if_neg (by omega)).symm⟩
        | (refine ⟨rfl, _, rfl, ⟨cmR r 459, rfl, hI.1, hI.2⟩, ?_⟩
           rw [if_pos (by omega)]
           unfold cmF
           rw [if_neg (by decide), hE])
set_option maxRecDepth 20000 in
set_option maxHeartbeats 4000000 in
theorem x_top {d L : Nat} {M : abMem} {r : abRf} (hR : RF r M) {s : Nat} (hs : s = 372 ∨ s = 459) (hc : cur r = s) {k : Int} (h : INV r M k) {f u v : Int} (hd : 4 ≤ d) : abW d (0, 0) 102 0 (abEnt (abL 102) [vr (some 0), vi f, vi u, vi v]) [] (0, 0) (A0 L) M (qI (A0 L) (fun x N => OKP r M N k ∧ x = if (0 ≤ f ∧ f < gI M 568 0) ∧ (0 ≤ u ∧ u ≤ 11) ∧ (0 ≤ v ∧ v ≤ 7) then (pcI M 0 f (12 * v + u)).2 else -1)) := by
  rcases hs with rfl | rfl
  · have hS : SR M 372 (gI M 568) := by have q := h.sr; rw [hc] at q; exact q
    have b1 := h.fr
    have b2 := h.la
    have hrf := hR
    show abW d (0, 0) 102 0 [some (vr (some 0)), some (vi f), some (vi u), some (vi v)] [] (0, 0) (A0 L) M (qI (A0 L) (fun x N => OKP r M N k ∧ x = if (0 ≤ f ∧ f < gI M 568 0) ∧ (0 ≤ u ∧ u ≤ 11) ∧ (0 ≤ v ∧ v ≤ 7) then (pcI M 0 f (12 * v + u)).2 else -1))
    refine bw_aload rfl rfl ?_
    refine bw_getr rfl rfl (cur_r hR hc) ?_
    refine bw_iload rfl rfl ?_
    refine bw_callVNj (e := d - 1) (as := [_]) rfl (by omega) rfl rfl (Nat.le_of_ble_eq_true rfl) (Nat.le_of_ble_eq_true rfl) rfl (c_hasFrame hR (by first | exact Or.inl rfl | exact Or.inr rfl) hS) (fun r5 hr5 => ?_)
    refine bw_ifeq rfl (fun c8 => ?_) (fun c8 => ?_)
    · skip
      refine bw_push rfl ?_
      refine bw_ret rfl rfl ?_
      first
      | exact ⟨rfl, _, rfl, OKP_refl h (Int.le_refl _), (if_neg (by omega)).symm⟩
      | (refine ⟨rfl, _, rfl, ⟨cmR r 372, rfl, hI.1, hI.2⟩, ?_⟩
         rw [if_pos (by omega)]
         omega)
    · skip
      refine bw_iload rfl rfl ?_
      refine bw_iload rfl rfl ?_
      refine bw_callSj (e := d - 1) (as := [_, _]) rfl (by omega) rfl rfl (Nat.le_of_ble_eq_true rfl) (Nat.le_of_ble_eq_true rfl) (c_isOnPaper hR) (fun r13 hr13 => ?_)
      refine bw_ifne rfl (fun c16 => ?_) (fun c16 => ?_)
      · skip
        refine bw_aload rfl rfl ?_
        refine bw_getr rfl rfl (hR _ _) ?_
        refine bw_aload rfl rfl ?_
        refine bw_getr rfl rfl (cur_r hR hc) ?_
        refine bw_aload rfl rfl ?_
        refine bw_getr rfl rfl (hR _ _) ?_
        refine bw_push rfl ?_
        refine bw_callVNv (e := d - 1) (as := [_, _, _]) rfl (by omega) rfl rfl (Nat.le_of_ble_eq_true rfl) (Nat.le_of_ble_eq_true rfl) rfl (c_aim hR (by omega)) (fun M34 hM34 => ?_)
        have hR := hM34.1
        have gA := am_sx hM34
        have hS2 := SR_sx hS gA (fun a a0 a1 z => by omega)
        have hV2 := shV_e h.sv b2.2 (fun a ha => gA.at a (fun z => by omega))
        refine bw_aload rfl rfl ?_
        refine bw_getr rfl rfl (hR _ _) ?_
        refine bw_iload rfl rfl ?_
        refine bw_push rfl ?_
        refine bw_push rfl ?_
        refine bw_callVNv (e := d - 1) (as := [_, _, _]) rfl (by omega) rfl rfl (Nat.le_of_ble_eq_true rfl) (Nat.le_of_ble_eq_true rfl) rfl (c_compose hR (by first | exact Or.inl rfl | exact Or.inr rfl) hS2 rfl rfl hV2 hM34.2.2.2.1 (by omega) (by omega) (by omega) (by omega)) (fun M44 hM44 => ?_)
        obtain ⟨uC, vC⟩ := hM44
        have hR := uC.RF hR
        have gC : sx pCm M M44 := gA.trans (uC.sx.mono (fun a z => by have z : a = 204 := z; omega))
        have hI := INV_cm (r' := cmR r 372) h hR rfl gC (cmrO_e h.cm (by rw [uC.at 203 (by decide)]; exact hM34.2.2.1 4 (by decide)) (by rw [uC.at 218 (by decide)]; exact hM34.2.1.at 218 (by decide)))
        have hE : ∀ q : Int, cB (gI M 568) (gI M34 18) (rwF M34 (-1) 0) f q (gI M 568 1).toNat = pcI M 0 f q := cB_inv h (t := 0) (dr := 0) (gA.at 18 (fun z => by omega)) (fun l l0 l1 => gA.at _ (fun z => by omega)) ⟨by omega, by omega⟩ (fun l l0 l1 => by
          unfold rwF
          rw [if_neg (by omega), gA.at _ (fun z => by omega)]
          exact h.row ⟨l0, l1⟩ ⟨by omega, by omega⟩)
        refine bw_aload rfl rfl ?_
        refine bw_getr rfl rfl (hR _ _) ?_
        refine bw_iload rfl rfl ?_
        refine bw_iload rfl rfl ?_
        refine bw_callVNe (e := d - 1) (as := [_, _]) rfl (by omega) rfl rfl (Nat.le_of_ble_eq_true rfl) (Nat.le_of_ble_eq_true rfl) rfl (c_valueAt hR vC (by omega) (by omega)) ?_
        have hX : cmF (gI M 568) (gI M34 18) (rwF M34 (-1) 0) f 1 (gI M 568 1).toNat (12 * v + u) = (pcI M 0 f (12 * v + u)).2 + 1 := by
          unfold cmF
          rw [if_pos rfl, hE]
        rw [hX]
        have hY := PAP_in vC (k := 12 * v + u) (by omega)
        rw [hX] at hY
        refine bw_push rfl ?_
        refine bw_isub rfl ⟨by omega, by omega⟩ ?_
        refine bw_ret rfl rfl ?_
        first
        | exact ⟨rfl, _, rfl, OKP_refl h (Int.le_refl _), (if_neg (by omega)).symm⟩
        | (refine ⟨rfl, _, rfl, ⟨cmR r 372, rfl, hI.1, hI.2⟩, ?_⟩
           rw [if_pos (by omega)]
           omega)
      · skip
        refine bw_push rfl ?_
        refine bw_ret rfl rfl ?_
        first
        | exact ⟨rfl, _, rfl, OKP_refl h (Int.le_refl _), (if_neg (by omega)).symm⟩
        | (refine ⟨rfl, _, rfl, ⟨cmR r 372, rfl, hI.1, hI.2⟩, ?_⟩
           rw [if_pos (by omega)]
           omega)
  · have hS : SR M 459 (gI M 568) := by have q := h.sr; rw [hc] at q; exact q
    have b1 := h.fr
    have b2 := h.la
    have hrf := hR
    show abW d (0, 0) 102 0 [some (vr (some 0)), some (vi f), some (vi u), some (vi v)] [] (0, 0) (A0 L) M (qI (A0 L) (fun x N => OKP r M N k ∧ x = if (0 ≤ f ∧ f < gI M 568 0) ∧ (0 ≤ u ∧ u ≤ 11) ∧ (0 ≤ v ∧ v ≤ 7) then (pcI M 0 f (12 * v + u)).2 else -1))
    refine bw_aload rfl rfl ?_
    refine bw_getr rfl rfl (cur_r hR hc) ?_
    refine bw_iload rfl rfl ?_
    refine bw_callVNj (e := d - 1) (as := [_]) rfl (by omega) rfl rfl (Nat.le_of_ble_eq_true rfl) (Nat.le_of_ble_eq_true rfl) rfl (c_hasFrame hR (by first | exact Or.inl rfl | exact Or.inr rfl) hS) (fun r5 hr5 => ?_)
    refine bw_ifeq rfl (fun c8 => ?_) (fun c8 => ?_)
    · skip
      refine bw_push rfl ?_
      refine bw_ret rfl rfl ?_
      first
      | exact ⟨rfl, _, rfl, OKP_refl h (Int.le_refl _), (if_neg (by omega)).symm⟩
      | (refine ⟨rfl, _, rfl, ⟨cmR r 459, rfl, hI.1, hI.2⟩, ?_⟩
         rw [if_pos (by omega)]
         omega)
    · skip
      refine bw_iload rfl rfl ?_
      refine bw_iload rfl rfl ?_
      refine bw_callSj (e := d - 1) (as := [_, _]) rfl (by omega) rfl rfl (Nat.le_of_ble_eq_true rfl) (Nat.le_of_ble_eq_true rfl) (c_isOnPaper hR) (fun r13 hr13 => ?_)
      refine bw_ifne rfl (fun c16 => ?_) (fun c16 => ?_)
      · skip
        refine bw_aload rfl rfl ?_
        refine bw_getr rfl rfl (hR _ _) ?_
        refine bw_aload rfl rfl ?_
        refine bw_getr rfl rfl (cur_r hR hc) ?_
        refine bw_aload rfl rfl ?_
        refine bw_getr rfl rfl (hR _ _) ?_
        refine bw_push rfl ?_
        refine bw_callVNv (e := d - 1) (as := [_, _, _]) rfl (by omega) rfl rfl (Nat.le_of_ble_eq_true rfl) (Nat.le_of_ble_eq_true rfl) rfl (c_aim hR (by omega)) (fun M34 hM34 => ?_)
        have hR := hM34.1
        have gA := am_sx hM34
        have hS2 := SR_sx hS gA (fun a a0 a1 z => by omega)
        have hV2 := shV_e h.sv b2.2 (fun a ha => gA.at a (fun z => by omega))
        refine bw_aload rfl rfl ?_
        refine bw_getr rfl rfl (hR _ _) ?_
        refine bw_iload rfl rfl ?_
        refine bw_push rfl ?_
        refine bw_push rfl ?_
        refine bw_callVNv (e := d - 1) (as := [_, _, _]) rfl (by omega) rfl rfl (Nat.le_of_ble_eq_true rfl) (Nat.le_of_ble_eq_true rfl) rfl (c_compose hR (by first | exact Or.inl rfl | exact Or.inr rfl) hS2 rfl rfl hV2 hM34.2.2.2.1 (by omega) (by omega) (by omega) (by omega)) (fun M44 hM44 => ?_)
        obtain ⟨uC, vC⟩ := hM44
        have hR := uC.RF hR
        have gC : sx pCm M M44 := gA.trans (uC.sx.mono (fun a z => by have z : a = 204 := z; omega))
        have hI := INV_cm (r' := cmR r 459) h hR rfl gC (cmrO_e h.cm (by rw [uC.at 203 (by decide)]; exact hM34.2.2.1 4 (by decide)) (by rw [uC.at 218 (by decide)]; exact hM34.2.1.at 218 (by decide)))
        have hE : ∀ q : Int, cB (gI M 568) (gI M34 18) (rwF M34 (-1) 0) f q (gI M 568 1).toNat = pcI M 0 f q := cB_inv h (t := 0) (dr := 0) (gA.at 18 (fun z => by omega)) (fun l l0 l1 => gA.at _ (fun z => by omega)) ⟨by omega, by omega⟩ (fun l l0 l1 => by
          unfold rwF
          rw [if_neg (by omega), gA.at _ (fun z => by omega)]
          exact h.row ⟨l0, l1⟩ ⟨by omega, by omega⟩)
        refine bw_aload rfl rfl ?_
        refine bw_getr rfl rfl (hR _ _) ?_
        refine bw_iload rfl rfl ?_
        refine bw_iload rfl rfl ?_
        refine bw_callVNe (e := d - 1) (as := [_, _]) rfl (by omega) rfl rfl (Nat.le_of_ble_eq_true rfl) (Nat.le_of_ble_eq_true rfl) rfl (c_valueAt hR vC (by omega) (by omega)) ?_
        have hX : cmF (gI M 568) (gI M34 18) (rwF M34 (-1) 0) f 1 (gI M 568 1).toNat (12 * v + u) = (pcI M 0 f (12 * v + u)).2 + 1 := by
          unfold cmF
          rw [if_pos rfl, hE]
        rw [hX]
        have hY := PAP_in vC (k := 12 * v + u) (by omega)
        rw [hX] at hY
        refine bw_push rfl ?_
        refine bw_isub rfl ⟨by omega, by omega⟩ ?_
        refine bw_ret rfl rfl ?_
        first
        | exact ⟨rfl, _, rfl, OKP_refl h (Int.le_refl _), (if_neg (by omega)).symm⟩
        | (refine ⟨rfl, _, rfl, ⟨cmR r 459, rfl, hI.1, hI.2⟩, ?_⟩
           rw [if_pos (by omega)]
           omega)
      · skip
        refine bw_push rfl ?_
        refine bw_ret rfl rfl ?_
        first
        | exact ⟨rfl, _, rfl, OKP_refl h (Int.le_refl _), (if_neg (by omega)).symm⟩
        | (refine ⟨rfl, _, rfl, ⟨cmR r 459, rfl, hI.1, hI.2⟩, ?_⟩
           rw [if_pos (by omega)]
           omega)
set_option maxRecDepth 20000 in
set_option maxHeartbeats 4000000 in
theorem x_ink {d L : Nat} {M : abMem} {r : abRf} (hR : RF r M) {s : Nat} (hs : s = 372 ∨ s = 459) (hc : cur r = s) {k : Int} (h : INV r M k) {f v : Int} (hd : 4 ≤ d) : abW d (0, 0) 103 0 (abEnt (abL 103) [vr (some 0), vi f, vi v]) [] (0, 0) (A0 L) M (qI (A0 L) (fun x N => OKP r M N k ∧ x = if (0 ≤ f ∧ f < gI M 568 0) ∧ (0 ≤ v ∧ v ≤ 9) then cN (fun q => decide ((pcI M 0 f q).1 = v)) 96 else -1)) := by
  rcases hs with rfl | rfl
  · have hS : SR M 372 (gI M 568) := by have q := h.sr; rw [hc] at q; exact q
    have b1 := h.fr
    have b2 := h.la
    have hrf := hR
    show abW d (0, 0) 103 0 [some (vr (some 0)), some (vi f), some (vi v)] [] (0, 0) (A0 L) M (qI (A0 L) (fun x N => OKP r M N k ∧ x = if (0 ≤ f ∧ f < gI M 568 0) ∧ (0 ≤ v ∧ v ≤ 9) then cN (fun q => decide ((pcI M 0 f q).1 = v)) 96 else -1))
    refine bw_aload rfl rfl ?_
    refine bw_getr rfl rfl (cur_r hR hc) ?_
    refine bw_iload rfl rfl ?_
    refine bw_callVNj (e := d - 1) (as := [_]) rfl (by omega) rfl rfl (Nat.le_of_ble_eq_true rfl) (Nat.le_of_ble_eq_true rfl) rfl (c_hasFrame hR (by first | exact Or.inl rfl | exact Or.inr rfl) hS) (fun r5 hr5 => ?_)
    refine bw_ifeq rfl (fun c8 => ?_) (fun c8 => ?_)
    · skip
      refine bw_push rfl ?_
      refine bw_ret rfl rfl ?_
      first
      | exact ⟨rfl, _, rfl, OKP_refl h (Int.le_refl _), (if_neg (by omega)).symm⟩
      | (refine ⟨rfl, _, rfl, ⟨cmR r 372, rfl, hI.1, hI.2⟩, ?_⟩
         rw [if_pos (by omega)]
         refine cN_congr 96 (fun q _ _ => ?_)
         unfold cmF
         rw [if_neg (by decide), hE])
    · skip
      refine bw_iload rfl rfl ?_
      refine bw_iflt rfl (fun c12 => ?_) (fun c12 => ?_)
      · skip
        refine bw_push rfl ?_
        refine bw_ret rfl rfl ?_
        first
        | exact ⟨rfl, _, rfl, OKP_refl h (Int.le_refl _), (if_neg (by omega)).symm⟩
        | (refine ⟨rfl, _, rfl, ⟨cmR r 372, rfl, hI.1, hI.2⟩, ?_⟩
           rw [if_pos (by omega)]
           refine cN_congr 96 (fun q _ _ => ?_)
           unfold cmF
           rw [if_neg (by decide), hE])
      · skip
        refine bw_iload rfl rfl ?_
        refine bw_push rfl ?_
        refine bw_icle rfl (fun c18 => ?_) (fun c18 => ?_)
        · skip
          refine bw_aload rfl rfl ?_
          refine bw_getr rfl rfl (hR _ _) ?_
          refine bw_aload rfl rfl ?_
          refine bw_getr rfl rfl (cur_r hR hc) ?_
          refine bw_aload rfl rfl ?_
          refine bw_getr rfl rfl (hR _ _) ?_
          refine bw_push rfl ?_
          refine bw_callVNv (e := d - 1) (as := [_, _, _]) rfl (by omega) rfl rfl (Nat.le_of_ble_eq_true rfl) (Nat.le_of_ble_eq_true rfl) rfl (c_aim hR (by omega)) (fun M36 hM36 => ?_)
          have hR := hM36.1
          have gA := am_sx hM36
          have hS2 := SR_sx hS gA (fun a a0 a1 z => by omega)
          have hV2 := shV_e h.sv b2.2 (fun a ha => gA.at a (fun z => by omega))
          refine bw_aload rfl rfl ?_
          refine bw_getr rfl rfl (hR _ _) ?_
          refine bw_iload rfl rfl ?_
          refine bw_push rfl ?_
          refine bw_push rfl ?_
          refine bw_callVNv (e := d - 1) (as := [_, _, _]) rfl (by omega) rfl rfl (Nat.le_of_ble_eq_true rfl) (Nat.le_of_ble_eq_true rfl) rfl (c_compose hR (by first | exact Or.inl rfl | exact Or.inr rfl) hS2 rfl rfl hV2 hM36.2.2.2.1 (by omega) (by omega) (by omega) (by omega)) (fun M46 hM46 => ?_)
          obtain ⟨uC, vC⟩ := hM46
          have hR := uC.RF hR
          have gC : sx pCm M M46 := gA.trans (uC.sx.mono (fun a z => by have z : a = 204 := z; omega))
          have hI := INV_cm (r' := cmR r 372) h hR rfl gC (cmrO_e h.cm (by rw [uC.at 203 (by decide)]; exact hM36.2.2.1 4 (by decide)) (by rw [uC.at 218 (by decide)]; exact hM36.2.1.at 218 (by decide)))
          have hE : ∀ q : Int, cB (gI M 568) (gI M36 18) (rwF M36 (-1) 0) f q (gI M 568 1).toNat = pcI M 0 f q := cB_inv h (t := 0) (dr := 0) (gA.at 18 (fun z => by omega)) (fun l l0 l1 => gA.at _ (fun z => by omega)) ⟨by omega, by omega⟩ (fun l l0 l1 => by
            unfold rwF
            rw [if_neg (by omega), gA.at _ (fun z => by omega)]
            exact h.row ⟨l0, l1⟩ ⟨by omega, by omega⟩)
          refine bw_aload rfl rfl ?_
          refine bw_getr rfl rfl (hR _ _) ?_
          refine bw_iload rfl rfl ?_
          refine bw_callVNe (e := d - 1) (as := [_]) rfl (by omega) rfl rfl (Nat.le_of_ble_eq_true rfl) (Nat.le_of_ble_eq_true rfl) rfl (c_placesWith hR vC (by omega)) ?_
          refine bw_ret rfl rfl ?_
          first
          | exact ⟨rfl, _, rfl, OKP_refl h (Int.le_refl _), (if_neg (by omega)).symm⟩
          | (refine ⟨rfl, _, rfl, ⟨cmR r 372, rfl, hI.1, hI.2⟩, ?_⟩
             rw [if_pos (by omega)]
             refine cN_congr 96 (fun q _ _ => ?_)
             unfold cmF
             rw [if_neg (by decide), hE])
        · skip
          refine bw_push rfl ?_
          refine bw_ret rfl rfl ?_
          first
          | exact ⟨rfl, _, rfl, OKP_refl h (Int.le_refl _), (if_neg (by omega)).symm⟩
          | (refine ⟨rfl, _, rfl, ⟨cmR r 372, rfl, hI.1, hI.2⟩, ?_⟩
             rw [if_pos (by omega)]
             refine cN_congr 96 (fun q _ _ => ?_)
             unfold cmF
             rw [if_neg (by decide), hE])
  · have hS : SR M 459 (gI M 568) := by have q := h.sr; rw [hc] at q; exact q
    have b1 := h.fr
    have b2 := h.la
    have hrf := hR
    show abW d (0, 0) 103 0 [some (vr (some 0)), some (vi f), some (vi v)] [] (0, 0) (A0 L) M (qI (A0 L) (fun x N => OKP r M N k ∧ x = if (0 ≤ f ∧ f < gI M 568 0) ∧ (0 ≤ v ∧ v ≤ 9) then cN (fun q => decide ((pcI M 0 f q).1 = v)) 96 else -1))
    refine bw_aload rfl rfl ?_
    refine bw_getr rfl rfl (cur_r hR hc) ?_
    refine bw_iload rfl rfl ?_
    refine bw_callVNj (e := d - 1) (as := [_]) rfl (by omega) rfl rfl (Nat.le_of_ble_eq_true rfl) (Nat.le_of_ble_eq_true rfl) rfl (c_hasFrame hR (by first | exact Or.inl rfl | exact Or.inr rfl) hS) (fun r5 hr5 => ?_)
    refine bw_ifeq rfl (fun c8 => ?_) (fun c8 => ?_)
    · skip
      refine bw_push rfl ?_
      refine bw_ret rfl rfl ?_
      first
      | exact ⟨rfl, _, rfl, OKP_refl h (Int.le_refl _), (if_neg (by omega)).symm⟩
      | (refine ⟨rfl, _, rfl, ⟨cmR r 459, rfl, hI.1, hI.2⟩, ?_⟩
         rw [if_pos (by omega)]
         refine cN_congr 96 (fun q _ _ => ?_)
         unfold cmF
         rw [if_neg (by decide), hE])
    · skip
      refine bw_iload rfl rfl ?_
      refine bw_iflt rfl (fun c12 => ?_) (fun c12 => ?_)
      · skip
        refine bw_push rfl ?_
        refine bw_ret rfl rfl ?_
        first
        | exact ⟨rfl, _, rfl, OKP_refl h (Int.le_refl _), (if_neg (by omega)).symm⟩
        | (refine ⟨rfl, _, rfl, ⟨cmR r 459, rfl, hI.1, hI.2⟩, ?_⟩
           rw [if_pos (by omega)]
           refine cN_congr 96 (fun q _ _ => ?_)
           unfold cmF
           rw [if_neg (by decide), hE])
      · skip
        refine bw_iload rfl rfl ?_
        refine bw_push rfl ?_
        refine bw_icle rfl (fun c18 => ?_) (fun c18 => ?_)
        · skip
          refine bw_aload rfl rfl ?_
          refine bw_getr rfl rfl (hR _ _) ?_
          refine bw_aload rfl rfl ?_
          refine bw_getr rfl rfl (cur_r hR hc) ?_
          refine bw_aload rfl rfl ?_
          refine bw_getr rfl rfl (hR _ _) ?_
          refine bw_push rfl ?_
          refine bw_callVNv (e := d - 1) (as := [_, _, _]) rfl (by omega) rfl rfl (Nat.le_of_ble_eq_true rfl) (Nat.le_of_ble_eq_true rfl) rfl (c_aim hR (by omega)) (fun M36 hM36 => ?_)
          have hR := hM36.1
          have gA := am_sx hM36
          have hS2 := SR_sx hS gA (fun a a0 a1 z => by omega)
          have hV2 := shV_e h.sv b2.2 (fun a ha => gA.at a (fun z => by omega))
          refine bw_aload rfl rfl ?_
          refine bw_getr rfl rfl (hR _ _) ?_
          refine bw_iload rfl rfl ?_
          refine bw_push rfl ?_
          refine bw_push rfl ?_
          refine bw_callVNv (e := d - 1) (as := [_, _, _]) rfl (by omega) rfl rfl (Nat.le_of_ble_eq_true rfl) (Nat.le_of_ble_eq_true rfl) rfl (c_compose hR (by first | exact Or.inl rfl | exact Or.inr rfl) hS2 rfl rfl hV2 hM36.2.2.2.1 (by omega) (by omega) (by omega) (by omega)) (fun M46 hM46 => ?_)
          obtain ⟨uC, vC⟩ := hM46
          have hR := uC.RF hR
          have gC : sx pCm M M46 := gA.trans (uC.sx.mono (fun a z => by have z : a = 204 := z; omega))
          have hI := INV_cm (r' := cmR r 459) h hR rfl gC (cmrO_e h.cm (by rw [uC.at 203 (by decide)]; exact hM36.2.2.1 4 (by decide)) (by rw [uC.at 218 (by decide)]; exact hM36.2.1.at 218 (by decide)))
          have hE : ∀ q : Int, cB (gI M 568) (gI M36 18) (rwF M36 (-1) 0) f q (gI M 568 1).toNat = pcI M 0 f q := cB_inv h (t := 0) (dr := 0) (gA.at 18 (fun z => by omega)) (fun l l0 l1 => gA.at _ (fun z => by omega)) ⟨by omega, by omega⟩ (fun l l0 l1 => by
            unfold rwF
            rw [if_neg (by omega), gA.at _ (fun z => by omega)]
            exact h.row ⟨l0, l1⟩ ⟨by omega, by omega⟩)
          refine bw_aload rfl rfl ?_
          refine bw_getr rfl rfl (hR _ _) ?_
          refine bw_iload rfl rfl ?_
          refine bw_callVNe (e := d - 1) (as := [_]) rfl (by omega) rfl rfl (Nat.le_of_ble_eq_true rfl) (Nat.le_of_ble_eq_true rfl) rfl (c_placesWith hR vC (by omega)) ?_
          refine bw_ret rfl rfl ?_
          first
          | exact ⟨rfl, _, rfl, OKP_refl h (Int.le_refl _), (if_neg (by omega)).symm⟩
          | (refine ⟨rfl, _, rfl, ⟨cmR r 459, rfl, hI.1, hI.2⟩, ?_⟩
             rw [if_pos (by omega)]
             refine cN_congr 96 (fun q _ _ => ?_)
             unfold cmF
             rw [if_neg (by decide), hE])
        · skip
          refine bw_push rfl ?_
          refine bw_ret rfl rfl ?_
          first
          | exact ⟨rfl, _, rfl, OKP_refl h (Int.le_refl _), (if_neg (by omega)).symm⟩
          | (refine ⟨rfl, _, rfl, ⟨cmR r 459, rfl, hI.1, hI.2⟩, ?_⟩
             rw [if_pos (by omega)]
             refine cN_congr 96 (fun q _ _ => ?_)
             unfold cmF
             rw [if_neg (by decide), hE])
set_option maxRecDepth 20000 in
set_option maxHeartbeats 4000000 in
theorem x_seen {d L : Nat} {M : abMem} {r : abRf} (hR : RF r M) {s : Nat} (hs : s = 372 ∨ s = 459) (hc : cur r = s) {k : Int} (h : INV r M k) {l f : Int} (hd : 4 ≤ d) : abW d (0, 0) 104 0 (abEnt (abL 104) [vr (some 0), vi l, vi f]) [] (0, 0) (A0 L) M (qI (A0 L) (fun x N => OKP r M N k ∧ x = if (0 ≤ l ∧ l < gI M 568 1) ∧ (0 ≤ f ∧ f < gI M 568 0) then cN (fun q => decide ((pcI M 0 f q).2 = l)) 96 else -1)) := by
  rcases hs with rfl | rfl
  · have hS : SR M 372 (gI M 568) := by have q := h.sr; rw [hc] at q; exact q
    have b1 := h.fr
    have b2 := h.la
    have hrf := hR
    show abW d (0, 0) 104 0 [some (vr (some 0)), some (vi l), some (vi f)] [] (0, 0) (A0 L) M (qI (A0 L) (fun x N => OKP r M N k ∧ x = if (0 ≤ l ∧ l < gI M 568 1) ∧ (0 ≤ f ∧ f < gI M 568 0) then cN (fun q => decide ((pcI M 0 f q).2 = l)) 96 else -1))
    refine bw_aload rfl rfl ?_
    refine bw_iload rfl rfl ?_
    refine bw_iload rfl rfl ?_
    refine bw_callVj (e := d - 1) (as := [_, _]) rfl (by omega) rfl rfl (Nat.le_of_ble_eq_true rfl) (Nat.le_of_ble_eq_true rfl) rfl (c_hasPlace hR (by first | exact Or.inl rfl | exact Or.inr rfl) hc h (by omega)) (fun r3 hr3 => ?_)
    refine bw_ifne rfl (fun c6 => ?_) (fun c6 => ?_)
    · skip
      refine bw_aload rfl rfl ?_
      refine bw_getr rfl rfl (hR _ _) ?_
      refine bw_aload rfl rfl ?_
      refine bw_getr rfl rfl (cur_r hR hc) ?_
      refine bw_aload rfl rfl ?_
      refine bw_getr rfl rfl (hR _ _) ?_
      refine bw_push rfl ?_
      refine bw_callVNv (e := d - 1) (as := [_, _, _]) rfl (by omega) rfl rfl (Nat.le_of_ble_eq_true rfl) (Nat.le_of_ble_eq_true rfl) rfl (c_aim hR (by omega)) (fun M24 hM24 => ?_)
      have hR := hM24.1
      have gA := am_sx hM24
      have hS2 := SR_sx hS gA (fun a a0 a1 z => by omega)
      have hV2 := shV_e h.sv b2.2 (fun a ha => gA.at a (fun z => by omega))
      refine bw_aload rfl rfl ?_
      refine bw_getr rfl rfl (hR _ _) ?_
      refine bw_iload rfl rfl ?_
      refine bw_push rfl ?_
      refine bw_push rfl ?_
      refine bw_callVNv (e := d - 1) (as := [_, _, _]) rfl (by omega) rfl rfl (Nat.le_of_ble_eq_true rfl) (Nat.le_of_ble_eq_true rfl) rfl (c_compose hR (by first | exact Or.inl rfl | exact Or.inr rfl) hS2 rfl rfl hV2 hM24.2.2.2.1 (by omega) (by omega) (by omega) (by omega)) (fun M34 hM34 => ?_)
      obtain ⟨uC, vC⟩ := hM34
      have hR := uC.RF hR
      have gC : sx pCm M M34 := gA.trans (uC.sx.mono (fun a z => by have z : a = 204 := z; omega))
      have hI := INV_cm (r' := cmR r 372) h hR rfl gC (cmrO_e h.cm (by rw [uC.at 203 (by decide)]; exact hM24.2.2.1 4 (by decide)) (by rw [uC.at 218 (by decide)]; exact hM24.2.1.at 218 (by decide)))
      have hE : ∀ q : Int, cB (gI M 568) (gI M24 18) (rwF M24 (-1) 0) f q (gI M 568 1).toNat = pcI M 0 f q := cB_inv h (t := 0) (dr := 0) (gA.at 18 (fun z => by omega)) (fun l l0 l1 => gA.at _ (fun z => by omega)) ⟨by omega, by omega⟩ (fun l l0 l1 => by
        unfold rwF
        rw [if_neg (by omega), gA.at _ (fun z => by omega)]
        exact h.row ⟨l0, l1⟩ ⟨by omega, by omega⟩)
      refine bw_aload rfl rfl ?_
      refine bw_getr rfl rfl (hR _ _) ?_
      refine bw_iload rfl rfl ?_
      refine bw_push rfl ?_
      refine bw_iadd rfl ⟨by omega, by omega⟩ ?_
      refine bw_callVNe (e := d - 1) (as := [_]) rfl (by omega) rfl rfl (Nat.le_of_ble_eq_true rfl) (Nat.le_of_ble_eq_true rfl) rfl (c_placesWith hR vC (by omega)) ?_
      refine bw_ret rfl rfl ?_
      first
      | exact ⟨rfl, _, rfl, OKP_refl h (Int.le_refl _), (if_neg (by omega)).symm⟩
      | (refine ⟨rfl, _, rfl, ⟨cmR r 372, rfl, hI.1, hI.2⟩, ?_⟩
         rw [if_pos (by omega)]
         refine cN_congr 96 (fun q _ _ => ?_)
         unfold cmF
         rw [if_pos rfl, hE]
         exact decide_eq_decide.mpr ⟨fun z => by omega, fun z => by omega⟩)
    · skip
      refine bw_push rfl ?_
      refine bw_ret rfl rfl ?_
      first
      | exact ⟨rfl, _, rfl, OKP_refl h (Int.le_refl _), (if_neg (by omega)).symm⟩
      | (refine ⟨rfl, _, rfl, ⟨cmR r 372, rfl, hI.1, hI.2⟩, ?_⟩
         rw [if_pos (by omega)]
         refine cN_congr 96 (fun q _ _ => ?_)
         unfold cmF
         rw [if_pos rfl, hE]
         exact decide_eq_decide.mpr ⟨fun z => by omega, fun z => by omega⟩)
  · have hS : SR M 459 (gI M 568) := by have q := h.sr; rw [hc] at q; exact q
    have b1 := h.fr
    have b2 := h.la
    have hrf := hR
    show abW d (0, 0) 104 0 [some (vr (some 0)), some (vi l), some (vi f)] [] (0, 0) (A0 L) M (qI (A0 L) (fun x N => OKP r M N k ∧ x = if (0 ≤ l ∧ l < gI M 568 1) ∧ (0 ≤ f ∧ f < gI M 568 0) then cN (fun q => decide ((pcI M 0 f q).2 = l)) 96 else -1))
    refine bw_aload rfl rfl ?_
    refine bw_iload rfl rfl ?_
    refine bw_iload rfl rfl ?_
    refine bw_callVj (e := d - 1) (as := [_, _]) rfl (by omega) rfl rfl (Nat.le_of_ble_eq_true rfl) (Nat.le_of_ble_eq_true rfl) rfl (c_hasPlace hR (by first | exact Or.inl rfl | exact Or.inr rfl) hc h (by omega)) (fun r3 hr3 => ?_)
    refine bw_ifne rfl (fun c6 => ?_) (fun c6 => ?_)
    · skip
      refine bw_aload rfl rfl ?_
      refine bw_getr rfl rfl (hR _ _) ?_
      refine bw_aload rfl rfl ?_
      refine bw_getr rfl rfl (cur_r hR hc) ?_
      refine bw_aload rfl rfl ?_
      refine bw_getr rfl rfl (hR _ _) ?_
      refine bw_push rfl ?_
      refine bw_callVNv (e := d - 1) (as := [_, _, _]) rfl (by omega) rfl rfl (Nat.le_of_ble_eq_true rfl) (Nat.le_of_ble_eq_true rfl) rfl (c_aim hR (by omega)) (fun M24 hM24 => ?_)
      have hR := hM24.1
      have gA := am_sx hM24
      have hS2 := SR_sx hS gA (fun a a0 a1 z => by omega)
      have hV2 := shV_e h.sv b2.2 (fun a ha => gA.at a (fun z => by omega))
      refine bw_aload rfl rfl ?_
      refine bw_getr rfl rfl (hR _ _) ?_
      refine bw_iload rfl rfl ?_
      refine bw_push rfl ?_
      refine bw_push rfl ?_
      refine bw_callVNv (e := d - 1) (as := [_, _, _]) rfl (by omega) rfl rfl (Nat.le_of_ble_eq_true rfl) (Nat.le_of_ble_eq_true rfl) rfl (c_compose hR (by first | exact Or.inl rfl | exact Or.inr rfl) hS2 rfl rfl hV2 hM24.2.2.2.1 (by omega) (by omega) (by omega) (by omega)) (fun M34 hM34 => ?_)
      obtain ⟨uC, vC⟩ := hM34
      have hR := uC.RF hR
      have gC : sx pCm M M34 := gA.trans (uC.sx.mono (fun a z => by have z : a = 204 := z; omega))
      have hI := INV_cm (r' := cmR r 459) h hR rfl gC (cmrO_e h.cm (by rw [uC.at 203 (by decide)]; exact hM24.2.2.1 4 (by decide)) (by rw [uC.at 218 (by decide)]; exact hM24.2.1.at 218 (by decide)))
      have hE : ∀ q : Int, cB (gI M 568) (gI M24 18) (rwF M24 (-1) 0) f q (gI M 568 1).toNat = pcI M 0 f q := cB_inv h (t := 0) (dr := 0) (gA.at 18 (fun z => by omega)) (fun l l0 l1 => gA.at _ (fun z => by omega)) ⟨by omega, by omega⟩ (fun l l0 l1 => by
        unfold rwF
        rw [if_neg (by omega), gA.at _ (fun z => by omega)]
        exact h.row ⟨l0, l1⟩ ⟨by omega, by omega⟩)
      refine bw_aload rfl rfl ?_
      refine bw_getr rfl rfl (hR _ _) ?_
      refine bw_iload rfl rfl ?_
      refine bw_push rfl ?_
      refine bw_iadd rfl ⟨by omega, by omega⟩ ?_
      refine bw_callVNe (e := d - 1) (as := [_]) rfl (by omega) rfl rfl (Nat.le_of_ble_eq_true rfl) (Nat.le_of_ble_eq_true rfl) rfl (c_placesWith hR vC (by omega)) ?_
      refine bw_ret rfl rfl ?_
      first
      | exact ⟨rfl, _, rfl, OKP_refl h (Int.le_refl _), (if_neg (by omega)).symm⟩
      | (refine ⟨rfl, _, rfl, ⟨cmR r 459, rfl, hI.1, hI.2⟩, ?_⟩
         rw [if_pos (by omega)]
         refine cN_congr 96 (fun q _ _ => ?_)
         unfold cmF
         rw [if_pos rfl, hE]
         exact decide_eq_decide.mpr ⟨fun z => by omega, fun z => by omega⟩)
    · skip
      refine bw_push rfl ?_
      refine bw_ret rfl rfl ?_
      first
      | exact ⟨rfl, _, rfl, OKP_refl h (Int.le_refl _), (if_neg (by omega)).symm⟩
      | (refine ⟨rfl, _, rfl, ⟨cmR r 459, rfl, hI.1, hI.2⟩, ?_⟩
         rw [if_pos (by omega)]
         refine cN_congr 96 (fun q _ _ => ?_)
         unfold cmF
         rw [if_pos rfl, hE]
         exact decide_eq_decide.mpr ⟨fun z => by omega, fun z => by omega⟩)
