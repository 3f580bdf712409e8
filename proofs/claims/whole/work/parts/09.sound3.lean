theorem arrV_in {cA : ClassId} {N : Nat} {f : Nat → Value} {j : Int} (h0 : 0 ≤ j) (h1 : j < (N : Int)) (h : In32 j) : ¬ (Int32.ofInt j < 0 ∨ (arrV cA N f).slots.size ≤ (Int32.ofInt j).toNatClampNeg) := by
  rw [arrV_size]; exact ofI_in h0 h1 h
theorem ob_i {base : Nat} {ex : Nat → Nat} {cA : Nat → ClassId} {K : Nat → Nat × Int} {M : abMem} {o : Nat} (h : (K o).1 = 20 ∨ (K o).1 = 21 ∨ (K o).1 = 22) : abOb base ex cA K M o = .inl (cA o, (K o).2.toNat, .inl (fun j => Int32.ofInt (gI M o j))) := by
  unfold abOb
  rw [if_neg (by omega), if_pos (by omega)]
theorem ob_l {base : Nat} {ex : Nat → Nat} {cA : Nat → ClassId} {K : Nat → Nat × Int} {M : abMem} {o : Nat} (h : (K o).1 = 23) : abOb base ex cA K M o = .inl (cA o, (K o).2.toNat, .inr (.inl (fun j => gL M o j))) := by
  unfold abOb
  rw [if_neg (by omega), if_neg (by omega), if_pos (by omega)]
theorem ob_r {base : Nat} {ex : Nat → Nat} {cA : Nat → ClassId} {K : Nat → Nat × Int} {M : abMem} {o : Nat} (h : (K o).1 = 24 ∨ (K o).1 = 25 ∨ (K o).1 = 26) : abOb base ex cA K M o = .inl (cA o, (K o).2.toNat, .inr (.inr (.inr (.inr (fun j => (gR M o j).map (abAd base ex)))))) := by
  unfold abOb
  rw [if_neg (by omega), if_neg (by omega), if_neg (by omega)]
theorem i_upd {n : Nat} {M : abMem} {o : Nat} {j x : Int} (h0 : 0 ≤ j) : updV (fun k => Value.int (Int32.ofInt (gI M o k))) j.toNat (.int (Int32.ofInt x)) = fun k : Nat => Value.int (Int32.ofInt (gI (sI M o j x) o k)) := by
  funext k
  unfold updV
  rw [gI_sI]
  by_cases e : k = j.toNat
  · rw [if_pos e, if_pos ⟨rfl, by omega⟩]
  · rw [if_neg e, if_neg (fun z => e (by have := z.2; omega))]
theorem l_upd {M : abMem} {o : Nat} {j : Int} {x : Int64} (h0 : 0 ≤ j) : updV (fun k => Value.long (gL M o k)) j.toNat (.long x) = fun k : Nat => Value.long (gL (sL M o j x) o k) := by
  funext k
  unfold updV
  rw [gL_sL]
  by_cases e : k = j.toNat
  · rw [if_pos e, if_pos ⟨rfl, by omega⟩]
  · rw [if_neg e, if_neg (fun z => e (by have := z.2; omega))]
theorem r_upd {base : Nat} {ex : Nat → Nat} {M : abMem} {o : Nat} {j : Int} {x : Option Nat} (h0 : 0 ≤ j) : updV (fun k => va_rf ((gR M o k).map (abAd base ex))) j.toNat (va_rf (x.map (abAd base ex))) = fun k : Nat => va_rf ((gR (sR M o j x) o k).map (abAd base ex)) := by
  funext k
  unfold updV
  rw [gR_sR]
  by_cases e : k = j.toNat
  · rw [if_pos e, if_pos ⟨rfl, by omega⟩]
  · rw [if_neg e, if_neg (fun z => e (by have := z.2; omega))]
theorem abAd_ex {base : Nat} {ex : Nat → Nat} (k : Nat) : abAd base ex (1000000 + k) = ex k := by
  unfold abAd
  rw [if_neg (by omega), show 1000000 + k - 1000000 = k by omega]
set_option maxRecDepth 20000 in
theorem abs_strv {l : Launch} {D : va_G} {base : Nat} {ex : Nat → Nat} : abR_strv (abMach l D base ex) := by
  intro d lim i pc ls st cnt A M Q a b c n o hc h1 k1
  intro p e Rm s m args below meth cd cA H locs lsM Qm hX hR hs hF
  obtain ⟨hd, hn, hsd⟩ := abDec hc (by decide)
  have hs0 := hs
  obtain ⟨hr, hl, hv, hS⟩ := hs
  unfold abSide at hsd
  simp only [Bool.and_eq_true] at hsd
  obtain ⟨q, hq1, hq2⟩ := abOkMem abSfL_ok hsd.1
  have hq3 := eq_of_beq hq2
  subst hq3
  have hy : n - pc = 3 := of_decide_eq_true hsd.2
  obtain rfl : n = pc + 3 := by omega
  rw [hy] at hd
  have hts := hX.2.2.2.2.2.2.1
  have hE := hX.2.2.2.2.2.2.2.2.2.1
  have v1 := abTail hv
  have K := k1 p e Rm s m args below meth cd cA H locs lsM Qm hX hR ⟨hr, hl, abCons (fun z hz => by cases hz; exact Or.inr ⟨by omega, by omega⟩) v1.2, hS⟩ hF
  refine abWeq (st2 := .ref (ex o) :: st.map (abCv base ex)) ?_ (by show _ = abCv base ex (vr (some (1000000 + o))) :: _; simp only [abCv, Option.map_some, va_rf, abAd_ex]) rfl
  exact vk_getf hX.1 hX.2.1 (hE.1.1 o h1).2.2.1 hS hX.2.2.2.2.2.1 (hts _ (abTb_mem hq1 rfl)) (fun x hx => hx) hd (abWeq K (by show abCv base ex (vr (some (1000021 + o))) :: _ = _; simp only [abCv, Option.map_some, va_rf]; rw [show 1000021 + o = 1000000 + (21 + o) by omega, abAd_ex]) rfl)
set_option maxRecDepth 20000 in
theorem abs_strc {l : Launch} {D : va_G} {base : Nat} {ex : Nat → Nat} : abR_strc (abMach l D base ex) := by
  intro d lim i pc ls st cnt A M Q a b c n o hc h1 k1
  intro p e Rm s m args below meth cd cA H locs lsM Qm hX hR hs hF
  obtain ⟨hd, hn, hsd⟩ := abDec hc (by decide)
  have hs0 := hs
  obtain ⟨hr, hl, hv, hS⟩ := hs
  unfold abSide at hsd
  simp only [Bool.and_eq_true] at hsd
  obtain ⟨q, hq1, hq2⟩ := abOkMem abSfL_ok hsd.1
  have hq3 := eq_of_beq hq2
  subst hq3
  have hy : n - pc = 3 := of_decide_eq_true hsd.2
  obtain rfl : n = pc + 3 := by omega
  rw [hy] at hd
  have hts := hX.2.2.2.2.2.2.1
  have hE := hX.2.2.2.2.2.2.2.2.2.1
  have v1 := abTail hv
  have K := k1 p e Rm s m args below meth cd cA H locs lsM Qm hX hR ⟨hr, hl, abCons (show In32 0 from ⟨by decide, by decide⟩) v1.2, hS⟩ hF
  refine abWeq (st2 := .ref (ex o) :: st.map (abCv base ex)) ?_ (by show _ = abCv base ex (vr (some (1000000 + o))) :: _; simp only [abCv, Option.map_some, va_rf, abAd_ex]) rfl
  exact vk_getf hX.1 hX.2.1 (hE.1.1 o h1).2.1 hS hX.2.2.2.2.2.1 (hts _ (abTb_mem hq1 rfl)) (fun x hx => hx) hd (abWeq K rfl rfl)
set_option maxRecDepth 20000 in
theorem abs_compact {l : Launch} {D : va_G} {base : Nat} {ex : Nat → Nat} : abR_compact (abMach l D base ex) := by
  intro d lim i pc ls st cnt A M Q a b c n  hc  k1
  intro p e Rm s m args below meth cd cA H locs lsM Qm hX hR hs hF
  obtain ⟨hd, hn, hsd⟩ := abDec hc (by decide)
  have hs0 := hs
  obtain ⟨hr, hl, hv, hS⟩ := hs
  unfold abSide at hsd
  simp only [Bool.and_eq_true] at hsd
  obtain ⟨q, hq1, hq2⟩ := abOkMem abSfL_ok hsd.1
  have hq3 := eq_of_beq hq2
  subst hq3
  have hy : n - pc = 3 := of_decide_eq_true hsd.2
  obtain rfl : n = pc + 3 := by omega
  rw [hy] at hd
  have hts := hX.2.2.2.2.2.2.1
  have hE := hX.2.2.2.2.2.2.2.2.2.1
  have K := k1 p e Rm s m args below meth cd cA H locs lsM Qm hX hR ⟨hr, hl, abCons (show In32 1 from ⟨by decide, by decide⟩) hv, hS⟩ hF
  exact va_gets hX.1 hX.2.1 hE.2.1 hS hX.2.2.2.2.2.1 (hts _ (abTb_mem hq1 rfl)) (fun x hx => hx) hd K
set_option maxRecDepth 20000 in
theorem abs_sioobe {l : Launch} {D : va_G} {base : Nat} {ex : Nat → Nat} : abR_sioobe (abMach l D base ex) := by
  intro d lim i pc ls st cnt A M Q a b c n  hc  k1
  intro p e Rm s m args below meth cd cA H locs lsM Qm hX hR hs hF
  obtain ⟨hd, hn, hsd⟩ := abDec hc (by decide)
  have hs0 := hs
  obtain ⟨hr, hl, hv, hS⟩ := hs
  unfold abSide at hsd
  simp only [Bool.and_eq_true] at hsd
  obtain ⟨q, hq1, hq2⟩ := abOkMem abSfL_ok hsd.1
  have hq3 := eq_of_beq hq2
  subst hq3
  have hy : n - pc = 3 := of_decide_eq_true hsd.2
  obtain rfl : n = pc + 3 := by omega
  rw [hy] at hd
  have hts := hX.2.2.2.2.2.2.1
  have hE := hX.2.2.2.2.2.2.2.2.2.1
  rcases hE.2.2 with hZ | hZ
  · have K := k1 none (Or.inl rfl) p e Rm s m args below meth cd cA H locs lsM Qm hX hR ⟨hr, hl, abCons (fun z hz => by cases hz) hv, hS⟩ hF
    exact va_gets hX.1 hX.2.1 hZ hS hX.2.2.2.2.2.1 (hts _ (abTb_mem hq1 rfl)) (fun x hx => hx) hd K
  · have K := k1 (some 1000050) (Or.inr rfl) p e Rm s m args below meth cd cA H locs lsM Qm hX hR ⟨hr, hl, abCons (fun z hz => by cases hz; exact Or.inr ⟨by omega, by omega⟩) hv, hS⟩ hF
    exact va_gets hX.1 hX.2.1 hZ hS hX.2.2.2.2.2.1 (hts _ (abTb_mem hq1 rfl)) (fun x hx => hx) hd K
set_option maxRecDepth 20000 in
theorem abs_iald {l : Launch} {D : va_G} {base : Nat} {ex : Nat → Nat} : abR_iald (abMach l D base ex) := by
  intro d lim i pc ls st cnt A M Q a b c n o j hc h1 h2 h3 k1
  intro p e Rm s m args below meth cd cA H locs lsM Qm hX hR hs hF
  obtain ⟨hd, hn, hsd⟩ := abDec hc (by decide)
  have hs0 := hs
  obtain ⟨hr, hl, hv, hS⟩ := hs
  have e1 : n - pc = 1 := of_decide_eq_true hsd
  rw [e1] at hd
  obtain rfl : n = pc + 1 := by omega
  have v1 := abTail hv
  have hj : In32 j := v1.1
  have ho : o < A.1 := hr.2.1.lt (by omega) (by omega)
  have had : abAd base ex o = base + o := abAd_lt hr.2.1 ho
  have hlen := (hr.2.1.2.1 o ho).2
  have hjl : j < (((A.2 o).2.toNat : Nat) : Int) := by omega
  have hjn : j.toNat < (A.2 o).2.toNat := by omega
  have hat := hr.1.2 o ho
  have hca := hr.2.2.2.1 o ho (by omega)
  rw [ob_i (Or.inl h1)] at hat
  have hca1 : ArrOfT s (cA o) .int := by have := hca.1; rw [h1] at this; exact this
  have K := k1 p e Rm s m args below meth cd cA H locs lsM Qm hX hR ⟨hr, hl, abCons (hr.2.2.1.1 o j) (abTail v1.2).2, hS⟩ hF
  refine abWeq (st2 := .int (Int32.ofInt j) :: .ref (base + o) :: st.map (abCv base ex)) ?_ (by show _ = _ :: abCv base ex (vr (some o)) :: _; simp only [abCv, Option.map_some, va_rf, had]) rfl
  refine W.iald (v := .int (Int32.ofInt (gI M o j))) hX.1 hX.2.1 hat (hca1 _ _) (fun q => by cases q) (arrV_in h2 hjl hj) ?_ rfl rfl hd K
  show (arrV _ _ _).slots[_]? = _
  rw [ofI_cl hj, arrV_read _ _ hjn]; simp only [toNat_cast h2]
set_option maxRecDepth 20000 in
theorem abs_bald {l : Launch} {D : va_G} {base : Nat} {ex : Nat → Nat} : abR_bald (abMach l D base ex) := by
  intro d lim i pc ls st cnt A M Q a b c n o j hc h1 h2 h3 k1
  intro p e Rm s m args below meth cd cA H locs lsM Qm hX hR hs hF
  obtain ⟨hd, hn, hsd⟩ := abDec hc (by decide)
  have hs0 := hs
  obtain ⟨hr, hl, hv, hS⟩ := hs
  have e1 : n - pc = 1 := of_decide_eq_true hsd
  rw [e1] at hd
  obtain rfl : n = pc + 1 := by omega
  have v1 := abTail hv
  have hj : In32 j := v1.1
  have ho : o < A.1 := hr.2.1.lt (by omega) (by omega)
  have had : abAd base ex o = base + o := abAd_lt hr.2.1 ho
  have hlen := (hr.2.1.2.1 o ho).2
  have hjl : j < (((A.2 o).2.toNat : Nat) : Int) := by omega
  have hjn : j.toNat < (A.2 o).2.toNat := by omega
  have hat := hr.1.2 o ho
  have hca := hr.2.2.2.1 o ho (by omega)
  rw [ob_i (Or.inr h1)] at hat
  have K := k1 p e Rm s m args below meth cd cA H locs lsM Qm hX hR ⟨hr, hl, abCons (hr.2.2.1.1 o j) (abTail v1.2).2, hS⟩ hF
  refine abWeq (st2 := .int (Int32.ofInt j) :: .ref (base + o) :: st.map (abCv base ex)) ?_ (by show _ = _ :: abCv base ex (vr (some o)) :: _; simp only [abCv, Option.map_some, va_rf, had]) rfl
  have hread : (vp_cell (cA o) ((A.2 o).2.toNat, .inl (fun j => Int32.ofInt (gI M o j)))).slots[(Int32.ofInt j).toNatClampNeg]? = some (.int (Int32.ofInt (gI M o j))) := by
    show (arrV _ _ _).slots[_]? = _
    rw [ofI_cl hj, arrV_read _ _ hjn]; simp only [toNat_cast h2]
  rcases h1 with h1 | h1
  · have hca1 : ArrOfT s (cA o) .byte := by have := hca.1; rw [h1] at this; exact this
    exact W.bald (v := .int (Int32.ofInt (gI M o j))) hX.1 hX.2.1 hat (hca1 _ _) (fun q => by cases q) (arrV_in h2 hjl hj) hread rfl rfl hd K
  · have hca1 : ArrOfT s (cA o) .boolean := by have := hca.1; rw [h1] at this; exact this
    exact W.zald (v := .int (Int32.ofInt (gI M o j))) hX.1 hX.2.1 hat (hca1 _ _) (fun q => by cases q) (arrV_in h2 hjl hj) hread rfl rfl hd K
set_option maxRecDepth 20000 in
theorem abs_lald {l : Launch} {D : va_G} {base : Nat} {ex : Nat → Nat} : abR_lald (abMach l D base ex) := by
  intro d lim i pc ls st cnt A M Q a b c n o j hc h1 h2 h3 k1
  intro p e Rm s m args below meth cd cA H locs lsM Qm hX hR hs hF
  obtain ⟨hd, hn, hsd⟩ := abDec hc (by decide)
  have hs0 := hs
  obtain ⟨hr, hl, hv, hS⟩ := hs
  have e1 : n - pc = 1 := of_decide_eq_true hsd
  rw [e1] at hd
  obtain rfl : n = pc + 1 := by omega
  have v1 := abTail hv
  have hj : In32 j := v1.1
  have ho : o < A.1 := hr.2.1.lt (by omega) (by omega)
  have had : abAd base ex o = base + o := abAd_lt hr.2.1 ho
  have hlen := (hr.2.1.2.1 o ho).2
  have hjl : j < (((A.2 o).2.toNat : Nat) : Int) := by omega
  have hjn : j.toNat < (A.2 o).2.toNat := by omega
  have hat := hr.1.2 o ho
  have hca := hr.2.2.2.1 o ho (by omega)
  rw [ob_l h1] at hat
  have hca1 : ArrOfT s (cA o) .long := by have := hca.1; rw [h1] at this; exact this
  have K := k1 p e Rm s m args below meth cd cA H locs lsM Qm hX hR ⟨hr, hl, abCons trivial (abTail v1.2).2, hS⟩ hF
  refine abWeq (st2 := .int (Int32.ofInt j) :: .ref (base + o) :: st.map (abCv base ex)) ?_ (by show _ = _ :: abCv base ex (vr (some o)) :: _; simp only [abCv, Option.map_some, va_rf, had]) rfl
  refine W.lald (v := .long (gL M o j)) hX.1 hX.2.1 hat (hca1 _ _) (fun q => by cases q) (arrV_in h2 hjl hj) ?_ rfl rfl hd K
  show (arrV _ _ _).slots[_]? = _
  rw [ofI_cl hj, arrV_read _ _ hjn]; simp only [toNat_cast h2]
set_option maxRecDepth 20000 in
theorem abs_aald {l : Launch} {D : va_G} {base : Nat} {ex : Nat → Nat} : abR_aald (abMach l D base ex) := by
  intro d lim i pc ls st cnt A M Q a b c n o j hc h1 h2 h3 k1
  intro p e Rm s m args below meth cd cA H locs lsM Qm hX hR hs hF
  obtain ⟨hd, hn, hsd⟩ := abDec hc (by decide)
  have hs0 := hs
  obtain ⟨hr, hl, hv, hS⟩ := hs
  have e1 : n - pc = 1 := of_decide_eq_true hsd
  rw [e1] at hd
  obtain rfl : n = pc + 1 := by omega
  have v1 := abTail hv
  have hj : In32 j := v1.1
  have ho : o < A.1 := hr.2.1.lt (by omega) (by omega)
  have had : abAd base ex o = base + o := abAd_lt hr.2.1 ho
  have hlen := (hr.2.1.2.1 o ho).2
  have hjl : j < (((A.2 o).2.toNat : Nat) : Int) := by omega
  have hjn : j.toNat < (A.2 o).2.toNat := by omega
  have hat := hr.1.2 o ho
  have hca := hr.2.2.2.1 o ho (by omega)
  rw [ob_r h1] at hat
  have hca1 : ∃ ty, ty.isReference = true ∧ ArrOfT s (cA o) ty := by
    have := hca.1
    rcases h1 with h1 | h1 | h1 <;> rw [h1] at this <;> exact ⟨_, rfl, this⟩
  obtain ⟨ty, ht, hca1⟩ := hca1
  have K := k1 p e Rm s m args below meth cd cA H locs lsM Qm hX hR ⟨hr, hl, abCons (fun z hz => hr.2.2.1.2 o j z hz) (abTail v1.2).2, hS⟩ hF
  refine abWeq (st2 := .int (Int32.ofInt j) :: .ref (base + o) :: st.map (abCv base ex)) ?_ (by show _ = _ :: abCv base ex (vr (some o)) :: _; simp only [abCv, Option.map_some, va_rf, had]) rfl
  refine W.aald (v := va_rf ((gR M o j).map (abAd base ex))) hX.1 hX.2.1 hat (hca1 _ _) ht (fun q => by cases q) (arrV_in h2 hjl hj) ?_ rfl rfl hd K
  show (arrV _ _ _).slots[_]? = _
  rw [ofI_cl hj, arrV_read _ _ hjn]; simp only [toNat_cast h2]
set_option maxRecDepth 20000 in
theorem abs_ialdS {l : Launch} {D : va_G} {base : Nat} {ex : Nat → Nat} : abR_ialdS (abMach l D base ex) := by
  intro d lim i pc ls st cnt A M Q a b c n j hc h1 h2 h3 k1
  intro p e Rm s m args below meth cd cA H locs lsM Qm hX hR hs hF
  obtain ⟨hd, hn, hsd⟩ := abDec hc (by decide)
  have hs0 := hs
  obtain ⟨hr, hl, hv, hS⟩ := hs
  have e1 : n - pc = 1 := of_decide_eq_true hsd
  rw [e1] at hd
  obtain rfl : n = pc + 1 := by omega
  have v1 := abTail hv
  have hj : In32 j := v1.1
  obtain ⟨L, e2, e3, e4, e5, e6⟩ := hr.2.2.2.2 h1
  have K := k1 p e Rm s m args below meth cd cA H locs lsM Qm hX hR ⟨hr, hl, abCons (hr.2.2.1.1 1000042 j) (abTail v1.2).2, hS⟩ hF
  refine abWeq (st2 := .int (Int32.ofInt j) :: .ref (ex 42) :: st.map (abCv base ex)) ?_ (by show _ = _ :: abCv base ex (vr (some (1000000 + 42))) :: _; simp only [abCv, Option.map_some, va_rf, abAd_ex]) rfl
  refine va_sld hX.1 hX.2.1 e4 (Nat.lt_of_lt_of_le e5 e6) (fun z => absurd z (Nat.not_le.mpr e5)) hS (ofI_in h2 (by omega) hj) hd (abWeq K ?_ rfl)
  show _ :: _ = _
  rw [ofI_cl hj, toNat_cast h2]
  rfl
theorem abSB_ok : ∀ k, k < 21 → abLens.getD k 0 = (abStrB.getD k []).length ∧ (abStrB.getD k []).length < 2147483648 ∧ (∀ x ∈ abStrB.getD k [], 0 ≤ x ∧ x ≤ 127) ∧ (abStrB.map (fun l => l.map Int32.ofInt)).getD k [] = (abStrB.getD k []).map Int32.ofInt := by decide +kernel
set_option maxRecDepth 20000 in
theorem abs_baldS {l : Launch} {D : va_G} {base : Nat} {ex : Nat → Nat} : abR_baldS (abMach l D base ex) := by
  intro d lim i pc ls st cnt A M Q a b c n o j hc h1 h2 h3 k1
  intro p e Rm s m args below meth cd cA H locs lsM Qm hX hR hs hF
  obtain ⟨hd, hn, hsd⟩ := abDec hc (by decide)
  have hs0 := hs
  obtain ⟨hr, hl, hv, hS⟩ := hs
  have e1 : n - pc = 1 := of_decide_eq_true hsd
  rw [e1] at hd
  obtain rfl : n = pc + 1 := by omega
  have v1 := abTail hv
  have hj : In32 j := v1.1
  obtain ⟨hT1, hT2, hT3, hT4⟩ := (hX.2.2.2.2.2.2.2.2.2.1.1.1 o h1)
  obtain ⟨b1, b2, b3, b4⟩ := abSB_ok o h1
  have hjl : j.toNat < (abStrB.getD o []).length := by unfold abSL at h3; omega
  have hval : In32 (abSB o j) := by
    unfold abSB
    generalize abStrB.getD o [] = G at hjl b3 ⊢
    have := b3 _ (List.getElem_mem (l := G) (n := j.toNat) hjl)
    rw [List.getD_eq_getElem?_getD, List.getElem?_eq_getElem hjl, Option.getD_some]
    exact ⟨by omega, by omega⟩
  have K := k1 p e Rm s m args below meth cd cA H locs lsM Qm hX hR ⟨hr, hl, abCons hval (abTail v1.2).2, hS⟩ hF
  refine abWeq (st2 := .int (Int32.ofInt j) :: .ref (ex (21 + o)) :: st.map (abCv base ex)) ?_ (by show _ = _ :: abCv base ex (vr (some (1000021 + o))) :: _; rw [show 1000021 + o = 1000000 + (21 + o) by omega]; simp only [abCv, Option.map_some, va_rf, abAd_ex]) rfl
  obtain ⟨cell, c1, c2, c3, c4, c5, c6, c7⟩ := hT4.kept hS.2.1
  rw [b1] at c4 c6
  refine W.bald (v := .int (Int32.ofInt (abSB o j))) hX.1 hX.2.1 c1 c2 c3 ?_ ?_ rfl rfl hd K
  · intro z
    rcases z with z | z
    · rw [z_lt hj] at z; omega
    · rw [ofI_cl hj] at z; omega
  · rw [ofI_cl hj, c6 _ hjl]
    show some (Value.int (((abStrB.map (fun l => l.map Int32.ofInt)).getD o []).getD j.toNat 0)) = _
    rw [b4]
    unfold abSB
    generalize abStrB.getD o [] = G at hjl ⊢
    rw [List.getD_eq_getElem?_getD, List.getD_eq_getElem?_getD, List.getElem?_map, List.getElem?_eq_getElem hjl]
    rfl
set_option maxRecDepth 20000 in
theorem abs_alen {l : Launch} {D : va_G} {base : Nat} {ex : Nat → Nat} : abR_alen (abMach l D base ex) := by
  intro d lim i pc ls st cnt A M Q a b c n o hc h1 h2 k1
  intro p e Rm s m args below meth cd cA H locs lsM Qm hX hR hs hF
  obtain ⟨hd, hn, hsd⟩ := abDec hc (by decide)
  have hs0 := hs
  obtain ⟨hr, hl, hv, hS⟩ := hs
  have e1 : n - pc = 1 := of_decide_eq_true hsd
  rw [e1] at hd
  obtain rfl : n = pc + 1 := by omega
  have v1 := abTail hv
  have ho : o < A.1 := hr.2.1.lt (by omega) (by omega)
  have had : abAd base ex o = base + o := abAd_lt hr.2.1 ho
  have hlen := (hr.2.1.2.1 o ho).2
  have hat := hr.1.2 o ho
  have hca := hr.2.2.2.1 o ho h1
  have K := k1 p e Rm s m args below meth cd cA H locs lsM Qm hX hR ⟨hr, hl, abCons (show In32 (A.2 o).2 from ⟨by omega, by omega⟩) v1.2, hS⟩ hF
  refine abWeq (st2 := .ref (base + o) :: st.map (abCv base ex)) ?_ (by show _ = abCv base ex (vr (some o)) :: _; simp only [abCv, Option.map_some, va_rf, had]) rfl
  have hc2 : ∃ z : vp_A, abOb base ex cA A.2 M o = .inl (cA o, z) ∧ z.1 = (A.2 o).2.toNat := by
    by_cases q : (A.2 o).1 < 23
    · exact ⟨_, ob_i (by omega), rfl⟩
    · by_cases q2 : (A.2 o).1 = 23
      · exact ⟨_, ob_l q2, rfl⟩
      · exact ⟨_, ob_r (by omega), rfl⟩
  obtain ⟨z, hz1, hz2⟩ := hc2
  rw [hz1] at hat
  have hP : va_P D abCl [(base + o, .inl (cA o, z))] H := fun k q hq => by
    have hk0 : k = 0 := by have := (List.getElem?_eq_some_iff.mp hq).1; simpa using this
    subst hk0
    cases hq
    exact hat
  have hKa : va_K D abCl [(cA o, abAty (A.2 o).1)] s := ⟨hX.2.2.2.2.2.2.2.2.1.1.1, fun k q hq => by
    have hk0 : k = 0 := by have := (List.getElem?_eq_some_iff.mp hq).1; simpa using this
    subst hk0
    cases hq
    exact hca⟩
  refine va_alen hX.1 hX.2.1 hKa hP 0 0 rfl rfl (v := Int32.ofInt (A.2 o).2) ?_ hd K
  rw [hz2, ← Int32.ofInt_eq_ofNat, toNat_cast hlen.1]
set_option maxRecDepth 20000 in
theorem abs_alenB {l : Launch} {D : va_G} {base : Nat} {ex : Nat → Nat} : abR_alenB (abMach l D base ex) := by
  intro d lim i pc ls st cnt A M Q a b c n o hc h1 k1
  intro p e Rm s m args below meth cd cA H locs lsM Qm hX hR hs hF
  obtain ⟨hd, hn, hsd⟩ := abDec hc (by decide)
  have hs0 := hs
  obtain ⟨hr, hl, hv, hS⟩ := hs
  have e1 : n - pc = 1 := of_decide_eq_true hsd
  rw [e1] at hd
  obtain rfl : n = pc + 1 := by omega
  have v1 := abTail hv
  obtain ⟨hT1, hT2, hT3, hT4⟩ := (hX.2.2.2.2.2.2.2.2.2.1.1.1 o h1)
  obtain ⟨b1, b2, b3, b4⟩ := abSB_ok o h1
  have K := k1 p e Rm s m args below meth cd cA H locs lsM Qm hX hR ⟨hr, hl, abCons (show In32 (abSL o) from ⟨by unfold abSL; omega, by unfold abSL; omega⟩) v1.2, hS⟩ hF
  refine abWeq (st2 := .ref (ex (21 + o)) :: st.map (abCv base ex)) ?_ (by show _ = abCv base ex (vr (some (1000021 + o))) :: _; rw [show 1000021 + o = 1000000 + (21 + o) by omega]; simp only [abCv, Option.map_some, va_rf, abAd_ex]) rfl
  obtain ⟨cell, c1, c2, c3, c4, c5, c6, c7⟩ := hT4.kept hS.2.1
  rw [b1] at c5
  refine W.alen (n := Int32.ofInt (abSL o)) hX.1 hX.2.1 c1 c2 ?_ rfl rfl hd K
  rw [c5, ← Int32.ofInt_eq_ofNat]
  rfl
set_option maxRecDepth 20000 in
theorem abs_alenS {l : Launch} {D : va_G} {base : Nat} {ex : Nat → Nat} : abR_alenS (abMach l D base ex) := by
  intro d lim i pc ls st cnt A M Q a b c n  hc h1 k1
  intro p e Rm s m args below meth cd cA H locs lsM Qm hX hR hs hF
  obtain ⟨hd, hn, hsd⟩ := abDec hc (by decide)
  have hs0 := hs
  obtain ⟨hr, hl, hv, hS⟩ := hs
  have e1 : n - pc = 1 := of_decide_eq_true hsd
  rw [e1] at hd
  obtain rfl : n = pc + 1 := by omega
  have v1 := abTail hv
  obtain ⟨L, e2, e3, e4, e5, e6⟩ := hr.2.2.2.2 h1
  have K := k1 p e Rm s m args below meth cd cA H locs lsM Qm hX hR ⟨hr, hl, abCons (show In32 (A.2 1000042).2 from ⟨by omega, by omega⟩) v1.2, hS⟩ hF
  refine abWeq (st2 := .ref (ex 42) :: st.map (abCv base ex)) ?_ (by show _ = abCv base ex (vr (some (1000000 + 42))) :: _; simp only [abCv, Option.map_some, va_rf, abAd_ex]) rfl
  refine va_slen hX.1 hX.2.1 e4 (Nat.lt_of_lt_of_le e5 e6) (fun z => absurd z (Nat.not_le.mpr e5)) hS hd (abWeq K ?_ rfl)
  show abCv base ex (vi (A.2 1000042).2) :: _ = _
  rw [← Int32.ofInt_eq_ofNat, e2]
  rfl
set_option maxRecDepth 20000 in
theorem abs_iast {l : Launch} {D : va_G} {base : Nat} {ex : Nat → Nat} : abR_iast (abMach l D base ex) := by
  intro d lim i pc ls st cnt A M Q a b c n o j x hc h1 h2 h3 k1
  intro p e Rm s m args below meth cd cA H locs lsM Qm hX hR hs hF
  obtain ⟨hd, hn, hsd⟩ := abDec hc (by decide)
  have hs0 := hs
  obtain ⟨hr, hl, hv, hS⟩ := hs
  have e1 : n - pc = 1 := of_decide_eq_true hsd
  rw [e1] at hd
  obtain rfl : n = pc + 1 := by omega
  have v1 := abTail hv
  have v2 := abTail v1.2
  have v3 := abTail v2.2
  have hj : In32 j := v2.1
  have ho : o < A.1 := hr.2.1.lt (by omega) (by omega)
  have had : abAd base ex o = base + o := abAd_lt hr.2.1 ho
  have hlen := (hr.2.1.2.1 o ho).2
  have hjl : j < (((A.2 o).2.toNat : Nat) : Int) := by omega
  have hjn : j.toNat < (A.2 o).2.toNat := by omega
  have hat := hr.1.2 o ho
  have hca := hr.2.2.2.1 o ho (by omega)
  rw [ob_i (Or.inl h1)] at hat
  have hca1 : ArrOfT s (cA o) .int := by have := hca.1; rw [h1] at this; exact this
  refine abWeq (st2 := .int (Int32.ofInt x) :: .int (Int32.ofInt j) :: .ref (base + o) :: st.map (abCv base ex)) ?_ (by show _ = _ :: _ :: abCv base ex (vr (some o)) :: _; simp only [abCv, Option.map_some, va_rf, had]) rfl
  refine W.iast hX.1 hX.2.1 hat (hca1 _ _) (fun q => by cases q) (arrV_in h2 hjl hj) rfl rfl hd fun H1 g1 g2 g3 => ?_
  refine k1 p e Rm s m args below meth cd cA H1 _ lsM Qm hX hR (hs0.write ho abSame_wI ?_ g2 g3 (abOkM_sI hr.2.2.1 v1.1) v3.2 (fun q hq => by rw [List.mem_singleton.mp hq])) hF
  rw [ob_i (Or.inl h1)]
  show H1[base + o]? = some (vp_cell _ _)
  rw [g1]
  rw [vp_cell_i, vp_cell_i, arrV_store, ofI_cl hj, i_upd (n := 0) h2]
set_option maxRecDepth 20000 in
theorem abs_bast {l : Launch} {D : va_G} {base : Nat} {ex : Nat → Nat} : abR_bast (abMach l D base ex) := by
  intro d lim i pc ls st cnt A M Q a b c n o j x hc h1 h2 h3 k1
  intro p e Rm s m args below meth cd cA H locs lsM Qm hX hR hs hF
  obtain ⟨hd, hn, hsd⟩ := abDec hc (by decide)
  have hs0 := hs
  obtain ⟨hr, hl, hv, hS⟩ := hs
  have e1 : n - pc = 1 := of_decide_eq_true hsd
  rw [e1] at hd
  obtain rfl : n = pc + 1 := by omega
  have v1 := abTail hv
  have v2 := abTail v1.2
  have v3 := abTail v2.2
  have hj : In32 j := v2.1
  have h1b : (A.2 o).1 = 21 ∨ (A.2 o).1 = 22 := by rcases h1 with q | q <;> omega
  have ho : o < A.1 := hr.2.1.lt (by omega) (by omega)
  have had : abAd base ex o = base + o := abAd_lt hr.2.1 ho
  have hlen := (hr.2.1.2.1 o ho).2
  have hjl : j < (((A.2 o).2.toNat : Nat) : Int) := by omega
  have hjn : j.toNat < (A.2 o).2.toNat := by omega
  have hat := hr.1.2 o ho
  have hca := hr.2.2.2.1 o ho (by omega)
  rw [ob_i (Or.inr h1b)] at hat
  refine abWeq (st2 := .int (Int32.ofInt x) :: .int (Int32.ofInt j) :: .ref (base + o) :: st.map (abCv base ex)) ?_ (by show _ = _ :: _ :: abCv base ex (vr (some o)) :: _; simp only [abCv, Option.map_some, va_rf, had]) rfl
  have fin : ∀ H1 : Heap, H1[base + o]? = some ((vp_cell (cA o) ((A.2 o).2.toNat, .inl (fun j => Int32.ofInt (gI M o j)))).setSlot (Int32.ofInt j).toNatClampNeg (.int (Int32.ofInt x))) → H1.size = H.size → (∀ q, q ≠ base + o → H1[q]? = H[q]?) → W p l e Rm s m args below meth cd H1 (locs ++ [⟨base + o, (Int32.ofInt j).toNatClampNeg⟩]) cnt.1 cnt.2 Qm (F0 m (pc + 1) lsM (st.map (abCv base ex))) := by
    intro H1 g1 g2 g3
    refine k1 p e Rm s m args below meth cd cA H1 _ lsM Qm hX hR (hs0.write ho abSame_wI ?_ g2 g3 (abOkM_sI hr.2.2.1 v1.1) v3.2 (fun q hq => by rw [List.mem_singleton.mp hq])) hF
    rw [ob_i (Or.inr h1b)]
    show H1[base + o]? = some (vp_cell _ _)
    rw [g1, vp_cell_i, vp_cell_i, arrV_store, ofI_cl hj, i_upd (n := 0) h2]
  rcases h1 with ⟨h1, hx1, hx2⟩ | ⟨h1, hx⟩
  · have hca1 : ArrOfT s (cA o) .byte := by have := hca.1; rw [h1] at this; exact this
    have hnx : narrow .byte (.int (Int32.ofInt x)) = .int (Int32.ofInt x) := by
      show Value.int _ = _
      congr 1
      apply Int32.toInt_inj.mp
      rw [Int8.toInt_toInt32, Int32.toInt_toInt8, ofI (show In32 x from v1.1)]
      exact Int.bmod_eq_of_le (by omega) (by omega)
    exact W.bast hX.1 hX.2.1 hat (hca1 _ _) (fun q => by cases q) (arrV_in h2 hjl hj) rfl rfl hd (fun H1 g1 g2 g3 => fin H1 (by rw [hnx] at g1; exact g1) g2 g3)
  · have hca1 : ArrOfT s (cA o) .boolean := by have := hca.1; rw [h1] at this; exact this
    exact W.zast hX.1 hX.2.1 hat (hca1 _ _) (fun q => by cases q) (arrV_in h2 hjl hj) rfl rfl hd (fun H1 g1 g2 g3 => fin H1 (by rw [(fits_bool hx).1] at g1; exact g1) g2 g3)
set_option maxRecDepth 20000 in
theorem abs_last {l : Launch} {D : va_G} {base : Nat} {ex : Nat → Nat} : abR_last (abMach l D base ex) := by
  intro d lim i pc ls st cnt A M Q a b c n o j x hc h1 h2 h3 k1
  intro p e Rm s m args below meth cd cA H locs lsM Qm hX hR hs hF
  obtain ⟨hd, hn, hsd⟩ := abDec hc (by decide)
  have hs0 := hs
  obtain ⟨hr, hl, hv, hS⟩ := hs
  have e1 : n - pc = 1 := of_decide_eq_true hsd
  rw [e1] at hd
  obtain rfl : n = pc + 1 := by omega
  have v1 := abTail hv
  have v2 := abTail v1.2
  have v3 := abTail v2.2
  have hj : In32 j := v2.1
  have ho : o < A.1 := hr.2.1.lt (by omega) (by omega)
  have had : abAd base ex o = base + o := abAd_lt hr.2.1 ho
  have hlen := (hr.2.1.2.1 o ho).2
  have hjl : j < (((A.2 o).2.toNat : Nat) : Int) := by omega
  have hjn : j.toNat < (A.2 o).2.toNat := by omega
  have hat := hr.1.2 o ho
  have hca := hr.2.2.2.1 o ho (by omega)
  rw [ob_l h1] at hat
  have hca1 : ArrOfT s (cA o) .long := by have := hca.1; rw [h1] at this; exact this
  refine abWeq (st2 := .long x :: .int (Int32.ofInt j) :: .ref (base + o) :: st.map (abCv base ex)) ?_ (by show _ = _ :: _ :: abCv base ex (vr (some o)) :: _; simp only [abCv, Option.map_some, va_rf, had]) rfl
  refine W.last hX.1 hX.2.1 hat (hca1 _ _) (fun q => by cases q) (arrV_in h2 hjl hj) rfl rfl hd fun H1 g1 g2 g3 => ?_
  refine k1 p e Rm s m args below meth cd cA H1 _ lsM Qm hX hR (hs0.write ho abSame_wL ?_ g2 g3 (abOkM_sL hr.2.2.1) v3.2 (fun q hq => by rw [List.mem_singleton.mp hq])) hF
  rw [ob_l h1]
  show H1[base + o]? = some (vp_cell _ _)
  rw [g1]
  rw [vp_cell_l, vp_cell_l, arrV_store, ofI_cl hj, l_upd h2]
set_option maxRecDepth 20000 in
theorem abs_aast {l : Launch} {D : va_G} {base : Nat} {ex : Nat → Nat} : abR_aast (abMach l D base ex) := by
  intro d lim i pc ls st cnt A M Q a b c n o j x hc h1 h2 h3 h4 k1
  intro p e Rm s m args below meth cd cA H locs lsM Qm hX hR hs hF
  obtain ⟨hd, hn, hsd⟩ := abDec hc (by decide)
  have hs0 := hs
  obtain ⟨hr, hl, hv, hS⟩ := hs
  have e1 : n - pc = 1 := of_decide_eq_true hsd
  rw [e1] at hd
  obtain rfl : n = pc + 1 := by omega
  have v1 := abTail hv
  have v2 := abTail v1.2
  have v3 := abTail v2.2
  have hj : In32 j := v2.1
  have ho : o < A.1 := hr.2.1.lt (by omega) (by omega)
  have had : abAd base ex o = base + o := abAd_lt hr.2.1 ho
  have hlen := (hr.2.1.2.1 o ho).2
  have hjl : j < (((A.2 o).2.toNat : Nat) : Int) := by omega
  have hjn : j.toNat < (A.2 o).2.toNat := by omega
  have hat := hr.1.2 o ho
  have hca := hr.2.2.2.1 o ho (by omega)
  rw [ob_r (Or.inr (Or.inr h1))] at hat
  rw [h1] at hca
  have hx : x < A.1 := hr.2.1.lt (by omega) (by omega)
  have hadx : abAd base ex x = base + x := abAd_lt hr.2.1 hx
  have hatx := hr.1.2 x hx
  have hobx : abOb base ex cA A.2 M x = .inr (7, abFs base ex 7 x M) := by unfold abOb; rw [if_pos (by omega), h4]
  rw [hobx] at hatx
  obtain ⟨r', hr', cellV, f1, f2, f3, -⟩ := hatx
  have er : r' = ("CelSheet$Sheet", abT7, 2) := Option.some.inj (hr'.symm.trans rfl)
  subst er
  have hcls := (hX.2.2.2.2.2.2.2.2.1.1.1 7 _ rfl).2
  obtain ⟨kA, comp, y1, y2, y3, -⟩ := hca.2
  have hcomp : comp = D.1 7 := Option.some.inj (y3.symm.trans hcls.1)
  subst hcomp
  obtain ⟨kC, hkC, -⟩ := hcls.2
  refine abWeq (st2 := .ref (base + x) :: .int (Int32.ofInt j) :: .ref (base + o) :: st.map (abCv base ex)) ?_ (by show _ = abCv base ex (vr (some x)) :: _ :: abCv base ex (vr (some o)) :: _; simp only [abCv, Option.map_some, va_rf, had, hadx]) rfl
  refine W.aast hX.1 hX.2.1 hat (fun q h => by cases h) (fun h => by cases h) y1 y2 rfl hkC ⟨by rw [z_lt hj]; omega, by show _ < (arrV _ _ _).slots.size; rw [arrV_size, ofI_cl hj]; exact hjn⟩ f1 (fun q h => by rw [f3] at h; cases h) (by rw [f2]; exact hkC) (by rw [f2]; exact va_assign hcls) rfl rfl hd fun H1 g1 g2 g3 => ?_
  refine k1 p e Rm s m args below meth cd cA H1 _ lsM Qm hX hR (hs0.write ho abSame_wR ?_ g2 g3 (abOkM_sR hr.2.2.1 (fun b hb => by cases hb; exact Or.inl hx)) v3.2 (fun q hq => by rw [List.mem_singleton.mp hq])) hF
  rw [ob_r (Or.inr (Or.inr h1))]
  show H1[base + o]? = some (vp_cell _ _)
  rw [g1]
  rw [vp_cell_q, vp_cell_q, arrV_store, ofI_cl hj, ← r_upd h2]
  simp only [Option.map_some, va_rf, hadx]
