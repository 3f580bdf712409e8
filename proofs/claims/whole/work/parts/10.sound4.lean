theorem abRv_mono {n n2 b : Nat} (h : abRv n b) (h2 : n ≤ n2) : abRv n2 b := by
  rcases h with h | h
  · exact Or.inl (by omega)
  · exact Or.inr h
theorem abVv_mono {n n2 : Nat} {v : abV} (h : abVv n v) (h2 : n ≤ n2) : abVv n2 v := by
  rcases v with x | x | r
  · exact h
  · trivial
  · exact fun b hb => abRv_mono (h b hb) h2
theorem gI_zM (M : abMem) (n k b : Nat) (j : Int) : gI (zM M n k) b j = if n ≤ b ∧ b < k then 0 else gI M b j := by
  unfold gI zM
  by_cases h : n ≤ b ∧ b < k <;> simp [h]
theorem gL_zM (M : abMem) (n k b : Nat) (j : Int) : gL (zM M n k) b j = if n ≤ b ∧ b < k then 0 else gL M b j := by
  unfold gL zM
  by_cases h : n ≤ b ∧ b < k <;> simp [h]
theorem gR_zM (M : abMem) (n k b : Nat) (j : Int) : gR (zM M n k) b j = if n ≤ b ∧ b < k then none else gR M b j := by
  unfold gR zM
  by_cases h : n ≤ b ∧ b < k <;> simp [h]
/-- more cells: what was there stays, and there are new ones -/
theorem abSs.grow {D : va_G} {base : Nat} {ex : Nat → Nat} {i : Nat} {s : State} {ls : List (Option abV)} {st : List abV} {A A2 : abAl} {M M2 : abMem} {cA cA2 : Nat → ClassId} {H H1 : Heap} {locs : List Loc} {lsM : Array Slot} (h : abSs D base ex i s ls st A M cA H locs lsM) (hn : A.1 < A2.1) (hbig : A2.1 < 1000000) (hz : H1.size = base + A2.1) (hold : ∀ q : Nat, q < H.size → H1[q]? = H[q]?) (hA : ∀ b, (b < A.1 ∨ A2.1 ≤ b) → A2.2 b = A.2 b) (hc : ∀ b, b < A.1 → cA2 b = cA b) (hM : ∀ b, (b < A.1 ∨ A2.1 ≤ b) → ∀ j, gI M2 b j = gI M b j ∧ gL M2 b j = gL M b j ∧ gR M2 b j = gR M b j)
    (hnew : ∀ b, A.1 ≤ b → b < A2.1 → va_at D abCl (base + b, abOb base ex cA2 A2.2 M2 b) H1 ∧ ((A2.2 b).1 < 11 ∨ 20 ≤ (A2.2 b).1 ∧ (A2.2 b).1 ≤ 26) ∧ 0 ≤ (A2.2 b).2 ∧ (A2.2 b).2 < 2147483648 ∧ (20 ≤ (A2.2 b).1 → ArrOfT s (cA2 b) (abAty (A2.2 b).1) ∧ va_RA s (cA2 b) (abAty (A2.2 b).1)) ∧ (∀ j, In32 (gI M2 b j)) ∧ ∀ j z, gR M2 b j = some z → abRv A2.1 z) : abSs D base ex i s ls (vr (some A.1) :: st) A2 M2 cA2 H1 locs lsM := by
  obtain ⟨⟨h1, h2, h3, h4, h5⟩, h6, h7, h8⟩ := h
  refine ⟨⟨⟨hz, fun b hb => ?_⟩, ⟨hbig, fun b hb => ?_, fun b hb => ?_⟩, ⟨fun b j => ?_, fun b j z hz2 => ?_⟩, fun b hb hk => ?_, fun hk => ?_⟩, ⟨h6.1, h6.2.1, fun k v hk => abVv_mono (h6.2.2 k v hk) (by omega)⟩, abCons (fun z hz2 => by cases hz2; exact Or.inl hn) (fun v hv => abVv_mono (h7 v hv) (by omega)), ⟨by rw [hz]; have := h8.1; have := h1.1; omega, fun q g1 g2 => ?_, h8.2.2⟩⟩
  · rcases Nat.lt_or_ge b A.1 with q | q
    · have h9 := h1.2 b q
      rw [← abOb_same (hc b q) (hA b (Or.inl q)) (hM b (Or.inl q))] at h9
      exact va_at.kept h9 (hold _ (by show base + b < H.size; rw [h1.1]; omega))
    · exact (hnew b q hb).1
  · rcases Nat.lt_or_ge b A.1 with q | q
    · rw [hA b (Or.inl q)]; exact h2.2.1 b q
    · obtain ⟨-, z1, z2, z3, -⟩ := hnew b q hb
      exact ⟨z1, z2, z3⟩
  · rw [hA b (Or.inr hb)]; exact h2.2.2 b (by omega)
  · rcases Nat.lt_or_ge b A.1 with q | q
    · rw [(hM b (Or.inl q) j).1]; exact h3.1 b j
    · rcases Nat.lt_or_ge b A2.1 with q2 | q2
      · exact (hnew b q q2).2.2.2.2.2.1 j
      · rw [(hM b (Or.inr q2) j).1]; exact h3.1 b j
  · rcases Nat.lt_or_ge b A.1 with q | q
    · rw [(hM b (Or.inl q) j).2.2] at hz2; exact abRv_mono (h3.2 b j z hz2) (by omega)
    · rcases Nat.lt_or_ge b A2.1 with q2 | q2
      · exact (hnew b q q2).2.2.2.2.2.2 j z hz2
      · rw [(hM b (Or.inr q2) j).2.2] at hz2; exact abRv_mono (h3.2 b j z hz2) (by omega)
  · rcases Nat.lt_or_ge b A.1 with q | q
    · rw [hA b (Or.inl q)] at hk ⊢; rw [hc b q]; exact h4 b q hk
    · exact (hnew b q hb).2.2.2.2.1 hk
  · rw [hA _ (Or.inr (by omega))] at hk
    obtain ⟨L, e1, e2, e3, e4⟩ := h5 hk
    have e5 : (fun j : Nat => Int32.ofInt (gI M2 1000042 j)) = fun j : Nat => Int32.ofInt (gI M 1000042 j) := funext fun j => by rw [(hM 1000042 (Or.inr (by omega)) j).1]
    exact ⟨L, by rw [hA _ (Or.inr (by omega))]; exact e1, e2, by rw [e5]; exact e3, e4⟩
  · rw [hold q (by have := h8.1; omega)]
    exact h8.2.1 q g1 g2
theorem kN_old {A : abAl} {q : Nat} {z : Int} (b : Nat) (h : b < A.1 ∨ (kN A q z).1 ≤ b) : (kN A q z).2 b = A.2 b := by
  have h : b < A.1 ∨ A.1 + 1 ≤ b := h
  show (if b = A.1 then (q, z) else A.2 b) = A.2 b
  rw [if_neg (by omega)]
theorem kN_new {A : abAl} {q : Nat} {z : Int} : (kN A q z).2 A.1 = (q, z) := if_pos rfl
theorem zM_old {M : abMem} {n k : Nat} (b : Nat) (h : b < n ∨ k ≤ b) (j : Int) : gI (zM M n k) b j = gI M b j ∧ gL (zM M n k) b j = gL M b j ∧ gR (zM M n k) b j = gR M b j := by
  rw [gI_zM, gL_zM, gR_zM, if_neg (by omega), if_neg (by omega), if_neg (by omega)]
  exact ⟨rfl, rfl, rfl⟩
theorem zM_new {M : abMem} {n k : Nat} (b : Nat) (h1 : n ≤ b) (h2 : b < k) (j : Int) : gI (zM M n k) b j = 0 ∧ gL (zM M n k) b j = 0 ∧ gR (zM M n k) b j = none := by
  rw [gI_zM, gL_zM, gR_zM, if_pos ⟨h1, h2⟩, if_pos ⟨h1, h2⟩, if_pos ⟨h1, h2⟩]
  exact ⟨rfl, rfl, rfl⟩
/-- one array more -/
theorem abSs.arr {D : va_G} {base : Nat} {ex : Nat → Nat} {i : Nat} {s : State} {ls : List (Option abV)} {st : List abV} {A : abAl} {M : abMem} {cA : Nat → ClassId} {H H1 : Heap} {locs : List Loc} {lsM : Array Slot} {q : Nat} {z : Int} {cN : ClassId} (h : abSs D base ex i s ls st A M cA H locs lsM) (hbig : A.1 + 1 < 1000000) (hz0 : 0 ≤ z) (hz1 : z ≤ 100000) (hq : 20 ≤ q ∧ q ≤ 26) (hz : H1.size = H.size + 1) (hold : ∀ x : Nat, x < H.size → H1[x]? = H[x]?)
    (hn : H1[H.size]? = some (arrV cN z.toNat (fun _ => defaultValue (abAty q)))) (hAr : ArrOfT s cN (abAty q) ∧ va_RA s cN (abAty q)) : abSs D base ex i s ls (vr (some A.1) :: st) (kN A q z) (zM M A.1 (A.1 + 1)) (va_up cA A.1 cN) H1 locs lsM := by
  have hsz := h.1.1.1
  refine h.grow (by show A.1 < A.1 + 1; omega) hbig (by rw [hz, hsz]; rfl) hold kN_old (fun b hb => by show (if b = A.1 then cN else cA b) = _; rw [if_neg (by omega)]) (fun b hb j => zM_old b hb j) (fun b h1 h2 => ?_)
  have hb : b = A.1 := by have h2 : b < A.1 + 1 := h2; omega
  subst hb
  rw [kN_new]
  have hu : va_up cA A.1 cN A.1 = cN := if_pos rfl
  rw [hu]
  refine ⟨?_, Or.inr hq, hz0, by omega, fun _ => hAr, fun j => by rw [(zM_new _ (Nat.le_refl _) (Nat.lt_succ_self _) j).1]; exact ⟨by decide, by decide⟩, fun j x hx => by rw [(zM_new _ (Nat.le_refl _) (Nat.lt_succ_self _) j).2.2] at hx; cases hx⟩
  have hk : ((kN A q z).2 A.1).1 = q := by rw [kN_new]
  have hk2 : ((kN A q z).2 A.1).2 = z := by rw [kN_new]
  show va_at D abCl (base + A.1, abOb base ex (va_up cA A.1 cN) (kN A q z).2 (zM M A.1 (A.1 + 1)) A.1) H1
  by_cases q1 : q < 23
  · rw [ob_i (by rw [hk]; omega), hk2, hu]
    show H1[base + A.1]? = some (arrV cN z.toNat (fun j : Nat => .int (Int32.ofInt (gI (zM M A.1 (A.1 + 1)) A.1 (j : Int)))))
    rw [← hsz, hn]
    congr 2
    funext j
    rw [(zM_new _ (Nat.le_refl _) (Nat.lt_succ_self _) (j : Int)).1]
    have : q = 20 ∨ q = 21 ∨ q = 22 := by omega
    rcases this with rfl | rfl | rfl <;> rfl
  · by_cases q2 : q = 23
    · subst q2
      rw [ob_l hk, hk2, hu]
      show H1[base + A.1]? = some (arrV cN z.toNat (fun j : Nat => .long (gL (zM M A.1 (A.1 + 1)) A.1 (j : Int))))
      rw [← hsz, hn]
      congr 2
      funext j
      rw [(zM_new _ (Nat.le_refl _) (Nat.lt_succ_self _) (j : Int)).2.1]
      rfl
    · rw [ob_r (by rw [hk]; omega), hk2, hu]
      show H1[base + A.1]? = some (arrV cN z.toNat (fun j : Nat => va_rf ((gR (zM M A.1 (A.1 + 1)) A.1 (j : Int)).map (abAd base ex))))
      rw [← hsz, hn]
      congr 2
      funext j
      rw [(zM_new _ (Nat.le_refl _) (Nat.lt_succ_self _) (j : Int)).2.2]
      have : q = 24 ∨ q = 25 ∨ q = 26 := by omega
      rcases this with rfl | rfl | rfl <;> rfl
set_option maxRecDepth 20000 in
theorem abs_newarr {l : Launch} {D : va_G} {base : Nat} {ex : Nat → Nat} : abR_newarr (abMach l D base ex) := by
  intro d lim i pc ls st cnt A M Q a b c n k hc h1 h2 h3 h4 h5 k1
  intro p e Rm s m args below meth cd cA H locs lsM Qm hX hR hs hF
  obtain ⟨hd, hn, hsd⟩ := abDec hc (by decide)
  have hs0 := hs
  obtain ⟨hr, hl, hv, hS⟩ := hs
  have hy : (a = 20 ∨ a = 21 ∨ a = 22 ∨ a = 23) ∧ n - pc = 2 := of_decide_eq_true hsd
  obtain rfl : n = pc + 2 := by omega
  rw [hy.2] at hd
  have hts := hX.2.2.2.2.2.2.1
  have v1 := abTail hv
  have hk : In32 k := v1.1
  have hsz : H.size = base + A.1 := hr.1.1
  have hs1 : abSs D base ex i s ls st A M cA H locs lsM := ⟨hr, hl, v1.2, hS⟩
  have step : ∀ (at1 : ArrayType) (q : Nat), a.toNat = q → 20 ≤ q ∧ q ≤ 26 → newarray.typeOf at1 = abAty q → abExp pc (72, a, b, c, pc + 2) = .newarray at1 → Cond.arrayClass (newarray.typeOf at1) ∈ lw_tbl → componentBytes (newarray.typeOf at1) ≤ 8 → (∀ cN, s.vm.findClass ("[" ++ (newarray.typeOf at1).toString) = some cN → va_RA s cN (newarray.typeOf at1)) → W p l e Rm s m args below meth cd H locs cnt.1 cnt.2 Qm (F0 m pc lsM ((vi k :: st).map (abCv base ex))) := by
    intro at1 q e1 e2 e3 e4 e5 e6 e7
    rw [e4] at hd
    refine va_newaK hX.1 hX.2.1 (hts _ (abTb_mem e5 rfl)) rfl hd (n := Int32.ofInt k) (N := k.toNat) rfl (by rw [z_lt hk]; omega) (ofI_cl hk) ?_ (Nat.le_trans h3 hR.2.2.1) (Nat.le_trans h4 hR.2.2.2) rfl fun H1 cN g1 g2 g3 g4 g5 => ?_
    · have : k.toNat ≤ 100000 := by omega
      calc k.toNat * componentBytes (newarray.typeOf at1) ≤ 100000 * 8 := Nat.mul_le_mul this e6
        _ ≤ 536870912 := Nat.le_of_ble_eq_true rfl
    · have hs2 := hs1.arr (q := q) (z := k) (cN := cN) h5 h1 h2 e2 g2 g3 (by rw [g1, e3]) (by rw [← e3]; exact ⟨g4, e7 cN g5⟩)
      rw [← e1] at hs2
      refine abWeq (k1 p e Rm s m args below meth cd _ H1 locs lsM Qm hX hR hs2 hF) ?_ rfl
      show abCv base ex (vr (some A.1)) :: _ = Value.ref H.size :: _
      simp only [abCv, Option.map_some, va_rf, abAd, if_pos (Nat.lt_of_succ_lt h5), hsz]
  rcases hy.1 with q | q | q | q <;> subst q
  · exact step .int 20 rfl ⟨by decide, by decide⟩ rfl rfl (ab_t1 (List.mem_of_getElem? (i := 113) rfl)) (by decide) (fun cN g => g)
  · exact step .byte 21 rfl ⟨by decide, by decide⟩ rfl rfl (ab_t1 (List.mem_of_getElem? (i := 61) rfl)) (by decide) (fun cN g => g)
  · exact step .boolean 22 rfl ⟨by decide, by decide⟩ rfl rfl (ab_t1 (List.mem_of_getElem? (i := 114) rfl)) (by decide) (fun cN g => g)
  · exact step .long 23 rfl ⟨by decide, by decide⟩ rfl rfl (ab_t1 (List.mem_of_getElem? (i := 205) rfl)) (by decide) (fun cN g => g)
set_option maxRecDepth 20000 in
theorem abs_anewarr {l : Launch} {D : va_G} {base : Nat} {ex : Nat → Nat} : abR_anewarr (abMach l D base ex) := by
  intro d lim i pc ls st cnt A M Q a b c n k hc h1 h2 h3 h4 h5 k1
  intro p e Rm s m args below meth cd cA H locs lsM Qm hX hR hs hF
  obtain ⟨hd, hn, hsd⟩ := abDec hc (by decide)
  have hs0 := hs
  obtain ⟨hr, hl, hv, hS⟩ := hs
  unfold abSide at hsd
  simp only [Bool.and_eq_true] at hsd
  obtain ⟨q, hq1, hq2⟩ := abOkMem abCkL_ok hsd.1
  have hq3 := eq_of_beq hq2
  subst hq3
  have hy := of_decide_eq_true hsd.2
  have hts := hX.2.2.2.2.2.2.1
  have hst := hX.2.2.2.2.2.2.2.2.1
  have hsz : H.size = base + A.1 := hr.1.1
  obtain rfl : n = pc + 3 := by omega
  rw [hy.2] at hd
  have v1 := abTail hv
  have hk : In32 k := v1.1
  have hs1 : abSs D base ex i s ls st A M cA H locs lsM := ⟨hr, hl, v1.2, hS⟩
  refine W.anew hX.1 hX.2.1 hX.2.2.2.2.2.1 (hts _ (abTb_mem hq1 rfl)) (va_AO.use hst.2.2.2.2.1) rfl hd (n := Int32.ofInt k) rfl (by rw [z_lt hk]; omega) (by rw [ofI_cl hk]; omega) (Nat.le_trans h3 hR.2.2.1) (by rw [ofI_cl hk]; exact Nat.le_trans h4 hR.2.2.2) fun cN kA comp f1 f2 f3 f4 => ?_
  rw [ofI_cl hk]
  have hs2 := hs1.arr (q := 26) (z := k) (cN := cN) (H1 := H.push ({ cls := cN, slots := Array.replicate k.toNat .null, vm := .none } : Cell)) h5 h1 h2 ⟨by decide, by decide⟩ (Array.size_push _) (fun q hq => by rw [Array.getElem?_push, if_neg (Nat.ne_of_lt hq)]) (by rw [Array.getElem?_push_size, arrV_new]; rfl) ⟨fun N z => ⟨(fun k h => by cases h), kA, f2, comp, f3⟩, kA, comp, f2, f3, f4, f1⟩
  refine abWeq (k1 p e Rm s m args below meth cd _ _ locs lsM Qm hX hR hs2 hF) ?_ rfl
  show abCv base ex (vr (some A.1)) :: _ = Value.ref H.size :: _
  simp only [abCv, Option.map_some, va_rf, abAd, if_pos (Nat.lt_of_succ_lt h5), hsz]
theorem abN_small : ∀ c, c < 11 → abN c ≤ 1000 := by decide +kernel
theorem abN_le {c n : Nat} (h : abN c = n) : n = abN c := h.symm
set_option maxRecDepth 20000 in
theorem abs_new {l : Launch} {D : va_G} {base : Nat} {ex : Nat → Nat} : abR_new (abMach l D base ex) := by
  intro d lim i pc ls st cnt A M Q a b c n  hc h1 h2 h3 k1
  intro p e Rm s m args below meth cd cA H locs lsM Qm hX hR hs hF
  obtain ⟨hd, hn, hsd⟩ := abDec hc (by decide)
  have hs0 := hs
  obtain ⟨hr, hl, hv, hS⟩ := hs
  unfold abSide at hsd
  simp only [Bool.and_eq_true] at hsd
  obtain ⟨q, hq1, hq2⟩ := abOkMem abCkL_ok hsd.1
  have hq3 := eq_of_beq hq2
  subst hq3
  have hy := of_decide_eq_true hsd.2
  have hts := hX.2.2.2.2.2.2.1
  have hst := hX.2.2.2.2.2.2.2.2.1
  have hsz : H.size = base + A.1 := hr.1.1
  obtain rfl : n = pc + 3 := by omega
  rw [hy.2.2.2] at hd
  obtain ⟨r, hc1⟩ := abCl_get (ci := a.toNat) (by omega)
  obtain ⟨hin, hty, hnm, hdc, hN, hins, hini, hR2, hci⟩ := abCl_ok _ _ hc1
  have hbN : b.toNat = r.2.2 := by rw [← hN]; omega
  have hq4 : Cond.classLink (abR (abOwn i)) c r.1 ∈ lw_tbl := by
    have := hq1
    unfold abCkP at this
    simp only [if_true, hc1, Option.map_some, Option.getD_some] at this
    exact this
  have hKn := hst.1.1 _ _ hc1
  refine W.newcK hX.1 hX.2.1 hX.2.2.2.2.2.1 (hts _ (abTb_mem hq4 rfl)) (hts _ (abTb_mem hins rfl)) (hts _ (abTb_mem hini rfl)) rfl hd (Nat.le_trans h1 hR.2.2.1) (by rw [← hbN]; exact Nat.le_trans h2 hR.2.2.2) hKn.2.1 rfl fun H1 kC hkC g1 g2 g3 => ?_
  have hborn := u_born (abTy a.toNat) hts hin hKn hkC g1 hty
  have hs1 : abSs D base ex i s ls st A M cA H locs lsM := ⟨hr, hl, hv, hS⟩
  have hs2 : abSs D base ex i s ls (vr (some A.1) :: st) (kN A a.toNat b) (zM M A.1 (A.1 + 1)) cA H1 locs lsM := by
    refine hs1.grow (by show A.1 < A.1 + 1; omega) h3 (by rw [g2, hsz]; rfl) g3 kN_old (fun _ _ => rfl) (fun b hb j => zM_old b hb j) (fun z g4 g5 => ?_)
    have hz : z = A.1 := by have g5 : z < A.1 + 1 := g5; omega
    subst hz
    rw [kN_new]
    refine ⟨?_, Or.inl hci, by omega, by have := abN_small a.toNat hci; omega, fun h => by omega, fun j => by rw [(zM_new _ (Nat.le_refl _) (Nat.lt_succ_self _) j).1]; exact ⟨by decide, by decide⟩, fun j x hx => by rw [(zM_new _ (Nat.le_refl _) (Nat.lt_succ_self _) j).2.2] at hx; cases hx⟩
    have hk : ((kN A a.toNat b).2 A.1).1 = a.toNat := by rw [kN_new]
    have hob : abOb base ex cA (kN A a.toNat b).2 (zM M A.1 (A.1 + 1)) A.1 = .inr (a.toNat, abFs base ex a.toNat A.1 (zM M A.1 (A.1 + 1))) := by unfold abOb; rw [if_pos (by rw [hk]; omega), hk]
    show va_at D abCl (base + A.1, abOb base ex cA (kN A a.toNat b).2 (zM M A.1 (A.1 + 1)) A.1) H1
    rw [hob]
    refine ⟨r, hc1, ?_⟩
    show t_OB (base + A.1) _ _ _ H1 _
    rw [← hsz]
    refine t_OB.to hborn (fun k hk2 => ?_)
    show defaultValue (abTy a.toNat k) = (abFs base ex a.toNat A.1 (zM M A.1 (A.1 + 1))).getD k .null
    rw [List.getD_eq_getElem?_getD, abFs_get (by rw [hN]; exact hk2), abFt_def, Option.getD_some]
    obtain ⟨z1, -, z3⟩ := zM_new (M := M) (n := A.1) (k := A.1 + 1) A.1 (Nat.le_refl _) (Nat.lt_succ_self _) (k : Int)
    rw [z1, z3]
    rfl
  refine abWeq (pc2 := pc + 3) ?_ rfl rfl
  have K := k1 p e Rm s m args below meth cd cA H1 locs lsM Qm hX hR hs2 hF
  rw [hbN] at K
  refine abWeq K ?_ rfl
  show abCv base ex (vr (some A.1)) :: _ = Value.ref H.size :: _
  simp only [abCv, Option.map_some, va_rf, abAd, if_pos (Nat.lt_of_succ_lt h3), hsz]
set_option maxRecDepth 20000 in
theorem abs_objinit {l : Launch} {D : va_G} {base : Nat} {ex : Nat → Nat} : abR_objinit (abMach l D base ex) := by
  intro d lim i pc ls st cnt A M Q a b c n o hc h1 h2 h3 k1
  intro p e Rm s m args below meth cd cA H locs lsM Qm hX hR hs hF
  obtain ⟨hd, hn, hsd⟩ := abDec hc (by decide)
  have hs0 := hs
  obtain ⟨hr, hl, hv, hS⟩ := hs
  unfold abSide at hsd
  simp only [Bool.and_eq_true] at hsd
  obtain ⟨q, hq1, hq2⟩ := abOkMem abOiL_ok hsd.1
  have hq3 := eq_of_beq hq2
  subst hq3
  have hy : n - pc = 3 := of_decide_eq_true hsd.2
  obtain rfl : n = pc + 3 := by omega
  rw [hy] at hd
  have hts := hX.2.2.2.2.2.2.1
  have v1 := abTail hv
  have K := k1 p e Rm s m args below meth cd cA H locs lsM Qm hX hR ⟨hr, hl, v1.2, hS⟩ hF
  refine abWeq (st2 := .ref (abAd base ex o) :: st.map (abCv base ex)) ?_ (by show _ = abCv base ex (vr (some o)) :: _; simp only [abCv, Option.map_some, va_rf]) rfl
  refine W.objInit hX.1 hX.2.1 hX.2.2.2.2.2.1 (hts _ (abTb_mem hq1 rfl)) (hts _ (abTb_mem (ab_t1 (List.mem_of_getElem? (i := 27) rfl)) rfl)) (hts _ (abTb_mem (ab_t1 (List.mem_of_getElem? (i := 28) rfl)) rfl)) rfl (hl.2.1.1.trans hX.2.2.2.2.1.symm) rfl hd (Nat.le_trans h2 hR.1) ?_ K
  show 2 * 0 + _ + 12 ≤ _
  rw [abCat_sum]
  have := hR.2.1
  omega
theorem ab_nfw : nativeFrameWords "java/lang/System" "arraycopy" 5 ≤ 19 := by decide +kernel
set_option maxRecDepth 20000 in
theorem abs_acopy {l : Launch} {D : va_G} {base : Nat} {ex : Nat → Nat} : abR_acopy (abMach l D base ex) := by
  intro d lim i pc ls st cnt A M Q a b c n o u sp dp k hc h1 h2 h3 h4 h5 h6 h7 h8 h9 k1
  intro p e Rm s m args below meth cd cA H locs lsM Qm hX hR hs hF
  obtain ⟨hd, hn, hsd⟩ := abDec hc (by decide)
  have hs0 := hs
  obtain ⟨hr, hl, hv, hS⟩ := hs
  unfold abSide at hsd
  simp only [Bool.and_eq_true] at hsd
  obtain ⟨q, hq1, hq2⟩ := abOkMem abAcL_ok hsd.1
  have hq3 := eq_of_beq hq2
  subst hq3
  have hy : n - pc = 3 := of_decide_eq_true hsd.2
  obtain rfl : n = pc + 3 := by omega
  rw [hy] at hd
  have hts := hX.2.2.2.2.2.2.1
  have v1 := abTail hv
  have v2 := abTail v1.2
  have v3 := abTail v2.2
  have v4 := abTail v3.2
  have v5 := abTail v4.2
  have hk : In32 k := v1.1
  have hdp : In32 dp := v2.1
  have hsp : In32 sp := v4.1
  have ho : o < A.1 := hr.2.1.lt (by omega) (by omega)
  have hu : u < A.1 := hr.2.1.lt (by omega) (by omega)
  have had : abAd base ex o = base + o := abAd_lt hr.2.1 ho
  have hadu : abAd base ex u = base + u := abAd_lt hr.2.1 hu
  have hato := hr.1.2 o ho
  have hatu := hr.1.2 u hu
  have hlo := (hr.2.1.2.1 o ho).2
  have hlu := (hr.2.1.2.1 u hu).2
  rw [ob_i (Or.inl h1)] at hato
  rw [ob_i (Or.inl h2)] at hatu
  have hco : ArrOfT s (cA o) .int := by have := (hr.2.2.2.1 o ho (by omega)).1; rw [h1] at this; exact this
  have hcu : ArrOfT s (cA u) .int := by have := (hr.2.2.2.1 u hu (by omega)).1; rw [h2] at this; exact this
  obtain ⟨-, kk0, hk0, cm0, hkk0⟩ := hco (A.2 o).2.toNat (fun j => .int (Int32.ofInt (gI M o j)))
  obtain ⟨-, kk1, hk1, cm1, hkk1⟩ := hcu (A.2 u).2.toNat (fun j => .int (Int32.ofInt (gI M u j)))
  refine abWeq (st2 := .int (Int32.ofInt k) :: .int (Int32.ofInt dp) :: .ref (base + u) :: .int (Int32.ofInt sp) :: .ref (base + o) :: st.map (abCv base ex)) ?_ (by show _ = _ :: _ :: abCv base ex (vr (some u)) :: _ :: abCv base ex (vr (some o)) :: _; simp only [abCv, Option.map_some, va_rf, had, hadu]) rfl
  intro T hT X
  have hc0 : T.heap[base + o]? = some (vp_cell (cA o) ((A.2 o).2.toNat, .inl (fun j => Int32.ofInt (gI M o j)))) := by rw [hT]; exact hato
  have hc1 : T.heap[base + u]? = some (vp_cell (cA u) ((A.2 u).2.toNat, .inl (fun j => Int32.ofInt (gI M u j)))) := by rw [hT]; exact hatu
  obtain ⟨vm', X', step⟩ := X.arraycopy hX.1 hX.2.2.2.2.2.1 (hts _ (abTb_mem hq1 rfl)) (hts _ (abTb_mem (ab_t3 (List.mem_of_getElem? (i := 163) rfl)) rfl)) (hts _ (abTb_mem (ab_t3 (List.mem_of_getElem? (i := 162) rfl)) rfl)) (hts _ (abTb_mem (ab_t1 (List.mem_of_getElem? (i := 18) rfl)) rfl)) (src := base + o) (dst := base + u) (srcPos := Int32.ofInt sp) (destPos := Int32.ofInt dp) (n := Int32.ofInt k) hc0 hc1
    (fun _ h => by cases h) (fun _ h => by cases h) (fun h => by cases h) (fun h => by cases h) hk0 hk1 hkk0 hkk1 (by decide) (by rw [z_lt hsp]; omega) (by rw [z_lt hdp]; omega) (by rw [z_lt hk]; omega)
    (by rw [ofI hsp, ofI hk]; show ¬ _ > ((arrV _ _ _).slots.size : Int); rw [arrV_size]; omega)
    (by rw [ofI hdp, ofI hk]; show ¬ _ > ((arrV _ _ _).slots.size : Int); rw [arrV_size]; omega)
    (fun vm₁ _ j hj => by
      rw [ofI_cl hk] at hj
      have e : (vp_cell (cA o) ((A.2 o).2.toNat, .inl (fun j => Int32.ofInt (gI M o j)))).slots.getD ((Int32.ofInt sp).toNatClampNeg + j) .null = .int (Int32.ofInt (gI M o (((Int32.ofInt sp).toNatClampNeg + j : Nat) : Int))) := by
        show (arrV _ _ _).slots.getD _ _ = _
        rw [Array.getD_eq_getD_getElem?, arrV_read _ _ (by rw [ofI_cl hsp]; omega)]
        rfl
      refine ⟨?_, ?_⟩
      · rw [e]; rfl
      · rw [e]; exact trivial)
    (g := F0 m pc lsM (.int (Int32.ofInt k) :: .int (Int32.ofInt dp) :: .ref (base + u) :: .int (Int32.ofInt sp) :: .ref (base + o) :: st.map (abCv base ex))) rfl (hl.2.1.1.trans hX.2.2.2.2.1.symm) (rest := st.map (abCv base ex)) rfl (by rw [hX.2.1]; exact hd) (Nat.le_trans h8 hR.1) (by show 2 * 0 + _ + _ ≤ _; rw [abCat_sum]; have := hR.2.1; have := ab_nfw; omega)
  have e1 : copied (vp_cell (cA o) ((A.2 o).2.toNat, .inl (fun j => Int32.ofInt (gI M o j)))) (vp_cell (cA u) ((A.2 u).2.toNat, .inl (fun j => Int32.ofInt (gI M u j)))) (Int32.ofInt sp) (Int32.ofInt dp) (Int32.ofInt k) = vp_cell (cA u) ((A.2 u).2.toNat, .inl (va_cpy (fun j => Int32.ofInt (gI M o j)) (fun j => Int32.ofInt (gI M u j)) (Int32.ofInt sp).toNatClampNeg (Int32.ofInt dp).toNatClampNeg (Int32.ofInt k).toNatClampNeg)) := va_copied (fun z => .int z) (cA o) (cA u) (fun j : Nat => Int32.ofInt (gI M o j)) (fun j : Nat => Int32.ofInt (gI M u j)) (show (Int32.ofInt sp).toNatClampNeg + (Int32.ofInt k).toNatClampNeg ≤ (A.2 o).2.toNat by rw [ofI_cl hsp, ofI_cl hk]; omega)
  rw [e1] at X' step
  generalize hZ : vp_cell (cA u) ((A.2 u).2.toNat, .inl (va_cpy (fun j => Int32.ofInt (gI M o j)) (fun j => Int32.ofInt (gI M u j)) (Int32.ofInt sp).toNatClampNeg (Int32.ofInt dp).toNatClampNeg (Int32.ofInt k).toNatClampNeg)) = Z at X' step
  have hlt : base + u < H.size := by rw [hr.1.1]; omega
  have hheap : ((T.setVm vm').setCell (base + u) Z).heap = H.setIfInBounds (base + u) Z := by rw [← hT]; rfl
  have oq : ∀ q : Nat, q ≠ base + u → (H.setIfInBounds (base + u) Z)[q]? = H[q]? := fun q hq => by simp [Array.getElem?_setIfInBounds, Ne.symm hq]
  have hself : (H.setIfInBounds (base + u) Z)[base + u]? = some Z := by simp [Array.getElem?_setIfInBounds, hlt]
  have hs2 := hs0.write (st2 := st) (M2 := wI M u (fun j => if dp ≤ j ∧ j < dp + k then gI M o (sp + (j - dp)) else gI M u j)) (H1 := H.setIfInBounds (base + u) Z) (locs2 := ((vp_cell (cA o) ((A.2 o).2.toNat, .inl (fun j : Nat => Int32.ofInt (gI M o j)))).stretch (Int32.ofInt sp).toNatClampNeg (Int32.ofInt k).toNatClampNeg).zipIdx.map fun q => (⟨base + u, (Int32.ofInt dp).toNatClampNeg + q.2⟩ : Loc)) hu abSame_wI (by
      rw [ob_i (Or.inl h2)]
      show (H.setIfInBounds (base + u) Z)[base + u]? = some (vp_cell _ _)
      rw [hself, ← hZ]
      congr 3
      congr 1
      funext j
      unfold va_cpy
      simp only [ofI_cl hsp, ofI_cl hdp, ofI_cl hk]
      show _ = Int32.ofInt (gI (wI M u _) u j)
      rw [gI_wI, if_pos rfl]
      by_cases q : dp.toNat ≤ j ∧ j < dp.toNat + k.toNat
      · rw [if_pos q, if_pos (by omega), show ((sp.toNat + (j - dp.toNat) : Nat) : Int) = sp + ((j : Int) - dp) by omega]
      · rw [if_neg q, if_neg (by omega)]) (by simp) oq
    ⟨fun b j => by
      rw [gI_wI]
      split
      · split
        · exact hr.2.2.1.1 _ _
        · exact hr.2.2.1.1 _ _
      · exact hr.2.2.1.1 _ _, hr.2.2.1.2⟩ v5.2 (fun q hq => by
        obtain ⟨z, -, hz⟩ := List.mem_map.mp hq
        rw [← hz])
  obtain ⟨t, a1, b1⟩ := k1 p e Rm s m args below meth cd cA _ _ lsM Qm hX hR hs2 hF _ hheap X'
  exact ⟨t, step t a1, b1⟩
set_option maxRecDepth 20000 in
theorem abs_ireturn {l : Launch} {D : va_G} {base : Nat} {ex : Nat → Nat} : abR_ireturn (abMach l D base ex) := by
  intro d lim i pc ls st cnt A M Q a b c n x hc h1 h2 h3 h4 
  intro p e Rm s m args below meth cd cA H locs lsM Qm hX hR hs hF
  obtain ⟨hd, hn, hsd⟩ := abDec hc (by decide)
  have hs0 := hs
  obtain ⟨hr, hl, hv, hS⟩ := hs
  have e1 : n - pc = 1 := of_decide_eq_true hsd
  rw [e1] at hd
  have v1 := abTail hv
  have hx : In32 x := v1.1
  refine W.widen h1 h2 ?_
  refine hF (some (vi x)) A M cA H locs lsM pc h4 hr hS (Or.inr ⟨x, rfl, hx, hd, ?_⟩)
  rcases h3 with q | ⟨q, z⟩ | ⟨q, z1, z2⟩ | ⟨q, z1, z2⟩
  · exact ⟨_, q, rfl⟩
  · exact ⟨_, q, (fits_bool z).1⟩
  · refine ⟨_, q, ?_⟩
    show Value.int _ = _
    congr 1
    apply Int32.toInt_inj.mp
    rw [ofI hx]
    have e2 : (Int32.ofInt x).toUInt32.toUInt16.toUInt32.toInt32 = nI x.toNat := by
      have e3 : Int32.ofInt x = nI x.toNat := by rw [show nI x.toNat = Int32.ofNat x.toNat from rfl, ← Int32.ofInt_eq_ofNat, toNat_cast z1]
      rw [e3]
      have := (pk_charN (q := x.toNat) (by omega)).1
      exact Value.int.inj this
    rw [e2, nI_toInt (by omega)]
    omega
  · refine ⟨_, q, ?_⟩
    show Value.int _ = _
    congr 1
    apply Int32.toInt_inj.mp
    rw [Int8.toInt_toInt32, Int32.toInt_toInt8, ofI hx]
    exact Int.bmod_eq_of_le (by omega) (by omega)
set_option maxRecDepth 20000 in
theorem abs_return {l : Launch} {D : va_G} {base : Nat} {ex : Nat → Nat} : abR_return (abMach l D base ex) := by
  intro d lim i pc ls st cnt A M Q a b c n  hc h1 h2 h3 h4 
  intro p e Rm s m args below meth cd cA H locs lsM Qm hX hR hs hF
  obtain ⟨hd, hn, hsd⟩ := abDec hc (by decide)
  have hs0 := hs
  obtain ⟨hr, hl, hv, hS⟩ := hs
  have e1 : n - pc = 1 := of_decide_eq_true hsd
  rw [e1] at hd
  refine W.widen h1 h2 ?_
  exact hF none A M cA H locs lsM pc h4 hr hS (Or.inl ⟨rfl, hd, h3⟩)
