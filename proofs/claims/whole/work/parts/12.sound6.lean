theorem ab_outer (c : ClassId) (N h0 : Nat) : ∀ i : Nat, Jvm.Free.Multi.outerC c N h0 i = arrV c N (fun j => va_rf (if j < i then some (h0 + 1 + j) else none))
  | 0 => by
    show ({ cls := c, slots := Array.replicate N .null, vm := .none } : Cell) = _
    rw [arrV_new]
    refine congrArg (arrV c N) (funext fun j => ?_)
    simp [va_rf]
  | i + 1 => by
    show (Jvm.Free.Multi.outerC c N h0 i).setSlot i (.ref (h0 + 1 + i)) = _
    rw [ab_outer c N h0 i, arrV_store]
    refine congrArg (arrV c N) (funext fun j => ?_)
    by_cases e : j = i
    · subst e
      simp [updV, va_rf]
    · by_cases h : j < i
      · simp [updV, e, h, Nat.lt_succ_of_lt h]
      · simp [updV, e, h, show ¬ j < i + 1 by omega]
theorem kG_old {A : abAl} {q r : Nat} {z k : Int} (b : Nat) (h : b < A.1 ∨ (kG A q r z k).1 ≤ b) : (kG A q r z k).2 b = A.2 b := by
  have h : b < A.1 ∨ A.1 + 1 + z.toNat ≤ b := h
  show (if b = A.1 then (q, z) else if A.1 < b ∧ b < A.1 + 1 + z.toNat then (r, k) else A.2 b) = A.2 b
  rw [if_neg (by omega), if_neg (by omega)]
theorem kG_out {A : abAl} {q r : Nat} {z k : Int} : (kG A q r z k).2 A.1 = (q, z) := if_pos rfl
theorem kG_in {A : abAl} {q r : Nat} {z k : Int} {b : Nat} (h1 : A.1 < b) (h2 : b < A.1 + 1 + z.toNat) : (kG A q r z k).2 b = (r, k) := by
  show (if b = A.1 then (q, z) else if A.1 < b ∧ b < A.1 + 1 + z.toNat then (r, k) else A.2 b) = _
  rw [if_neg (by omega), if_pos ⟨h1, h2⟩]
theorem zG_rest {M : abMem} {n : Nat} {k : Int} (b : Nat) (h : b ≠ n) (j : Int) : gI (zG M n k) b j = gI (zM M n (n + 1 + k.toNat)) b j ∧ gL (zG M n k) b j = gL (zM M n (n + 1 + k.toNat)) b j ∧ gR (zG M n k) b j = gR (zM M n (n + 1 + k.toNat)) b j := by
  unfold zG
  rw [gI_wR, gL_wR, gR_wR, if_neg h]
  exact ⟨rfl, rfl, rfl⟩
theorem zG_out {M : abMem} {n : Nat} {k : Int} (j : Int) : gR (zG M n k) n j = if 0 ≤ j ∧ j < k then some (n + 1 + j.toNat) else none := by
  unfold zG
  rw [gR_wR, if_pos rfl]
theorem zG_outI {M : abMem} {n : Nat} {k : Int} (j : Int) : gI (zG M n k) n j = 0 := by
  unfold zG
  rw [gI_wR, gI_zM, if_pos (by omega)]
set_option maxRecDepth 20000 in
theorem abs_mnewarr {l_1 : Launch} {D : va_G} {base : Nat} {ex : Nat → Nat} : abR_mnewarr (abMach l_1 D base ex) := by
  intro d lim i pc ls st cnt A M Q a b c n l k hc h1 h2 h3 h4 h5 h6 h7 k1
  intro p e9 Rm s m args below meth cd cA H locs lsM Qm hX hR hs hF
  obtain ⟨hd, hn, hsd⟩ := abDec hc (by decide)
  have hs0 := hs
  obtain ⟨hr, hl, hv, hS⟩ := hs
  unfold abSide at hsd
  simp only [Bool.and_eq_true] at hsd
  obtain ⟨q, hq1, hq2⟩ := abOkMem abCkL_ok hsd.1
  have hq3 := eq_of_beq hq2
  subst hq3
  have hy := of_decide_eq_true hsd.2
  have hts := hX.2.2.2.2.2.2.1
  have hst := hX.2.2.2.2.2.2.2.2.1
  have hsz : H.size = base + A.1 := hr.1.1
  obtain rfl : n = pc + 4 := by omega
  rw [hy.2] at hd
  have v1 := abTail hv
  have v2 := abTail v1.2
  have hk : In32 k := v1.1
  have hl9 : In32 l := v2.1
  have hs1 : abSs D base ex i s ls st A M cA H locs lsM := ⟨hr, hl, v2.2, hS⟩
  have step : ∀ (ty : FieldType) (q r : Nat), a.toNat = q → b.toNat = r → (q = 24 ∧ r = 20 ∨ q = 25 ∧ r = 23) → abAty q = .array ty → abAty r = ty → Cond.classLink (abR (abOwn i)) c ("[" ++ (FieldType.array ty).toString) ∈ lw_tbl → (Cond.arrayOver (.array ty)).before args s = true → Cond.arrayClass ty ∈ lw_tbl → componentBytes ty ≤ 8 → fits ty (defaultValue ty) = true → (defaultValue ty).isDefault = true → (∀ cN, s.vm.findClass ("[" ++ (FieldType.array ty).toString) = some cN → va_RA s cN (.array ty)) → (∀ cN, s.vm.findClass ("[" ++ ty.toString) = some cN → va_RA s cN ty) → ((FieldType.array ty).toString = "[" ++ ty.toString) → W p l_1 e9 Rm s m args below meth cd H locs cnt.1 cnt.2 Qm (F0 m pc lsM ((vi k :: vi l :: st).map (abCv base ex))) := by
    intro ty q r e1 e2 e3 e4 e5 e6 e7 e8 e9b e10 e11 e12 e13 e14
    intro T hT X
    obtain ⟨vm₁, cO, cI, -, fA, fC, hO, hI, X', stp⟩ := X.multianewarray2F hX.1 hX.2.2.2.2.2.1 (hts _ (abTb_mem e6 rfl)) e7 (hts _ (abTb_mem e8 rfl)) (g := F0 m pc lsM (.int (Int32.ofInt k) :: .int (Int32.ofInt l) :: st.map (abCv base ex))) rfl (by rw [hX.2.1]; exact hd) rfl (by rw [z_lt hl9]; omega) (by rw [z_lt hk]; omega) (by rw [ofI_cl hl9]; omega) (by rw [ofI_cl hk]; calc k.toNat * componentBytes ty ≤ 100000 * 8 := Nat.mul_le_mul (by omega) e9b
          _ ≤ 536870912 := Nat.le_of_ble_eq_true rfl) (by rw [ofI_cl hk]; omega) e10 e11 (by rw [ofI_cl hl9]; exact Nat.le_trans h5 hR.2.2.1) (by rw [ofI_cl hl9, ofI_cl hk]; exact Nat.le_trans h6 hR.2.2.2)
    rw [ofI_cl hl9, ofI_cl hk] at X' stp
    have hTh : (T.setVm vm₁).heap = H := hT
    obtain ⟨f1, f2, -, -⟩ := Jvm.Free.Multi.fill_facts (T.setVm vm₁) cO cI l.toNat k.toNat (defaultValue ty) l.toNat
    have hold := fun (x : Nat) (hx : x < H.size) => Jvm.Free.Multi.fill_old (T.setVm vm₁) cO cI l.toNat k.toNat (defaultValue ty) (a := x) (by rw [hTh]; exact hx) l.toNat
    have hrow := Jvm.Free.Multi.fill_inner (T.setVm vm₁) cO cI l.toNat k.toNat (defaultValue ty) l.toNat
    generalize hF9 : Jvm.Free.Multi.fill (T.setVm vm₁) cO cI l.toNat k.toNat (defaultValue ty) l.toNat = F at X' stp f1 f2 hold hrow
    rw [hTh] at f1 f2 hrow
    rw [ab_outer] at f2
    have hA1 : ArrOfT s cO (.array ty) := fun N9 z9 => by
      obtain ⟨-, k9, hk9, cm9, hkk9⟩ := (hO 0 0 0).1
      exact ⟨(fun q hq => by cases hq), k9, hk9, cm9, hkk9⟩
    have hA2 : ArrOfT s cI ty := fun N9 z9 => by
      obtain ⟨-, k9, hk9, cm9, hkk9⟩ := (hI 0 (defaultValue ty)).1
      exact ⟨(fun q hq => by cases hq), k9, hk9, cm9, hkk9⟩
    have hs2 : abSs D base ex i s ls (vr (some A.1) :: st) (kG A q r l k) (zG M A.1 l) (fun x => if x = A.1 then cO else if A.1 < x ∧ x < A.1 + 1 + l.toNat then cI else cA x) F.heap locs lsM := by
      refine hs1.grow (by show A.1 < A.1 + 1 + l.toNat; omega) h7 (by rw [f1, hsz]; show base + A.1 + 1 + l.toNat = base + (A.1 + 1 + l.toNat); omega) (fun x hx => by rw [hold x hx, hTh]) kG_old (fun z hz => by rw [if_neg (by omega), if_neg (by omega)]) (fun z hz j => ?_) (fun z g4 g5 => ?_)
      · have hz : z < A.1 ∨ A.1 + 1 + l.toNat ≤ z := hz
        obtain ⟨y1, y2, y3⟩ := zG_rest (M := M) (k := l) z (show z ≠ A.1 by omega) j
        rw [y1, y2, y3]
        exact zM_old z hz j
      · have g5 : z < A.1 + 1 + l.toNat := g5
        by_cases hz : z = A.1
        · subst hz
          rw [kG_out, if_pos rfl]
          refine ⟨?_, Or.inr (by omega), h1, by omega, fun _ => by rw [e4]; exact ⟨hA1, e12 cO fA⟩, fun j => by rw [zG_outI]; exact ⟨by decide, by decide⟩, fun j x hx => ?_⟩
          · have hk9 : ((kG A q r l k).2 A.1).1 = q := by rw [kG_out]
            have hk8 : ((kG A q r l k).2 A.1).2 = l := by rw [kG_out]
            rw [ob_r (by rw [hk9]; omega), hk8]
            show F.heap[base + A.1]? = some (vp_cell _ _)
            rw [← hsz, f2, if_pos rfl, vp_cell_q]
            congr 2
            funext j
            rw [zG_out]
            by_cases hj : j < l.toNat
            · rw [if_pos hj, if_pos (by omega)]
              simp only [Option.map_some, va_rf, abAd]
              rw [if_pos (by omega), hsz, show ((j : Int)).toNat = j from rfl]
              have e0 : base + A.1 + 1 + j = base + (A.1 + 1 + j) := by omega
              rw [e0]
            · rw [if_neg hj, if_neg (by omega)]
              rfl
          · rw [zG_out] at hx
            split at hx
            · cases hx
              left
              show A.1 + 1 + j.toNat < A.1 + 1 + l.toNat
              omega
            · cases hx
        · have g4 : A.1 < z := by omega
          obtain ⟨y1, y2, y3⟩ := (fun j => zG_rest (M := M) (k := l) z hz j : ∀ j, _) 0
          have y := fun j => zG_rest (M := M) (k := l) z hz j
          have w := fun j => zM_new (M := M) (n := A.1) (k := A.1 + 1 + l.toNat) z (by omega) g5 j
          rw [kG_in g4 g5, if_neg hz, if_pos ⟨g4, g5⟩]
          refine ⟨?_, Or.inr (by omega), h3, by omega, fun _ => by rw [e5]; exact ⟨hA2, e13 cI (by rw [← e14]; exact fC)⟩, fun j => by rw [(y j).1, (w j).1]; exact ⟨by decide, by decide⟩, fun j x hx => by rw [(y j).2.2, (w j).2.2] at hx; cases hx⟩
          have hk9 : ((kG A q r l k).2 z).1 = r := by rw [kG_in g4 g5]
          have hk8 : ((kG A q r l k).2 z).2 = k := by rw [kG_in g4 g5]
          have hrz := hrow (z - A.1 - 1) (by omega)
          rw [show H.size + 1 + (z - A.1 - 1) = base + z by omega] at hrz
          show va_at D abCl (base + z, _) F.heap
          rcases e3 with ⟨q1, q2⟩ | ⟨q1, q2⟩
          · subst q1; subst q2
            have e5 : ty = .int := e5.symm
            subst e5
            rw [ob_i (by rw [hk9]; omega), hk8, if_neg hz, if_pos ⟨g4, g5⟩]
            show F.heap[base + z]? = some (vp_cell _ _)
            rw [hrz, vp_cell_i]
            show some ({ cls := cI, slots := Array.replicate k.toNat (defaultValue .int), vm := .none } : Cell) = _
            rw [arrV_new]
            congr 2
            funext j
            rw [(y (j : Int)).1, (w (j : Int)).1]
            rfl
          · subst q1; subst q2
            have e5 : ty = .long := e5.symm
            subst e5
            rw [ob_l hk9, hk8, if_neg hz, if_pos ⟨g4, g5⟩]
            show F.heap[base + z]? = some (vp_cell _ _)
            rw [hrz, vp_cell_l]
            show some ({ cls := cI, slots := Array.replicate k.toNat (defaultValue .long), vm := .none } : Cell) = _
            rw [arrV_new]
            congr 2
            funext j
            rw [(y (j : Int)).2.1, (w (j : Int)).2.1]
            rfl
    rw [← e1, ← e2] at hs2
    obtain ⟨t, a1, b1⟩ := k1 p e9 Rm s m args below meth cd _ F.heap locs lsM Qm hX hR hs2 hF F rfl X'
    refine ⟨t, stp t ?_, b1⟩
    have e15 : (vr (some A.1) :: st).map (abCv base ex) = .ref T.heap.size :: st.map (abCv base ex) := by
      show abCv base ex (vr (some A.1)) :: _ = _
      simp only [abCv, Option.map_some, va_rf, abAd]
      rw [if_pos (by omega), hT, hsz]
    rw [e15] at a1
    exact a1
  rcases hy.1 with ⟨q1, q2⟩ | ⟨q1, q2⟩
  · subst q1; subst q2
    exact step .int 24 20 rfl rfl (Or.inl ⟨rfl, rfl⟩) rfl rfl hq1 hst.2.2.1 (ab_t1 (List.mem_of_getElem? (i := 113) rfl)) (by decide) rfl rfl (fun cN g => g) (fun cN g => g) (by decide)
  · subst q1; subst q2
    exact step .long 25 23 rfl rfl (Or.inr ⟨rfl, rfl⟩) rfl rfl hq1 hst.2.2.2.1 (ab_t1 (List.mem_of_getElem? (i := 205) rfl)) (by decide) rfl rfl (fun cN g => g) (fun cN g => g) (by decide)
theorem ab_all (l : Launch) (D : va_G) (base : Nat) (ex : Nat → Nat) : abClo (abMach l D base ex) := ⟨abs_push, abs_pushc, abs_lconst, abs_lldc, abs_ldcs, abs_iload, abs_lload, abs_aload, abs_istore, abs_lstore, abs_astore, abs_iinc, abs_iadd, abs_isub, abs_imul, abs_idiv, abs_irem, abs_ineg, abs_iand, abs_ior, abs_ishl, abs_ishr, abs_iushr, abs_ladd, abs_lsub, abs_lmul, abs_land, abs_lor, abs_lxor, abs_lshl, abs_lushr, abs_lcmp, abs_i2l, abs_l2i, abs_i2b, abs_i2c, abs_dup, abs_dupi, abs_dup2, abs_pop, abs_goto, abs_ifeq, abs_ifne, abs_iflt, abs_ifge, abs_ifgt, abs_ifle, abs_iceq, abs_icne, abs_iclt, abs_icge, abs_icgt, abs_icle, abs_switch, abs_getI, abs_getR, abs_putI, abs_putZ, abs_putR, abs_strv, abs_strc, abs_compact, abs_sioobe, abs_iald, abs_ialdS, abs_bald, abs_baldS, abs_lald, abs_aald, abs_iast, abs_bast, abs_last, abs_aast, abs_alen, abs_alenB, abs_alenS, abs_newarr, abs_anewarr, abs_mnewarr, abs_new, abs_callV, abs_callVN, abs_callS, abs_callSN, abs_callI, abs_callIN, abs_callT, abs_objinit, abs_acopy, abs_ireturn, abs_return, abs_max, abs_min, abs_abs, abs_forget, abs_conseq⟩
/-- what comes to its end in the small machine does so in the machine -/
theorem ab_sound (l : Launch) (D : va_G) (base : Nat) (ex : Nat → Nat) {d : Nat} {lim : Nat × Nat} {i pc : Nat} {ls : List (Option abV)} {st : List abV} {cnt : Nat × Nat} {A : abAl} {M : abMem} {Q : abQ} (h : abW d lim i pc ls st cnt A M Q) : abMach l D base ex d lim i pc ls st cnt A M Q := h _ (ab_all l D base ex)
