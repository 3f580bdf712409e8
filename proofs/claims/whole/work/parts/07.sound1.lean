/-- a method's surroundings -/
def abCx (D : va_G) (base : Nat) (ex : Nat → Nat) (i : Nat) (p : Program) (s : State) (m : MethodId) (args : Array Value) (meth : Method) (c : Code) : Prop :=
  p.tables.exec = Jvm.exec ∧ c.code = abB i ∧ meth.sig.returnType = abRet i ∧ meth.locks = false ∧ c.maxLocals = abL i ∧ s.vm.findClass (abR (abOwn i)) = some m.cls ∧ (∀ w ∈ abTb, w.before args s = true) ∧ (i < 297 → meth.name = (abY i).name) ∧ abSt D ex s ∧ abEx base ex s s.heap ∧ base ≤ s.heap.size
def abRo (d : Nat) (lim : Nat × Nat) (Rm : Room) : Prop := d ≤ Rm.frames ∧ 38 * d ≤ Rm.locals ∧ lim.1 ≤ Rm.cells ∧ lim.2 ≤ Rm.slots
def abHr (D : va_G) (base : Nat) (ex : Nat → Nat) (s : State) (cA : Nat → ClassId) (A : abAl) (M : abMem) (H : Heap) : Prop := abHp D base ex cA A M H ∧ abOkA A ∧ abOkM A.1 M ∧ abCa s cA A ∧ abScr base ex A M s s.heap
def abSs (D : va_G) (base : Nat) (ex : Nat → Nat) (i : Nat) (s : State) (ls : List (Option abV)) (st : List abV) (A : abAl) (M : abMem) (cA : Nat → ClassId) (H : Heap) (locs : List Loc) (lsM : Array Slot) : Prop :=
  abHr D base ex s cA A M H ∧ abLs base ex A.1 (abL i) lsM ls ∧ (∀ v ∈ st, abVv A.1 v) ∧ va_S (fun q => base ≤ q) s.heap H locs
/-- at a return: the answer fits, the instruction is a return -/
def abRt (i pc : Nat) (v : Option abV) : Prop := (v = none ∧ decode (abB i) pc = .ok (.return_, 1) ∧ abRet i = none) ∨ ∃ x : Int, v = some (vi x) ∧ In32 x ∧ decode (abB i) pc = .ok (.ireturn, 1) ∧ ∃ ty, abRet i = some ty ∧ narrow ty (.int (Int32.ofInt x)) = .int (Int32.ofInt x)
def abFi (D : va_G) (base : Nat) (ex : Nat → Nat) (i : Nat) (p : Program) (l : Launch) (e : Env) (Rm : Room) (s : State) (m : MethodId) (args : Array Value) (below : List Frame) (meth : Method) (c : Code) (lim : Nat × Nat) (Q : abQ) (Qm : State → Prop) : Prop :=
  ∀ (v : Option abV) (A : abAl) (M : abMem) (cA : Nat → ClassId) (H : Heap) (locs : List Loc) (lsM : Array Slot) (pc : Nat), Q v A M → abHr D base ex s cA A M H → va_S (fun q => base ≤ q) s.heap H locs → abRt i pc v → W p l e Rm s m args below meth c H locs lim.1 lim.2 Qm (F0 m pc lsM (v.toList.map (abCv base ex)))
/-- the machine comes to its end from here, with Q -/
def abMach (l : Launch) (D : va_G) (base : Nat) (ex : Nat → Nat) : abP := fun d lim i pc ls st cnt A M Q =>
  ∀ (p : Program) (e : Env) (Rm : Room) (s : State) (m : MethodId) (args : Array Value) (below : List Frame) (meth : Method) (cd : Code) (cA : Nat → ClassId) (H : Heap) (locs : List Loc) (lsM : Array Slot) (Qm : State → Prop),
    abCx D base ex i p s m args meth cd → abRo d lim Rm → abSs D base ex i s ls st A M cA H locs lsM → abFi D base ex i p l e Rm s m args below meth cd lim Q Qm →
    W p l e Rm s m args below meth cd H locs cnt.1 cnt.2 Qm (F0 m pc lsM (st.map (abCv base ex)))
theorem abWeq {p : Program} {l : Launch} {e : Env} {R : Room} {s : State} {m : MethodId} {args : Array Value} {below : List Frame} {meth : Method} {c : Code} {H : Heap} {locs : List Loc} {cells slots pc pc2 : Nat} {Q : State → Prop} {ls : Array Slot} {st st2 : List Value} (k : W p l e R s m args below meth c H locs cells slots Q (F0 m pc2 ls st2)) (h : st2 = st) (h2 : pc2 = pc) : W p l e R s m args below meth c H locs cells slots Q (F0 m pc ls st) := by
  subst h; subst h2; exact k
theorem abTail {n : Nat} {v : abV} {st : List abV} (h : ∀ w ∈ v :: st, abVv n w) : abVv n v ∧ ∀ w ∈ st, abVv n w := ⟨h v List.mem_cons_self, fun w hw => h w (List.mem_cons_of_mem _ hw)⟩
theorem abCons {n : Nat} {v : abV} {st : List abV} (h1 : abVv n v) (h2 : ∀ w ∈ st, abVv n w) : ∀ w ∈ v :: st, abVv n w := fun w hw => by
  rcases List.mem_cons.mp hw with e | e
  · rw [e]; exact h1
  · exact h2 w e
theorem abOkMem {α : Type} {L : List α} {P : α → Prop} {f : α → Bool} (hL : ∀ q ∈ L, P q) (h : L.any f = true) : ∃ q, P q ∧ f q = true := by
  obtain ⟨q, h1, h2⟩ := List.any_eq_true.mp h
  exact ⟨q, hL q h1, h2⟩
theorem or_ofI {x y : Int} : Int32.ofInt (xor' x y) = Int32.ofInt x ||| Int32.ofInt y := toI _
set_option maxRecDepth 20000 in
theorem abs_push {l : Launch} {D : va_G} {base : Nat} {ex : Nat → Nat} : abR_push (abMach l D base ex) := by
  intro d lim i pc ls st cnt A M Q a b c n  hc  k1
  intro p e Rm s m args below meth cd cA H locs lsM Qm hX hR hs hF
  obtain ⟨hd, hn, hsd⟩ := abDec hc (by decide)
  obtain ⟨hr, hl, hv, hS⟩ := hs
  unfold abSide at hsd
  simp only at hsd
  have hy : In32 a ∧ (n - pc = 1 ∧ -1 ≤ a ∧ a ≤ 5 ∨ n - pc = 2 ∧ -128 ≤ a ∧ a ≤ 127 ∨ n - pc = 3 ∧ -32768 ≤ a ∧ a ≤ 32767) := by
    by_cases q1 : n - pc = 1
    · rw [if_pos q1] at hsd
      have := of_decide_eq_true hsd
      exact ⟨⟨by omega, by omega⟩, Or.inl ⟨q1, this.1, this.2⟩⟩
    · rw [if_neg q1] at hsd
      by_cases q2 : n - pc = 2
      · rw [if_pos q2] at hsd
        have := of_decide_eq_true hsd
        exact ⟨⟨by omega, by omega⟩, Or.inr (Or.inl ⟨q2, this.1, this.2.1⟩)⟩
      · rw [if_neg q2] at hsd
        have := of_decide_eq_true hsd
        exact ⟨⟨by omega, by omega⟩, Or.inr (Or.inr ⟨this.2.2, this.1, this.2.1⟩)⟩
  have K := k1 p e Rm s m args below meth cd cA H locs lsM Qm hX hR ⟨hr, hl, abCons hy.1 hv, hS⟩ hF
  rcases hy.2 with ⟨q, qa, qb⟩ | ⟨q, qa, qb⟩ | ⟨q, qa, qb⟩
  · obtain rfl : n = pc + 1 := by omega
    rw [q] at hd
    have hd2 : decode (abB i) pc = .ok (.iconst a, 1) := by rw [hd]; unfold abExp; simp
    exact lv_iconst hX.1 hX.2.1 hd2 rfl K
  · obtain rfl : n = pc + 2 := by omega
    rw [q] at hd
    have hd2 : decode (abB i) pc = .ok (.bipush a, 2) := by rw [hd]; unfold abExp; simp
    refine lv_bipush hX.1 hX.2.1 hd2 (v := Int32.ofInt a) ?_ K
    apply Int32.toInt_inj.mp
    rw [ofI hy.1, Int8.toInt_toInt32]
    exact Int8.toInt_ofInt_of_le (by omega) (by omega)
  · obtain rfl : n = pc + 3 := by omega
    rw [q] at hd
    have hd2 : decode (abB i) pc = .ok (.sipush a, 3) := by rw [hd]; unfold abExp; simp
    refine lv_sipush hX.1 hX.2.1 hd2 (v := Int32.ofInt a) ?_ K
    apply Int32.toInt_inj.mp
    rw [ofI hy.1, Int16.toInt_toInt32]
    exact Int16.toInt_ofInt_of_le (by omega) (by omega)
set_option maxRecDepth 20000 in
theorem abs_pushc {l : Launch} {D : va_G} {base : Nat} {ex : Nat → Nat} : abR_pushc (abMach l D base ex) := by
  intro d lim i pc ls st cnt A M Q a b c n  hc  k1
  intro p e Rm s m args below meth cd cA H locs lsM Qm hX hR hs hF
  obtain ⟨hd, hn, hsd⟩ := abDec hc (by decide)
  obtain ⟨hr, hl, hv, hS⟩ := hs
  unfold abSide at hsd
  simp only [Bool.and_eq_true] at hsd
  obtain ⟨q, hq1, hq2⟩ := abOkMem abCcL_ok hsd.1
  have hq3 := eq_of_beq hq2
  subst hq3
  have hy := of_decide_eq_true hsd.2
  have hw : (Cond.constant (abR (abOwn i)) c (Int32.ofInt a)).before args s = true := hX.2.2.2.2.2.2.1 _ (abTb_mem hq1 rfl)
  have K := k1 p e Rm s m args below meth cd cA H locs lsM Qm hX hR ⟨hr, hl, abCons ⟨hy.1, hy.2.1⟩ hv, hS⟩ hF
  rcases hy.2.2 with q | q
  · obtain rfl : n = pc + 2 := by omega
    rw [q] at hd
    have hd2 : decode (abB i) pc = .ok (.ldc c, 2) := by rw [hd]; unfold abExp; simp
    exact lv_ldc hX.1 hX.2.1 hX.2.2.2.2.2.1 hw hd2 K
  · obtain rfl : n = pc + 3 := by omega
    rw [q] at hd
    have hd2 : decode (abB i) pc = .ok (.ldc_w c, 3) := by rw [hd]; unfold abExp; simp
    exact lv_ldcw hX.1 hX.2.1 hX.2.2.2.2.2.1 hw hd2 K
set_option maxRecDepth 20000 in
theorem abs_lconst {l : Launch} {D : va_G} {base : Nat} {ex : Nat → Nat} : abR_lconst (abMach l D base ex) := by
  intro d lim i pc ls st cnt A M Q a b c n  hc  k1
  intro p e Rm s m args below meth cd cA H locs lsM Qm hX hR hs hF
  obtain ⟨hd, hn, hsd⟩ := abDec hc (by decide)
  obtain ⟨hr, hl, hv, hS⟩ := hs
  have hy : (a = 0 ∨ a = 1) ∧ n - pc = 1 := of_decide_eq_true hsd
  obtain rfl : n = pc + 1 := by omega
  have K := k1 p e Rm s m args below meth cd cA H locs lsM Qm hX hR ⟨hr, hl, abCons trivial hv, hS⟩ hF
  rw [hy.2] at hd
  rcases hy.1 with q | q
  · subst q
    have hd2 : decode (abB i) pc = .ok (.lconst 0, 1) := by rw [hd]; rfl
    exact lv_lconst hX.1 hX.2.1 hd2 rfl K
  · subst q
    have hd2 : decode (abB i) pc = .ok (.lconst 1, 1) := by rw [hd]; rfl
    exact lv_lconst hX.1 hX.2.1 hd2 rfl K
set_option maxRecDepth 20000 in
theorem abs_lldc {l : Launch} {D : va_G} {base : Nat} {ex : Nat → Nat} : abR_lldc (abMach l D base ex) := by
  intro d lim i pc ls st cnt A M Q a b c n  hc  k1
  intro p e Rm s m args below meth cd cA H locs lsM Qm hX hR hs hF
  obtain ⟨hd, hn, hsd⟩ := abDec hc (by decide)
  obtain ⟨hr, hl, hv, hS⟩ := hs
  unfold abSide at hsd
  simp only [Bool.and_eq_true] at hsd
  obtain ⟨q, hq1, hq2⟩ := abOkMem abCl2L_ok hsd.1
  have hq3 := eq_of_beq hq2
  subst hq3
  have hy := of_decide_eq_true hsd.2
  have hw : (Cond.constantLong (abR (abOwn i)) c (Int64.ofInt a)).before args s = true := hX.2.2.2.2.2.2.1 _ (abTb_mem hq1 rfl)
  have K := k1 p e Rm s m args below meth cd cA H locs lsM Qm hX hR ⟨hr, hl, abCons trivial hv, hS⟩ hF
  obtain rfl : n = pc + 3 := by omega
  rw [hy] at hd
  have hd2 : decode (abB i) pc = .ok (.ldc2_w c, 3) := by rw [hd]; rfl
  exact lv_ldc2 hX.1 hX.2.1 hX.2.2.2.2.2.1 hw hd2 K
set_option maxRecDepth 20000 in
theorem abs_ldcs {l : Launch} {D : va_G} {base : Nat} {ex : Nat → Nat} : abR_ldcs (abMach l D base ex) := by
  intro d lim i pc ls st cnt A M Q a b c n  hc  k1
  intro p e Rm s m args below meth cd cA H locs lsM Qm hX hR hs hF
  obtain ⟨hd, hn, hsd⟩ := abDec hc (by decide)
  obtain ⟨hr, hl, hv, hS⟩ := hs
  have hy : (abStr[a.toNat]?).map (fun q => (q.1, q.2.1)) = some (abOwn i, c) ∧ n - pc = 2 ∧ 0 ≤ a := of_decide_eq_true hsd
  obtain rfl : n = pc + 2 := by omega
  rw [hy.2.1] at hd
  obtain ⟨q, hq1, hq2⟩ := Option.map_eq_some_iff.mp hy.1
  have hlt : a.toNat < 21 := (List.getElem?_eq_some_iff.mp hq1).1
  have hz := hX.2.2.2.2.2.2.2.2.1.2.2.2.2.2 _ _ hq1
  obtain ⟨z1, z2, z3⟩ := q
  have hq3 : z1 = abOwn i ∧ z2 = c := ⟨(Prod.mk.inj hq2).1, (Prod.mk.inj hq2).2⟩
  obtain ⟨rfl, rfl⟩ := hq3
  have K := k1 p e Rm s m args below meth cd cA H locs lsM Qm hX hR ⟨hr, hl, abCons (fun b hb => by cases hb; exact Or.inr ⟨by omega, by omega⟩) hv, hS⟩ hF
  have hd2 : decode (abB i) pc = .ok (.ldc z2, 2) := by rw [hd]; rfl
  refine va_ldcS hX.1 hX.2.1 hX.2.2.2.2.2.1 hz hd2 (abWeq K ?_ rfl)
  show abCv base ex (vr (some (1000000 + a.toNat))) :: _ = _
  simp only [abCv, Option.map_some, abAd, va_rf]
  rw [if_neg (by omega), show 1000000 + a.toNat - 1000000 = a.toNat by omega]
set_option maxRecDepth 20000 in
theorem abs_iload {l : Launch} {D : va_G} {base : Nat} {ex : Nat → Nat} : abR_iload (abMach l D base ex) := by
  intro d lim i pc ls st cnt A M Q a b c n x hc h1 k1
  intro p e Rm s m args below meth cd cA H locs lsM Qm hX hR hs hF
  obtain ⟨hd, hn, hsd⟩ := abDec hc (by decide)
  obtain ⟨hr, hl, hv, hS⟩ := hs
  have hy : 0 ≤ a ∧ (n - pc = 1 ∧ a < 4 ∨ n - pc = 2) := of_decide_eq_true hsd
  obtain ⟨g1, g2⟩ := hl.at h1
  have K := k1 p e Rm s m args below meth cd cA H locs lsM Qm hX hR ⟨hr, hl, abCons g2 hv, hS⟩ hF
  rcases hy.2 with ⟨q, q4⟩ | q
  · obtain rfl : n = pc + 1 := by omega
    rw [q] at hd
    have hd2 : decode (abB i) pc = .ok (.iload_n (Fin.ofNat 4 a.toNat), 1) := by rw [hd]; unfold abExp; simp
    exact lv_iload_n hX.1 hX.2.1 hd2 (by show a.toNat % 4 = a.toNat; omega) g1 K
  · obtain rfl : n = pc + 2 := by omega
    rw [q] at hd
    have hd2 : decode (abB i) pc = .ok (.iload a.toNat, 2) := by rw [hd]; unfold abExp; simp
    exact lv_iload hX.1 hX.2.1 hd2 g1 K
set_option maxRecDepth 20000 in
theorem abs_lload {l : Launch} {D : va_G} {base : Nat} {ex : Nat → Nat} : abR_lload (abMach l D base ex) := by
  intro d lim i pc ls st cnt A M Q a b c n x hc h1 k1
  intro p e Rm s m args below meth cd cA H locs lsM Qm hX hR hs hF
  obtain ⟨hd, hn, hsd⟩ := abDec hc (by decide)
  obtain ⟨hr, hl, hv, hS⟩ := hs
  have hy : 0 ≤ a ∧ (n - pc = 1 ∧ a < 4 ∨ n - pc = 2) := of_decide_eq_true hsd
  obtain ⟨g1, g2⟩ := hl.at h1
  have K := k1 p e Rm s m args below meth cd cA H locs lsM Qm hX hR ⟨hr, hl, abCons g2 hv, hS⟩ hF
  rcases hy.2 with ⟨q, q4⟩ | q
  · obtain rfl : n = pc + 1 := by omega
    rw [q] at hd
    have hd2 : decode (abB i) pc = .ok (.lload_n (Fin.ofNat 4 a.toNat), 1) := by rw [hd]; unfold abExp; simp
    exact lv_lload_n hX.1 hX.2.1 hd2 (by show a.toNat % 4 = a.toNat; omega) g1 K
  · obtain rfl : n = pc + 2 := by omega
    rw [q] at hd
    have hd2 : decode (abB i) pc = .ok (.lload a.toNat, 2) := by rw [hd]; unfold abExp; simp
    exact lv_lload hX.1 hX.2.1 hd2 g1 K
set_option maxRecDepth 20000 in
theorem abs_aload {l : Launch} {D : va_G} {base : Nat} {ex : Nat → Nat} : abR_aload (abMach l D base ex) := by
  intro d lim i pc ls st cnt A M Q a b c n r hc h1 k1
  intro p e Rm s m args below meth cd cA H locs lsM Qm hX hR hs hF
  obtain ⟨hd, hn, hsd⟩ := abDec hc (by decide)
  obtain ⟨hr, hl, hv, hS⟩ := hs
  have hy : 0 ≤ a ∧ (n - pc = 1 ∧ a < 4 ∨ n - pc = 2) := of_decide_eq_true hsd
  obtain ⟨g1, g2⟩ := hl.at h1
  have K := k1 p e Rm s m args below meth cd cA H locs lsM Qm hX hR ⟨hr, hl, abCons g2 hv, hS⟩ hF
  rcases hy.2 with ⟨q, q4⟩ | q
  · obtain rfl : n = pc + 1 := by omega
    rw [q] at hd
    have hd2 : decode (abB i) pc = .ok (.aload_n (Fin.ofNat 4 a.toNat), 1) := by rw [hd]; unfold abExp; simp
    cases r with
    | none => exact lv_aload_nN hX.1 hX.2.1 hd2 (by show a.toNat % 4 = a.toNat; omega) g1 K
    | some z => exact lv_aload_n hX.1 hX.2.1 hd2 (by show a.toNat % 4 = a.toNat; omega) g1 K
  · obtain rfl : n = pc + 2 := by omega
    rw [q] at hd
    have hd2 : decode (abB i) pc = .ok (.aload a.toNat, 2) := by rw [hd]; unfold abExp; simp
    cases r with
    | none => exact lv_aloadN hX.1 hX.2.1 hd2 g1 K
    | some z => exact lv_aload hX.1 hX.2.1 hd2 g1 K
set_option maxRecDepth 20000 in
theorem abs_istore {l : Launch} {D : va_G} {base : Nat} {ex : Nat → Nat} : abR_istore (abMach l D base ex) := by
  intro d lim i pc ls st cnt A M Q a b c n x ls2 hc h1 h2 h3 k1
  intro p e Rm s m args below meth cd cA H locs lsM Qm hX hR hs hF
  obtain ⟨hd, hn, hsd⟩ := abDec hc (by decide)
  obtain ⟨hr, hl, hv, hS⟩ := hs
  have hy : 0 ≤ a ∧ (n - pc = 1 ∧ a < 4 ∨ n - pc = 2) := of_decide_eq_true hsd
  subst h3
  have hv2 := abTail hv
  have hL : ls.length = abL i := hl.1
  rcases hy.2 with ⟨q, q4⟩ | q
  · obtain rfl : n = pc + 1 := by omega
    rw [q] at hd
    have hd2 : decode (abB i) pc = .ok (.istore_n (Fin.ofNat 4 a.toNat), 1) := by rw [hd]; unfold abExp; simp
    exact lv_istore_n hX.1 hX.2.1 hd2 (by show a.toNat % 4 = a.toNat; omega) hl.2.1 (by omega) rfl (fun ls2 hl2 => k1 p e Rm s m args below meth cd cA H locs ls2 Qm hX hR ⟨hr, hl.set1 h1 hv2.1 hl2, hv2.2, hS⟩ hF)
  · obtain rfl : n = pc + 2 := by omega
    rw [q] at hd
    have hd2 : decode (abB i) pc = .ok (.istore a.toNat, 2) := by rw [hd]; unfold abExp; simp
    exact lv_istore hX.1 hX.2.1 hd2 hl.2.1 (by omega) rfl (fun ls2 hl2 => k1 p e Rm s m args below meth cd cA H locs ls2 Qm hX hR ⟨hr, hl.set1 h1 hv2.1 hl2, hv2.2, hS⟩ hF)
set_option maxRecDepth 20000 in
theorem abs_lstore {l : Launch} {D : va_G} {base : Nat} {ex : Nat → Nat} : abR_lstore (abMach l D base ex) := by
  intro d lim i pc ls st cnt A M Q a b c n x ls2 hc h1 h2 h3 k1
  intro p e Rm s m args below meth cd cA H locs lsM Qm hX hR hs hF
  obtain ⟨hd, hn, hsd⟩ := abDec hc (by decide)
  obtain ⟨hr, hl, hv, hS⟩ := hs
  have hy : 0 ≤ a ∧ (n - pc = 1 ∧ a < 4 ∨ n - pc = 2) := of_decide_eq_true hsd
  subst h3
  have hv2 := abTail hv
  have hL : ls.length = abL i := hl.1
  rcases hy.2 with ⟨q, q4⟩ | q
  · obtain rfl : n = pc + 1 := by omega
    rw [q] at hd
    have hd2 : decode (abB i) pc = .ok (.lstore_n (Fin.ofNat 4 a.toNat), 1) := by rw [hd]; unfold abExp; simp
    exact lv_lstore_n hX.1 hX.2.1 hd2 (by show a.toNat % 4 = a.toNat; omega) hl.2.1 (by omega) rfl (fun ls2 hl2 => k1 p e Rm s m args below meth cd cA H locs ls2 Qm hX hR ⟨hr, hl.set2 h1 hv2.1 hl2, hv2.2, hS⟩ hF)
  · obtain rfl : n = pc + 2 := by omega
    rw [q] at hd
    have hd2 : decode (abB i) pc = .ok (.lstore a.toNat, 2) := by rw [hd]; unfold abExp; simp
    exact lv_lstore hX.1 hX.2.1 hd2 hl.2.1 (by omega) rfl (fun ls2 hl2 => k1 p e Rm s m args below meth cd cA H locs ls2 Qm hX hR ⟨hr, hl.set2 h1 hv2.1 hl2, hv2.2, hS⟩ hF)
set_option maxRecDepth 20000 in
theorem abs_astore {l : Launch} {D : va_G} {base : Nat} {ex : Nat → Nat} : abR_astore (abMach l D base ex) := by
  intro d lim i pc ls st cnt A M Q a b c n r ls2 hc h1 h2 h3 k1
  intro p e Rm s m args below meth cd cA H locs lsM Qm hX hR hs hF
  obtain ⟨hd, hn, hsd⟩ := abDec hc (by decide)
  obtain ⟨hr, hl, hv, hS⟩ := hs
  have hy : 0 ≤ a ∧ (n - pc = 1 ∧ a < 4 ∨ n - pc = 2) := of_decide_eq_true hsd
  subst h3
  have hv2 := abTail hv
  have hL : ls.length = abL i := hl.1
  rcases hy.2 with ⟨q, q4⟩ | q
  · obtain rfl : n = pc + 1 := by omega
    rw [q] at hd
    have hd2 : decode (abB i) pc = .ok (.astore_n (Fin.ofNat 4 a.toNat), 1) := by rw [hd]; unfold abExp; simp
    cases r with
    | none => exact lv_astore_nN hX.1 hX.2.1 hd2 (by show a.toNat % 4 = a.toNat; omega) hl.2.1 (by omega) rfl (fun ls2 hl2 => k1 p e Rm s m args below meth cd cA H locs ls2 Qm hX hR ⟨hr, hl.set1 h1 hv2.1 hl2, hv2.2, hS⟩ hF)
    | some z => exact lv_astore_n hX.1 hX.2.1 hd2 (by show a.toNat % 4 = a.toNat; omega) hl.2.1 (by omega) rfl (fun ls2 hl2 => k1 p e Rm s m args below meth cd cA H locs ls2 Qm hX hR ⟨hr, hl.set1 h1 hv2.1 hl2, hv2.2, hS⟩ hF)
  · obtain rfl : n = pc + 2 := by omega
    rw [q] at hd
    have hd2 : decode (abB i) pc = .ok (.astore a.toNat, 2) := by rw [hd]; unfold abExp; simp
    cases r with
    | none => exact lv_astoreN hX.1 hX.2.1 hd2 hl.2.1 (by omega) rfl (fun ls2 hl2 => k1 p e Rm s m args below meth cd cA H locs ls2 Qm hX hR ⟨hr, hl.set1 h1 hv2.1 hl2, hv2.2, hS⟩ hF)
    | some z => exact lv_astore hX.1 hX.2.1 hd2 hl.2.1 (by omega) rfl (fun ls2 hl2 => k1 p e Rm s m args below meth cd cA H locs ls2 Qm hX hR ⟨hr, hl.set1 h1 hv2.1 hl2, hv2.2, hS⟩ hF)
set_option maxRecDepth 20000 in
theorem abs_iinc {l : Launch} {D : va_G} {base : Nat} {ex : Nat → Nat} : abR_iinc (abMach l D base ex) := by
  intro d lim i pc ls st cnt A M Q a b c n x ls2 hc h1 h2 h3 h4 k1
  intro p e Rm s m args below meth cd cA H locs lsM Qm hX hR hs hF
  obtain ⟨hd, hn, hsd⟩ := abDec hc (by decide)
  obtain ⟨hr, hl, hv, hS⟩ := hs
  have hy : 0 ≤ a ∧ n - pc = 3 ∧ -2147483648 ≤ b ∧ b ≤ 2147483647 := of_decide_eq_true hsd
  obtain rfl : n = pc + 3 := by omega
  rw [hy.2.1] at hd
  subst h4
  obtain ⟨g1, g2⟩ := hl.at h1
  have hL : ls.length = abL i := hl.1
  have hlt : a.toNat < ls.length := (List.getElem?_eq_some_iff.mp h1).1
  have hm : (a.toNat, abCv base ex (vi x)) ∈ abKl base ex ls := abKl_mem.mpr ⟨_, h1, rfl⟩
  obtain ⟨j, hj⟩ := List.getElem?_of_mem hm
  have hd2 : decode (abB i) pc = .ok (.iinc a.toNat b, 3) := by rw [hd]; rfl
  exact lv_iinc hX.1 hX.2.1 hd2 hl.2.1 hj (v := Int32.ofInt (x + b)) (Int32.ofInt_add x b).symm (by omega) rfl (fun ls2 hl2 => k1 p e Rm s m args below meth cd cA H locs ls2 Qm hX hR ⟨hr, hl.set1 h2 (show abVv A.1 (vi (x + b)) from h3) hl2, hv, hS⟩ hF)
set_option maxRecDepth 20000 in
theorem abs_iadd {l : Launch} {D : va_G} {base : Nat} {ex : Nat → Nat} : abR_iadd (abMach l D base ex) := by
  intro d lim i pc ls st cnt A M Q a b c n x y hc h1 k1
  intro p e Rm s m args below meth cd cA H locs lsM Qm hX hR hs hF
  obtain ⟨hd, hn, hsd⟩ := abDec hc (by decide)
  obtain ⟨hr, hl, hv, hS⟩ := hs
  have e1 : n - pc = 1 := of_decide_eq_true hsd
  rw [e1] at hd
  obtain rfl : n = pc + 1 := by omega
  have v1 := abTail hv
  have v2 := abTail v1.2
  have K := k1 p e Rm s m args below meth cd cA H locs lsM Qm hX hR ⟨hr, hl, abCons h1 v2.2, hS⟩ hF
  exact lv_iadd hX.1 hX.2.1 hd (abWeq K (congrArg (fun z => Value.int z :: st.map (abCv base ex)) (Int32.ofInt_add x y)) rfl)
set_option maxRecDepth 20000 in
theorem abs_isub {l : Launch} {D : va_G} {base : Nat} {ex : Nat → Nat} : abR_isub (abMach l D base ex) := by
  intro d lim i pc ls st cnt A M Q a b c n x y hc h1 k1
  intro p e Rm s m args below meth cd cA H locs lsM Qm hX hR hs hF
  obtain ⟨hd, hn, hsd⟩ := abDec hc (by decide)
  obtain ⟨hr, hl, hv, hS⟩ := hs
  have e1 : n - pc = 1 := of_decide_eq_true hsd
  rw [e1] at hd
  obtain rfl : n = pc + 1 := by omega
  have v1 := abTail hv
  have v2 := abTail v1.2
  have K := k1 p e Rm s m args below meth cd cA H locs lsM Qm hX hR ⟨hr, hl, abCons h1 v2.2, hS⟩ hF
  exact lv_isub hX.1 hX.2.1 hd (abWeq K (congrArg (fun z => Value.int z :: st.map (abCv base ex)) (Int32.ofInt_sub x y)) rfl)
set_option maxRecDepth 20000 in
theorem abs_imul {l : Launch} {D : va_G} {base : Nat} {ex : Nat → Nat} : abR_imul (abMach l D base ex) := by
  intro d lim i pc ls st cnt A M Q a b c n x y hc h1 k1
  intro p e Rm s m args below meth cd cA H locs lsM Qm hX hR hs hF
  obtain ⟨hd, hn, hsd⟩ := abDec hc (by decide)
  obtain ⟨hr, hl, hv, hS⟩ := hs
  have e1 : n - pc = 1 := of_decide_eq_true hsd
  rw [e1] at hd
  obtain rfl : n = pc + 1 := by omega
  have v1 := abTail hv
  have v2 := abTail v1.2
  have K := k1 p e Rm s m args below meth cd cA H locs lsM Qm hX hR ⟨hr, hl, abCons h1 v2.2, hS⟩ hF
  exact lv_imul hX.1 hX.2.1 hd (abWeq K (congrArg (fun z => Value.int z :: st.map (abCv base ex)) (Int32.ofInt_mul x y)) rfl)
set_option maxRecDepth 20000 in
theorem abs_iand {l : Launch} {D : va_G} {base : Nat} {ex : Nat → Nat} : abR_iand (abMach l D base ex) := by
  intro d lim i pc ls st cnt A M Q a b c n x y hc  k1
  intro p e Rm s m args below meth cd cA H locs lsM Qm hX hR hs hF
  obtain ⟨hd, hn, hsd⟩ := abDec hc (by decide)
  obtain ⟨hr, hl, hv, hS⟩ := hs
  have e1 : n - pc = 1 := of_decide_eq_true hsd
  rw [e1] at hd
  obtain rfl : n = pc + 1 := by omega
  have v1 := abTail hv
  have v2 := abTail v1.2
  have K := k1 p e Rm s m args below meth cd cA H locs lsM Qm hX hR ⟨hr, hl, abCons (inI _) v2.2, hS⟩ hF
  exact lv_iand hX.1 hX.2.1 hd (abWeq K (congrArg (fun z => Value.int z :: st.map (abCv base ex)) (toI _)) rfl)
set_option maxRecDepth 20000 in
theorem abs_ior {l : Launch} {D : va_G} {base : Nat} {ex : Nat → Nat} : abR_ior (abMach l D base ex) := by
  intro d lim i pc ls st cnt A M Q a b c n x y hc  k1
  intro p e Rm s m args below meth cd cA H locs lsM Qm hX hR hs hF
  obtain ⟨hd, hn, hsd⟩ := abDec hc (by decide)
  obtain ⟨hr, hl, hv, hS⟩ := hs
  have e1 : n - pc = 1 := of_decide_eq_true hsd
  rw [e1] at hd
  obtain rfl : n = pc + 1 := by omega
  have v1 := abTail hv
  have v2 := abTail v1.2
  have K := k1 p e Rm s m args below meth cd cA H locs lsM Qm hX hR ⟨hr, hl, abCons (inI _) v2.2, hS⟩ hF
  exact lv_ior hX.1 hX.2.1 hd (abWeq K (congrArg (fun z => Value.int z :: st.map (abCv base ex)) (toI _)) rfl)
set_option maxRecDepth 20000 in
theorem abs_ishl {l : Launch} {D : va_G} {base : Nat} {ex : Nat → Nat} : abR_ishl (abMach l D base ex) := by
  intro d lim i pc ls st cnt A M Q a b c n x y hc  k1
  intro p e Rm s m args below meth cd cA H locs lsM Qm hX hR hs hF
  obtain ⟨hd, hn, hsd⟩ := abDec hc (by decide)
  obtain ⟨hr, hl, hv, hS⟩ := hs
  have e1 : n - pc = 1 := of_decide_eq_true hsd
  rw [e1] at hd
  obtain rfl : n = pc + 1 := by omega
  have v1 := abTail hv
  have v2 := abTail v1.2
  have K := k1 p e Rm s m args below meth cd cA H locs lsM Qm hX hR ⟨hr, hl, abCons (inI _) v2.2, hS⟩ hF
  exact lv_ishl hX.1 hX.2.1 hd (abWeq K (congrArg (fun z => Value.int z :: st.map (abCv base ex)) (toI _)) rfl)
set_option maxRecDepth 20000 in
theorem abs_ishr {l : Launch} {D : va_G} {base : Nat} {ex : Nat → Nat} : abR_ishr (abMach l D base ex) := by
  intro d lim i pc ls st cnt A M Q a b c n x y hc  k1
  intro p e Rm s m args below meth cd cA H locs lsM Qm hX hR hs hF
  obtain ⟨hd, hn, hsd⟩ := abDec hc (by decide)
  obtain ⟨hr, hl, hv, hS⟩ := hs
  have e1 : n - pc = 1 := of_decide_eq_true hsd
  rw [e1] at hd
  obtain rfl : n = pc + 1 := by omega
  have v1 := abTail hv
  have v2 := abTail v1.2
  have K := k1 p e Rm s m args below meth cd cA H locs lsM Qm hX hR ⟨hr, hl, abCons (inI _) v2.2, hS⟩ hF
  exact lv_ishr hX.1 hX.2.1 hd (abWeq K (congrArg (fun z => Value.int z :: st.map (abCv base ex)) (toI _)) rfl)
set_option maxRecDepth 20000 in
theorem abs_iushr {l : Launch} {D : va_G} {base : Nat} {ex : Nat → Nat} : abR_iushr (abMach l D base ex) := by
  intro d lim i pc ls st cnt A M Q a b c n x y hc  k1
  intro p e Rm s m args below meth cd cA H locs lsM Qm hX hR hs hF
  obtain ⟨hd, hn, hsd⟩ := abDec hc (by decide)
  obtain ⟨hr, hl, hv, hS⟩ := hs
  have e1 : n - pc = 1 := of_decide_eq_true hsd
  rw [e1] at hd
  obtain rfl : n = pc + 1 := by omega
  have v1 := abTail hv
  have v2 := abTail v1.2
  have K := k1 p e Rm s m args below meth cd cA H locs lsM Qm hX hR ⟨hr, hl, abCons (inI _) v2.2, hS⟩ hF
  exact lv_iushr hX.1 hX.2.1 hd rfl (abWeq K (congrArg (fun z => Value.int z :: st.map (abCv base ex)) (toI _)) rfl)
set_option maxRecDepth 20000 in
theorem abs_ineg {l : Launch} {D : va_G} {base : Nat} {ex : Nat → Nat} : abR_ineg (abMach l D base ex) := by
  intro d lim i pc ls st cnt A M Q a b c n x hc h1 k1
  intro p e Rm s m args below meth cd cA H locs lsM Qm hX hR hs hF
  obtain ⟨hd, hn, hsd⟩ := abDec hc (by decide)
  obtain ⟨hr, hl, hv, hS⟩ := hs
  have e1 : n - pc = 1 := of_decide_eq_true hsd
  rw [e1] at hd
  obtain rfl : n = pc + 1 := by omega
  have v1 := abTail hv
  have K := k1 p e Rm s m args below meth cd cA H locs lsM Qm hX hR ⟨hr, hl, abCons h1 v1.2, hS⟩ hF
  exact lv_ineg hX.1 hX.2.1 hd (abWeq K (congrArg (fun z => Value.int z :: st.map (abCv base ex)) (Int32.ofInt_neg x)) rfl)
theorem div_ofI {x y : Int} (hx : In32 x) (hy : In32 y) (h0 : 0 ≤ x) (h1 : 0 < y) : Int32.ofInt x / Int32.ofInt y = Int32.ofInt (x / y) := by
  apply Int32.toInt_inj.mp
  have hq : 0 ≤ x / y ∧ x / y ≤ x := ⟨Int.ediv_nonneg h0 (by omega), Int.ediv_le_self y h0⟩
  rw [Int32.toInt_div, ofI hx, ofI hy, Int.tdiv_eq_ediv_of_nonneg h0, ofI (show In32 (x / y) from ⟨by omega, by have := hx.2; omega⟩)]
  rw [← ofI (show In32 (x / y) from ⟨by omega, by have := hx.2; omega⟩), Int32.toInt_ofInt]
  exact Int.bmod_bmod
theorem rem_ofI {x y : Int} (hx : In32 x) (hy : In32 y) (h0 : 0 ≤ x) (h1 : 0 < y) : Int32.ofInt x - Int32.ofInt x / Int32.ofInt y * Int32.ofInt y = Int32.ofInt (x % y) := by
  rw [div_ofI hx hy h0 h1, ← Int32.ofInt_mul, ← Int32.ofInt_sub]
  congr 1
  have := Int.emod_add_mul_ediv x y
  have e : x / y * y = y * (x / y) := Int.mul_comm _ _
  omega
theorem ne0_ofI {y : Int} (hy : In32 y) (h1 : 0 < y) : ¬ Int32.ofInt y = 0 := by
  intro h
  have h2 := (ofI_inj hy (show In32 0 from ⟨by decide, by decide⟩)).mp (show Int32.ofInt y = Int32.ofInt 0 by rw [h]; rfl)
  omega
set_option maxRecDepth 20000 in
theorem abs_idiv {l : Launch} {D : va_G} {base : Nat} {ex : Nat → Nat} : abR_idiv (abMach l D base ex) := by
  intro d lim i pc ls st cnt A M Q a b c n x y hc h1 h2 k1
  intro p e Rm s m args below meth cd cA H locs lsM Qm hX hR hs hF
  obtain ⟨hd, hn, hsd⟩ := abDec hc (by decide)
  obtain ⟨hr, hl, hv, hS⟩ := hs
  have e1 : n - pc = 1 := of_decide_eq_true hsd
  rw [e1] at hd
  obtain rfl : n = pc + 1 := by omega
  have v1 := abTail hv
  have v2 := abTail v1.2
  have hq : 0 ≤ x / y ∧ x / y ≤ x := ⟨Int.ediv_nonneg h1 (by omega), Int.ediv_le_self y h1⟩
  have K := k1 p e Rm s m args below meth cd cA H locs lsM Qm hX hR ⟨hr, hl, abCons (show In32 (x / y) from ⟨by omega, by have := (show In32 x from v2.1).2; omega⟩) v2.2, hS⟩ hF
  exact lv_idiv hX.1 hX.2.1 hd (ne0_ofI v1.1 h2) (abWeq K (congrArg (fun z => Value.int z :: st.map (abCv base ex)) (div_ofI v2.1 v1.1 h1 h2).symm) rfl)
set_option maxRecDepth 20000 in
theorem abs_irem {l : Launch} {D : va_G} {base : Nat} {ex : Nat → Nat} : abR_irem (abMach l D base ex) := by
  intro d lim i pc ls st cnt A M Q a b c n x y hc h1 h2 k1
  intro p e Rm s m args below meth cd cA H locs lsM Qm hX hR hs hF
  obtain ⟨hd, hn, hsd⟩ := abDec hc (by decide)
  obtain ⟨hr, hl, hv, hS⟩ := hs
  have e1 : n - pc = 1 := of_decide_eq_true hsd
  rw [e1] at hd
  obtain rfl : n = pc + 1 := by omega
  have v1 := abTail hv
  have v2 := abTail v1.2
  have hq : 0 ≤ x % y ∧ x % y < y := ⟨Int.emod_nonneg x (by omega), Int.emod_lt_of_pos x h2⟩
  have K := k1 p e Rm s m args below meth cd cA H locs lsM Qm hX hR ⟨hr, hl, abCons (show In32 (x % y) from ⟨by omega, by have := (show In32 y from v1.1).2; omega⟩) v2.2, hS⟩ hF
  exact lv_irem hX.1 hX.2.1 hd (ne0_ofI v1.1 h2) (abWeq K (congrArg (fun z => Value.int z :: st.map (abCv base ex)) (rem_ofI v2.1 v1.1 h1 h2).symm) rfl)
set_option maxRecDepth 20000 in
theorem abs_ladd {l : Launch} {D : va_G} {base : Nat} {ex : Nat → Nat} : abR_ladd (abMach l D base ex) := by
  intro d lim i pc ls st cnt A M Q a b c n x y hc  k1
  intro p e Rm s m args below meth cd cA H locs lsM Qm hX hR hs hF
  obtain ⟨hd, hn, hsd⟩ := abDec hc (by decide)
  obtain ⟨hr, hl, hv, hS⟩ := hs
  have e1 : n - pc = 1 := of_decide_eq_true hsd
  rw [e1] at hd
  obtain rfl : n = pc + 1 := by omega
  have v1 := abTail hv
  have v2 := abTail v1.2
  have K := k1 p e Rm s m args below meth cd cA H locs lsM Qm hX hR ⟨hr, hl, abCons trivial v2.2, hS⟩ hF
  exact lv_ladd hX.1 hX.2.1 hd (abWeq K rfl rfl)
set_option maxRecDepth 20000 in
theorem abs_lsub {l : Launch} {D : va_G} {base : Nat} {ex : Nat → Nat} : abR_lsub (abMach l D base ex) := by
  intro d lim i pc ls st cnt A M Q a b c n x y hc  k1
  intro p e Rm s m args below meth cd cA H locs lsM Qm hX hR hs hF
  obtain ⟨hd, hn, hsd⟩ := abDec hc (by decide)
  obtain ⟨hr, hl, hv, hS⟩ := hs
  have e1 : n - pc = 1 := of_decide_eq_true hsd
  rw [e1] at hd
  obtain rfl : n = pc + 1 := by omega
  have v1 := abTail hv
  have v2 := abTail v1.2
  have K := k1 p e Rm s m args below meth cd cA H locs lsM Qm hX hR ⟨hr, hl, abCons trivial v2.2, hS⟩ hF
  exact lv_lsub hX.1 hX.2.1 hd (abWeq K rfl rfl)
set_option maxRecDepth 20000 in
theorem abs_lmul {l : Launch} {D : va_G} {base : Nat} {ex : Nat → Nat} : abR_lmul (abMach l D base ex) := by
  intro d lim i pc ls st cnt A M Q a b c n x y hc  k1
  intro p e Rm s m args below meth cd cA H locs lsM Qm hX hR hs hF
  obtain ⟨hd, hn, hsd⟩ := abDec hc (by decide)
  obtain ⟨hr, hl, hv, hS⟩ := hs
  have e1 : n - pc = 1 := of_decide_eq_true hsd
  rw [e1] at hd
  obtain rfl : n = pc + 1 := by omega
  have v1 := abTail hv
  have v2 := abTail v1.2
  have K := k1 p e Rm s m args below meth cd cA H locs lsM Qm hX hR ⟨hr, hl, abCons trivial v2.2, hS⟩ hF
  exact lv_lmul hX.1 hX.2.1 hd (abWeq K rfl rfl)
set_option maxRecDepth 20000 in
theorem abs_land {l : Launch} {D : va_G} {base : Nat} {ex : Nat → Nat} : abR_land (abMach l D base ex) := by
  intro d lim i pc ls st cnt A M Q a b c n x y hc  k1
  intro p e Rm s m args below meth cd cA H locs lsM Qm hX hR hs hF
  obtain ⟨hd, hn, hsd⟩ := abDec hc (by decide)
  obtain ⟨hr, hl, hv, hS⟩ := hs
  have e1 : n - pc = 1 := of_decide_eq_true hsd
  rw [e1] at hd
  obtain rfl : n = pc + 1 := by omega
  have v1 := abTail hv
  have v2 := abTail v1.2
  have K := k1 p e Rm s m args below meth cd cA H locs lsM Qm hX hR ⟨hr, hl, abCons trivial v2.2, hS⟩ hF
  exact lv_land hX.1 hX.2.1 hd (abWeq K rfl rfl)
set_option maxRecDepth 20000 in
theorem abs_lor {l : Launch} {D : va_G} {base : Nat} {ex : Nat → Nat} : abR_lor (abMach l D base ex) := by
  intro d lim i pc ls st cnt A M Q a b c n x y hc  k1
  intro p e Rm s m args below meth cd cA H locs lsM Qm hX hR hs hF
  obtain ⟨hd, hn, hsd⟩ := abDec hc (by decide)
  obtain ⟨hr, hl, hv, hS⟩ := hs
  have e1 : n - pc = 1 := of_decide_eq_true hsd
  rw [e1] at hd
  obtain rfl : n = pc + 1 := by omega
  have v1 := abTail hv
  have v2 := abTail v1.2
  have K := k1 p e Rm s m args below meth cd cA H locs lsM Qm hX hR ⟨hr, hl, abCons trivial v2.2, hS⟩ hF
  exact lv_lor hX.1 hX.2.1 hd (abWeq K rfl rfl)
set_option maxRecDepth 20000 in
theorem abs_lxor {l : Launch} {D : va_G} {base : Nat} {ex : Nat → Nat} : abR_lxor (abMach l D base ex) := by
  intro d lim i pc ls st cnt A M Q a b c n x y hc  k1
  intro p e Rm s m args below meth cd cA H locs lsM Qm hX hR hs hF
  obtain ⟨hd, hn, hsd⟩ := abDec hc (by decide)
  obtain ⟨hr, hl, hv, hS⟩ := hs
  have e1 : n - pc = 1 := of_decide_eq_true hsd
  rw [e1] at hd
  obtain rfl : n = pc + 1 := by omega
  have v1 := abTail hv
  have v2 := abTail v1.2
  have K := k1 p e Rm s m args below meth cd cA H locs lsM Qm hX hR ⟨hr, hl, abCons trivial v2.2, hS⟩ hF
  exact lv_lxor hX.1 hX.2.1 hd (abWeq K rfl rfl)
set_option maxRecDepth 20000 in
theorem abs_lshl {l : Launch} {D : va_G} {base : Nat} {ex : Nat → Nat} : abR_lshl (abMach l D base ex) := by
  intro d lim i pc ls st cnt A M Q a b c n x y hc  k1
  intro p e Rm s m args below meth cd cA H locs lsM Qm hX hR hs hF
  obtain ⟨hd, hn, hsd⟩ := abDec hc (by decide)
  obtain ⟨hr, hl, hv, hS⟩ := hs
  have e1 : n - pc = 1 := of_decide_eq_true hsd
  rw [e1] at hd
  obtain rfl : n = pc + 1 := by omega
  have v1 := abTail hv
  have v2 := abTail v1.2
  have K := k1 p e Rm s m args below meth cd cA H locs lsM Qm hX hR ⟨hr, hl, abCons trivial v2.2, hS⟩ hF
  exact lv_lshl hX.1 hX.2.1 hd rfl (abWeq K rfl rfl)
set_option maxRecDepth 20000 in
theorem abs_lushr {l : Launch} {D : va_G} {base : Nat} {ex : Nat → Nat} : abR_lushr (abMach l D base ex) := by
  intro d lim i pc ls st cnt A M Q a b c n x y hc  k1
  intro p e Rm s m args below meth cd cA H locs lsM Qm hX hR hs hF
  obtain ⟨hd, hn, hsd⟩ := abDec hc (by decide)
  obtain ⟨hr, hl, hv, hS⟩ := hs
  have e1 : n - pc = 1 := of_decide_eq_true hsd
  rw [e1] at hd
  obtain rfl : n = pc + 1 := by omega
  have v1 := abTail hv
  have v2 := abTail v1.2
  have K := k1 p e Rm s m args below meth cd cA H locs lsM Qm hX hR ⟨hr, hl, abCons trivial v2.2, hS⟩ hF
  exact lv_lushr hX.1 hX.2.1 hd rfl (abWeq K rfl rfl)
set_option maxRecDepth 20000 in
theorem abs_lcmp {l : Launch} {D : va_G} {base : Nat} {ex : Nat → Nat} : abR_lcmp (abMach l D base ex) := by
  intro d lim i pc ls st cnt A M Q a b c n x y hc  k1
  intro p e Rm s m args below meth cd cA H locs lsM Qm hX hR hs hF
  obtain ⟨hd, hn, hsd⟩ := abDec hc (by decide)
  obtain ⟨hr, hl, hv, hS⟩ := hs
  have e1 : n - pc = 1 := of_decide_eq_true hsd
  rw [e1] at hd
  obtain rfl : n = pc + 1 := by omega
  have v1 := abTail hv
  have v2 := abTail v1.2
  have K := k1 p e Rm s m args below meth cd cA H locs lsM Qm hX hR ⟨hr, hl, abCons (inI _) v2.2, hS⟩ hF
  exact W.lcmp hX.1 hX.2.1 hd (abWeq K (congrArg (fun z => Value.int z :: st.map (abCv base ex)) (toI _)) rfl)
set_option maxRecDepth 20000 in
theorem abs_i2l {l : Launch} {D : va_G} {base : Nat} {ex : Nat → Nat} : abR_i2l (abMach l D base ex) := by
  intro d lim i pc ls st cnt A M Q a b c n x hc  k1
  intro p e Rm s m args below meth cd cA H locs lsM Qm hX hR hs hF
  obtain ⟨hd, hn, hsd⟩ := abDec hc (by decide)
  obtain ⟨hr, hl, hv, hS⟩ := hs
  have e1 : n - pc = 1 := of_decide_eq_true hsd
  rw [e1] at hd
  obtain rfl : n = pc + 1 := by omega
  have v1 := abTail hv
  have K := k1 p e Rm s m args below meth cd cA H locs lsM Qm hX hR ⟨hr, hl, abCons trivial v1.2, hS⟩ hF
  exact lv_i2l hX.1 hX.2.1 hd rfl K
set_option maxRecDepth 20000 in
theorem abs_l2i {l : Launch} {D : va_G} {base : Nat} {ex : Nat → Nat} : abR_l2i (abMach l D base ex) := by
  intro d lim i pc ls st cnt A M Q a b c n x hc  k1
  intro p e Rm s m args below meth cd cA H locs lsM Qm hX hR hs hF
  obtain ⟨hd, hn, hsd⟩ := abDec hc (by decide)
  obtain ⟨hr, hl, hv, hS⟩ := hs
  have e1 : n - pc = 1 := of_decide_eq_true hsd
  rw [e1] at hd
  obtain rfl : n = pc + 1 := by omega
  have v1 := abTail hv
  have K := k1 p e Rm s m args below meth cd cA H locs lsM Qm hX hR ⟨hr, hl, abCons (inI _) v1.2, hS⟩ hF
  exact lv_l2i hX.1 hX.2.1 hd rfl (abWeq K (congrArg (fun z => Value.int z :: st.map (abCv base ex)) (toI _)) rfl)
set_option maxRecDepth 20000 in
theorem abs_i2b {l : Launch} {D : va_G} {base : Nat} {ex : Nat → Nat} : abR_i2b (abMach l D base ex) := by
  intro d lim i pc ls st cnt A M Q a b c n x hc  k1
  intro p e Rm s m args below meth cd cA H locs lsM Qm hX hR hs hF
  obtain ⟨hd, hn, hsd⟩ := abDec hc (by decide)
  obtain ⟨hr, hl, hv, hS⟩ := hs
  have e1 : n - pc = 1 := of_decide_eq_true hsd
  rw [e1] at hd
  obtain rfl : n = pc + 1 := by omega
  have v1 := abTail hv
  have K := k1 p e Rm s m args below meth cd cA H locs lsM Qm hX hR ⟨hr, hl, abCons (inI _) v1.2, hS⟩ hF
  exact lv_i2b hX.1 hX.2.1 hd rfl (abWeq K (congrArg (fun z => Value.int z :: st.map (abCv base ex)) (toI _)) rfl)
set_option maxRecDepth 20000 in
theorem abs_i2c {l : Launch} {D : va_G} {base : Nat} {ex : Nat → Nat} : abR_i2c (abMach l D base ex) := by
  intro d lim i pc ls st cnt A M Q a b c n x hc  k1
  intro p e Rm s m args below meth cd cA H locs lsM Qm hX hR hs hF
  obtain ⟨hd, hn, hsd⟩ := abDec hc (by decide)
  obtain ⟨hr, hl, hv, hS⟩ := hs
  have e1 : n - pc = 1 := of_decide_eq_true hsd
  rw [e1] at hd
  obtain rfl : n = pc + 1 := by omega
  have v1 := abTail hv
  have K := k1 p e Rm s m args below meth cd cA H locs lsM Qm hX hR ⟨hr, hl, abCons (inI _) v1.2, hS⟩ hF
  exact lv_i2c hX.1 hX.2.1 hd rfl (abWeq K (congrArg (fun z => Value.int z :: st.map (abCv base ex)) (toI _)) rfl)
set_option maxRecDepth 20000 in
theorem abs_dup {l : Launch} {D : va_G} {base : Nat} {ex : Nat → Nat} : abR_dup (abMach l D base ex) := by
  intro d lim i pc ls st cnt A M Q a b c n r hc  k1
  intro p e Rm s m args below meth cd cA H locs lsM Qm hX hR hs hF
  obtain ⟨hd, hn, hsd⟩ := abDec hc (by decide)
  obtain ⟨hr, hl, hv, hS⟩ := hs
  have e1 : n - pc = 1 := of_decide_eq_true hsd
  rw [e1] at hd
  obtain rfl : n = pc + 1 := by omega
  have v1 := abTail hv
  have K := k1 p e Rm s m args below meth cd cA H locs lsM Qm hX hR ⟨hr, hl, abCons v1.1 hv, hS⟩ hF
  exact lv_dup hX.1 hX.2.1 hd (abCv_cat base ex (vr r)) K
set_option maxRecDepth 20000 in
theorem abs_dupi {l : Launch} {D : va_G} {base : Nat} {ex : Nat → Nat} : abR_dupi (abMach l D base ex) := by
  intro d lim i pc ls st cnt A M Q a b c n x hc  k1
  intro p e Rm s m args below meth cd cA H locs lsM Qm hX hR hs hF
  obtain ⟨hd, hn, hsd⟩ := abDec hc (by decide)
  obtain ⟨hr, hl, hv, hS⟩ := hs
  have e1 : n - pc = 1 := of_decide_eq_true hsd
  rw [e1] at hd
  obtain rfl : n = pc + 1 := by omega
  have v1 := abTail hv
  have K := k1 p e Rm s m args below meth cd cA H locs lsM Qm hX hR ⟨hr, hl, abCons v1.1 hv, hS⟩ hF
  exact lv_dup hX.1 hX.2.1 hd rfl K
set_option maxRecDepth 20000 in
theorem abs_dup2 {l : Launch} {D : va_G} {base : Nat} {ex : Nat → Nat} : abR_dup2 (abMach l D base ex) := by
  intro d lim i pc ls st cnt A M Q a b c n x r hc  k1
  intro p e Rm s m args below meth cd cA H locs lsM Qm hX hR hs hF
  obtain ⟨hd, hn, hsd⟩ := abDec hc (by decide)
  obtain ⟨hr, hl, hv, hS⟩ := hs
  have e1 : n - pc = 1 := of_decide_eq_true hsd
  rw [e1] at hd
  obtain rfl : n = pc + 1 := by omega
  have v1 := abTail hv
  have v2 := abTail v1.2
  have K := k1 p e Rm s m args below meth cd cA H locs lsM Qm hX hR ⟨hr, hl, abCons v1.1 (abCons v2.1 hv), hS⟩ hF
  exact lv_dup2_11 hX.1 hX.2.1 hd rfl (abCv_cat base ex (vr r)) K
set_option maxRecDepth 20000 in
theorem abs_pop {l : Launch} {D : va_G} {base : Nat} {ex : Nat → Nat} : abR_pop (abMach l D base ex) := by
  intro d lim i pc ls st cnt A M Q a b c n x hc  k1
  intro p e Rm s m args below meth cd cA H locs lsM Qm hX hR hs hF
  obtain ⟨hd, hn, hsd⟩ := abDec hc (by decide)
  obtain ⟨hr, hl, hv, hS⟩ := hs
  have e1 : n - pc = 1 := of_decide_eq_true hsd
  rw [e1] at hd
  obtain rfl : n = pc + 1 := by omega
  have v1 := abTail hv
  have K := k1 p e Rm s m args below meth cd cA H locs lsM Qm hX hR ⟨hr, hl, v1.2, hS⟩ hF
  exact lv_pop hX.1 hX.2.1 hd rfl K
set_option maxRecDepth 20000 in
theorem abs_goto {l : Launch} {D : va_G} {base : Nat} {ex : Nat → Nat} : abR_goto (abMach l D base ex) := by
  intro d lim i pc ls st cnt A M Q a b c n  hc  k1
  intro p e Rm s m args below meth cd cA H locs lsM Qm hX hR hs hF
  obtain ⟨hd, hn, hsd⟩ := abDec hc (by decide)
  obtain ⟨hr, hl, hv, hS⟩ := hs
  have hy : 0 ≤ a ∧ n - pc = 3 := of_decide_eq_true hsd
  obtain rfl : n = pc + 3 := by omega
  rw [hy.2] at hd
  have K := k1 p e Rm s m args below meth cd cA H locs lsM Qm hX hR ⟨hr, hl, hv, hS⟩ hF
  exact lv_goto hX.1 hX.2.1 hd (tgt := a.toNat) (by show (pc : Int) + (a - (pc : Int)) = ((a.toNat : Nat) : Int); omega) K
theorem z_lt {x : Int} (hx : In32 x) : Int32.ofInt x < 0 ↔ x < 0 := ofI_lt hx (show In32 0 from ⟨by decide, by decide⟩)
theorem z_le {x : Int} (hx : In32 x) : Int32.ofInt x ≤ 0 ↔ x ≤ 0 := ofI_le hx (show In32 0 from ⟨by decide, by decide⟩)
theorem z_gt {x : Int} (hx : In32 x) : 0 < Int32.ofInt x ↔ 0 < x := ofI_lt (show In32 0 from ⟨by decide, by decide⟩) hx
theorem z_ge {x : Int} (hx : In32 x) : 0 ≤ Int32.ofInt x ↔ 0 ≤ x := ofI_le (show In32 0 from ⟨by decide, by decide⟩) hx
theorem z_eq {x : Int} (hx : In32 x) : Int32.ofInt x = 0 ↔ x = 0 := ofI_inj hx (show In32 0 from ⟨by decide, by decide⟩)
set_option maxRecDepth 20000 in
theorem abs_ifeq {l : Launch} {D : va_G} {base : Nat} {ex : Nat → Nat} : abR_ifeq (abMach l D base ex) := by
  intro d lim i pc ls st cnt A M Q a b c n x hc  k1 k2
  intro p e Rm s m args below meth cd cA H locs lsM Qm hX hR hs hF
  obtain ⟨hd, hn, hsd⟩ := abDec hc (by decide)
  obtain ⟨hr, hl, hv, hS⟩ := hs
  have hy : 0 ≤ a ∧ n - pc = 3 := of_decide_eq_true hsd
  obtain rfl : n = pc + 3 := by omega
  rw [hy.2] at hd
  have v1 := abTail hv
  exact lv_if_eq hX.1 hX.2.1 hd (tgt := a.toNat) (by show (pc : Int) + (a - (pc : Int)) = ((a.toNat : Nat) : Int); omega) (fun q => k1 ((z_eq v1.1).mp q) p e Rm s m args below meth cd cA H locs lsM Qm hX hR ⟨hr, hl, v1.2, hS⟩ hF) (fun q => k2 (fun z => q ((z_eq v1.1).mpr z)) p e Rm s m args below meth cd cA H locs lsM Qm hX hR ⟨hr, hl, v1.2, hS⟩ hF)
set_option maxRecDepth 20000 in
theorem abs_ifne {l : Launch} {D : va_G} {base : Nat} {ex : Nat → Nat} : abR_ifne (abMach l D base ex) := by
  intro d lim i pc ls st cnt A M Q a b c n x hc  k1 k2
  intro p e Rm s m args below meth cd cA H locs lsM Qm hX hR hs hF
  obtain ⟨hd, hn, hsd⟩ := abDec hc (by decide)
  obtain ⟨hr, hl, hv, hS⟩ := hs
  have hy : 0 ≤ a ∧ n - pc = 3 := of_decide_eq_true hsd
  obtain rfl : n = pc + 3 := by omega
  rw [hy.2] at hd
  have v1 := abTail hv
  exact lv_if_ne hX.1 hX.2.1 hd (tgt := a.toNat) (by show (pc : Int) + (a - (pc : Int)) = ((a.toNat : Nat) : Int); omega) (fun q => k1 (fun z => q ((z_eq v1.1).mpr z)) p e Rm s m args below meth cd cA H locs lsM Qm hX hR ⟨hr, hl, v1.2, hS⟩ hF) (fun q => k2 (fun z => z ((z_eq v1.1).mp q)) p e Rm s m args below meth cd cA H locs lsM Qm hX hR ⟨hr, hl, v1.2, hS⟩ hF)
set_option maxRecDepth 20000 in
theorem abs_iflt {l : Launch} {D : va_G} {base : Nat} {ex : Nat → Nat} : abR_iflt (abMach l D base ex) := by
  intro d lim i pc ls st cnt A M Q a b c n x hc  k1 k2
  intro p e Rm s m args below meth cd cA H locs lsM Qm hX hR hs hF
  obtain ⟨hd, hn, hsd⟩ := abDec hc (by decide)
  obtain ⟨hr, hl, hv, hS⟩ := hs
  have hy : 0 ≤ a ∧ n - pc = 3 := of_decide_eq_true hsd
  obtain rfl : n = pc + 3 := by omega
  rw [hy.2] at hd
  have v1 := abTail hv
  exact lv_if_lt hX.1 hX.2.1 hd (tgt := a.toNat) (by show (pc : Int) + (a - (pc : Int)) = ((a.toNat : Nat) : Int); omega) (fun q => k1 ((z_lt v1.1).mp q) p e Rm s m args below meth cd cA H locs lsM Qm hX hR ⟨hr, hl, v1.2, hS⟩ hF) (fun q => k2 (fun z => q ((z_lt v1.1).mpr z)) p e Rm s m args below meth cd cA H locs lsM Qm hX hR ⟨hr, hl, v1.2, hS⟩ hF)
set_option maxRecDepth 20000 in
theorem abs_ifge {l : Launch} {D : va_G} {base : Nat} {ex : Nat → Nat} : abR_ifge (abMach l D base ex) := by
  intro d lim i pc ls st cnt A M Q a b c n x hc  k1 k2
  intro p e Rm s m args below meth cd cA H locs lsM Qm hX hR hs hF
  obtain ⟨hd, hn, hsd⟩ := abDec hc (by decide)
  obtain ⟨hr, hl, hv, hS⟩ := hs
  have hy : 0 ≤ a ∧ n - pc = 3 := of_decide_eq_true hsd
  obtain rfl : n = pc + 3 := by omega
  rw [hy.2] at hd
  have v1 := abTail hv
  exact lv_if_ge hX.1 hX.2.1 hd (tgt := a.toNat) (by show (pc : Int) + (a - (pc : Int)) = ((a.toNat : Nat) : Int); omega) (fun q => k1 ((z_ge v1.1).mp q) p e Rm s m args below meth cd cA H locs lsM Qm hX hR ⟨hr, hl, v1.2, hS⟩ hF) (fun q => k2 (fun z => q ((z_ge v1.1).mpr z)) p e Rm s m args below meth cd cA H locs lsM Qm hX hR ⟨hr, hl, v1.2, hS⟩ hF)
set_option maxRecDepth 20000 in
theorem abs_ifgt {l : Launch} {D : va_G} {base : Nat} {ex : Nat → Nat} : abR_ifgt (abMach l D base ex) := by
  intro d lim i pc ls st cnt A M Q a b c n x hc  k1 k2
  intro p e Rm s m args below meth cd cA H locs lsM Qm hX hR hs hF
  obtain ⟨hd, hn, hsd⟩ := abDec hc (by decide)
  obtain ⟨hr, hl, hv, hS⟩ := hs
  have hy : 0 ≤ a ∧ n - pc = 3 := of_decide_eq_true hsd
  obtain rfl : n = pc + 3 := by omega
  rw [hy.2] at hd
  have v1 := abTail hv
  exact lv_if_gt hX.1 hX.2.1 hd (tgt := a.toNat) (by show (pc : Int) + (a - (pc : Int)) = ((a.toNat : Nat) : Int); omega) (fun q => k1 ((z_gt v1.1).mp q) p e Rm s m args below meth cd cA H locs lsM Qm hX hR ⟨hr, hl, v1.2, hS⟩ hF) (fun q => k2 (fun z => q ((z_gt v1.1).mpr z)) p e Rm s m args below meth cd cA H locs lsM Qm hX hR ⟨hr, hl, v1.2, hS⟩ hF)
set_option maxRecDepth 20000 in
theorem abs_ifle {l : Launch} {D : va_G} {base : Nat} {ex : Nat → Nat} : abR_ifle (abMach l D base ex) := by
  intro d lim i pc ls st cnt A M Q a b c n x hc  k1 k2
  intro p e Rm s m args below meth cd cA H locs lsM Qm hX hR hs hF
  obtain ⟨hd, hn, hsd⟩ := abDec hc (by decide)
  obtain ⟨hr, hl, hv, hS⟩ := hs
  have hy : 0 ≤ a ∧ n - pc = 3 := of_decide_eq_true hsd
  obtain rfl : n = pc + 3 := by omega
  rw [hy.2] at hd
  have v1 := abTail hv
  exact lv_if_le hX.1 hX.2.1 hd (tgt := a.toNat) (by show (pc : Int) + (a - (pc : Int)) = ((a.toNat : Nat) : Int); omega) (fun q => k1 ((z_le v1.1).mp q) p e Rm s m args below meth cd cA H locs lsM Qm hX hR ⟨hr, hl, v1.2, hS⟩ hF) (fun q => k2 (fun z => q ((z_le v1.1).mpr z)) p e Rm s m args below meth cd cA H locs lsM Qm hX hR ⟨hr, hl, v1.2, hS⟩ hF)
set_option maxRecDepth 20000 in
theorem abs_iceq {l : Launch} {D : va_G} {base : Nat} {ex : Nat → Nat} : abR_iceq (abMach l D base ex) := by
  intro d lim i pc ls st cnt A M Q a b c n x y hc  k1 k2
  intro p e Rm s m args below meth cd cA H locs lsM Qm hX hR hs hF
  obtain ⟨hd, hn, hsd⟩ := abDec hc (by decide)
  obtain ⟨hr, hl, hv, hS⟩ := hs
  have hy : 0 ≤ a ∧ n - pc = 3 := of_decide_eq_true hsd
  obtain rfl : n = pc + 3 := by omega
  rw [hy.2] at hd
  have v1 := abTail hv
  have v2 := abTail v1.2
  exact lv_icmp_eq hX.1 hX.2.1 hd (tgt := a.toNat) (by show (pc : Int) + (a - (pc : Int)) = ((a.toNat : Nat) : Int); omega) (fun q => k1 ((ofI_inj v2.1 v1.1).mp q) p e Rm s m args below meth cd cA H locs lsM Qm hX hR ⟨hr, hl, v2.2, hS⟩ hF) (fun q => k2 (fun z => q ((ofI_inj v2.1 v1.1).mpr z)) p e Rm s m args below meth cd cA H locs lsM Qm hX hR ⟨hr, hl, v2.2, hS⟩ hF)
set_option maxRecDepth 20000 in
theorem abs_icne {l : Launch} {D : va_G} {base : Nat} {ex : Nat → Nat} : abR_icne (abMach l D base ex) := by
  intro d lim i pc ls st cnt A M Q a b c n x y hc  k1 k2
  intro p e Rm s m args below meth cd cA H locs lsM Qm hX hR hs hF
  obtain ⟨hd, hn, hsd⟩ := abDec hc (by decide)
  obtain ⟨hr, hl, hv, hS⟩ := hs
  have hy : 0 ≤ a ∧ n - pc = 3 := of_decide_eq_true hsd
  obtain rfl : n = pc + 3 := by omega
  rw [hy.2] at hd
  have v1 := abTail hv
  have v2 := abTail v1.2
  exact lv_icmp_ne hX.1 hX.2.1 hd (tgt := a.toNat) (by show (pc : Int) + (a - (pc : Int)) = ((a.toNat : Nat) : Int); omega) (fun q => k1 (fun z => q ((ofI_inj v2.1 v1.1).mpr z)) p e Rm s m args below meth cd cA H locs lsM Qm hX hR ⟨hr, hl, v2.2, hS⟩ hF) (fun q => k2 (fun z => z ((ofI_inj v2.1 v1.1).mp q)) p e Rm s m args below meth cd cA H locs lsM Qm hX hR ⟨hr, hl, v2.2, hS⟩ hF)
set_option maxRecDepth 20000 in
theorem abs_iclt {l : Launch} {D : va_G} {base : Nat} {ex : Nat → Nat} : abR_iclt (abMach l D base ex) := by
  intro d lim i pc ls st cnt A M Q a b c n x y hc  k1 k2
  intro p e Rm s m args below meth cd cA H locs lsM Qm hX hR hs hF
  obtain ⟨hd, hn, hsd⟩ := abDec hc (by decide)
  obtain ⟨hr, hl, hv, hS⟩ := hs
  have hy : 0 ≤ a ∧ n - pc = 3 := of_decide_eq_true hsd
  obtain rfl : n = pc + 3 := by omega
  rw [hy.2] at hd
  have v1 := abTail hv
  have v2 := abTail v1.2
  exact lv_icmp_lt hX.1 hX.2.1 hd (tgt := a.toNat) (by show (pc : Int) + (a - (pc : Int)) = ((a.toNat : Nat) : Int); omega) (fun q => k1 ((ofI_lt v2.1 v1.1).mp q) p e Rm s m args below meth cd cA H locs lsM Qm hX hR ⟨hr, hl, v2.2, hS⟩ hF) (fun q => k2 (fun z => q ((ofI_lt v2.1 v1.1).mpr z)) p e Rm s m args below meth cd cA H locs lsM Qm hX hR ⟨hr, hl, v2.2, hS⟩ hF)
set_option maxRecDepth 20000 in
theorem abs_icge {l : Launch} {D : va_G} {base : Nat} {ex : Nat → Nat} : abR_icge (abMach l D base ex) := by
  intro d lim i pc ls st cnt A M Q a b c n x y hc  k1 k2
  intro p e Rm s m args below meth cd cA H locs lsM Qm hX hR hs hF
  obtain ⟨hd, hn, hsd⟩ := abDec hc (by decide)
  obtain ⟨hr, hl, hv, hS⟩ := hs
  have hy : 0 ≤ a ∧ n - pc = 3 := of_decide_eq_true hsd
  obtain rfl : n = pc + 3 := by omega
  rw [hy.2] at hd
  have v1 := abTail hv
  have v2 := abTail v1.2
  exact lv_icmp_ge hX.1 hX.2.1 hd (tgt := a.toNat) (by show (pc : Int) + (a - (pc : Int)) = ((a.toNat : Nat) : Int); omega) (fun q => k1 ((ofI_le v1.1 v2.1).mp q) p e Rm s m args below meth cd cA H locs lsM Qm hX hR ⟨hr, hl, v2.2, hS⟩ hF) (fun q => k2 (fun z => q ((ofI_le v1.1 v2.1).mpr z)) p e Rm s m args below meth cd cA H locs lsM Qm hX hR ⟨hr, hl, v2.2, hS⟩ hF)
set_option maxRecDepth 20000 in
theorem abs_icgt {l : Launch} {D : va_G} {base : Nat} {ex : Nat → Nat} : abR_icgt (abMach l D base ex) := by
  intro d lim i pc ls st cnt A M Q a b c n x y hc  k1 k2
  intro p e Rm s m args below meth cd cA H locs lsM Qm hX hR hs hF
  obtain ⟨hd, hn, hsd⟩ := abDec hc (by decide)
  obtain ⟨hr, hl, hv, hS⟩ := hs
  have hy : 0 ≤ a ∧ n - pc = 3 := of_decide_eq_true hsd
  obtain rfl : n = pc + 3 := by omega
  rw [hy.2] at hd
  have v1 := abTail hv
  have v2 := abTail v1.2
  exact lv_icmp_gt hX.1 hX.2.1 hd (tgt := a.toNat) (by show (pc : Int) + (a - (pc : Int)) = ((a.toNat : Nat) : Int); omega) (fun q => k1 ((ofI_lt v1.1 v2.1).mp q) p e Rm s m args below meth cd cA H locs lsM Qm hX hR ⟨hr, hl, v2.2, hS⟩ hF) (fun q => k2 (fun z => q ((ofI_lt v1.1 v2.1).mpr z)) p e Rm s m args below meth cd cA H locs lsM Qm hX hR ⟨hr, hl, v2.2, hS⟩ hF)
set_option maxRecDepth 20000 in
theorem abs_icle {l : Launch} {D : va_G} {base : Nat} {ex : Nat → Nat} : abR_icle (abMach l D base ex) := by
  intro d lim i pc ls st cnt A M Q a b c n x y hc  k1 k2
  intro p e Rm s m args below meth cd cA H locs lsM Qm hX hR hs hF
  obtain ⟨hd, hn, hsd⟩ := abDec hc (by decide)
  obtain ⟨hr, hl, hv, hS⟩ := hs
  have hy : 0 ≤ a ∧ n - pc = 3 := of_decide_eq_true hsd
  obtain rfl : n = pc + 3 := by omega
  rw [hy.2] at hd
  have v1 := abTail hv
  have v2 := abTail v1.2
  exact lv_icmp_le hX.1 hX.2.1 hd (tgt := a.toNat) (by show (pc : Int) + (a - (pc : Int)) = ((a.toNat : Nat) : Int); omega) (fun q => k1 ((ofI_le v2.1 v1.1).mp q) p e Rm s m args below meth cd cA H locs lsM Qm hX hR ⟨hr, hl, v2.2, hS⟩ hF) (fun q => k2 (fun z => q ((ofI_le v2.1 v1.1).mpr z)) p e Rm s m args below meth cd cA H locs lsM Qm hX hR ⟨hr, hl, v2.2, hS⟩ hF)
set_option maxRecDepth 20000 in
theorem abs_switch {l : Launch} {D : va_G} {base : Nat} {ex : Nat → Nat} : abR_switch (abMach l D base ex) := by
  intro d lim i pc ls st cnt A M Q a b c n x t hc h1 k1
  intro p e Rm s m args below meth cd cA H locs lsM Qm hX hR hs hF
  obtain ⟨hd, hn, hsd⟩ := abDec hc (by decide)
  obtain ⟨hr, hl, hv, hS⟩ := hs
  have v1 := abTail hv
  have K := k1 p e Rm s m args below meth cd cA H locs lsM Qm hX hR ⟨hr, hl, v1.2, hS⟩ hF
  have hx := ofI (show In32 x from v1.1)
  unfold abSide at hsd
  simp only at hsd
  unfold abSwT at h1
  have hd2 : decode (abB i) pc = .ok (abSw a.toNat, n - pc) := hd
  generalize abSw a.toNat = ins at hsd h1 hd2
  cases ins <;> simp only at hsd h1 <;> try (exact absurd hsd (by decide))
  · rename_i dflt ps
    rw [Bool.and_eq_true] at hsd
    exact lv_lookup hX.1 hX.2.1 hd2 hsd.2 rfl (tgt := t) (by show (pc : Int) + Op.lookupswitch.offset ps.toList dflt (Int32.ofInt x).toInt = _; rw [hx]; exact h1) K
  · rename_i dflt lo hi offs
    have hz : 0 ≤ a ∧ (offs.size : Int) = hi - lo + 1 ∧ (pc : Int) < n := of_decide_eq_true hsd
    by_cases q : x < lo ∨ hi < x
    · rw [if_pos q] at h1
      exact lv_tableOut hX.1 hX.2.1 hd2 (by rw [hx]; exact q) (tgt := t) h1 K
    · rw [if_neg q] at h1
      have hlt : (x - lo).toNat < offs.size := by omega
      refine lv_tableIn hX.1 hX.2.1 hd2 (by rw [hx]; omega) (by rw [hx]; omega) (off := offs.getD (x - lo).toNat 0) (tgt := t) ?_ h1 K
      rw [hx, Array.getD_eq_getD_getElem?, Array.getElem?_eq_getElem hlt]
      rfl
theorem abs_forget {l : Launch} {D : va_G} {base : Nat} {ex : Nat → Nat} : abR_forget (abMach l D base ex) := by
  intro d lim i pc ls ls2 st cnt A M Q h1 k1
  intro p e Rm s m args below meth cd cA H locs lsM Qm hX hR hs hF
  obtain ⟨hr, hl, hv, hS⟩ := hs
  obtain ⟨e1, e2⟩ := abLe_spec _ _ h1
  exact k1 p e Rm s m args below meth cd cA H locs lsM Qm hX hR ⟨hr, hl.forget e1 e2, hv, hS⟩ hF
theorem abs_conseq {l : Launch} {D : va_G} {base : Nat} {ex : Nat → Nat} : abR_conseq (abMach l D base ex) := by
  intro d lim i pc ls st cnt A M Q R h1 k1
  intro p e Rm s m args below meth cd cA H locs lsM Qm hX hR hs hF
  exact k1 p e Rm s m args below meth cd cA H locs lsM Qm hX hR hs (fun v A M cA H locs lsM pc hq => hF v A M cA H locs lsM pc (h1 v A M hq))
set_option maxRecDepth 20000 in
theorem abs_max {l : Launch} {D : va_G} {base : Nat} {ex : Nat → Nat} : abR_max (abMach l D base ex) := by
  intro d lim i pc ls st cnt A M Q a b c n x y hc h1 h2 h3 h4 k1
  intro p e Rm s m args below meth cd cA H locs lsM Qm hX hR hs hF
  obtain ⟨hd, hn, hsd⟩ := abDec hc (by decide)
  obtain ⟨hr, hl, hv, hS⟩ := hs
  unfold abSide at hsd
  simp only [Bool.and_eq_true] at hsd
  obtain ⟨q, hq1, hq2⟩ := abOkMem abMaL_ok hsd.1
  have hq3 := eq_of_beq hq2
  subst hq3
  have hy : n - pc = 3 := of_decide_eq_true hsd.2
  obtain rfl : n = pc + 3 := by omega
  rw [hy] at hd
  have v1 := abTail hv
  have v2 := abTail v1.2
  have hx : In32 x := v2.1
  have hyy : In32 y := v1.1
  have K := k1 p e Rm s m args below meth cd cA H locs lsM Qm hX hR ⟨hr, hl, abCons (show In32 (max x y) from ⟨by have := hx.1; omega, by have := hx.2; have := hyy.2; omega⟩) v2.2, hS⟩ hF
  have hts := hX.2.2.2.2.2.2.1
  refine va_mmax hX.1 hX.2.1 (hX.2.2.2.2.1.trans hl.2.1.1.symm) hX.2.2.2.2.2.1 (hts _ (abTb_mem hq1 rfl)) (hts _ (abTb_mem (ab_t3 (List.mem_of_getElem? (i := 144) rfl)) rfl)) (hts _ (abTb_mem (ab_t1 (List.mem_of_getElem? (i := 16) rfl)) rfl)) (hts _ (abTb_mem (ab_t3 (List.mem_of_getElem? (i := 145) rfl)) rfl)) (Nat.le_trans h1 hR.1) ?_ (Nat.le_trans h3 hR.2.2.1) (Nat.le_trans h4 hR.2.2.2) hd (abWeq K ?_ rfl)
  · rw [abCat_sum]; have := hR.2.1; omega
  · show Value.int (Int32.ofInt (max x y)) :: _ = _
    by_cases q : x < y
    · rw [if_pos ((ofI_lt hx hyy).mpr q), show max x y = y by omega]
    · rw [if_neg (fun z => q ((ofI_lt hx hyy).mp z)), show max x y = x by omega]
set_option maxRecDepth 20000 in
theorem abs_min {l : Launch} {D : va_G} {base : Nat} {ex : Nat → Nat} : abR_min (abMach l D base ex) := by
  intro d lim i pc ls st cnt A M Q a b c n x y hc h1 h2 h3 h4 k1
  intro p e Rm s m args below meth cd cA H locs lsM Qm hX hR hs hF
  obtain ⟨hd, hn, hsd⟩ := abDec hc (by decide)
  obtain ⟨hr, hl, hv, hS⟩ := hs
  unfold abSide at hsd
  simp only [Bool.and_eq_true] at hsd
  obtain ⟨q, hq1, hq2⟩ := abOkMem abMaL_ok hsd.1
  have hq3 := eq_of_beq hq2
  subst hq3
  have hy : n - pc = 3 := of_decide_eq_true hsd.2
  obtain rfl : n = pc + 3 := by omega
  rw [hy] at hd
  have v1 := abTail hv
  have v2 := abTail v1.2
  have hx : In32 x := v2.1
  have hyy : In32 y := v1.1
  have K := k1 p e Rm s m args below meth cd cA H locs lsM Qm hX hR ⟨hr, hl, abCons (show In32 (min x y) from ⟨by have := hx.1; have := hyy.1; omega, by have := hx.2; omega⟩) v2.2, hS⟩ hF
  have hts := hX.2.2.2.2.2.2.1
  refine va_mmin hX.1 hX.2.1 (hX.2.2.2.2.1.trans hl.2.1.1.symm) hX.2.2.2.2.2.1 (hts _ (abTb_mem hq1 rfl)) (hts _ (abTb_mem (ab_t3 (List.mem_of_getElem? (i := 130) rfl)) rfl)) (hts _ (abTb_mem (ab_t1 (List.mem_of_getElem? (i := 16) rfl)) rfl)) (hts _ (abTb_mem (ab_t3 (List.mem_of_getElem? (i := 131) rfl)) rfl)) (Nat.le_trans h1 hR.1) ?_ (Nat.le_trans h3 hR.2.2.1) (Nat.le_trans h4 hR.2.2.2) hd (abWeq K ?_ rfl)
  · rw [abCat_sum]; have := hR.2.1; omega
  · show Value.int (Int32.ofInt (min x y)) :: _ = _
    by_cases q : y < x
    · rw [if_pos ((ofI_lt hyy hx).mpr q), show min x y = y by omega]
    · rw [if_neg (fun z => q ((ofI_lt hyy hx).mp z)), show min x y = x by omega]
set_option maxRecDepth 20000 in
theorem abs_abs {l : Launch} {D : va_G} {base : Nat} {ex : Nat → Nat} : abR_abs (abMach l D base ex) := by
  intro d lim i pc ls st cnt A M Q a b c n x hc h1 h2 h3 h4 h5 k1
  intro p e Rm s m args below meth cd cA H locs lsM Qm hX hR hs hF
  obtain ⟨hd, hn, hsd⟩ := abDec hc (by decide)
  obtain ⟨hr, hl, hv, hS⟩ := hs
  unfold abSide at hsd
  simp only [Bool.and_eq_true] at hsd
  obtain ⟨q, hq1, hq2⟩ := abOkMem abMaL_ok hsd.1
  have hq3 := eq_of_beq hq2
  subst hq3
  have hy : n - pc = 3 := of_decide_eq_true hsd.2
  obtain rfl : n = pc + 3 := by omega
  rw [hy] at hd
  have v1 := abTail hv
  have hx : In32 x := v1.1
  have K := k1 p e Rm s m args below meth cd cA H locs lsM Qm hX hR ⟨hr, hl, abCons (show In32 (if 0 ≤ x then x else -x) from by have := hx.1; have := hx.2; split <;> exact ⟨by omega, by omega⟩) v1.2, hS⟩ hF
  have hts := hX.2.2.2.2.2.2.1
  refine va_mabs hX.1 hX.2.1 (hX.2.2.2.2.1.trans hl.2.1.1.symm) hX.2.2.2.2.2.1 (hts _ (abTb_mem hq1 rfl)) (hts _ (abTb_mem (ab_t3 (List.mem_of_getElem? (i := 95) rfl)) rfl)) (hts _ (abTb_mem (ab_t1 (List.mem_of_getElem? (i := 16) rfl)) rfl)) (hts _ (abTb_mem (ab_t3 (List.mem_of_getElem? (i := 96) rfl)) rfl)) (Nat.le_trans h1 hR.1) ?_ (Nat.le_trans h4 hR.2.2.1) (Nat.le_trans h5 hR.2.2.2) hd (abWeq K ?_ rfl)
  · rw [abCat_sum]; have := hR.2.1; omega
  · show Value.int (Int32.ofInt (if 0 ≤ x then x else -x)) :: _ = _
    by_cases q : 0 ≤ x
    · rw [if_pos q, if_pos ((z_ge hx).mpr q)]
    · rw [if_neg q, if_neg (fun z => q ((z_ge hx).mp z)), Int32.ofInt_neg, ← Int32.zero_sub]

