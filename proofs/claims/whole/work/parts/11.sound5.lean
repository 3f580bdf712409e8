-- the tables' facts move
theorem abAOA_moved {t : FieldType} {u U : State} (hvm : u.vm.Alike U.vm) (h : (Cond.arrayOver (.array t)).before #[] u = true) : (Cond.arrayOver (.array t)).before #[] U = true := by
  obtain ⟨comp, c, k, h1, h2, h3, h4, h5⟩ := arrayOverA_spec h
  obtain ⟨k', hk', he⟩ := hvm.2.2 _ _ h3
  have hi : (U.vm.classes.findIdx? fun (x : Class) => match x.kind with | .array component _ => component == comp | _ => false) = some c := by
    have e1 := va_idx_bare U.vm comp
    have e2 := va_idx_bare u.vm comp
    have hb : u.vm.bare = U.vm.bare := by first | exact hvm.bare_eq | exact hvm.bare_eq.symm
    rw [hb] at e2
    exact (e1.symm.trans e2).trans h2
  have hkind : k'.kind = .array comp (.array t) := by rw [he]; exact h4
  have f1 : U.vm.findClass (FieldType.array t).toString = some comp := by rw [hvm.findClass]; exact h1
  have f2 : U.vm.findClass ("[" ++ (FieldType.array t).toString) = some c := by rw [hvm.findClass]; exact h5
  unfold Cond.before Cond.holds
  simp only [Cond.value]
  rw [f1, Option.bind_some]
  refine (congrArg (fun o : Option Nat => (o.bind (fun c => (U.vm.classes[c]?).map fun (k : Class) => match k.kind with | .array _ ty => decide (ty = FieldType.array t) && decide (U.vm.findClass ("[" ++ (FieldType.array t).toString) = some c) | _ => false) == some true)) hi).trans ?_
  simp [hk', hkind, f2]
theorem abSt_warm {D : va_G} {ex : Nat → Nat} {s U : State} (hW : s.WarmedH U.vm) (h : abSt D ex s) : abSt D ex U := by
  obtain ⟨h1, h2, h3, h4, h5, h6⟩ := h
  refine ⟨va_K.moved hW.alike h1, fun w hw hi => ?_, abAOA_moved hW.alike h3, abAOA_moved hW.alike h4, va_AO.moved hW.alike h5, fun i q hq => vk_R.warm hW (h6 i q hq)⟩
  have h7 := h2 w hw hi
  cases w <;> first | (exact absurd hi (by decide)) | exact va_Nw.warmF hW h7 | exact va_Nw.warmM hW h7 | (simp [abIsN] at hi)
theorem abSt_vm {D : va_G} {ex : Nat → Nat} {s U : State} (hv : s.vm = U.vm) (h : abSt D ex s) : abSt D ex U := by
  obtain ⟨h1, h2, h3, h4, h5, h6⟩ := h
  have hal : s.vm.Alike U.vm := by rw [hv]; exact Vm.Alike.refl _
  refine ⟨va_K.moved hal h1, fun w hw hi => ?_, abAOA_moved hal h3, abAOA_moved hal h4, va_AO.moved hal h5, fun i q hq => vk_R.same hv.symm (h6 i q hq)⟩
  have h7 := h2 w hw hi
  cases w <;> first | (exact absurd hi (by decide)) | exact va_Nw.same rfl hv h7 | (simp [abIsN] at hi)
theorem abEx_moved {base : Nat} {ex : Nat → Nat} {s U : State} {H H1 : Heap} (hvm : s.vm.Alike U.vm) (hq : ∀ q : Nat, q < base → H1[q]? = H[q]?) (h : abEx base ex s H) : abEx base ex U H1 := by
  have hq2 : ∀ a : Nat, a < H.size → ¬ (fun q => base ≤ q) a → H1[a]? = H[a]? := fun a _ h2 => hq a (Nat.not_le.mp h2)
  obtain ⟨h1, h2, h3⟩ := h
  refine ⟨(vk_S.moved hvm h1).kept hq2, (va_Z.moved hvm h2).kept hq2, ?_⟩
  rcases h3 with h3 | h3
  · exact Or.inl ((va_Z.moved hvm h3).kept hq2)
  · exact Or.inr ((va_Z.moved hvm h3).kept hq2)
theorem abCa_moved {s U : State} {cA : Nat → ClassId} {A : abAl} (hvm : s.vm.Alike U.vm) (h : abCa s cA A) : abCa U cA A := fun a ha hk => ⟨arrOfT_moved hvm (h a ha hk).1, va_RA.moved hvm (h a ha hk).2⟩
theorem abScr_moved {base : Nat} {ex : Nat → Nat} {s U : State} {A : abAl} {M : abMem} {H H1 : Heap} (hvm : s.vm.Alike U.vm) (hq : ∀ q : Nat, q < base → H1[q]? = H[q]?) (hz : base ≤ H1.size) (h : abScr base ex A M s H) : abScr base ex A M U H1 := fun hk => by
  obtain ⟨L, e1, e2, ⟨scr, x1, x2, x3, x4, x5⟩, e4, e5⟩ := h hk
  exact ⟨L, e1, e2, ⟨scr, by rw [hq _ e4]; exact x1, State.isArrayOf_alike hvm x2, x3, x4, x5⟩, e4, hz⟩
-- the locals at a method's begin
theorem abEnt_len : ∀ (as : List abV) (L : Nat), abSz as ≤ L → (abEnt L as).length = L := by
  intro as
  induction as with
  | nil => intro L _; simp [abEnt]
  | cons v r ih =>
    intro L h
    rcases v with x | x | x
    · have h : 1 + abSz r ≤ L := h
      show (_ :: abEnt (L - 1) r).length = L
      rw [List.length_cons, ih _ (by omega)]; omega
    · have h : 2 + abSz r ≤ L := h
      show (_ :: _ :: abEnt (L - 2) r).length = L
      rw [List.length_cons, List.length_cons, ih _ (by omega)]; omega
    · have h : 1 + abSz r ≤ L := h
      show (_ :: abEnt (L - 1) r).length = L
      rw [List.length_cons, ih _ (by omega)]; omega
theorem abEnt_sl (base : Nat) (ex : Nat → Nat) : ∀ as : List abV, (lg_sl (as.map (abCv base ex))).length = abSz as := by
  intro as
  induction as with
  | nil => rfl
  | cons v r ih =>
    show (List.flatMap _ (abCv base ex v :: r.map (abCv base ex))).length = _
    rw [List.flatMap_cons, List.length_append]
    have ih2 : (List.flatMap (fun v : Value => if v.category = 2 then [Slot.val v, .second] else [.val v]) (r.map (abCv base ex))).length = abSz r := ih
    rw [ih2]
    rcases v with x | x | x
    · rfl
    · rfl
    · cases x <;> rfl
theorem abEnt_args (base : Nat) (ex : Nat → Nat) : ∀ (as : List abV) (L off k : Nat) (v : abV), (abEnt L as)[k]? = some (some v) → (off + k, abCv base ex v) ∈ lv_args off (as.map (abCv base ex)) ∧ v ∈ as := by
  intro as
  induction as with
  | nil =>
    intro L off k v h
    simp only [abEnt] at h
    rw [List.getElem?_replicate] at h
    split at h <;> cases h
  | cons w r ih =>
    intro L off k v h
    have one : ∀ (hc : (abCv base ex w).category = 1), (some w :: abEnt (L - 1) r)[k]? = some (some v) → (off + k, abCv base ex v) ∈ lv_args off ((w :: r).map (abCv base ex)) ∧ v ∈ w :: r := by
      intro hc h
      show _ ∈ (off, abCv base ex w) :: lv_args (if (abCv base ex w).category = 2 then off + 2 else off + 1) (r.map (abCv base ex)) ∧ _
      rw [hc, if_neg (by decide)]
      cases k with
      | zero =>
        have h : some w = some v := by simpa using h
        cases h
        exact ⟨List.mem_cons_self, List.mem_cons_self⟩
      | succ k =>
        have h : (abEnt (L - 1) r)[k]? = some (some v) := by simpa using h
        obtain ⟨e1, e2⟩ := ih _ (off + 1) k v h
        exact ⟨List.mem_cons_of_mem _ (by rw [show off + (k + 1) = off + 1 + k by omega]; exact e1), List.mem_cons_of_mem _ e2⟩
    rcases w with x | x | x
    · exact one rfl h
    · show _ ∈ (off, Value.long x) :: lv_args (off + 2) (r.map (abCv base ex)) ∧ _
      have h : (some (.inr (.inl x)) :: none :: abEnt (L - 2) r)[k]? = some (some v) := h
      cases k with
      | zero =>
        have h : (.inr (.inl x) : abV) = v := by simpa using h
        cases h
        exact ⟨List.mem_cons_self, List.mem_cons_self⟩
      | succ k =>
        cases k with
        | zero => simp at h
        | succ k =>
          have h : (abEnt (L - 2) r)[k]? = some (some v) := by simpa using h
          obtain ⟨e1, e2⟩ := ih _ (off + 2) k v h
          exact ⟨List.mem_cons_of_mem _ (by rw [show off + (k + 1 + 1) = off + 2 + k by omega]; exact e1), List.mem_cons_of_mem _ e2⟩
    · exact one (abCv_cat base ex (vr x)) h
theorem abEnt_ls {base : Nat} {ex : Nat → Nat} {n L : Nat} {as : List abV} (h : abSz as ≤ L) (hv : ∀ v ∈ as, abVv n v) : abLs base ex n L ((lg_sl (as.map (abCv base ex)) ++ List.replicate (L - (lg_sl (as.map (abCv base ex))).length) Slot.unset).toArray) (abEnt L as) := by
  have hE := lv_entry (as.map (abCv base ex)) (n := L) (by rw [abEnt_sl]; exact h)
  refine ⟨abEnt_len as L h, ⟨hE.1, hE.2.1, fun q hq => ?_⟩, fun k v hk => ?_⟩
  · obtain ⟨v, h1, h2⟩ := abKl_mem.mp hq
    have h3 := (abEnt_args base ex as L 0 q.1 v h1).1
    rw [Nat.zero_add, ← h2] at h3
    exact hE.2.2 q h3
  · exact hv v (abEnt_args base ex as L 0 k v hk).2
/-- what a call finds -/
def abPc (D : va_G) (base : Nat) (ex : Nat → Nat) (cA : Nat → ClassId) (A : abAl) (M : abMem) (as : List abV) : Array Value → State → Prop := fun v U => v = (as.map (abCv base ex)).toArray ∧ abSt D ex U ∧ abEx base ex U U.heap ∧ base ≤ U.heap.size ∧ abHr D base ex U cA A M U.heap
/-- what a call leaves -/
def abQc (D : va_G) (base : Nat) (ex : Nat → Nat) (R : abQ) : Array Value → State → Outcome → State → Prop := fun _ st o t => ∃ (v : Option abV) (A : abAl) (M : abMem) (cA : Nat → ClassId), R v A M ∧ o = .returned (v.map (abCv base ex)) ∧ (∀ w, v = some w → abVv 0 w) ∧ abHp D base ex cA A M t.heap ∧ abOkA A ∧ abOkM A.1 M ∧ abCa t cA A ∧ abScr base ex A M t t.heap ∧ st.heap.size ≤ t.heap.size ∧ ∀ q : Nat, q < base → t.heap[q]? = st.heap[q]?
theorem abPc_blind {D : va_G} {base : Nat} {ex : Nat → Nat} {cA : Nat → ClassId} {A : abAl} {M : abMem} {as : List abV} : FrameBlind (abPc D base ex cA A M as) := fun a U g mk h => by
  obtain ⟨h1, h2, h3, h4, h5, h6, h7, h8, h9⟩ := h
  exact ⟨h1, abSt_vm (s := U) (U := U.calling g mk a) rfl h2, abEx_moved (s := U) (U := U.calling g mk a) (Vm.Alike.refl U.vm) (fun _ _ => rfl) h3, h4, h5, h6, h7, abCa_moved (s := U) (U := U.calling g mk a) (Vm.Alike.refl U.vm) h8, abScr_moved (s := U) (U := U.calling g mk a) (Vm.Alike.refl U.vm) (fun _ _ => rfl) h4 h9⟩
noncomputable def abWs (i : Nat) : List Cond := Cond.code (abY i) (abB i) (abL i) (abRet i) :: abTb
theorem abWs_good {i : Nat} (h : i < 297) : GoodIn abTb (abWs i) := fun w hw => by
  rcases List.mem_cons.mp hw with e | e
  · rw [e]; exact abTb_good _ (abTb_mem (abM_ok h).1 rfl)
  · exact abTb_good w e
set_option maxRecDepth 20000 in
/-- a method's contract out of its run in the small machine -/
theorem abMet {l : Launch} {D : va_G} {base : Nat} {ex : Nat → Nat} {e mc ms i : Nat} {as : List abV} {A : abAl} {M : abMem} {R : abQ} {cA : Nat → ClassId} (hi : i < 297) (hsz : abSz as ≤ abL i) (hv : ∀ v ∈ as, abVv A.1 v) (k : abMach l D base ex e (mc, ms) i 0 (abEnt (abL i) as) [] (0, 0) A M R) :
    Met l (abY i) (abWs i) ({ frames := e, cells := mc, slots := ms, locals := 38 * e }) (abPc D base ex cA A M as) (abQc D base ex R) mc ms (fun q => base ≤ q) := by
  have hok := abM_ok hi
  refine Met.ofW (cc := abB i) (maxL := abL i) (ret := abRet i) hok.2.2.2.2.1 rfl ?_
  intro p e0 s m args below meth c s₁ B hml hPc
  obtain ⟨hargs, hSt, hEx, hbs, hHr⟩ := hPc
  have hts : ∀ w ∈ abWs i, w.before args s = true := atoms_spec (ws := abWs i) B.pre
  have hX : abCx D base ex i p s m args meth c := ⟨B.exec, B.bytes, B.returns, B.notSynchronized, hml, by rw [show abR (abOwn i) = (abY i).cls from hok.2.2.1]; exact findClass_of_methodNamed B.named, fun w hw => hts w (List.mem_cons_of_mem _ hw), fun _ => (name_of_methodNamed B.named B.method).1, hSt, hEx, hbs⟩
  subst hargs
  rw [lg_entry_eq]
  refine k p e0 _ s m _ below meth c cA s.heap [] _ _ hX ⟨Nat.le_refl _, Nat.le_refl _, Nat.le_refl _, Nat.le_refl _⟩ ⟨hHr, abEnt_ls hsz hv, (fun v hv => by cases hv), va_S.rf⟩ ?_
  intro v A2 M2 cA2 H2 locs2 lsM2 pc2 hQ hHr2 hS2 hRt
  obtain ⟨g1, g2, g3, g4, g5⟩ := hHr2
  have fin : ∀ t : State, t.heap = H2 → s.WarmedH t.vm → (∀ w, v = some w → abVv 0 w) → abQc D base ex R ((as.map (abCv base ex)).toArray) s (.returned (v.map (abCv base ex))) t := by
    intro t ht hW hvv
    have hfr2 : ∀ q : Nat, q < base → t.heap[q]? = s.heap[q]? := fun q hq => by rw [ht]; exact hS2.2.1 q (Nat.lt_of_lt_of_le hq hbs) (Nat.not_le.mpr hq)
    refine ⟨v, A2, M2, cA2, hQ, rfl, hvv, by rw [ht]; exact g1, g2, g3, abCa_moved hW.alike g4, abScr_moved hW.alike hfr2 (by rw [ht]; exact Nat.le_trans hbs hS2.1) g5, by rw [ht]; exact hS2.1, hfr2⟩
  have hlocks := B.notSynchronized
  rcases hRt with ⟨rfl, hd, hret⟩ | ⟨x, rfl, hx, hd, ty, hret, hnar⟩
  · exact W.vret B.exec B.bytes (B.returns.trans hret) (fun t ht hW => fin t ht hW (fun w hw => by cases hw)) hS2.2.2 hd
  · exact W.zret B.exec B.bytes (B.returns.trans hret) hnar (fun t ht hW => fin t ht hW (fun w hw => by cases hw; exact hx)) hS2.2.2 hd
set_option maxRecDepth 20000 in
/-- behind a call -/
theorem abGo {l : Launch} {D : va_G} {base : Nat} {ex : Nat → Nat} {d : Nat} {lim : Nat × Nat} {i pc mc ms : Nat} {ls : List (Option abV)} {st st0 : List abV} {cnt : Nat × Nat} {A : abAl} {M : abMem} {Q R : abQ} {p : Program} {e9 : Env} {Rm : Room} {s : State} {m : MethodId} {args vs : Array Value} {below : List Frame} {meth : Method} {cd : Code} {cA : Nat → ClassId} {H : Heap} {locs : List Loc} {lsM : Array Slot} {Qm : State → Prop}
    (hX : abCx D base ex i p s m args meth cd) (hR : abRo d lim Rm) (hs : abSs D base ex i s ls st A M cA H locs lsM) (hF : abFi D base ex i p l e9 Rm s m args below meth cd lim Q Qm)
    (hr : va_Run p l e9 Rm s m args below meth cd H locs cnt.1 cnt.2 mc ms (F0 m pc lsM (st0.map (abCv base ex))) (st.map (abCv base ex)) (abQc D base ex R vs) (fun q => base ≤ q))
    (kk : ∀ (v : Option abV) (A2 : abAl) (M2 : abMem), R v A2 M2 → abMach l D base ex d lim i (pc + 3) ls (v.toList ++ st) (cnt.1 + mc, cnt.2 + ms) A2 M2 Q) : W p l e9 Rm s m args below meth cd H locs cnt.1 cnt.2 Qm (F0 m pc lsM (st0.map (abCv base ex))) := by
  intro T hT X
  obtain ⟨v, st₀, t, T', L, h0, X', hL, e1, e2, ⟨v2, A2, M2, cA2, hQ, ho, hvv, g1, g2, g3, g4, g5, g6, g7⟩, stp⟩ := hr T hT X
  cases ho
  obtain ⟨hHr, hl, hv, hS⟩ := hs
  have hal : t.vm.Alike s.vm := by rw [← e2]; exact X'.warmed.alike.symm
  rw [h0] at g6 g7
  have hbs := hX.2.2.2.2.2.2.2.2.2.2
  have hfr : ∀ q : Nat, q < base → H[q]? = s.heap[q]? := fun q hq => hS.2.1 q (Nat.lt_of_lt_of_le hq hbs) (Nat.not_le.mpr hq)
  have hle : A.1 ≤ A2.1 := by have := g1.1; have := hHr.1.1; omega
  have hSc : abScr base ex A2 M2 s s.heap := abScr_moved hal (fun q hq => by rw [g7 q hq, hfr q hq]) hbs g5
  have K := kk v2 A2 M2 hQ p e9 Rm s m args below meth cd cA2 T'.heap (locs ++ L) lsM Qm hX hR ⟨⟨by rw [e1]; exact g1, g2, g3, abCa_moved hal g4, hSc⟩, ⟨hl.1, hl.2.1, fun k v hk => abVv_mono (hl.2.2 k v hk) hle⟩, fun w hw => by
      rcases List.mem_append.mp hw with q | q
      · have : v2 = some w := by cases v2 with
          | none => cases q
          | some z => rw [List.mem_singleton.mp q]
        exact abVv_mono (hvv w this) (Nat.zero_le _)
      · exact abVv_mono (hv w q) hle, ⟨Nat.le_trans hS.1 (by rw [e1]; exact g6), fun q q1 q2 => by rw [e1, g7 q (Nat.not_le.mp q2)]; exact hS.2.1 q q1 q2, fun q hq => by
      rcases List.mem_append.mp hq with h | h
      · exact hS.2.2 q h
      · exact hL q h⟩⟩ hF T' rfl X'
  obtain ⟨t2, a1, b1⟩ := K
  refine ⟨t2, stp t2 ?_, b1⟩
  have e3 : (v2.toList ++ st).map (abCv base ex) = (v2.map (abCv base ex)).toList ++ st.map (abCv base ex) := by
    rw [List.map_append]
    cases v2 <;> rfl
  rw [e3] at a1
  exact a1
theorem abGoS {l : Launch} {D : va_G} {base : Nat} {ex : Nat → Nat} {d : Nat} {lim : Nat × Nat} {i pc mc ms : Nat} {ls : List (Option abV)} {st st0 : List abV} {sv : List Value} {cnt : Nat × Nat} {A : abAl} {M : abMem} {Q R : abQ} {p : Program} {e9 : Env} {Rm : Room} {s : State} {m : MethodId} {args vs : Array Value} {below : List Frame} {meth : Method} {cd : Code} {cA : Nat → ClassId} {H : Heap} {locs : List Loc} {lsM : Array Slot} {Qm : State → Prop}
    (hX : abCx D base ex i p s m args meth cd) (hR : abRo d lim Rm) (hs : abSs D base ex i s ls st0 A M cA H locs lsM) (hF : abFi D base ex i p l e9 Rm s m args below meth cd lim Q Qm)
    (hr : va_Run p l e9 Rm s m args below meth cd H locs cnt.1 cnt.2 mc ms (F0 m pc lsM sv) (st.map (abCv base ex)) (abQc D base ex R vs) (fun q => base ≤ q)) (hsv : st0.map (abCv base ex) = sv) (hsub : ∀ v ∈ st, v ∈ st0)
    (kk : ∀ (v : Option abV) (A2 : abAl) (M2 : abMem), R v A2 M2 → abMach l D base ex d lim i (pc + 3) ls (v.toList ++ st) (cnt.1 + mc, cnt.2 + ms) A2 M2 Q) : W p l e9 Rm s m args below meth cd H locs cnt.1 cnt.2 Qm (F0 m pc lsM sv) := by
  subst hsv
  obtain ⟨h1, h2, h3, h4⟩ := hs
  exact abGo hX hR ⟨h1, h2, fun v hv => h3 v (hsub v hv), h4⟩ hF hr kk

theorem abOwn_lt2 : ∀ i, i < 297 → abOwn i < 20 ∨ abOwn i = 20 := by
  have h : (List.range 297).all (fun i => decide (abOwn i < 20) || decide (abOwn i = 20)) = true := by decide +kernel
  intro i hi
  have := List.all_eq_true.mp h i (List.mem_range.mpr hi)
  simpa using this
theorem abOwn_lt (i : Nat) (hi : i < 297) : abOwn i < 20 ∨ abOwn i = 20 := abOwn_lt2 i hi
/-- the class of checkIndex has no objects -/
theorem abOwn_20 : ∀ i, i < 297 → abOwn i = 20 → abKd i = 0 := by
  have h : (List.range 297).all (fun i => !(decide (abOwn i = 20)) || decide (abKd i = 0)) = true := by decide +kernel
  intro i hi h2
  have := List.all_eq_true.mp h i (List.mem_range.mpr hi)
  simpa [h2] using this
set_option maxRecDepth 20000 in
theorem abs_callV {l : Launch} {D : va_G} {base : Nat} {ex : Nat → Nat} : abR_callV (abMach l D base ex) := by
  intro d lim i pc ls st cnt A M Q a b c n e o as st0 mc ms R hc h1 h2 h3 h4 h5 h6 h7 h8 k1 k2
  intro p e9 Rm s m args below meth cd cA H locs lsM Qm hX hR hs hF
  obtain ⟨hd, hn, hsd⟩ := abDec hc (by decide)
  have hs0 := hs
  obtain ⟨hr, hl, hv, hS⟩ := hs
  unfold abSide at hsd
  simp only [Bool.and_eq_true] at hsd
  obtain ⟨q, hq1, hq2⟩ := abOkMem abMlL_ok hsd.1
  have hq3 := eq_of_beq hq2
  subst hq3
  have hy := of_decide_eq_true hsd.2
  obtain rfl : n = pc + 3 := by omega
  have hd2 := hd
  rw [show pc + 3 - pc = 3 by omega] at hd2
  have hi : a.toNat < 297 := hq1.1
  have hok := abM_ok hi
  have hkd : (abM a.toNat).2.2.2.2.2.1 = 1 := hy.1
  have hkne : 1 ≠ 0 → (abM a.toNat).2.2.2.2.2.1 ≠ 0 := fun z => by rw [hkd]; exact z
  have hts := hX.2.2.2.2.2.2.1
  have hst := hX.2.2.2.2.2.2.2.2.1
  have hn2 : (parseMethodDescriptor (abY a.toNat).desc).map (fun d => d.parameters.length) = some (abNa a.toNat) := hok.2.2.2.2.2.2.2.2.2.2
  have hna : abNa a.toNat = as.length := by omega
  rw [hna] at hn2
  subst h1
  subst h2
  have vR : abVv A.1 (vr (some o)) ∧ ∀ w ∈ as, abVv A.1 w := ⟨hv _ (by simp), fun w hw => hv w (by simp [hw])⟩
  have hM := abMet (l := l) (D := D) (base := base) (ex := ex) (e := e) (mc := mc) (ms := ms) (R := R) hi h4 (abCons vR.1 vR.2) k1 (cA := cA)
  have hFr : ∀ U : State, U.heap = H → s.WarmedH U.vm → abPc D base ex cA A M (vr (some o) :: as) (Value.ref (abAd base ex o) :: as.map (abCv base ex)).toArray U := fun U hU hW => ⟨by show _ = (abCv base ex (vr (some o)) :: _).toArray; simp only [abCv, Option.map_some, va_rf], abSt_warm hW hst, abEx_moved hW.alike (fun q hq => by rw [hU]; exact hS.2.1 q (Nat.lt_of_lt_of_le hq hX.2.2.2.2.2.2.2.2.2.2) (Nat.not_le.mpr hq)) hX.2.2.2.2.2.2.2.2.2.1, by rw [hU]; exact Nat.le_trans hX.2.2.2.2.2.2.2.2.2.2 hS.1, by rw [hU]; exact hr.1, hr.2.1, hr.2.2.1, abCa_moved hW.alike hr.2.2.2.1, abScr_moved hW.alike (fun q hq => by rw [hU]; exact hS.2.1 q (Nat.lt_of_lt_of_le hq hX.2.2.2.2.2.2.2.2.2.2) (Nat.not_le.mpr hq)) (by rw [hU]; exact Nat.le_trans hX.2.2.2.2.2.2.2.2.2.2 hS.1) hr.2.2.2.2⟩
  have hstk : (as.reverse ++ vr (some o) :: st).map (abCv base ex) = (as.map (abCv base ex)).reverse ++ .ref (abAd base ex o) :: st.map (abCv base ex) := by rw [List.map_append, List.map_reverse]; rfl
  have hcell : ∃ cell : Cell, H[abAd base ex o]? = some cell ∧ cell.vm.isStatics = false ∧ s.vm.findClass (abY a.toNat).cls = some cell.cls := by
    have ho11 : (A.2 o).1 < 11 := by
      rcases Nat.lt_or_ge o A.1 with q | q
      · rcases (hr.2.1.2.1 o q).1 with z | z
        · exact z
        · exfalso
          have := abOwn_lt a.toNat hi
          have h20 := abOwn_20 a.toNat hi
          omega
      · exfalso
        have := abOwn_lt a.toNat hi
        have h20 := abOwn_20 a.toNat hi
        rcases hr.2.1.2.2 o q with z | ⟨-, z⟩ <;> omega
    have ho : o < A.1 := hr.2.1.lt (by omega) (by omega)
    have hat := hr.1.2 o ho
    have hob : abOb base ex cA A.2 M o = .inr ((A.2 o).1, abFs base ex (A.2 o).1 o M) := by unfold abOb; rw [if_pos (by omega)]
    rw [hob] at hat
    obtain ⟨r, z1, cell, z2, z3, z4, -⟩ := hat
    have hcl := abCl_ok _ _ z1
    refine ⟨cell, by rw [abAd_lt hr.2.1 ho]; exact z2, by rw [z4]; rfl, ?_⟩
    rw [z3, ← show abR (abOwn a.toNat) = (abY a.toNat).cls from hok.2.2.1, ← h8, hcl.2.2.2.2.2.2.2.1]
    exact (hst.1.1 _ _ z1).2.1
  rw [hstk]
  refine abGoS hX hR hs0 hF (va_runV (C := (abY a.toNat).cls) ⟨hX.1, hX.2.1, hX.2.2.2.2.1, hX.2.2.2.2.2.1, hts⟩ hM ⟨callB_of as.length hts (abWs_good hi) rfl rfl rfl (hts _ (abTb_mem hok.2.1 rfl)) (hts _ (abTb_mem (hq1.2.2 rfl) rfl)) ⟨hok.2.2.2.1.1, hok.2.2.2.1.2, hn2⟩ ⟨Nat.le_trans (Nat.le_refl _) hR.1, by have h9 := hR.2.1; have h10 : (abL a.toNat) ≤ 19 := hok.2.2.2.2.2.1; show 8 + (abL a.toNat + 11) + 38 * e ≤ _; omega⟩, hts _ (abTb_mem (hok.2.2.2.2.2.2.2.1 (hkne (by decide))) rfl), hts _ (abTb_mem (hok.2.2.2.2.2.2.2.2.1 hkd) rfl)⟩ ⟨abPc_blind, hcell, hFr⟩ rfl (List.length_map _) (hl.2.1.1) rfl (lv_room (by rw [abCat_sum]; exact h5)) hd2 ⟨Nat.le_trans h6 hR.2.2.1, Nat.le_trans h7 hR.2.2.2⟩) hstk (fun v hv => by simp [hv]) k2
set_option maxRecDepth 20000 in
theorem abs_callVN {l : Launch} {D : va_G} {base : Nat} {ex : Nat → Nat} : abR_callVN (abMach l D base ex) := by
  intro d lim i pc ls st cnt A M Q a b c n e o as st0 mc ms R hc h1 h2 h3 h4 h5 h6 h7 h8 k1 k2
  intro p e9 Rm s m args below meth cd cA H locs lsM Qm hX hR hs hF
  obtain ⟨hd, hn, hsd⟩ := abDec hc (by decide)
  have hs0 := hs
  obtain ⟨hr, hl, hv, hS⟩ := hs
  unfold abSide at hsd
  simp only [Bool.and_eq_true] at hsd
  obtain ⟨q, hq1, hq2⟩ := abOkMem abMlL_ok hsd.1
  have hq3 := eq_of_beq hq2
  subst hq3
  have hy := of_decide_eq_true hsd.2
  obtain rfl : n = pc + 3 := by omega
  have hd2 := hd
  rw [show pc + 3 - pc = 3 by omega] at hd2
  have hi : a.toNat < 297 := hq1.1
  have hok := abM_ok hi
  have hkd : (abM a.toNat).2.2.2.2.2.1 = 1 := hy.1
  have hkne : 1 ≠ 0 → (abM a.toNat).2.2.2.2.2.1 ≠ 0 := fun z => by rw [hkd]; exact z
  have hts := hX.2.2.2.2.2.2.1
  have hst := hX.2.2.2.2.2.2.2.2.1
  have hn2 : (parseMethodDescriptor (abY a.toNat).desc).map (fun d => d.parameters.length) = some (abNa a.toNat) := hok.2.2.2.2.2.2.2.2.2.2
  have hna : abNa a.toNat = as.length := by omega
  rw [hna] at hn2
  subst h1
  subst h2
  have vR : abVv A.1 (vr (some o)) ∧ ∀ w ∈ as, abVv A.1 w := ⟨hv _ (by simp), fun w hw => hv w (by simp [hw])⟩
  have hM := abMet (l := l) (D := D) (base := base) (ex := ex) (e := e) (mc := mc) (ms := ms) (R := R) hi h4 (abCons vR.1 vR.2) k1 (cA := cA)
  have hFr : ∀ U : State, U.heap = H → s.WarmedH U.vm → abPc D base ex cA A M (vr (some o) :: as) (Value.ref (abAd base ex o) :: as.map (abCv base ex)).toArray U := fun U hU hW => ⟨by show _ = (abCv base ex (vr (some o)) :: _).toArray; simp only [abCv, Option.map_some, va_rf], abSt_warm hW hst, abEx_moved hW.alike (fun q hq => by rw [hU]; exact hS.2.1 q (Nat.lt_of_lt_of_le hq hX.2.2.2.2.2.2.2.2.2.2) (Nat.not_le.mpr hq)) hX.2.2.2.2.2.2.2.2.2.1, by rw [hU]; exact Nat.le_trans hX.2.2.2.2.2.2.2.2.2.2 hS.1, by rw [hU]; exact hr.1, hr.2.1, hr.2.2.1, abCa_moved hW.alike hr.2.2.2.1, abScr_moved hW.alike (fun q hq => by rw [hU]; exact hS.2.1 q (Nat.lt_of_lt_of_le hq hX.2.2.2.2.2.2.2.2.2.2) (Nat.not_le.mpr hq)) (by rw [hU]; exact Nat.le_trans hX.2.2.2.2.2.2.2.2.2.2 hS.1) hr.2.2.2.2⟩
  have hstk : (as.reverse ++ vr (some o) :: st).map (abCv base ex) = (as.map (abCv base ex)).reverse ++ .ref (abAd base ex o) :: st.map (abCv base ex) := by rw [List.map_append, List.map_reverse]; rfl
  have hcell : ∃ cell : Cell, H[abAd base ex o]? = some cell ∧ cell.vm.isStatics = false ∧ s.vm.findClass (abY a.toNat).cls = some cell.cls := by
    have ho11 : (A.2 o).1 < 11 := by
      rcases Nat.lt_or_ge o A.1 with q | q
      · rcases (hr.2.1.2.1 o q).1 with z | z
        · exact z
        · exfalso
          have := abOwn_lt a.toNat hi
          have h20 := abOwn_20 a.toNat hi
          omega
      · exfalso
        have := abOwn_lt a.toNat hi
        have h20 := abOwn_20 a.toNat hi
        rcases hr.2.1.2.2 o q with z | ⟨-, z⟩ <;> omega
    have ho : o < A.1 := hr.2.1.lt (by omega) (by omega)
    have hat := hr.1.2 o ho
    have hob : abOb base ex cA A.2 M o = .inr ((A.2 o).1, abFs base ex (A.2 o).1 o M) := by unfold abOb; rw [if_pos (by omega)]
    rw [hob] at hat
    obtain ⟨r, z1, cell, z2, z3, z4, -⟩ := hat
    have hcl := abCl_ok _ _ z1
    refine ⟨cell, by rw [abAd_lt hr.2.1 ho]; exact z2, by rw [z4]; rfl, ?_⟩
    rw [z3, ← show abR (abOwn a.toNat) = (abY a.toNat).cls from hok.2.2.1, ← h8, hcl.2.2.2.2.2.2.2.1]
    exact (hst.1.1 _ _ z1).2.1
  obtain ⟨host, hw⟩ := hq1.2.1 rfl
  rw [hstk]
  refine abGoS hX hR hs0 hF (va_runVN (C := (abY a.toNat).cls) (host := host) ⟨hX.1, hX.2.1, hX.2.2.2.2.1, hX.2.2.2.2.2.1, hts⟩ hM ⟨va_cnB as.length hts (abWs_good hi) rfl rfl rfl (hst.2.1 _ hw rfl) (hts _ (abTb_mem hok.2.1 rfl)) ⟨hok.2.2.2.1.1, hok.2.2.2.1.2, hn2⟩ ⟨Nat.le_trans (Nat.le_refl _) hR.1, by have h9 := hR.2.1; have h10 : (abL a.toNat) ≤ 19 := hok.2.2.2.2.2.1; show 8 + (abL a.toNat + 11) + 38 * e ≤ _; omega⟩, hts _ (abTb_mem (hok.2.2.2.2.2.2.2.1 (hkne (by decide))) rfl), hts _ (abTb_mem (hok.2.2.2.2.2.2.2.2.1 hkd) rfl)⟩ ⟨abPc_blind, hcell, hFr⟩ rfl (List.length_map _) (hl.2.1.1) rfl (lv_room (by rw [abCat_sum]; exact h5)) hd2 ⟨Nat.le_trans h6 hR.2.2.1, Nat.le_trans h7 hR.2.2.2⟩) hstk (fun v hv => by simp [hv]) k2
set_option maxRecDepth 20000 in
theorem abs_callS {l : Launch} {D : va_G} {base : Nat} {ex : Nat → Nat} : abR_callS (abMach l D base ex) := by
  intro d lim i pc ls st cnt A M Q a b c n e as st0 mc ms R hc h1 h2 h3 h4 h5 h6 h7 k1 k2
  intro p e9 Rm s m args below meth cd cA H locs lsM Qm hX hR hs hF
  obtain ⟨hd, hn, hsd⟩ := abDec hc (by decide)
  have hs0 := hs
  obtain ⟨hr, hl, hv, hS⟩ := hs
  unfold abSide at hsd
  simp only [Bool.and_eq_true] at hsd
  obtain ⟨q, hq1, hq2⟩ := abOkMem abMlL_ok hsd.1
  have hq3 := eq_of_beq hq2
  subst hq3
  have hy := of_decide_eq_true hsd.2
  obtain rfl : n = pc + 3 := by omega
  have hd2 := hd
  rw [show pc + 3 - pc = 3 by omega] at hd2
  have hi : a.toNat < 297 := hq1.1
  have hok := abM_ok hi
  have hkd : (abM a.toNat).2.2.2.2.2.1 = 0 := hy.1
  have hkne : 0 ≠ 0 → (abM a.toNat).2.2.2.2.2.1 ≠ 0 := fun z => by rw [hkd]; exact z
  have hts := hX.2.2.2.2.2.2.1
  have hst := hX.2.2.2.2.2.2.2.2.1
  have hn2 : (parseMethodDescriptor (abY a.toNat).desc).map (fun d => d.parameters.length) = some (abNa a.toNat) := hok.2.2.2.2.2.2.2.2.2.2
  have hna : abNa a.toNat = as.length := by omega
  rw [hna] at hn2
  subst h1
  subst h2
  have vR : ∀ w ∈ as, abVv A.1 w := fun w hw => hv w (by simp [hw])
  have hM := abMet (l := l) (D := D) (base := base) (ex := ex) (e := e) (mc := mc) (ms := ms) (R := R) hi h4 vR k1 (cA := cA)
  have hFr : ∀ U : State, U.heap = H → s.WarmedH U.vm → abPc D base ex cA A M as (as.map (abCv base ex)).toArray U := fun U hU hW => ⟨rfl, abSt_warm hW hst, abEx_moved hW.alike (fun q hq => by rw [hU]; exact hS.2.1 q (Nat.lt_of_lt_of_le hq hX.2.2.2.2.2.2.2.2.2.2) (Nat.not_le.mpr hq)) hX.2.2.2.2.2.2.2.2.2.1, by rw [hU]; exact Nat.le_trans hX.2.2.2.2.2.2.2.2.2.2 hS.1, by rw [hU]; exact hr.1, hr.2.1, hr.2.2.1, abCa_moved hW.alike hr.2.2.2.1, abScr_moved hW.alike (fun q hq => by rw [hU]; exact hS.2.1 q (Nat.lt_of_lt_of_le hq hX.2.2.2.2.2.2.2.2.2.2) (Nat.not_le.mpr hq)) (by rw [hU]; exact Nat.le_trans hX.2.2.2.2.2.2.2.2.2.2 hS.1) hr.2.2.2.2⟩
  have hstk : (as.reverse ++ st).map (abCv base ex) = (as.map (abCv base ex)).reverse ++ st.map (abCv base ex) := by rw [List.map_append, List.map_reverse]
  rw [hstk]
  refine abGoS hX hR hs0 hF (va_runS ⟨hX.1, hX.2.1, hX.2.2.2.2.1, hX.2.2.2.2.2.1, hts⟩ hM ⟨callB_of as.length hts (abWs_good hi) rfl rfl rfl (hts _ (abTb_mem hok.2.1 rfl)) (hts _ (abTb_mem (hq1.2.2 rfl) rfl)) ⟨hok.2.2.2.1.1, hok.2.2.2.1.2, hn2⟩ ⟨Nat.le_trans (Nat.le_refl _) hR.1, by have h9 := hR.2.1; have h10 : (abL a.toNat) ≤ 19 := hok.2.2.2.2.2.1; show 8 + (abL a.toNat + 11) + 38 * e ≤ _; omega⟩, hts _ (abTb_mem (hok.2.2.2.2.2.2.1 hkd) rfl)⟩ ⟨abPc_blind, hFr⟩ rfl (List.length_map _) (hl.2.1.1) rfl (lv_room (by rw [abCat_sum]; exact h5)) hd2 ⟨Nat.le_trans h6 hR.2.2.1, Nat.le_trans h7 hR.2.2.2⟩) hstk (fun v hv => by simp [hv]) k2
set_option maxRecDepth 20000 in
theorem abs_callSN {l : Launch} {D : va_G} {base : Nat} {ex : Nat → Nat} : abR_callSN (abMach l D base ex) := by
  intro d lim i pc ls st cnt A M Q a b c n e as st0 mc ms R hc h1 h2 h3 h4 h5 h6 h7 k1 k2
  intro p e9 Rm s m args below meth cd cA H locs lsM Qm hX hR hs hF
  obtain ⟨hd, hn, hsd⟩ := abDec hc (by decide)
  have hs0 := hs
  obtain ⟨hr, hl, hv, hS⟩ := hs
  unfold abSide at hsd
  simp only [Bool.and_eq_true] at hsd
  obtain ⟨q, hq1, hq2⟩ := abOkMem abMlL_ok hsd.1
  have hq3 := eq_of_beq hq2
  subst hq3
  have hy := of_decide_eq_true hsd.2
  obtain rfl : n = pc + 3 := by omega
  have hd2 := hd
  rw [show pc + 3 - pc = 3 by omega] at hd2
  have hi : a.toNat < 297 := hq1.1
  have hok := abM_ok hi
  have hkd : (abM a.toNat).2.2.2.2.2.1 = 0 := hy.1
  have hkne : 0 ≠ 0 → (abM a.toNat).2.2.2.2.2.1 ≠ 0 := fun z => by rw [hkd]; exact z
  have hts := hX.2.2.2.2.2.2.1
  have hst := hX.2.2.2.2.2.2.2.2.1
  have hn2 : (parseMethodDescriptor (abY a.toNat).desc).map (fun d => d.parameters.length) = some (abNa a.toNat) := hok.2.2.2.2.2.2.2.2.2.2
  have hna : abNa a.toNat = as.length := by omega
  rw [hna] at hn2
  subst h1
  subst h2
  have vR : ∀ w ∈ as, abVv A.1 w := fun w hw => hv w (by simp [hw])
  have hM := abMet (l := l) (D := D) (base := base) (ex := ex) (e := e) (mc := mc) (ms := ms) (R := R) hi h4 vR k1 (cA := cA)
  have hFr : ∀ U : State, U.heap = H → s.WarmedH U.vm → abPc D base ex cA A M as (as.map (abCv base ex)).toArray U := fun U hU hW => ⟨rfl, abSt_warm hW hst, abEx_moved hW.alike (fun q hq => by rw [hU]; exact hS.2.1 q (Nat.lt_of_lt_of_le hq hX.2.2.2.2.2.2.2.2.2.2) (Nat.not_le.mpr hq)) hX.2.2.2.2.2.2.2.2.2.1, by rw [hU]; exact Nat.le_trans hX.2.2.2.2.2.2.2.2.2.2 hS.1, by rw [hU]; exact hr.1, hr.2.1, hr.2.2.1, abCa_moved hW.alike hr.2.2.2.1, abScr_moved hW.alike (fun q hq => by rw [hU]; exact hS.2.1 q (Nat.lt_of_lt_of_le hq hX.2.2.2.2.2.2.2.2.2.2) (Nat.not_le.mpr hq)) (by rw [hU]; exact Nat.le_trans hX.2.2.2.2.2.2.2.2.2.2 hS.1) hr.2.2.2.2⟩
  have hstk : (as.reverse ++ st).map (abCv base ex) = (as.map (abCv base ex)).reverse ++ st.map (abCv base ex) := by rw [List.map_append, List.map_reverse]
  obtain ⟨host, hw⟩ := hq1.2.1 rfl
  rw [hstk]
  refine abGoS hX hR hs0 hF (va_runSN (host := host) ⟨hX.1, hX.2.1, hX.2.2.2.2.1, hX.2.2.2.2.2.1, hts⟩ hM ⟨va_cnB as.length hts (abWs_good hi) rfl rfl rfl (hst.2.1 _ hw rfl) (hts _ (abTb_mem hok.2.1 rfl)) ⟨hok.2.2.2.1.1, hok.2.2.2.1.2, hn2⟩ ⟨Nat.le_trans (Nat.le_refl _) hR.1, by have h9 := hR.2.1; have h10 : (abL a.toNat) ≤ 19 := hok.2.2.2.2.2.1; show 8 + (abL a.toNat + 11) + 38 * e ≤ _; omega⟩, hts _ (abTb_mem (hok.2.2.2.2.2.2.1 hkd) rfl), trivial⟩ ⟨abPc_blind, hFr⟩ rfl (List.length_map _) (hl.2.1.1) rfl (lv_room (by rw [abCat_sum]; exact h5)) hd2 ⟨Nat.le_trans h6 hR.2.2.1, Nat.le_trans h7 hR.2.2.2⟩) hstk (fun v hv => by simp [hv]) k2
theorem abRet_init : ∀ i, i < 297 → abKd i = 2 → abRet i = none := by
  have h : (List.range 297).all (fun i => !(decide (abKd i = 2)) || decide (abRet i = none)) = true := by decide +kernel
  intro i hi h2
  have := List.all_eq_true.mp h i (List.mem_range.mpr hi)
  simpa [h2] using this
set_option maxRecDepth 20000 in
theorem abs_callI {l : Launch} {D : va_G} {base : Nat} {ex : Nat → Nat} : abR_callI (abMach l D base ex) := by
  intro d lim i pc ls st cnt A M Q a b c n e o as st0 mc ms R hc h1 h2 h3 h4 h5 h6 h7 h8 k1 k2
  intro p e9 Rm s m args below meth cd cA H locs lsM Qm hX hR hs hF
  obtain ⟨hd, hn, hsd⟩ := abDec hc (by decide)
  have hs0 := hs
  obtain ⟨hr, hl, hv, hS⟩ := hs
  unfold abSide at hsd
  simp only [Bool.and_eq_true] at hsd
  obtain ⟨q, hq1, hq2⟩ := abOkMem abMlL_ok hsd.1
  have hq3 := eq_of_beq hq2
  subst hq3
  have hy := of_decide_eq_true hsd.2
  obtain rfl : n = pc + 3 := by omega
  have hd2 := hd
  rw [show pc + 3 - pc = 3 by omega] at hd2
  have hi : a.toNat < 297 := hq1.1
  have hok := abM_ok hi
  have hkd : (abM a.toNat).2.2.2.2.2.1 = 2 := hy.1
  have hkne : 2 ≠ 0 → (abM a.toNat).2.2.2.2.2.1 ≠ 0 := fun z => by rw [hkd]; exact z
  have hts := hX.2.2.2.2.2.2.1
  have hst := hX.2.2.2.2.2.2.2.2.1
  have hn2 : (parseMethodDescriptor (abY a.toNat).desc).map (fun d => d.parameters.length) = some (abNa a.toNat) := hok.2.2.2.2.2.2.2.2.2.2
  have hna : abNa a.toNat = as.length := by omega
  rw [hna] at hn2
  subst h1
  subst h2
  have vR : abVv A.1 (vr (some o)) ∧ ∀ w ∈ as, abVv A.1 w := ⟨hv _ (by simp), fun w hw => hv w (by simp [hw])⟩
  have hM := abMet (l := l) (D := D) (base := base) (ex := ex) (e := e) (mc := mc) (ms := ms) (R := R) hi h4 (abCons vR.1 vR.2) k1 (cA := cA)
  have hFr : ∀ U : State, U.heap = H → s.WarmedH U.vm → abPc D base ex cA A M (vr (some o) :: as) (Value.ref (abAd base ex o) :: as.map (abCv base ex)).toArray U := fun U hU hW => ⟨by show _ = (abCv base ex (vr (some o)) :: _).toArray; simp only [abCv, Option.map_some, va_rf], abSt_warm hW hst, abEx_moved hW.alike (fun q hq => by rw [hU]; exact hS.2.1 q (Nat.lt_of_lt_of_le hq hX.2.2.2.2.2.2.2.2.2.2) (Nat.not_le.mpr hq)) hX.2.2.2.2.2.2.2.2.2.1, by rw [hU]; exact Nat.le_trans hX.2.2.2.2.2.2.2.2.2.2 hS.1, by rw [hU]; exact hr.1, hr.2.1, hr.2.2.1, abCa_moved hW.alike hr.2.2.2.1, abScr_moved hW.alike (fun q hq => by rw [hU]; exact hS.2.1 q (Nat.lt_of_lt_of_le hq hX.2.2.2.2.2.2.2.2.2.2) (Nat.not_le.mpr hq)) (by rw [hU]; exact Nat.le_trans hX.2.2.2.2.2.2.2.2.2.2 hS.1) hr.2.2.2.2⟩
  have hstk : (as.reverse ++ vr (some o) :: st).map (abCv base ex) = (as.map (abCv base ex)).reverse ++ .ref (abAd base ex o) :: st.map (abCv base ex) := by rw [List.map_append, List.map_reverse]; rfl
  have hretn : abRet a.toNat = none := abRet_init a.toNat hi hkd
  rw [hstk]
  refine abGoS hX hR hs0 hF (va_runI ⟨hX.1, hX.2.1, hX.2.2.2.2.1, hX.2.2.2.2.2.1, hts⟩ hM (cwI as.length hts (abWs_good hi) (show abWs a.toNat = Cond.code (abY a.toNat) (abB a.toNat) (abL a.toNat) none :: abTb by unfold abWs; rw [hretn]) rfl rfl (hts _ (abTb_mem hok.2.1 rfl)) (hts _ (abTb_mem (hq1.2.2 rfl) rfl)) (hts _ (abTb_mem (hok.2.2.2.2.2.2.2.1 (hkne (by decide))) rfl)) (hok.2.2.2.2.2.2.2.2.2.1 hkd) ⟨hok.2.2.2.1.1, hok.2.2.2.1.2, hn2⟩ ⟨Nat.le_trans (Nat.le_refl _) hR.1, by have h9 := hR.2.1; have h10 : (abL a.toNat) ≤ 19 := hok.2.2.2.2.2.1; show 8 + (abL a.toNat + 11) + 38 * e ≤ _; omega⟩) ⟨abPc_blind, hFr⟩ rfl (List.length_map _) (hl.2.1.1) rfl (lv_room (by rw [abCat_sum]; exact h5)) hd2 ⟨Nat.le_trans h6 hR.2.2.1, Nat.le_trans h7 hR.2.2.2⟩) hstk (fun v hv => by simp [hv]) k2
set_option maxRecDepth 20000 in
theorem abs_callIN {l : Launch} {D : va_G} {base : Nat} {ex : Nat → Nat} : abR_callIN (abMach l D base ex) := by
  intro d lim i pc ls st cnt A M Q a b c n e o as st0 mc ms R hc h1 h2 h3 h4 h5 h6 h7 h8 k1 k2
  intro p e9 Rm s m args below meth cd cA H locs lsM Qm hX hR hs hF
  obtain ⟨hd, hn, hsd⟩ := abDec hc (by decide)
  have hs0 := hs
  obtain ⟨hr, hl, hv, hS⟩ := hs
  unfold abSide at hsd
  simp only [Bool.and_eq_true] at hsd
  obtain ⟨q, hq1, hq2⟩ := abOkMem abMlL_ok hsd.1
  have hq3 := eq_of_beq hq2
  subst hq3
  have hy := of_decide_eq_true hsd.2
  obtain rfl : n = pc + 3 := by omega
  have hd2 := hd
  rw [show pc + 3 - pc = 3 by omega] at hd2
  have hi : a.toNat < 297 := hq1.1
  have hok := abM_ok hi
  have hkd : (abM a.toNat).2.2.2.2.2.1 = 2 := hy.1
  have hkne : 2 ≠ 0 → (abM a.toNat).2.2.2.2.2.1 ≠ 0 := fun z => by rw [hkd]; exact z
  have hts := hX.2.2.2.2.2.2.1
  have hst := hX.2.2.2.2.2.2.2.2.1
  have hn2 : (parseMethodDescriptor (abY a.toNat).desc).map (fun d => d.parameters.length) = some (abNa a.toNat) := hok.2.2.2.2.2.2.2.2.2.2
  have hna : abNa a.toNat = as.length := by omega
  rw [hna] at hn2
  subst h1
  subst h2
  have vR : abVv A.1 (vr (some o)) ∧ ∀ w ∈ as, abVv A.1 w := ⟨hv _ (by simp), fun w hw => hv w (by simp [hw])⟩
  have hM := abMet (l := l) (D := D) (base := base) (ex := ex) (e := e) (mc := mc) (ms := ms) (R := R) hi h4 (abCons vR.1 vR.2) k1 (cA := cA)
  have hFr : ∀ U : State, U.heap = H → s.WarmedH U.vm → abPc D base ex cA A M (vr (some o) :: as) (Value.ref (abAd base ex o) :: as.map (abCv base ex)).toArray U := fun U hU hW => ⟨by show _ = (abCv base ex (vr (some o)) :: _).toArray; simp only [abCv, Option.map_some, va_rf], abSt_warm hW hst, abEx_moved hW.alike (fun q hq => by rw [hU]; exact hS.2.1 q (Nat.lt_of_lt_of_le hq hX.2.2.2.2.2.2.2.2.2.2) (Nat.not_le.mpr hq)) hX.2.2.2.2.2.2.2.2.2.1, by rw [hU]; exact Nat.le_trans hX.2.2.2.2.2.2.2.2.2.2 hS.1, by rw [hU]; exact hr.1, hr.2.1, hr.2.2.1, abCa_moved hW.alike hr.2.2.2.1, abScr_moved hW.alike (fun q hq => by rw [hU]; exact hS.2.1 q (Nat.lt_of_lt_of_le hq hX.2.2.2.2.2.2.2.2.2.2) (Nat.not_le.mpr hq)) (by rw [hU]; exact Nat.le_trans hX.2.2.2.2.2.2.2.2.2.2 hS.1) hr.2.2.2.2⟩
  have hstk : (as.reverse ++ vr (some o) :: st).map (abCv base ex) = (as.map (abCv base ex)).reverse ++ .ref (abAd base ex o) :: st.map (abCv base ex) := by rw [List.map_append, List.map_reverse]; rfl
  have hretn : abRet a.toNat = none := abRet_init a.toNat hi hkd
  obtain ⟨host, hw⟩ := hq1.2.1 rfl
  rw [hstk]
  refine abGoS hX hR hs0 hF (va_runIN (host := host) ⟨hX.1, hX.2.1, hX.2.2.2.2.1, hX.2.2.2.2.2.1, hts⟩ hM ⟨va_cnB as.length hts (abWs_good hi) (show abWs a.toNat = Cond.code (abY a.toNat) (abB a.toNat) (abL a.toNat) none :: abTb by unfold abWs; rw [hretn]) rfl rfl (hst.2.1 _ hw rfl) (hts _ (abTb_mem hok.2.1 rfl)) ⟨hok.2.2.2.1.1, hok.2.2.2.1.2, hn2⟩ ⟨Nat.le_trans (Nat.le_refl _) hR.1, by have h9 := hR.2.1; have h10 : (abL a.toNat) ≤ 19 := hok.2.2.2.2.2.1; show 8 + (abL a.toNat + 11) + 38 * e ≤ _; omega⟩, (hok.2.2.2.2.2.2.2.2.2.1 hkd), hts _ (abTb_mem (hok.2.2.2.2.2.2.2.1 (hkne (by decide))) rfl)⟩ ⟨abPc_blind, hFr⟩ rfl (List.length_map _) (hl.2.1.1) rfl (lv_room (by rw [abCat_sum]; exact h5)) hd2 ⟨Nat.le_trans h6 hR.2.2.1, Nat.le_trans h7 hR.2.2.2⟩) hstk (fun v hv => by simp [hv]) k2
set_option maxRecDepth 20000 in
theorem abs_callT {l : Launch} {D : va_G} {base : Nat} {ex : Nat → Nat} : abR_callT (abMach l D base ex) := by
  intro d lim i pc ls st cnt A M Q a b c n e o as st0 mc ms R hc h1 h2 h3 h4 h5 h6 h7 h8 h9 k1 k2
  intro p e9 Rm s m args below meth cd cA H locs lsM Qm hX hR hs hF
  obtain ⟨hd, hn, hsd⟩ := abDec hc (by decide)
  have hs0 := hs
  obtain ⟨hr, hl, hv, hS⟩ := hs
  unfold abSide at hsd
  simp only [Bool.and_eq_true] at hsd
  obtain ⟨q, hq1, hq2⟩ := abOkMem abMlL_ok hsd.1
  have hq3 := eq_of_beq hq2
  subst hq3
  have hy := of_decide_eq_true hsd.2
  obtain rfl : n = pc + 3 := by omega
  have hd2 := hd
  rw [show pc + 3 - pc = 3 by omega] at hd2
  have hi : a.toNat < 297 := hq1.1
  have hok := abM_ok hi
  have hkd : (abM a.toNat).2.2.2.2.2.1 = 1 := hy.1
  have hkne : 1 ≠ 0 → (abM a.toNat).2.2.2.2.2.1 ≠ 0 := fun z => by rw [hkd]; exact z
  have hts := hX.2.2.2.2.2.2.1
  have hst := hX.2.2.2.2.2.2.2.2.1
  have hn2 : (parseMethodDescriptor (abY a.toNat).desc).map (fun d => d.parameters.length) = some (abNa a.toNat) := hok.2.2.2.2.2.2.2.2.2.2
  have hown15 : abOwn a.toNat = 15 := hy.2.2.2.1
  have hna : abNa a.toNat = as.length := by omega
  rw [hna] at hn2
  subst h1
  subst h2
  have vR : abVv A.1 (vr (some o)) ∧ ∀ w ∈ as, abVv A.1 w := ⟨hv _ (by simp), fun w hw => hv w (by simp [hw])⟩
  have hM := abMet (l := l) (D := D) (base := base) (ex := ex) (e := e) (mc := mc) (ms := ms) (R := R) hi h4 (abCons vR.1 vR.2) k1 (cA := cA)
  have hFr : ∀ U : State, U.heap = H → s.WarmedH U.vm → abPc D base ex cA A M (vr (some o) :: as) (Value.ref (abAd base ex o) :: as.map (abCv base ex)).toArray U := fun U hU hW => ⟨by show _ = (abCv base ex (vr (some o)) :: _).toArray; simp only [abCv, Option.map_some, va_rf], abSt_warm hW hst, abEx_moved hW.alike (fun q hq => by rw [hU]; exact hS.2.1 q (Nat.lt_of_lt_of_le hq hX.2.2.2.2.2.2.2.2.2.2) (Nat.not_le.mpr hq)) hX.2.2.2.2.2.2.2.2.2.1, by rw [hU]; exact Nat.le_trans hX.2.2.2.2.2.2.2.2.2.2 hS.1, by rw [hU]; exact hr.1, hr.2.1, hr.2.2.1, abCa_moved hW.alike hr.2.2.2.1, abScr_moved hW.alike (fun q hq => by rw [hU]; exact hS.2.1 q (Nat.lt_of_lt_of_le hq hX.2.2.2.2.2.2.2.2.2.2) (Nat.not_le.mpr hq)) (by rw [hU]; exact Nat.le_trans hX.2.2.2.2.2.2.2.2.2.2 hS.1) hr.2.2.2.2⟩
  have hstk : (as.reverse ++ vr (some o) :: st).map (abCv base ex) = (as.map (abCv base ex)).reverse ++ .ref (abAd base ex o) :: st.map (abCv base ex) := by rw [List.map_append, List.map_reverse]; rfl
  have hcell : ∃ cell : Cell, H[abAd base ex o]? = some cell ∧ cell.vm.isStatics = false ∧ s.vm.findClass (abY a.toNat).cls = some cell.cls := by
    obtain ⟨k0, rfl⟩ : ∃ k0, o = 1000000 + k0 := ⟨o - 1000000, by omega⟩
    have hE := hX.2.2.2.2.2.2.2.2.2.1
    obtain ⟨cell, z1, z2, z3⟩ := vk_recv hE.1 (show k0 < 21 by omega) hS
    refine ⟨cell, by rw [abAd_ex]; exact z1, z2, ?_⟩
    rw [← show abR (abOwn a.toNat) = (abY a.toNat).cls from hok.2.2.1, hown15]
    exact z3
  rw [hstk]
  refine abGoS hX hR hs0 hF (va_runV (C := (abY a.toNat).cls) ⟨hX.1, hX.2.1, hX.2.2.2.2.1, hX.2.2.2.2.2.1, hts⟩ hM ⟨callB_of as.length hts (abWs_good hi) rfl rfl rfl (hts _ (abTb_mem hok.2.1 rfl)) (hts _ (abTb_mem (hq1.2.2 rfl) rfl)) ⟨hok.2.2.2.1.1, hok.2.2.2.1.2, hn2⟩ ⟨Nat.le_trans (Nat.le_refl _) hR.1, by have h9 := hR.2.1; have h10 : (abL a.toNat) ≤ 19 := hok.2.2.2.2.2.1; show 8 + (abL a.toNat + 11) + 38 * e ≤ _; omega⟩, hts _ (abTb_mem (hok.2.2.2.2.2.2.2.1 (hkne (by decide))) rfl), hts _ (abTb_mem (hok.2.2.2.2.2.2.2.2.1 hkd) rfl)⟩ ⟨abPc_blind, hcell, hFr⟩ rfl (List.length_map _) (hl.2.1.1) rfl (lv_room (by rw [abCat_sum]; exact h5)) hd2 ⟨Nat.le_trans h6 hR.2.2.1, Nat.le_trans h7 hR.2.2.2⟩) hstk (fun v hv => by simp [hv]) k2
