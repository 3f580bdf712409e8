/-! THE CLAIM OUT OF ONE WALK OF THE LAW'S BODY. Your part is whole_start (and what it stands on); all else here is the same for every law, but numbers. -/
def R_law : String := "CelSheetLaw"
def lw_P (b : Addr) (xs : List Int32) (args : Array Value) (s : State) : Prop := args = #[.ref b] ∧ s.IntsAt b xs ∧ xs.length ≤ 3072 ∧ (Jvm.Cond.and given_1 narrow_1).before args s = true
def lw_Q (_ : Array Value) (s : State) (o : Outcome) (t : State) : Prop := o = .returned (some (.int 1)) ∧ Framed s o t [] 600000 7302250
def lw_Z (below : List Frame) (a : Array Value) (s : State) : State → Prop := fun t => ∃ o, t.status = .running ∧ Ended t below o ∧ lw_Q a s o t
/-- the law's own end, with 1 on the stack, nothing written that was there before, its room as the claim has it -/
theorem lw_ret {p : Program} {l : Launch} {e : Env} {s : State} {m : MethodId} {below : List Frame} {meth : Method} {c : Code} {b : Nat} (hx : p.tables.exec = Jvm.exec) (hb : c.code = code) (hr : meth.sig.returnType = ret) (hlocks : meth.locks = false) {pc : Nat} {H : Heap} {ls : Array Slot} (hdg : decode code pc = .ok (.ireturn, 1)) : W p l e room_1 s m #[Value.ref b] below meth c H [] 600000 7302250 (lw_Z below #[Value.ref b] s) (F0 m pc ls [.int 1]) := by
  intro T hT X
  obtain ⟨fs, hret, hrun, hended, hW, hframe⟩ := X.leave (v := some (.int 1)) (hlocks := hlocks) (fun h => by rw [hr] at h; cases h)
  have hmeth' : T.vm.method? m = some meth := X.method'
  refine ⟨T.setFrames fs, ?_, .returned (some (.int 1)), hrun, hended, rfl, ⟨_, rfl⟩, hW, hframe⟩
  jvm_step X.here [X.here.top, hx, hb, hdg, hmeth', hr, ret, narrow_b1]
  (try refine ⟨rfl, ?_⟩); (try refine ⟨rfl, ?_⟩)
  first | (intro acts; rw [hret _ acts rfl rfl rfl]) | rw [hret _ _ rfl rfl rfl]
  exact Steps.refl _
/-- what holds at the law's entry: the machine, the code, the tables' words (any of lw_tbl by 'hts w (by decide +kernel)'), the script of L ints xs at the cell b, what the Statement gives of the start (any of its parts by flat_of_before) -/
def lw_At (p : Program) (s : State) (m : MethodId) (meth : Method) (c : Code) (b L : Nat) (xs : Nat → Int32) : Prop :=
  p.tables.exec = Jvm.exec ∧ c.code = code ∧ meth.sig.returnType = ret ∧ c.maxLocals = 4 ∧ s.vm.findClass R_law = some m.cls ∧ (∀ w ∈ lw_tbl, w.before #[Value.ref b] s = true) ∧ va_X b L xs s s.heap ∧ b < s.heap.size ∧ meth.locks = false ∧ (Jvm.Cond.and given_1 narrow_1).before #[Value.ref b] s = true
noncomputable def abFlt : List Cond := flatC narrow_1
/-- the term of a string constant -/
def abTm (i : Nat) : Term := match abStr[i]? with
  | some q => .string (abR q.1) q.2.1
  | none => .int 0
def abIx : List (List Nat) := [[7, 8, 9, 10, 11, 12, 13, 14, 15, 16], [17, 18, 19, 20, 21, 22, 23, 24, 25], [27, 28, 29, 30, 31, 32, 33], [36, 37, 38, 39, 40, 41, 42, 43, 44], [48, 49, 50, 51, 52, 53, 54, 55], [60, 61, 62, 63, 64, 65, 66, 67, 68, 69, 70, 71, 72, 73, 74, 75, 76, 77, 78, 79, 80, 81, 82, 83, 84, 85, 86, 87, 88, 89, 90, 91, 92, 93, 94, 95, 96, 97, 98, 99, 100, 101, 102, 103, 104, 105, 106, 107, 108, 109, 110, 111, 112, 113, 114, 115, 116, 117, 118, 119, 120, 121, 122, 123, 124, 125, 126, 127, 128, 129, 130, 131, 132, 133, 134, 135, 136, 137, 138, 139, 140, 141, 142, 143, 144, 145, 146, 147, 148, 149, 150, 151, 152, 153, 154, 155, 156, 157], [163, 164, 165, 166, 167, 168], [175, 176, 177, 178, 179, 180, 181, 182, 183], [191, 192, 193, 194, 195], [204, 205, 206, 207, 208, 209, 210, 211, 212], [222, 223, 224, 225, 226, 227, 228, 229], [240, 241, 242, 243, 244, 245, 246, 247], [259, 260, 261, 262, 263, 264], [277, 278, 279, 280, 281, 282, 283, 284], [298, 299, 300, 301, 302, 303, 304], [319, 320, 321, 322, 323, 324, 325, 326], [342, 343, 344, 345, 346, 347], [364, 365, 366, 367, 368, 369, 370, 371, 372], [390, 391, 392, 393, 394, 395, 396, 397], [416, 417, 418, 419, 420, 421, 422, 423], [443, 444, 445, 446, 447, 448]]
def abNe : List (List Nat) := [[0, 26, 34, 45, 56, 158, 169, 184, 196, 213, 230, 248, 265, 285, 305, 327, 348, 373, 398, 424, 449], [26, 0, 35, 46, 57, 159, 170, 185, 197, 214, 231, 249, 266, 286, 306, 328, 349, 374, 399, 425, 450], [34, 35, 0, 47, 58, 160, 171, 186, 198, 215, 232, 250, 267, 287, 307, 329, 350, 375, 400, 426, 451], [45, 46, 47, 0, 59, 161, 172, 187, 199, 216, 233, 251, 268, 288, 308, 330, 351, 376, 401, 427, 452], [56, 57, 58, 59, 0, 162, 173, 188, 200, 217, 234, 252, 269, 289, 309, 331, 352, 377, 402, 428, 453], [158, 159, 160, 161, 162, 0, 174, 189, 201, 218, 235, 253, 270, 290, 310, 332, 353, 378, 403, 429, 454], [169, 170, 171, 172, 173, 174, 0, 190, 202, 219, 236, 254, 271, 291, 311, 333, 354, 379, 404, 430, 455], [184, 185, 186, 187, 188, 189, 190, 0, 203, 220, 237, 255, 272, 292, 312, 334, 355, 380, 405, 431, 456], [196, 197, 198, 199, 200, 201, 202, 203, 0, 221, 238, 256, 273, 293, 313, 335, 356, 381, 406, 432, 457], [213, 214, 215, 216, 217, 218, 219, 220, 221, 0, 239, 257, 274, 294, 314, 336, 357, 382, 407, 433, 458], [230, 231, 232, 233, 234, 235, 236, 237, 238, 239, 0, 258, 275, 295, 315, 337, 358, 383, 408, 434, 459], [248, 249, 250, 251, 252, 253, 254, 255, 256, 257, 258, 0, 276, 296, 316, 338, 359, 384, 409, 435, 460], [265, 266, 267, 268, 269, 270, 271, 272, 273, 274, 275, 276, 0, 297, 317, 339, 360, 385, 410, 436, 461], [285, 286, 287, 288, 289, 290, 291, 292, 293, 294, 295, 296, 297, 0, 318, 340, 361, 386, 411, 437, 462], [305, 306, 307, 308, 309, 310, 311, 312, 313, 314, 315, 316, 317, 318, 0, 341, 362, 387, 412, 438, 463], [327, 328, 329, 330, 331, 332, 333, 334, 335, 336, 337, 338, 339, 340, 341, 0, 363, 388, 413, 439, 464], [348, 349, 350, 351, 352, 353, 354, 355, 356, 357, 358, 359, 360, 361, 362, 363, 0, 389, 414, 440, 465], [373, 374, 375, 376, 377, 378, 379, 380, 381, 382, 383, 384, 385, 386, 387, 388, 389, 0, 415, 441, 466], [398, 399, 400, 401, 402, 403, 404, 405, 406, 407, 408, 409, 410, 411, 412, 413, 414, 415, 0, 442, 467], [424, 425, 426, 427, 428, 429, 430, 431, 432, 433, 434, 435, 436, 437, 438, 439, 440, 441, 442, 0, 468], [449, 450, 451, 452, 453, 454, 455, 456, 457, 458, 459, 460, 461, 462, 463, 464, 465, 466, 467, 468, 0]]
noncomputable def abAt (k : Nat) (c : Cond) : Bool := decide (abFlt[k]? = some c)
theorem abAt_mem {k : Nat} {c : Cond} (h : abAt k c = true) : c ∈ flatC narrow_1 := List.mem_of_getElem? (of_decide_eq_true h)
noncomputable def abSk (i : Nat) : Bool :=
  let ix := abIx.getD i []
  abAt (ix.getD 0 0) (.exactly (abTm i) "java/lang/String") && (abAt (ix.getD 1 0) (.eq (.field (abTm i) "java/lang/String" "coder" "B") (.int 0)) && (abAt (ix.getD 2 0) (.arrayOf (.field (abTm i) "java/lang/String" "value" "[B") .byte) && (abAt (ix.getD 3 0) (.eq (.length (.field (abTm i) "java/lang/String" "value" "[B")) (.int (Int32.ofNat (abLens.getD i 0)))) &&
  (List.range (abLens.getD i 0)).all (fun j => abAt (ix.getD (4 + j) 0) (.eq (.elem (.field (abTm i) "java/lang/String" "value" "[B") (.int (Int32.ofNat j))) (.int (((abStrB.map (fun l => l.map Int32.ofInt)).getD i []).getD j 0)))))))
theorem abSk_ok : (List.range 21).all abSk = true := by decide +kernel
theorem abNe_ok : (List.range 21).all (fun i => (List.range 21).all (fun j => Nat.beq i j || (abAt ((abNe.getD i []).getD j 0) (.not (.eq (abTm i) (abTm j))) || abAt ((abNe.getD i []).getD j 0) (.not (.eq (abTm j) (abTm i)))))) = true := by decide +kernel
theorem abSr_ok : ∀ (i : Nat) (q : Nat × (Nat × String)), abStr[i]? = some q → Cond.stringRef (abR q.1) q.2.1 q.2.2 ∈ lw_tbl := fun i q h => match i, h with
  | 0, h => by cases h; exact (ab_t2 (List.mem_of_getElem? (i := 187) rfl))
  | 1, h => by cases h; exact (ab_t3 (List.mem_of_getElem? (i := 45) rfl))
  | 2, h => by cases h; exact (ab_t3 (List.mem_of_getElem? (i := 47) rfl))
  | 3, h => by cases h; exact (ab_t3 (List.mem_of_getElem? (i := 48) rfl))
  | 4, h => by cases h; exact (ab_t3 (List.mem_of_getElem? (i := 49) rfl))
  | 5, h => by cases h; exact (ab_t3 (List.mem_of_getElem? (i := 66) rfl))
  | 6, h => by cases h; exact (ab_t3 (List.mem_of_getElem? (i := 75) rfl))
  | 7, h => by cases h; exact (ab_t3 (List.mem_of_getElem? (i := 84) rfl))
  | 8, h => by cases h; exact (ab_t3 (List.mem_of_getElem? (i := 89) rfl))
  | 9, h => by cases h; exact (ab_t3 (List.mem_of_getElem? (i := 102) rfl))
  | 10, h => by cases h; exact (ab_t3 (List.mem_of_getElem? (i := 123) rfl))
  | 11, h => by cases h; exact (ab_t3 (List.mem_of_getElem? (i := 124) rfl))
  | 12, h => by cases h; exact (ab_t3 (List.mem_of_getElem? (i := 154) rfl))
  | 13, h => by cases h; exact (ab_t3 (List.mem_of_getElem? (i := 155) rfl))
  | 14, h => by cases h; exact (ab_t3 (List.mem_of_getElem? (i := 156) rfl))
  | 15, h => by cases h; exact (ab_t3 (List.mem_of_getElem? (i := 172) rfl))
  | 16, h => by cases h; exact (ab_t3 (List.mem_of_getElem? (i := 173) rfl))
  | 17, h => by cases h; exact (ab_t3 (List.mem_of_getElem? (i := 174) rfl))
  | 18, h => by cases h; exact (ab_t3 (List.mem_of_getElem? (i := 175) rfl))
  | 19, h => by cases h; exact (ab_t3 (List.mem_of_getElem? (i := 180) rfl))
  | 20, h => by cases h; exact (ab_t3 (List.mem_of_getElem? (i := 181) rfl))
  | (j + 21), h => absurd h (by simp [abStr])
/-- the state of the small machine at the law's begin: nothing but the script -/
def abK0 (L : Nat) : Nat → Nat × Int := fun a => if a = 1000042 then (52, (L : Int)) else (99, 0)
def abM0 (L : Nat) (xs : Nat → Int32) : abMem := (fun a j => if a = 1000042 ∧ 0 ≤ j ∧ j < L then (xs j.toNat).toInt else 0, (fun _ _ => 0, fun _ _ => none))
set_option maxRecDepth 20000 in
set_option maxHeartbeats 4000000 in
theorem ab_start {p : Program} {e : Env} {s : State} {m : MethodId} {below : List Frame} {meth : Method} {c : Code} (l : Launch) {b L : Nat} {xs : Nat → Int32} (hL : L ≤ 3072) (C0 : lw_At p s m meth c b L xs)
    (hrun : abW 14 (600000, 7302250) 297 0 [some (vr (some 1000042)), none, none, none] [] (0, 0) (0, abK0 L) (abM0 L xs) (fun v _ _ => v = some (vi 1))) : W p l e room_1 s m #[Value.ref b] below meth c s.heap [] 0 0 (lw_Z below #[Value.ref b] s) (entryFrame m ([Value.ref b] : List Value).toArray 4) := by
  obtain ⟨hx, hb, hr, hml, hown, hts, hX, hbl, hlocks, hgv⟩ := C0
  have hnar : ∀ w ∈ flatC narrow_1, w.before #[Value.ref b] s = true := fun w hw => flat_of_before _ hgv w (List.mem_append_right _ hw)
  -- the classes
  have hD : ∀ ci : Nat, ∃ q : ClassId × (Nat → Nat), ∀ r : vw_C, abCl[ci]? = some r → u_Kn s r.1 r.2.1 r.2.2 q.1 q.2 := by
    intro ci
    by_cases h : ci < 11
    · obtain ⟨r, hr9⟩ := abCl_get h
      obtain ⟨hin, -, -, -, -, hins, -⟩ := abCl_ok ci r hr9
      obtain ⟨cC, iS, hk⟩ := u_known (ws := lw_tbl) hts (fun w hw => abTb_in (hin w hw)) (hts _ hins)
      exact ⟨(cC, iS), fun r2 h2 => by rw [hr9] at h2; cases h2; exact hk⟩
    · exact ⟨(0, fun _ => 0), fun r h2 => absurd (List.getElem?_eq_some_iff.mp h2).1 (by simpa [abCl] using h)⟩
  obtain ⟨fD, hfD⟩ := Classical.axiomOfChoice hD
  have hA : ∀ a : Nat, a < s.heap.size → ¬ (fun q => s.heap.size ≤ q) a := fun a h => Nat.not_le.mpr h
  -- the strings
  have hSk : ∀ i, i < 21 → abSk i = true := fun i hi => List.all_eq_true.mp abSk_ok i (List.mem_range.mpr hi)
  have hSd : ∀ i, i < 21 → (Cond.exactly (abTm i) "java/lang/String").before #[Value.ref b] s = true ∧ (Cond.eq (.field (abTm i) "java/lang/String" "coder" "B") (.int 0)).before #[Value.ref b] s = true ∧ (Cond.arrayOf (.field (abTm i) "java/lang/String" "value" "[B") .byte).before #[Value.ref b] s = true ∧ (Cond.eq (.length (.field (abTm i) "java/lang/String" "value" "[B")) (.int (Int32.ofNat (abLens.getD i 0)))).before #[Value.ref b] s = true ∧ ∀ j, j < abLens.getD i 0 → (Cond.eq (.elem (.field (abTm i) "java/lang/String" "value" "[B") (.int (Int32.ofNat j))) (.int (((abStrB.map (fun l => l.map Int32.ofInt)).getD i []).getD j 0))).before #[Value.ref b] s = true := by
    intro i hi
    have h := hSk i hi
    unfold abSk at h
    simp only [Bool.and_eq_true] at h
    obtain ⟨h1, h2, h3, h4, h5⟩ := h
    exact ⟨hnar _ (abAt_mem h1), hnar _ (abAt_mem h2), hnar _ (abAt_mem h3), hnar _ (abAt_mem h4), fun j hj => hnar _ (abAt_mem (List.all_eq_true.mp h5 j (List.mem_range.mpr hj)))⟩
  have hlen : ∀ i : Nat, i < 21 → abLens.getD i 0 < 2 ^ 31 := fun i hi => by
    have := abSB_ok i hi
    omega
  obtain ⟨adK, adV, hS1, hS2⟩ := vk_Sof (args := #[Value.ref b]) (s := s) (N := 21) (tm := abTm) (len := abLens) (byt := abStrB.map (fun l => l.map Int32.ofInt)) (A := fun q => s.heap.size ≤ q) hlen (fun i hi => (hSd i hi).1) (fun i hi => (hSd i hi).2.1) (fun i hi => (hSd i hi).2.2.1) (fun i hi => (hSd i hi).2.2.2.1) (fun i hi => (hSd i hi).2.2.2.2) (fun i j hi hj hij => by
    have h := List.all_eq_true.mp (List.all_eq_true.mp abNe_ok i (List.mem_range.mpr hi)) j (List.mem_range.mpr hj)
    rw [Bool.or_eq_true, Bool.or_eq_true] at h
    rcases h with h | h | h
    · exact absurd (Nat.eq_of_beq_eq_true h) hij
    · exact Or.inl (hnar _ (abAt_mem h))
    · exact Or.inr (hnar _ (abAt_mem h))) hA
  -- the statics
  have hZ1 : va_Z "java/lang/String" "COMPACT_STRINGS" "Z" (.int 1) (fun q => s.heap.size ≤ q) s s.heap := va_Zof (hts _ (ab_t2 (List.mem_of_getElem? (i := 209) rfl))) (hts _ (ab_t1 (List.mem_of_getElem? (i := 12) rfl))) (va_eqt (hnar _ (abAt_mem (k := 2) (by decide +kernel)))) hA
  have hZ2 := va_Zqof (A := fun q => s.heap.size ≤ q) (hts _ (ab_t2 (List.mem_of_getElem? (i := 225) rfl))) (hts _ (ab_t1 (List.mem_of_getElem? (i := 14) rfl))) (hnar _ (abAt_mem (k := 3) (c := .isRef (.static "jdk/internal/util/Preconditions" "SIOOBE_FORMATTER" "Ljava/util/function/BiFunction;")) (by decide +kernel))) hA
  have hz3 : ∃ z : Nat, va_Z "jdk/internal/util/Preconditions" "SIOOBE_FORMATTER" "Ljava/util/function/BiFunction;" .null (fun q => s.heap.size ≤ q) s s.heap ∨ va_Z "jdk/internal/util/Preconditions" "SIOOBE_FORMATTER" "Ljava/util/function/BiFunction;" (.ref z) (fun q => s.heap.size ≤ q) s s.heap := by
    rcases hZ2 with h | ⟨t, h⟩
    · exact ⟨0, Or.inl h⟩
    · exact ⟨t, Or.inr h⟩
  obtain ⟨zz, hzz⟩ := hz3
  generalize hex : (fun i : Nat => if i < 21 then adK i else if i < 42 then adV (i - 21) else if i = 42 then b else zz) = ex
  have ex1 : ∀ i, i < 21 → ex i = adK i := fun i hi => by rw [← hex]; exact if_pos hi
  have ex2 : ∀ i, i < 21 → ex (21 + i) = adV i := fun i hi => by rw [← hex]; simp only []; rw [if_neg (by omega), if_pos (by omega), show 21 + i - 21 = i by omega]
  have ex3 : ex 42 = b := by rw [← hex]; rfl
  have ex4 : ex 50 = zz := by rw [← hex]; rfl
  have hSx : vk_S 21 abLens (abStrB.map (fun l => l.map Int32.ofInt)) ex (fun i => ex (21 + i)) (fun q => s.heap.size ≤ q) s s.heap := ⟨fun i hi => by
    have h := hS1.1 i hi
    rw [← ex1 i hi, ← ex2 i hi] at h
    exact h, fun i j hi hj e => hS1.2 i j hi hj (by rw [← ex1 i hi, ← ex1 j hj]; exact e)⟩
  have hSt : abSt (fun ci => (fD ci).1, fun ci => (fD ci).2) ex s := by
    refine ⟨⟨fun ci q hq => hfD ci q hq, fun k q h => by cases h⟩, fun w hw hi => ?_, hts _ (ab_t1 (List.mem_of_getElem? (i := 146) rfl)), hts _ (ab_t1 (List.mem_of_getElem? (i := 191) rfl)), va_AO.of (hts _ (ab_t1 (List.mem_of_getElem? (i := 165) rfl))), fun i q hq => ?_⟩
    · have h := hts w hw
      cases w <;> first | exact va_Nw.of rfl h | (simp [abIsN] at hi)
    · have hi : i < 21 := (List.getElem?_eq_some_iff.mp hq).1
      refine vk_R.of (hts _ (abSr_ok i q hq)) ?_
      have h := hS2 i hi
      rw [← ex1 i hi] at h
      unfold abTm at h
      rw [hq] at h
      exact h
  have K := ab_sound l (fun ci => (fD ci).1, fun ci => (fD ci).2) s.heap.size ex hrun
  have hsc : abScr s.heap.size ex (0, abK0 L) (abM0 L xs) s s.heap := fun _ => by
    refine ⟨L, rfl, by omega, ?_, by rw [ex3]; exact hbl, Nat.le_refl _⟩
    rw [ex3]
    obtain ⟨scr, h1, h2, h3, h4, h5⟩ := hX
    refine ⟨scr, h1, h2, h3, h4, fun j hj => ?_⟩
    rw [h5 j hj]
    congr 2
    show xs j = Int32.ofInt (if 1000042 = 1000042 ∧ (0 : Int) ≤ (j : Int) ∧ (j : Int) < (L : Int) then (xs ((j : Int)).toNat).toInt else 0)
    rw [if_pos ⟨rfl, by omega, by omega⟩, toI]
    rfl
  rw [lg_entry_eq]
  have hl0 : abLs s.heap.size ex 0 4 ((lg_sl (([vr (some 1000042)] : List abV).map (abCv s.heap.size ex)) ++ List.replicate (4 - (lg_sl (([vr (some 1000042)] : List abV).map (abCv s.heap.size ex))).length) Slot.unset).toArray) (abEnt 4 [vr (some 1000042)]) := abEnt_ls (by decide) (fun v hv => by
    rw [List.mem_singleton.mp hv]
    intro z hz
    cases hz
    exact Or.inr ⟨by decide, by decide⟩)
  have ecv : ([vr (some 1000042)] : List abV).map (abCv s.heap.size ex) = [Value.ref b] := by
    show [abCv s.heap.size ex (vr (some (1000000 + 42)))] = _
    simp only [abCv, Option.map_some, va_rf, abAd_ex, ex3]
  rw [ecv] at hl0
  refine K p e room_1 s m #[Value.ref b] below meth c (fun _ => 0) s.heap [] _ (lw_Z below #[Value.ref b] s) ⟨hx, hb, hr, hlocks, hml, hown, fun w hw => hts w (abTb_in hw), fun h => absurd h (by decide), hSt, ⟨hSx, hZ1, by rw [ex4]; exact hzz⟩, Nat.le_refl _⟩ ⟨by decide, by decide, Nat.le_refl _, Nat.le_refl _⟩ ⟨⟨⟨rfl, fun a ha => absurd ha (Nat.not_lt_zero _)⟩, ⟨(show (0 : Nat) < 1000000 by decide), fun a ha => absurd ha (Nat.not_lt_zero _), fun a _ => ?_⟩, ⟨fun a j => ?_, fun a j z hz => by cases hz⟩, fun a ha => absurd ha (Nat.not_lt_zero _), hsc⟩, hl0, (fun v hv => by cases hv), va_S.rf⟩ ?_
  · show ((abK0 L) a).1 = 99 ∨ a = 1000042 ∧ ((abK0 L) a).1 = 52
    unfold abK0
    by_cases h : a = 1000042
    · exact Or.inr ⟨h, by rw [if_pos h]⟩
    · exact Or.inl (by rw [if_neg h])
  · show In32 (if a = 1000042 ∧ 0 ≤ j ∧ j < L then (xs j.toNat).toInt else 0)
    split
    · exact inI _
    · exact ⟨by decide, by decide⟩
  · intro v A2 M2 cA2 H2 locs2 lsM2 pc2 hQ hHr hS2 hRt
    subst hQ
    refine va_forget (fun q hq => hS2.2.2 q hq) ?_
    rcases hRt with ⟨h, -⟩ | ⟨x, h1, -, h2, -⟩
    · cases h
    · exact lw_ret hx hb hr hlocks h2
