/-! What the small machine's state is in the machine's heap. -/
theorem ab_cond2 {α β : Type} {P : α → β → Prop} {b : Bool} {x1 y1 : α} {x2 y2 : β} (h1 : b = true → P x1 x2) (h2 : b = false → P y1 y2) : P (bif b then x1 else y1) (bif b then x2 else y2) := by
  cases b
  · exact h2 rfl
  · exact h1 rfl
def abAd (base : Nat) (ex : Nat → Nat) (a : Nat) : Nat := if a < 1000000 then base + a else ex (a - 1000000)
def abCv (base : Nat) (ex : Nat → Nat) : abV → Value
  | .inl x => .int (Int32.ofInt x)
  | .inr (.inl x) => .long x
  | .inr (.inr r) => va_rf (r.map (abAd base ex))
/-- a reference that there can be -/
def abRv (n b : Nat) : Prop := b < n ∨ (1000000 ≤ b ∧ b ≤ 1000050)
def abVv (n : Nat) : abV → Prop
  | .inl x => In32 x
  | .inr (.inl _) => True
  | .inr (.inr r) => ∀ b, r = some b → abRv n b
def abFs (base : Nat) (ex : Nat → Nat) (c a : Nat) (M : abMem) : List Value := (List.range (abN c)).map (fun k => if abFt c k = 2 then va_rf ((gR M a k).map (abAd base ex)) else .int (Int32.ofInt (gI M a k)))
def abOb (base : Nat) (ex : Nat → Nat) (cA : Nat → ClassId) (K : Nat → Nat × Int) (M : abMem) (a : Nat) : va_E :=
  if (K a).1 < 20 then .inr ((K a).1, abFs base ex (K a).1 a M)
  else if (K a).1 < 23 then .inl (cA a, (K a).2.toNat, .inl (fun j => Int32.ofInt (gI M a j)))
  else if (K a).1 = 23 then .inl (cA a, (K a).2.toNat, .inr (.inl (fun j => gL M a j)))
  else .inl (cA a, (K a).2.toNat, .inr (.inr (.inr (.inr (fun j => (gR M a j).map (abAd base ex))))))
def abAty (k : Nat) : FieldType := match k with
  | 20 => .int
  | 21 => .byte
  | 22 => .boolean
  | 23 => .long
  | 24 => .array .int
  | 25 => .array .long
  | _ => .object "CelSheet$Sheet"
/-- the heap holds the cells -/
def abHp (D : va_G) (base : Nat) (ex : Nat → Nat) (cA : Nat → ClassId) (A : abAl) (M : abMem) (H : Heap) : Prop := H.size = base + A.1 ∧ ∀ a, a < A.1 → va_at D abCl (base + a, abOb base ex cA A.2 M a) H
/-- what is always so of kinds and contents -/
def abOkA (A : abAl) : Prop := A.1 < 1000000 ∧ (∀ a, a < A.1 → ((A.2 a).1 < 11 ∨ 20 ≤ (A.2 a).1 ∧ (A.2 a).1 ≤ 26) ∧ 0 ≤ (A.2 a).2 ∧ (A.2 a).2 < 2147483648) ∧ ∀ a, A.1 ≤ a → (A.2 a).1 = 99 ∨ a = 1000042 ∧ (A.2 a).1 = 52
def abOkM (n : Nat) (M : abMem) : Prop := (∀ a j, In32 (gI M a j)) ∧ ∀ a j b, gR M a j = some b → abRv n b
def abCa (s : State) (cA : Nat → ClassId) (A : abAl) : Prop := ∀ a, a < A.1 → 20 ≤ (A.2 a).1 → ArrOfT s (cA a) (abAty (A.2 a).1) ∧ va_RA s (cA a) (abAty (A.2 a).1)
/-- the script: a row of L ints at ex 42 -/
def abScr (base : Nat) (ex : Nat → Nat) (A : abAl) (M : abMem) (U : State) (H : Heap) : Prop := (A.2 1000042).1 = 52 → ∃ L : Nat, (L : Int) = (A.2 1000042).2 ∧ L < 2147483648 ∧ va_X (ex 42) L (fun j => Int32.ofInt (gI M 1000042 j)) U H ∧ ex 42 < base ∧ base ≤ H.size
-- words of nest mates, by themselves
def abIsN : Cond → Bool
  | .fieldLinkNest .. => true
  | .methodLinkNest .. => true
  | _ => false
def abBytes (i : Nat) : List Int32 := (abStrB.getD i []).map Int32.ofInt
def abLens : List Nat := abStrB.map List.length
/-- what is so of the tables, all the time -/
def abSt (D : va_G) (ex : Nat → Nat) (U : State) : Prop := va_K D abCl [] U ∧ (∀ w ∈ lw_tbl, abIsN w = true → va_Nw w U) ∧ (Cond.arrayOver (.array .int)).before #[] U = true ∧ (Cond.arrayOver (.array .long)).before #[] U = true ∧ va_AO "CelSheet$Sheet" U ∧ ∀ (i : Nat) (q : Nat × (Nat × String)), abStr[i]? = some q → vk_R (abR q.1) q.2.1 q.2.2 (ex i) U
/-- what was in the heap before, and stays -/
def abEx (base : Nat) (ex : Nat → Nat) (U : State) (H : Heap) : Prop := vk_S 21 abLens (abStrB.map (fun l => l.map Int32.ofInt)) ex (fun i => ex (21 + i)) (fun q => base ≤ q) U H ∧ va_Z "java/lang/String" "COMPACT_STRINGS" "Z" (.int 1) (fun q => base ≤ q) U H ∧ (va_Z "jdk/internal/util/Preconditions" "SIOOBE_FORMATTER" "Ljava/util/function/BiFunction;" .null (fun q => base ≤ q) U H ∨ va_Z "jdk/internal/util/Preconditions" "SIOOBE_FORMATTER" "Ljava/util/function/BiFunction;" (.ref (ex 50)) (fun q => base ≤ q) U H)
/-- the words that every method is given -/
def abTb : List Cond := lw_tbl.filter goodWord
theorem abTb_mem {w : Cond} (h : w ∈ lw_tbl) (hg : goodWord w = true) : w ∈ abTb := List.mem_filter.mpr ⟨h, hg⟩
theorem abTb_in {w : Cond} (h : w ∈ abTb) : w ∈ lw_tbl := (List.mem_filter.mp h).1
theorem abTb_good : GoodIn abTb abTb := fun w h => ⟨h, good_of_word (List.mem_filter.mp h).2⟩
def abKl (base : Nat) (ex : Nat → Nat) (ls : List (Option abV)) : List (Nat × Value) := (List.range ls.length).filterMap (fun k => match ls[k]? with
  | some (some v) => some (k, abCv base ex v)
  | _ => none)
theorem abKl_mem {base : Nat} {ex : Nat → Nat} {ls : List (Option abV)} {q : Nat × Value} : q ∈ abKl base ex ls ↔ ∃ v, ls[q.1]? = some (some v) ∧ q.2 = abCv base ex v := by
  unfold abKl
  rw [List.mem_filterMap]
  constructor
  · rintro ⟨k, hk, h⟩
    split at h
    · rename_i v hv
      cases h
      exact ⟨v, hv, rfl⟩
    · cases h
  · rintro ⟨v, hv, h2⟩
    refine ⟨q.1, List.mem_range.mpr (List.getElem?_eq_some_iff.mp hv).1, ?_⟩
    rw [hv]
    show some (q.1, abCv base ex v) = some q
    rw [← h2]
def abLs (base : Nat) (ex : Nat → Nat) (n nL : Nat) (lsM : Array Slot) (ls : List (Option abV)) : Prop := ls.length = nL ∧ lv_has lsM nL (abKl base ex ls) ∧ ∀ (k : Nat) (v : abV), ls[k]? = some (some v) → abVv n v
theorem abLs.at {base : Nat} {ex : Nat → Nat} {n nL : Nat} {lsM : Array Slot} {ls : List (Option abV)} (h : abLs base ex n nL lsM ls) {k : Nat} {v : abV} (hk : ls[k]? = some (some v)) : lsM[k]? = some (.val (abCv base ex v)) ∧ abVv n v :=
  ⟨h.2.1.2.2 (k, abCv base ex v) (abKl_mem.mpr ⟨v, hk, rfl⟩), h.2.2 k v hk⟩
theorem abLs.forget {base : Nat} {ex : Nat → Nat} {n nL : Nat} {lsM : Array Slot} {ls ls2 : List (Option abV)} (h : abLs base ex n nL lsM ls) (hl : ls2.length = ls.length) (hk : ∀ (k : Nat) (v : abV), ls2[k]? = some (some v) → ls[k]? = some (some v)) : abLs base ex n nL lsM ls2 :=
  ⟨hl.trans h.1, ⟨h.2.1.1, h.2.1.2.1, fun q hq => by
    obtain ⟨v, h1, h2⟩ := abKl_mem.mp hq
    exact h.2.1.2.2 q (abKl_mem.mpr ⟨v, hk _ _ h1, h2⟩)⟩, fun k v h1 => h.2.2 k v (hk k v h1)⟩
theorem abLe_spec : ∀ (ls2 ls : List (Option abV)), abLe ls2 ls → ls2.length = ls.length ∧ ∀ (k : Nat) (v : abV), ls2[k]? = some (some v) → ls[k]? = some (some v) := by
  intro ls2
  induction ls2 with
  | nil =>
    intro ls h
    cases ls with
    | nil => exact ⟨rfl, fun k v h => h⟩
    | cons x r => exact h.elim
  | cons x r ih =>
    intro ls h
    cases ls with
    | nil => cases x <;> exact h.elim
    | cons y t =>
      have h2 : abLe r t ∧ ∀ v, x = some v → y = some v := by
        cases x with
        | none => exact ⟨h, fun v e => by cases e⟩
        | some w => exact ⟨h.2, fun v e => by cases e; exact h.1⟩
      obtain ⟨e1, e2⟩ := ih t h2.1
      refine ⟨by simp [e1], fun k v hk => ?_⟩
      cases k with
      | zero =>
        have hx : x = some v := by simpa using hk
        simpa using h2.2 v hx
      | succ k =>
        have hx : r[k]? = some (some v) := by simpa using hk
        simpa using e2 k v hx
theorem abCv_cat (base : Nat) (ex : Nat → Nat) (v : abV) : (abCv base ex v).category = (match v with | .inr (.inl _) => 2 | _ => 1) := by
  rcases v with x | x | r
  · rfl
  · rfl
  · cases r <;> rfl
theorem abCat_sum (base : Nat) (ex : Nat → Nat) : ∀ st : List abV, ((st.map (abCv base ex)).map fun v => v.category).sum = abCat st := by
  intro st
  induction st with
  | nil => rfl
  | cons v t ih =>
    rw [List.map_cons, List.map_cons, List.sum_cons, ih, abCv_cat]
    rcases v with x | x | r <;> rfl
theorem abLs.kl_set {base : Nat} {ex : Nat → Nat} {ls : List (Option abV)} {k : Nat} {v : abV} (hno : abNo ls k = true) {q : Nat × Value} (hq : q ∈ abKl base ex (ls.set k (some v))) : q ∈ (k, abCv base ex v) :: (abKl base ex ls).filter (fun q => !(q.1 == k) && !(q.1 + 1 == k && q.2.category == 2)) := by
  obtain ⟨w, h1, h2⟩ := abKl_mem.mp hq
  by_cases e : q.1 = k
  · have hv : w = v := by
      rw [e, List.getElem?_set] at h1
      split at h1
      · split at h1
        · cases h1; rfl
        · cases h1
      · rename_i hne
        exact absurd rfl hne
    have : q = (k, abCv base ex v) := Prod.ext e (by rw [h2, hv])
    rw [this]
    exact List.mem_cons_self
  · rw [List.getElem?_set_ne (Ne.symm e)] at h1
    refine List.mem_cons_of_mem _ (List.mem_filter.mpr ⟨abKl_mem.mpr ⟨w, h1, h2⟩, ?_⟩)
    simp only [Bool.and_eq_true, Bool.not_eq_true', beq_eq_false_iff_ne, ne_eq, e, not_false_eq_true, true_and, Bool.and_eq_false_iff]
    by_cases e2 : q.1 + 1 = k
    · right
      subst e2
      rw [h2, abCv_cat]
      have hno : (match ls[q.1]? with
        | some (some (.inr (.inl _))) => false
        | _ => true) = true := hno
      rw [h1] at hno
      rcases w with x | x | r
      · exact (show ¬ (1 : Nat) = 2 by decide)
      · simp at hno
      · exact (show ¬ (1 : Nat) = 2 by decide)
    · left
      exact e2
theorem abLs.set1 {base : Nat} {ex : Nat → Nat} {n nL : Nat} {lsM : Array Slot} {ls : List (Option abV)} (h : abLs base ex n nL lsM ls) {k : Nat} {v : abV} (hno : abNo ls k = true) (hv : abVv n v) {ls' : Array Slot} (h2 : lv_has ls' nL ((k, abCv base ex v) :: (abKl base ex ls).filter (fun q => !(q.1 == k) && !(q.1 + 1 == k && q.2.category == 2)))) : abLs base ex n nL ls' (ls.set k (some v)) := by
  refine ⟨by rw [List.length_set]; exact h.1, ⟨h2.1, h2.2.1, fun q hq => h2.2.2 q (abLs.kl_set hno hq)⟩, fun j w hj => ?_⟩
  by_cases e : k = j
  · subst e
    rw [List.getElem?_set] at hj
    split at hj
    · split at hj
      · cases hj; exact hv
      · cases hj
    · rename_i hne
      exact absurd rfl hne
  · rw [List.getElem?_set_ne e] at hj
    exact h.2.2 j w hj
theorem abLs.set2 {base : Nat} {ex : Nat → Nat} {n nL : Nat} {lsM : Array Slot} {ls : List (Option abV)} (h : abLs base ex n nL lsM ls) {k : Nat} {v : abV} (hno : abNo ls k = true) (hv : abVv n v) {ls' : Array Slot} (h2 : lv_has ls' nL ((k, abCv base ex v) :: (abKl base ex ls).filter (fun q => !(q.1 == k) && (!(q.1 == k + 1) && !(q.1 + 1 == k && q.2.category == 2))))) : abLs base ex n nL ls' ((ls.set k (some v)).set (k + 1) none) := by
  have hget : ∀ (j : Nat) (w : abV), ((ls.set k (some v)).set (k + 1) none)[j]? = some (some w) → j ≠ k + 1 ∧ (ls.set k (some v))[j]? = some (some w) := by
    intro j w hj
    by_cases e : k + 1 = j
    · subst e
      rw [List.getElem?_set] at hj
      split at hj
      · split at hj <;> cases hj
      · rename_i hne
        exact absurd rfl hne
    · rw [List.getElem?_set_ne e] at hj
      exact ⟨Ne.symm e, hj⟩
  refine ⟨by rw [List.length_set, List.length_set]; exact h.1, ⟨h2.1, h2.2.1, fun q hq => ?_⟩, fun j w hj => ?_⟩
  · obtain ⟨w, h3, h4⟩ := abKl_mem.mp hq
    obtain ⟨n1, h5⟩ := hget _ _ h3
    have h6 := abLs.kl_set hno (abKl_mem.mpr ⟨w, h5, h4⟩ : q ∈ abKl base ex (ls.set k (some v)))
    apply h2.2.2 q
    rcases List.mem_cons.mp h6 with h7 | h7
    · rw [h7]; exact List.mem_cons_self
    · obtain ⟨h8, h9⟩ := List.mem_filter.mp h7
      refine List.mem_cons_of_mem _ (List.mem_filter.mpr ⟨h8, ?_⟩)
      simp only [Bool.and_eq_true, Bool.not_eq_true', beq_eq_false_iff_ne, ne_eq] at h9 ⊢
      exact ⟨h9.1, n1, h9.2⟩
  · obtain ⟨-, h5⟩ := hget _ _ hj
    by_cases e : k = j
    · subst e
      rw [List.getElem?_set] at h5
      split at h5
      · split at h5
        · cases h5; exact hv
        · cases h5
      · rename_i hne
        exact absurd rfl hne
    · rw [List.getElem?_set_ne e] at h5
      exact h.2.2 j w h5
-- numbers
theorem ofI {x : Int} (h : In32 x) : (Int32.ofInt x).toInt = x := by
  exact Int32.toInt_ofInt_of_le (by have := h.1; omega) (by have := h.2; omega)
theorem toI (x : Int32) : Int32.ofInt x.toInt = x := Int32.ofInt_toInt x
theorem inI (x : Int32) : In32 x.toInt := ⟨by have := Int32.le_toInt x; simpa using this, by have := Int32.toInt_lt x; omega⟩
theorem ofI_inj {x y : Int} (hx : In32 x) (hy : In32 y) : Int32.ofInt x = Int32.ofInt y ↔ x = y := by
  constructor
  · intro h
    rw [← ofI hx, ← ofI hy, h]
  · intro h; rw [h]
theorem ofI_lt {x y : Int} (hx : In32 x) (hy : In32 y) : Int32.ofInt x < Int32.ofInt y ↔ x < y := by
  rw [Int32.lt_iff_toInt_lt, ofI hx, ofI hy]
theorem ofI_le {x y : Int} (hx : In32 x) (hy : In32 y) : Int32.ofInt x ≤ Int32.ofInt y ↔ x ≤ y := by
  rw [Int32.le_iff_toInt_le, ofI hx, ofI hy]
theorem ofI_cl {x : Int} (hx : In32 x) : (Int32.ofInt x).toNatClampNeg = x.toNat := by
  show (Int32.ofInt x).toInt.toNat = x.toNat
  rw [ofI hx]
theorem ofI_in {j : Int} {N : Nat} (h0 : 0 ≤ j) (h1 : j < (N : Int)) (h : In32 j) : vp_in (Int32.ofInt j) N := by
  intro q
  rcases q with q | q
  · rw [Int32.lt_iff_toInt_lt, ofI h] at q
    have e : (0 : Int32).toInt = 0 := by decide
    rw [e] at q
    omega
  · rw [ofI_cl h] at q
    omega

-- what the check says of an entry
def abEnt2 (m : abMt) (f : Nat → abOp) : Prop := ∀ x : Nat, abChk m.2.2.2.2.1 m.2.1 (Nat.beq m.2.2.2.2.2.1 2) x (f x) = true
theorem abC_ok (i : Nat) : abEnt2 (abM i) (abC i) := (ab_cond2 (P := abEnt2) (fun _ => (ab_cond2 (P := abEnt2) (fun _ => (ab_cond2 (P := abEnt2) (fun _ => (ab_cond2 (P := abEnt2) (fun _ => (ab_cond2 (P := abEnt2) (fun _ => (ab_cond2 (P := abEnt2) (fun _ => (ab_cond2 (P := abEnt2) (fun _ => (ab_cond2 (P := abEnt2) (fun _ => (abk_0 : abEnt2 abm_0 abc_0)) (fun _ => (abk_1 : abEnt2 abm_1 abc_1)))) (fun _ => (ab_cond2 (P := abEnt2) (fun _ => (abk_2 : abEnt2 abm_2 abc_2)) (fun _ => (abk_3 : abEnt2 abm_3 abc_3)))))) (fun _ => (ab_cond2 (P := abEnt2) (fun _ => (ab_cond2 (P := abEnt2) (fun _ => (abk_4 : abEnt2 abm_4 abc_4)) (fun _ => (abk_5 : abEnt2 abm_5 abc_5)))) (fun _ => (ab_cond2 (P := abEnt2) (fun _ => (abk_6 : abEnt2 abm_6 abc_6)) (fun _ => (ab_cond2 (P := abEnt2) (fun _ => (abk_7 : abEnt2 abm_7 abc_7)) (fun _ => (abk_8 : abEnt2 abm_8 abc_8)))))))))) (fun _ => (ab_cond2 (P := abEnt2) (fun _ => (ab_cond2 (P := abEnt2) (fun _ => (ab_cond2 (P := abEnt2) (fun _ => (abk_9 : abEnt2 abm_9 abc_9)) (fun _ => (abk_10 : abEnt2 abm_10 abc_10)))) (fun _ => (ab_cond2 (P := abEnt2) (fun _ => (abk_11 : abEnt2 abm_11 abc_11)) (fun _ => (abk_12 : abEnt2 abm_12 abc_12)))))) (fun _ => (ab_cond2 (P := abEnt2) (fun _ => (ab_cond2 (P := abEnt2) (fun _ => (abk_13 : abEnt2 abm_13 abc_13)) (fun _ => (abk_14 : abEnt2 abm_14 abc_14)))) (fun _ => (ab_cond2 (P := abEnt2) (fun _ => (abk_15 : abEnt2 abm_15 abc_15)) (fun _ => (ab_cond2 (P := abEnt2) (fun _ => (abk_16 : abEnt2 abm_16 abc_16)) (fun _ => (abk_17 : abEnt2 abm_17 abc_17)))))))))))) (fun _ => (ab_cond2 (P := abEnt2) (fun _ => (ab_cond2 (P := abEnt2) (fun _ => (ab_cond2 (P := abEnt2) (fun _ => (ab_cond2 (P := abEnt2) (fun _ => (abk_18 : abEnt2 abm_18 abc_18)) (fun _ => (abk_19 : abEnt2 abm_19 abc_19)))) (fun _ => (ab_cond2 (P := abEnt2) (fun _ => (abk_20 : abEnt2 abm_20 abc_20)) (fun _ => (abk_21 : abEnt2 abm_21 abc_21)))))) (fun _ => (ab_cond2 (P := abEnt2) (fun _ => (ab_cond2 (P := abEnt2) (fun _ => (abk_22 : abEnt2 abm_22 abc_22)) (fun _ => (abk_23 : abEnt2 abm_23 abc_23)))) (fun _ => (ab_cond2 (P := abEnt2) (fun _ => (abk_24 : abEnt2 abm_24 abc_24)) (fun _ => (ab_cond2 (P := abEnt2) (fun _ => (abk_25 : abEnt2 abm_25 abc_25)) (fun _ => (abk_26 : abEnt2 abm_26 abc_26)))))))))) (fun _ => (ab_cond2 (P := abEnt2) (fun _ => (ab_cond2 (P := abEnt2) (fun _ => (ab_cond2 (P := abEnt2) (fun _ => (abk_27 : abEnt2 abm_27 abc_27)) (fun _ => (abk_28 : abEnt2 abm_28 abc_28)))) (fun _ => (ab_cond2 (P := abEnt2) (fun _ => (abk_29 : abEnt2 abm_29 abc_29)) (fun _ => (ab_cond2 (P := abEnt2) (fun _ => (abk_30 : abEnt2 abm_30 abc_30)) (fun _ => (abk_31 : abEnt2 abm_31 abc_31)))))))) (fun _ => (ab_cond2 (P := abEnt2) (fun _ => (ab_cond2 (P := abEnt2) (fun _ => (abk_32 : abEnt2 abm_32 abc_32)) (fun _ => (abk_33 : abEnt2 abm_33 abc_33)))) (fun _ => (ab_cond2 (P := abEnt2) (fun _ => (abk_34 : abEnt2 abm_34 abc_34)) (fun _ => (ab_cond2 (P := abEnt2) (fun _ => (abk_35 : abEnt2 abm_35 abc_35)) (fun _ => (abk_36 : abEnt2 abm_36 abc_36)))))))))))))) (fun _ => (ab_cond2 (P := abEnt2) (fun _ => (ab_cond2 (P := abEnt2) (fun _ => (ab_cond2 (P := abEnt2) (fun _ => (ab_cond2 (P := abEnt2) (fun _ => (ab_cond2 (P := abEnt2) (fun _ => (abk_37 : abEnt2 abm_37 abc_37)) (fun _ => (abk_38 : abEnt2 abm_38 abc_38)))) (fun _ => (ab_cond2 (P := abEnt2) (fun _ => (abk_39 : abEnt2 abm_39 abc_39)) (fun _ => (abk_40 : abEnt2 abm_40 abc_40)))))) (fun _ => (ab_cond2 (P := abEnt2) (fun _ => (ab_cond2 (P := abEnt2) (fun _ => (abk_41 : abEnt2 abm_41 abc_41)) (fun _ => (abk_42 : abEnt2 abm_42 abc_42)))) (fun _ => (ab_cond2 (P := abEnt2) (fun _ => (abk_43 : abEnt2 abm_43 abc_43)) (fun _ => (ab_cond2 (P := abEnt2) (fun _ => (abk_44 : abEnt2 abm_44 abc_44)) (fun _ => (abk_45 : abEnt2 abm_45 abc_45)))))))))) (fun _ => (ab_cond2 (P := abEnt2) (fun _ => (ab_cond2 (P := abEnt2) (fun _ => (ab_cond2 (P := abEnt2) (fun _ => (abk_46 : abEnt2 abm_46 abc_46)) (fun _ => (abk_47 : abEnt2 abm_47 abc_47)))) (fun _ => (ab_cond2 (P := abEnt2) (fun _ => (abk_48 : abEnt2 abm_48 abc_48)) (fun _ => (abk_49 : abEnt2 abm_49 abc_49)))))) (fun _ => (ab_cond2 (P := abEnt2) (fun _ => (ab_cond2 (P := abEnt2) (fun _ => (abk_50 : abEnt2 abm_50 abc_50)) (fun _ => (abk_51 : abEnt2 abm_51 abc_51)))) (fun _ => (ab_cond2 (P := abEnt2) (fun _ => (abk_52 : abEnt2 abm_52 abc_52)) (fun _ => (ab_cond2 (P := abEnt2) (fun _ => (abk_53 : abEnt2 abm_53 abc_53)) (fun _ => (abk_54 : abEnt2 abm_54 abc_54)))))))))))) (fun _ => (ab_cond2 (P := abEnt2) (fun _ => (ab_cond2 (P := abEnt2) (fun _ => (ab_cond2 (P := abEnt2) (fun _ => (ab_cond2 (P := abEnt2) (fun _ => (abk_55 : abEnt2 abm_55 abc_55)) (fun _ => (abk_56 : abEnt2 abm_56 abc_56)))) (fun _ => (ab_cond2 (P := abEnt2) (fun _ => (abk_57 : abEnt2 abm_57 abc_57)) (fun _ => (abk_58 : abEnt2 abm_58 abc_58)))))) (fun _ => (ab_cond2 (P := abEnt2) (fun _ => (ab_cond2 (P := abEnt2) (fun _ => (abk_59 : abEnt2 abm_59 abc_59)) (fun _ => (abk_60 : abEnt2 abm_60 abc_60)))) (fun _ => (ab_cond2 (P := abEnt2) (fun _ => (abk_61 : abEnt2 abm_61 abc_61)) (fun _ => (ab_cond2 (P := abEnt2) (fun _ => (abk_62 : abEnt2 abm_62 abc_62)) (fun _ => (abk_63 : abEnt2 abm_63 abc_63)))))))))) (fun _ => (ab_cond2 (P := abEnt2) (fun _ => (ab_cond2 (P := abEnt2) (fun _ => (ab_cond2 (P := abEnt2) (fun _ => (abk_64 : abEnt2 abm_64 abc_64)) (fun _ => (abk_65 : abEnt2 abm_65 abc_65)))) (fun _ => (ab_cond2 (P := abEnt2) (fun _ => (abk_66 : abEnt2 abm_66 abc_66)) (fun _ => (ab_cond2 (P := abEnt2) (fun _ => (abk_67 : abEnt2 abm_67 abc_67)) (fun _ => (abk_68 : abEnt2 abm_68 abc_68)))))))) (fun _ => (ab_cond2 (P := abEnt2) (fun _ => (ab_cond2 (P := abEnt2) (fun _ => (abk_69 : abEnt2 abm_69 abc_69)) (fun _ => (abk_70 : abEnt2 abm_70 abc_70)))) (fun _ => (ab_cond2 (P := abEnt2) (fun _ => (abk_71 : abEnt2 abm_71 abc_71)) (fun _ => (ab_cond2 (P := abEnt2) (fun _ => (abk_72 : abEnt2 abm_72 abc_72)) (fun _ => (abk_73 : abEnt2 abm_73 abc_73)))))))))))))))) (fun _ => (ab_cond2 (P := abEnt2) (fun _ => (ab_cond2 (P := abEnt2) (fun _ => (ab_cond2 (P := abEnt2) (fun _ => (ab_cond2 (P := abEnt2) (fun _ => (ab_cond2 (P := abEnt2) (fun _ => (ab_cond2 (P := abEnt2) (fun _ => (abk_74 : abEnt2 abm_74 abc_74)) (fun _ => (abk_75 : abEnt2 abm_75 abc_75)))) (fun _ => (ab_cond2 (P := abEnt2) (fun _ => (abk_76 : abEnt2 abm_76 abc_76)) (fun _ => (abk_77 : abEnt2 abm_77 abc_77)))))) (fun _ => (ab_cond2 (P := abEnt2) (fun _ => (ab_cond2 (P := abEnt2) (fun _ => (abk_78 : abEnt2 abm_78 abc_78)) (fun _ => (abk_79 : abEnt2 abm_79 abc_79)))) (fun _ => (ab_cond2 (P := abEnt2) (fun _ => (abk_80 : abEnt2 abm_80 abc_80)) (fun _ => (ab_cond2 (P := abEnt2) (fun _ => (abk_81 : abEnt2 abm_81 abc_81)) (fun _ => (abk_82 : abEnt2 abm_82 abc_82)))))))))) (fun _ => (ab_cond2 (P := abEnt2) (fun _ => (ab_cond2 (P := abEnt2) (fun _ => (ab_cond2 (P := abEnt2) (fun _ => (abk_83 : abEnt2 abm_83 abc_83)) (fun _ => (abk_84 : abEnt2 abm_84 abc_84)))) (fun _ => (ab_cond2 (P := abEnt2) (fun _ => (abk_85 : abEnt2 abm_85 abc_85)) (fun _ => (abk_86 : abEnt2 abm_86 abc_86)))))) (fun _ => (ab_cond2 (P := abEnt2) (fun _ => (ab_cond2 (P := abEnt2) (fun _ => (abk_87 : abEnt2 abm_87 abc_87)) (fun _ => (abk_88 : abEnt2 abm_88 abc_88)))) (fun _ => (ab_cond2 (P := abEnt2) (fun _ => (abk_89 : abEnt2 abm_89 abc_89)) (fun _ => (ab_cond2 (P := abEnt2) (fun _ => (abk_90 : abEnt2 abm_90 abc_90)) (fun _ => (abk_91 : abEnt2 abm_91 abc_91)))))))))))) (fun _ => (ab_cond2 (P := abEnt2) (fun _ => (ab_cond2 (P := abEnt2) (fun _ => (ab_cond2 (P := abEnt2) (fun _ => (ab_cond2 (P := abEnt2) (fun _ => (abk_92 : abEnt2 abm_92 abc_92)) (fun _ => (abk_93 : abEnt2 abm_93 abc_93)))) (fun _ => (ab_cond2 (P := abEnt2) (fun _ => (abk_94 : abEnt2 abm_94 abc_94)) (fun _ => (abk_95 : abEnt2 abm_95 abc_95)))))) (fun _ => (ab_cond2 (P := abEnt2) (fun _ => (ab_cond2 (P := abEnt2) (fun _ => (abk_96 : abEnt2 abm_96 abc_96)) (fun _ => (abk_97 : abEnt2 abm_97 abc_97)))) (fun _ => (ab_cond2 (P := abEnt2) (fun _ => (abk_98 : abEnt2 abm_98 abc_98)) (fun _ => (ab_cond2 (P := abEnt2) (fun _ => (abk_99 : abEnt2 abm_99 abc_99)) (fun _ => (abk_100 : abEnt2 abm_100 abc_100)))))))))) (fun _ => (ab_cond2 (P := abEnt2) (fun _ => (ab_cond2 (P := abEnt2) (fun _ => (ab_cond2 (P := abEnt2) (fun _ => (abk_101 : abEnt2 abm_101 abc_101)) (fun _ => (abk_102 : abEnt2 abm_102 abc_102)))) (fun _ => (ab_cond2 (P := abEnt2) (fun _ => (abk_103 : abEnt2 abm_103 abc_103)) (fun _ => (ab_cond2 (P := abEnt2) (fun _ => (abk_104 : abEnt2 abm_104 abc_104)) (fun _ => (abk_105 : abEnt2 abm_105 abc_105)))))))) (fun _ => (ab_cond2 (P := abEnt2) (fun _ => (ab_cond2 (P := abEnt2) (fun _ => (abk_106 : abEnt2 abm_106 abc_106)) (fun _ => (abk_107 : abEnt2 abm_107 abc_107)))) (fun _ => (ab_cond2 (P := abEnt2) (fun _ => (abk_108 : abEnt2 abm_108 abc_108)) (fun _ => (ab_cond2 (P := abEnt2) (fun _ => (abk_109 : abEnt2 abm_109 abc_109)) (fun _ => (abk_110 : abEnt2 abm_110 abc_110)))))))))))))) (fun _ => (ab_cond2 (P := abEnt2) (fun _ => (ab_cond2 (P := abEnt2) (fun _ => (ab_cond2 (P := abEnt2) (fun _ => (ab_cond2 (P := abEnt2) (fun _ => (ab_cond2 (P := abEnt2) (fun _ => (abk_111 : abEnt2 abm_111 abc_111)) (fun _ => (abk_112 : abEnt2 abm_112 abc_112)))) (fun _ => (ab_cond2 (P := abEnt2) (fun _ => (abk_113 : abEnt2 abm_113 abc_113)) (fun _ => (abk_114 : abEnt2 abm_114 abc_114)))))) (fun _ => (ab_cond2 (P := abEnt2) (fun _ => (ab_cond2 (P := abEnt2) (fun _ => (abk_115 : abEnt2 abm_115 abc_115)) (fun _ => (abk_116 : abEnt2 abm_116 abc_116)))) (fun _ => (ab_cond2 (P := abEnt2) (fun _ => (abk_117 : abEnt2 abm_117 abc_117)) (fun _ => (ab_cond2 (P := abEnt2) (fun _ => (abk_118 : abEnt2 abm_118 abc_118)) (fun _ => (abk_119 : abEnt2 abm_119 abc_119)))))))))) (fun _ => (ab_cond2 (P := abEnt2) (fun _ => (ab_cond2 (P := abEnt2) (fun _ => (ab_cond2 (P := abEnt2) (fun _ => (abk_120 : abEnt2 abm_120 abc_120)) (fun _ => (abk_121 : abEnt2 abm_121 abc_121)))) (fun _ => (ab_cond2 (P := abEnt2) (fun _ => (abk_122 : abEnt2 abm_122 abc_122)) (fun _ => (ab_cond2 (P := abEnt2) (fun _ => (abk_123 : abEnt2 abm_123 abc_123)) (fun _ => (abk_124 : abEnt2 abm_124 abc_124)))))))) (fun _ => (ab_cond2 (P := abEnt2) (fun _ => (ab_cond2 (P := abEnt2) (fun _ => (abk_125 : abEnt2 abm_125 abc_125)) (fun _ => (abk_126 : abEnt2 abm_126 abc_126)))) (fun _ => (ab_cond2 (P := abEnt2) (fun _ => (abk_127 : abEnt2 abm_127 abc_127)) (fun _ => (ab_cond2 (P := abEnt2) (fun _ => (abk_128 : abEnt2 abm_128 abc_128)) (fun _ => (abk_129 : abEnt2 abm_129 abc_129)))))))))))) (fun _ => (ab_cond2 (P := abEnt2) (fun _ => (ab_cond2 (P := abEnt2) (fun _ => (ab_cond2 (P := abEnt2) (fun _ => (ab_cond2 (P := abEnt2) (fun _ => (abk_130 : abEnt2 abm_130 abc_130)) (fun _ => (abk_131 : abEnt2 abm_131 abc_131)))) (fun _ => (ab_cond2 (P := abEnt2) (fun _ => (abk_132 : abEnt2 abm_132 abc_132)) (fun _ => (abk_133 : abEnt2 abm_133 abc_133)))))) (fun _ => (ab_cond2 (P := abEnt2) (fun _ => (ab_cond2 (P := abEnt2) (fun _ => (abk_134 : abEnt2 abm_134 abc_134)) (fun _ => (abk_135 : abEnt2 abm_135 abc_135)))) (fun _ => (ab_cond2 (P := abEnt2) (fun _ => (abk_136 : abEnt2 abm_136 abc_136)) (fun _ => (ab_cond2 (P := abEnt2) (fun _ => (abk_137 : abEnt2 abm_137 abc_137)) (fun _ => (abk_138 : abEnt2 abm_138 abc_138)))))))))) (fun _ => (ab_cond2 (P := abEnt2) (fun _ => (ab_cond2 (P := abEnt2) (fun _ => (ab_cond2 (P := abEnt2) (fun _ => (abk_139 : abEnt2 abm_139 abc_139)) (fun _ => (abk_140 : abEnt2 abm_140 abc_140)))) (fun _ => (ab_cond2 (P := abEnt2) (fun _ => (abk_141 : abEnt2 abm_141 abc_141)) (fun _ => (ab_cond2 (P := abEnt2) (fun _ => (abk_142 : abEnt2 abm_142 abc_142)) (fun _ => (abk_143 : abEnt2 abm_143 abc_143)))))))) (fun _ => (ab_cond2 (P := abEnt2) (fun _ => (ab_cond2 (P := abEnt2) (fun _ => (abk_144 : abEnt2 abm_144 abc_144)) (fun _ => (abk_145 : abEnt2 abm_145 abc_145)))) (fun _ => (ab_cond2 (P := abEnt2) (fun _ => (abk_146 : abEnt2 abm_146 abc_146)) (fun _ => (ab_cond2 (P := abEnt2) (fun _ => (abk_147 : abEnt2 abm_147 abc_147)) (fun _ => (abk_148 : abEnt2 abm_148 abc_148)))))))))))))))))) (fun _ => (ab_cond2 (P := abEnt2) (fun _ => (ab_cond2 (P := abEnt2) (fun _ => (ab_cond2 (P := abEnt2) (fun _ => (ab_cond2 (P := abEnt2) (fun _ => (ab_cond2 (P := abEnt2) (fun _ => (ab_cond2 (P := abEnt2) (fun _ => (ab_cond2 (P := abEnt2) (fun _ => (abk_149 : abEnt2 abm_149 abc_149)) (fun _ => (abk_150 : abEnt2 abm_150 abc_150)))) (fun _ => (ab_cond2 (P := abEnt2) (fun _ => (abk_151 : abEnt2 abm_151 abc_151)) (fun _ => (abk_152 : abEnt2 abm_152 abc_152)))))) (fun _ => (ab_cond2 (P := abEnt2) (fun _ => (ab_cond2 (P := abEnt2) (fun _ => (abk_153 : abEnt2 abm_153 abc_153)) (fun _ => (abk_154 : abEnt2 abm_154 abc_154)))) (fun _ => (ab_cond2 (P := abEnt2) (fun _ => (abk_155 : abEnt2 abm_155 abc_155)) (fun _ => (ab_cond2 (P := abEnt2) (fun _ => (abk_156 : abEnt2 abm_156 abc_156)) (fun _ => (abk_157 : abEnt2 abm_157 abc_157)))))))))) (fun _ => (ab_cond2 (P := abEnt2) (fun _ => (ab_cond2 (P := abEnt2) (fun _ => (ab_cond2 (P := abEnt2) (fun _ => (abk_158 : abEnt2 abm_158 abc_158)) (fun _ => (abk_159 : abEnt2 abm_159 abc_159)))) (fun _ => (ab_cond2 (P := abEnt2) (fun _ => (abk_160 : abEnt2 abm_160 abc_160)) (fun _ => (abk_161 : abEnt2 abm_161 abc_161)))))) (fun _ => (ab_cond2 (P := abEnt2) (fun _ => (ab_cond2 (P := abEnt2) (fun _ => (abk_162 : abEnt2 abm_162 abc_162)) (fun _ => (abk_163 : abEnt2 abm_163 abc_163)))) (fun _ => (ab_cond2 (P := abEnt2) (fun _ => (abk_164 : abEnt2 abm_164 abc_164)) (fun _ => (ab_cond2 (P := abEnt2) (fun _ => (abk_165 : abEnt2 abm_165 abc_165)) (fun _ => (abk_166 : abEnt2 abm_166 abc_166)))))))))))) (fun _ => (ab_cond2 (P := abEnt2) (fun _ => (ab_cond2 (P := abEnt2) (fun _ => (ab_cond2 (P := abEnt2) (fun _ => (ab_cond2 (P := abEnt2) (fun _ => (abk_167 : abEnt2 abm_167 abc_167)) (fun _ => (abk_168 : abEnt2 abm_168 abc_168)))) (fun _ => (ab_cond2 (P := abEnt2) (fun _ => (abk_169 : abEnt2 abm_169 abc_169)) (fun _ => (abk_170 : abEnt2 abm_170 abc_170)))))) (fun _ => (ab_cond2 (P := abEnt2) (fun _ => (ab_cond2 (P := abEnt2) (fun _ => (abk_171 : abEnt2 abm_171 abc_171)) (fun _ => (abk_172 : abEnt2 abm_172 abc_172)))) (fun _ => (ab_cond2 (P := abEnt2) (fun _ => (abk_173 : abEnt2 abm_173 abc_173)) (fun _ => (ab_cond2 (P := abEnt2) (fun _ => (abk_174 : abEnt2 abm_174 abc_174)) (fun _ => (abk_175 : abEnt2 abm_175 abc_175)))))))))) (fun _ => (ab_cond2 (P := abEnt2) (fun _ => (ab_cond2 (P := abEnt2) (fun _ => (ab_cond2 (P := abEnt2) (fun _ => (abk_176 : abEnt2 abm_176 abc_176)) (fun _ => (abk_177 : abEnt2 abm_177 abc_177)))) (fun _ => (ab_cond2 (P := abEnt2) (fun _ => (abk_178 : abEnt2 abm_178 abc_178)) (fun _ => (ab_cond2 (P := abEnt2) (fun _ => (abk_179 : abEnt2 abm_179 abc_179)) (fun _ => (abk_180 : abEnt2 abm_180 abc_180)))))))) (fun _ => (ab_cond2 (P := abEnt2) (fun _ => (ab_cond2 (P := abEnt2) (fun _ => (abk_181 : abEnt2 abm_181 abc_181)) (fun _ => (abk_182 : abEnt2 abm_182 abc_182)))) (fun _ => (ab_cond2 (P := abEnt2) (fun _ => (abk_183 : abEnt2 abm_183 abc_183)) (fun _ => (ab_cond2 (P := abEnt2) (fun _ => (abk_184 : abEnt2 abm_184 abc_184)) (fun _ => (abk_185 : abEnt2 abm_185 abc_185)))))))))))))) (fun _ => (ab_cond2 (P := abEnt2) (fun _ => (ab_cond2 (P := abEnt2) (fun _ => (ab_cond2 (P := abEnt2) (fun _ => (ab_cond2 (P := abEnt2) (fun _ => (ab_cond2 (P := abEnt2) (fun _ => (abk_186 : abEnt2 abm_186 abc_186)) (fun _ => (abk_187 : abEnt2 abm_187 abc_187)))) (fun _ => (ab_cond2 (P := abEnt2) (fun _ => (abk_188 : abEnt2 abm_188 abc_188)) (fun _ => (abk_189 : abEnt2 abm_189 abc_189)))))) (fun _ => (ab_cond2 (P := abEnt2) (fun _ => (ab_cond2 (P := abEnt2) (fun _ => (abk_190 : abEnt2 abm_190 abc_190)) (fun _ => (abk_191 : abEnt2 abm_191 abc_191)))) (fun _ => (ab_cond2 (P := abEnt2) (fun _ => (abk_192 : abEnt2 abm_192 abc_192)) (fun _ => (ab_cond2 (P := abEnt2) (fun _ => (abk_193 : abEnt2 abm_193 abc_193)) (fun _ => (abk_194 : abEnt2 abm_194 abc_194)))))))))) (fun _ => (ab_cond2 (P := abEnt2) (fun _ => (ab_cond2 (P := abEnt2) (fun _ => (ab_cond2 (P := abEnt2) (fun _ => (abk_195 : abEnt2 abm_195 abc_195)) (fun _ => (abk_196 : abEnt2 abm_196 abc_196)))) (fun _ => (ab_cond2 (P := abEnt2) (fun _ => (abk_197 : abEnt2 abm_197 abc_197)) (fun _ => (abk_198 : abEnt2 abm_198 abc_198)))))) (fun _ => (ab_cond2 (P := abEnt2) (fun _ => (ab_cond2 (P := abEnt2) (fun _ => (abk_199 : abEnt2 abm_199 abc_199)) (fun _ => (abk_200 : abEnt2 abm_200 abc_200)))) (fun _ => (ab_cond2 (P := abEnt2) (fun _ => (abk_201 : abEnt2 abm_201 abc_201)) (fun _ => (ab_cond2 (P := abEnt2) (fun _ => (abk_202 : abEnt2 abm_202 abc_202)) (fun _ => (abk_203 : abEnt2 abm_203 abc_203)))))))))))) (fun _ => (ab_cond2 (P := abEnt2) (fun _ => (ab_cond2 (P := abEnt2) (fun _ => (ab_cond2 (P := abEnt2) (fun _ => (ab_cond2 (P := abEnt2) (fun _ => (abk_204 : abEnt2 abm_204 abc_204)) (fun _ => (abk_205 : abEnt2 abm_205 abc_205)))) (fun _ => (ab_cond2 (P := abEnt2) (fun _ => (abk_206 : abEnt2 abm_206 abc_206)) (fun _ => (abk_207 : abEnt2 abm_207 abc_207)))))) (fun _ => (ab_cond2 (P := abEnt2) (fun _ => (ab_cond2 (P := abEnt2) (fun _ => (abk_208 : abEnt2 abm_208 abc_208)) (fun _ => (abk_209 : abEnt2 abm_209 abc_209)))) (fun _ => (ab_cond2 (P := abEnt2) (fun _ => (abk_210 : abEnt2 abm_210 abc_210)) (fun _ => (ab_cond2 (P := abEnt2) (fun _ => (abk_211 : abEnt2 abm_211 abc_211)) (fun _ => (abk_212 : abEnt2 abm_212 abc_212)))))))))) (fun _ => (ab_cond2 (P := abEnt2) (fun _ => (ab_cond2 (P := abEnt2) (fun _ => (ab_cond2 (P := abEnt2) (fun _ => (abk_213 : abEnt2 abm_213 abc_213)) (fun _ => (abk_214 : abEnt2 abm_214 abc_214)))) (fun _ => (ab_cond2 (P := abEnt2) (fun _ => (abk_215 : abEnt2 abm_215 abc_215)) (fun _ => (ab_cond2 (P := abEnt2) (fun _ => (abk_216 : abEnt2 abm_216 abc_216)) (fun _ => (abk_217 : abEnt2 abm_217 abc_217)))))))) (fun _ => (ab_cond2 (P := abEnt2) (fun _ => (ab_cond2 (P := abEnt2) (fun _ => (abk_218 : abEnt2 abm_218 abc_218)) (fun _ => (abk_219 : abEnt2 abm_219 abc_219)))) (fun _ => (ab_cond2 (P := abEnt2) (fun _ => (abk_220 : abEnt2 abm_220 abc_220)) (fun _ => (ab_cond2 (P := abEnt2) (fun _ => (abk_221 : abEnt2 abm_221 abc_221)) (fun _ => (abk_222 : abEnt2 abm_222 abc_222)))))))))))))))) (fun _ => (ab_cond2 (P := abEnt2) (fun _ => (ab_cond2 (P := abEnt2) (fun _ => (ab_cond2 (P := abEnt2) (fun _ => (ab_cond2 (P := abEnt2) (fun _ => (ab_cond2 (P := abEnt2) (fun _ => (ab_cond2 (P := abEnt2) (fun _ => (abk_223 : abEnt2 abm_223 abc_223)) (fun _ => (abk_224 : abEnt2 abm_224 abc_224)))) (fun _ => (ab_cond2 (P := abEnt2) (fun _ => (abk_225 : abEnt2 abm_225 abc_225)) (fun _ => (abk_226 : abEnt2 abm_226 abc_226)))))) (fun _ => (ab_cond2 (P := abEnt2) (fun _ => (ab_cond2 (P := abEnt2) (fun _ => (abk_227 : abEnt2 abm_227 abc_227)) (fun _ => (abk_228 : abEnt2 abm_228 abc_228)))) (fun _ => (ab_cond2 (P := abEnt2) (fun _ => (abk_229 : abEnt2 abm_229 abc_229)) (fun _ => (ab_cond2 (P := abEnt2) (fun _ => (abk_230 : abEnt2 abm_230 abc_230)) (fun _ => (abk_231 : abEnt2 abm_231 abc_231)))))))))) (fun _ => (ab_cond2 (P := abEnt2) (fun _ => (ab_cond2 (P := abEnt2) (fun _ => (ab_cond2 (P := abEnt2) (fun _ => (abk_232 : abEnt2 abm_232 abc_232)) (fun _ => (abk_233 : abEnt2 abm_233 abc_233)))) (fun _ => (ab_cond2 (P := abEnt2) (fun _ => (abk_234 : abEnt2 abm_234 abc_234)) (fun _ => (abk_235 : abEnt2 abm_235 abc_235)))))) (fun _ => (ab_cond2 (P := abEnt2) (fun _ => (ab_cond2 (P := abEnt2) (fun _ => (abk_236 : abEnt2 abm_236 abc_236)) (fun _ => (abk_237 : abEnt2 abm_237 abc_237)))) (fun _ => (ab_cond2 (P := abEnt2) (fun _ => (abk_238 : abEnt2 abm_238 abc_238)) (fun _ => (ab_cond2 (P := abEnt2) (fun _ => (abk_239 : abEnt2 abm_239 abc_239)) (fun _ => (abk_240 : abEnt2 abm_240 abc_240)))))))))))) (fun _ => (ab_cond2 (P := abEnt2) (fun _ => (ab_cond2 (P := abEnt2) (fun _ => (ab_cond2 (P := abEnt2) (fun _ => (ab_cond2 (P := abEnt2) (fun _ => (abk_241 : abEnt2 abm_241 abc_241)) (fun _ => (abk_242 : abEnt2 abm_242 abc_242)))) (fun _ => (ab_cond2 (P := abEnt2) (fun _ => (abk_243 : abEnt2 abm_243 abc_243)) (fun _ => (abk_244 : abEnt2 abm_244 abc_244)))))) (fun _ => (ab_cond2 (P := abEnt2) (fun _ => (ab_cond2 (P := abEnt2) (fun _ => (abk_245 : abEnt2 abm_245 abc_245)) (fun _ => (abk_246 : abEnt2 abm_246 abc_246)))) (fun _ => (ab_cond2 (P := abEnt2) (fun _ => (abk_247 : abEnt2 abm_247 abc_247)) (fun _ => (ab_cond2 (P := abEnt2) (fun _ => (abk_248 : abEnt2 abm_248 abc_248)) (fun _ => (abk_249 : abEnt2 abm_249 abc_249)))))))))) (fun _ => (ab_cond2 (P := abEnt2) (fun _ => (ab_cond2 (P := abEnt2) (fun _ => (ab_cond2 (P := abEnt2) (fun _ => (abk_250 : abEnt2 abm_250 abc_250)) (fun _ => (abk_251 : abEnt2 abm_251 abc_251)))) (fun _ => (ab_cond2 (P := abEnt2) (fun _ => (abk_252 : abEnt2 abm_252 abc_252)) (fun _ => (ab_cond2 (P := abEnt2) (fun _ => (abk_253 : abEnt2 abm_253 abc_253)) (fun _ => (abk_254 : abEnt2 abm_254 abc_254)))))))) (fun _ => (ab_cond2 (P := abEnt2) (fun _ => (ab_cond2 (P := abEnt2) (fun _ => (abk_255 : abEnt2 abm_255 abc_255)) (fun _ => (abk_256 : abEnt2 abm_256 abc_256)))) (fun _ => (ab_cond2 (P := abEnt2) (fun _ => (abk_257 : abEnt2 abm_257 abc_257)) (fun _ => (ab_cond2 (P := abEnt2) (fun _ => (abk_258 : abEnt2 abm_258 abc_258)) (fun _ => (abk_259 : abEnt2 abm_259 abc_259)))))))))))))) (fun _ => (ab_cond2 (P := abEnt2) (fun _ => (ab_cond2 (P := abEnt2) (fun _ => (ab_cond2 (P := abEnt2) (fun _ => (ab_cond2 (P := abEnt2) (fun _ => (ab_cond2 (P := abEnt2) (fun _ => (abk_260 : abEnt2 abm_260 abc_260)) (fun _ => (abk_261 : abEnt2 abm_261 abc_261)))) (fun _ => (ab_cond2 (P := abEnt2) (fun _ => (abk_262 : abEnt2 abm_262 abc_262)) (fun _ => (abk_263 : abEnt2 abm_263 abc_263)))))) (fun _ => (ab_cond2 (P := abEnt2) (fun _ => (ab_cond2 (P := abEnt2) (fun _ => (abk_264 : abEnt2 abm_264 abc_264)) (fun _ => (abk_265 : abEnt2 abm_265 abc_265)))) (fun _ => (ab_cond2 (P := abEnt2) (fun _ => (abk_266 : abEnt2 abm_266 abc_266)) (fun _ => (ab_cond2 (P := abEnt2) (fun _ => (abk_267 : abEnt2 abm_267 abc_267)) (fun _ => (abk_268 : abEnt2 abm_268 abc_268)))))))))) (fun _ => (ab_cond2 (P := abEnt2) (fun _ => (ab_cond2 (P := abEnt2) (fun _ => (ab_cond2 (P := abEnt2) (fun _ => (abk_269 : abEnt2 abm_269 abc_269)) (fun _ => (abk_270 : abEnt2 abm_270 abc_270)))) (fun _ => (ab_cond2 (P := abEnt2) (fun _ => (abk_271 : abEnt2 abm_271 abc_271)) (fun _ => (ab_cond2 (P := abEnt2) (fun _ => (abk_272 : abEnt2 abm_272 abc_272)) (fun _ => (abk_273 : abEnt2 abm_273 abc_273)))))))) (fun _ => (ab_cond2 (P := abEnt2) (fun _ => (ab_cond2 (P := abEnt2) (fun _ => (abk_274 : abEnt2 abm_274 abc_274)) (fun _ => (abk_275 : abEnt2 abm_275 abc_275)))) (fun _ => (ab_cond2 (P := abEnt2) (fun _ => (abk_276 : abEnt2 abm_276 abc_276)) (fun _ => (ab_cond2 (P := abEnt2) (fun _ => (abk_277 : abEnt2 abm_277 abc_277)) (fun _ => (abk_278 : abEnt2 abm_278 abc_278)))))))))))) (fun _ => (ab_cond2 (P := abEnt2) (fun _ => (ab_cond2 (P := abEnt2) (fun _ => (ab_cond2 (P := abEnt2) (fun _ => (ab_cond2 (P := abEnt2) (fun _ => (abk_279 : abEnt2 abm_279 abc_279)) (fun _ => (abk_280 : abEnt2 abm_280 abc_280)))) (fun _ => (ab_cond2 (P := abEnt2) (fun _ => (abk_281 : abEnt2 abm_281 abc_281)) (fun _ => (abk_282 : abEnt2 abm_282 abc_282)))))) (fun _ => (ab_cond2 (P := abEnt2) (fun _ => (ab_cond2 (P := abEnt2) (fun _ => (abk_283 : abEnt2 abm_283 abc_283)) (fun _ => (abk_284 : abEnt2 abm_284 abc_284)))) (fun _ => (ab_cond2 (P := abEnt2) (fun _ => (abk_285 : abEnt2 abm_285 abc_285)) (fun _ => (ab_cond2 (P := abEnt2) (fun _ => (abk_286 : abEnt2 abm_286 abc_286)) (fun _ => (abk_287 : abEnt2 abm_287 abc_287)))))))))) (fun _ => (ab_cond2 (P := abEnt2) (fun _ => (ab_cond2 (P := abEnt2) (fun _ => (ab_cond2 (P := abEnt2) (fun _ => (abk_288 : abEnt2 abm_288 abc_288)) (fun _ => (abk_289 : abEnt2 abm_289 abc_289)))) (fun _ => (ab_cond2 (P := abEnt2) (fun _ => (abk_290 : abEnt2 abm_290 abc_290)) (fun _ => (ab_cond2 (P := abEnt2) (fun _ => (abk_291 : abEnt2 abm_291 abc_291)) (fun _ => (abk_292 : abEnt2 abm_292 abc_292)))))))) (fun _ => (ab_cond2 (P := abEnt2) (fun _ => (ab_cond2 (P := abEnt2) (fun _ => (abk_293 : abEnt2 abm_293 abc_293)) (fun _ => (abk_294 : abEnt2 abm_294 abc_294)))) (fun _ => (ab_cond2 (P := abEnt2) (fun _ => (abk_295 : abEnt2 abm_295 abc_295)) (fun _ => (ab_cond2 (P := abEnt2) (fun _ => (abk_296 : abEnt2 abm_296 abc_296)) (fun _ => (abk_297 : abEnt2 abm_297 abc_297)))))))))))))))))))
theorem abDec {i pc : Nat} {op : Nat} {a b : Int} {c n : Nat} (h : abC i pc = (op, a, b, c, n)) (h0 : op ≠ 0) : decode (abB i) pc = .ok (abExp pc (op, a, b, c, n), n - pc) ∧ pc < n ∧ abSide (abOwn i) (Nat.beq (abKd i) 2) pc (op, a, b, c, n) = true := by
  have hc : abChk (abOwn i) (abB i) (Nat.beq (abKd i) 2) pc (abC i pc) = true := abC_ok i pc
  rw [h] at hc
  unfold abChk at hc
  rw [Bool.or_eq_true] at hc
  rcases hc with q | q
  · exact absurd (Nat.eq_of_beq_eq_true q) h0
  · rw [Bool.and_eq_true, Bool.and_eq_true] at q
    exact ⟨of_decide_eq_true q.1, of_decide_eq_true q.2.1, q.2.2⟩
