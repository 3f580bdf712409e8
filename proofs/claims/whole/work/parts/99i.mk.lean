/-- the references when both are made -/
def r0 : abRf := (false, (none, (none, none)))
def FF (g h : Int → Option Nat) (a : Nat) : Int → Option Nat := if a = 20 then g else if a = 201 then h else rr r0 a
def I1 (a : Nat) : Int → Int := fun j => if a = 3 ∧ j = 6 then -1 else if a = 567 ∧ (j = 7 ∨ j = 12 ∨ j = 21) then -1 else 0
def IQ (q : Int → Int) (a : Nat) : Int → Int := if a = 572 then q else I1 a
def aF (A : abAl) (o e : Nat) : abAl := (e, fun a => if o ≤ a ∧ a < e then kT a else A.2 a)
/-- the cells from o on are made up to e, o itself is fR, fI yet -/
def wF (I : Nat → Int → Int) (F : Nat → Int → Option Nat) (M : abMem) (o e : Nat) (fR : Int → Option Nat) (fI : Int → Int) : abMem := (fun a => if a = o then fI else if o < a ∧ a < e then I a else M.1 a, (fun a => if o ≤ a ∧ a < e then (fun _ => 0) else M.2.1 a, fun a => if a = o then fR else if o < a ∧ a < e then F a else M.2.2 a))
def gF (I : Nat → Int → Int) (F : Nat → Int → Option Nat) (M : abMem) (o e : Nat) : abMem := wF I F M o e (F o) (I o)
theorem up_same {f : Int → Int} {j x : Int} (h : f j = x) : up f j x = f := by
  funext i
  by_cases q : i = j
  · rw [up_eq q, q, h]
  · exact up_ne q
theorem FF_o {g h : Int → Option Nat} {a : Nat} (h1 : a ≠ 20) (h2 : a ≠ 201) : FF g h a = rr r0 a := by
  unfold FF
  rw [if_neg h1, if_neg h2]
theorem IQ_z {q : Int → Int} {a : Nat} (h1 : a ≠ 572) (h2 : a ≠ 3) (h3 : a ≠ 567) : IQ q a = fun _ => 0 := by
  unfold IQ
  rw [if_neg h1]
  funext j
  unfold I1
  rw [if_neg (fun k => h2 k.1), if_neg (fun k => h3 k.1)]
theorem rr_neg {r : abRf} {a : Nat} {j : Int} (h : j < 0) : rr r a j = none := by
  match j, h with
  | .ofNat k, h => exact absurd h (by simp)
  | .negSucc k, _ =>
    unfold rr
    cases Nat.blt a 582 <;> rfl
theorem rr_ext {o : Nat} (ho : o < 582) {f : Int → Option Nat} (h : ∀ k : Nat, rT r0 o k = f k) (hn : ∀ j : Int, j < 0 → f j = none) : rr r0 o = f := by
  funext j
  by_cases q : 0 ≤ j
  · obtain ⟨k, rfl⟩ := Int.eq_ofNat_of_zero_le q
    rw [rr_of (by omega) ho]
    exact h k
  · rw [rr_neg (by omega), hn j (by omega)]
theorem rr_no {o : Nat} (ho : o < 582) (h : ∀ k : Nat, rT r0 o k = none) : rr r0 o = fun _ => none := rr_ext ho h (fun _ _ => rfl)
theorem rr_rw {o l : Nat} (ho : o < 582) (h : ∀ k : Nat, rT r0 o k = bif Nat.blt k l then some (o + 1 + k) else none) : rr r0 o = fun j => if 0 ≤ j ∧ j < (l : Int) then some (o + 1 + j.toNat) else none := rr_ext ho (fun k => by
  rw [h k]
  by_cases q : k < l
  · rw [if_pos ⟨by omega, by omega⟩, Nat.blt_eq.mpr q]; rfl
  · rw [if_neg (by omega)]
    cases e : Nat.blt k l
    · rfl
    · exact absurd (Nat.blt_eq.mp e) q) (fun j hj => if_neg (by omega))
section
variable {A : abAl} {M : abMem} {I : Nat → Int → Int} {F : Nat → Int → Option Nat} {o n e : Nat} {fR : Int → Option Nat} {fI : Int → Int}
theorem aF_k {a : Nat} (h1 : o ≤ a) (h2 : a < n) : (aF A o n).2 a = kT a := if_pos ⟨h1, h2⟩
theorem aF_N {q : Nat} {l : Int} (h : kT n = (q, l)) (ho : o ≤ n) : kN (aF A o n) q l = aF A o (n + 1) := by
  refine Prod.ext rfl (funext fun a => ?_)
  show (if a = n then (q, l) else (if o ≤ a ∧ a < n then kT a else A.2 a)) = (if o ≤ a ∧ a < n + 1 then kT a else A.2 a)
  by_cases z : a = n
  · rw [if_pos z, if_pos (by omega), z, h]
  · rw [if_neg z]
    by_cases y : o ≤ a ∧ a < n
    · rw [if_pos y, if_pos (by omega)]
    · rw [if_neg y, if_neg (by omega)]
theorem aF_1 {q : Nat} {l : Int} (h : kT o = (q, l)) (hA : A.1 = o) : kN A q l = aF A o (o + 1) := by
  refine Prod.ext (by show A.1 + 1 = o + 1; rw [hA]) (funext fun a => ?_)
  show (if a = A.1 then (q, l) else A.2 a) = (if o ≤ a ∧ a < o + 1 then kT a else A.2 a)
  rw [hA]
  by_cases z : a = o
  · rw [if_pos z, if_pos (by omega), z, h]
  · rw [if_neg z, if_neg (by omega)]
theorem aF_G {q p : Nat} {l k : Int} (h : kT n = (q, l)) (hr : ∀ i : Nat, i < l.toNat → kT (n + 1 + i) = (p, k)) (ho : o ≤ n) : kG (aF A o n) q p l k = aF A o (n + 1 + l.toNat) := by
  refine Prod.ext rfl (funext fun a => ?_)
  show (if a = n then (q, l) else if n < a ∧ a < n + 1 + l.toNat then (p, k) else (if o ≤ a ∧ a < n then kT a else A.2 a)) = (if o ≤ a ∧ a < n + 1 + l.toNat then kT a else A.2 a)
  by_cases z : a = n
  · rw [if_pos z, if_pos (by omega), z, h]
  · rw [if_neg z]
    by_cases x : n < a ∧ a < n + 1 + l.toNat
    · rw [if_pos x, if_pos (by omega), show a = n + 1 + (a - (n + 1)) by omega, hr _ (by omega)]
    · rw [if_neg x]
      by_cases y : o ≤ a ∧ a < n
      · rw [if_pos y, if_pos (by omega)]
      · rw [if_neg y, if_neg (by omega)]
theorem aF_aF (h1 : o ≤ n) (h2 : n ≤ e) : aF (aF A o n) n e = aF A o e := by
  refine Prod.ext rfl (funext fun a => ?_)
  show (if n ≤ a ∧ a < e then kT a else (if o ≤ a ∧ a < n then kT a else A.2 a)) = (if o ≤ a ∧ a < e then kT a else A.2 a)
  by_cases y : n ≤ a ∧ a < e
  · rw [if_pos y, if_pos (by omega)]
  · rw [if_neg y]
    by_cases x : o ≤ a ∧ a < n
    · rw [if_pos x, if_pos (by omega)]
    · rw [if_neg x, if_neg (by omega)]
theorem mem3 {M N : abMem} (h1 : M.1 = N.1) (h2 : M.2.1 = N.2.1) (h3 : M.2.2 = N.2.2) : M = N := Prod.ext h1 (Prod.ext h2 h3)
theorem wF_new : zM M o (o + 1) = wF I F M o (o + 1) (fun _ => none) (fun _ => 0) := by
  refine mem3 (funext fun a => ?_) rfl (funext fun a => ?_)
  · show (if o ≤ a ∧ a < o + 1 then (fun _ => 0) else M.1 a) = (if a = o then (fun _ => 0) else if o < a ∧ a < o + 1 then I a else M.1 a)
    by_cases z : a = o
    · rw [if_pos z, if_pos (by omega)]
    · rw [if_neg z, if_neg (by omega), if_neg (by omega)]
  · show (if o ≤ a ∧ a < o + 1 then (fun _ => none) else M.2.2 a) = (if a = o then (fun _ => none) else if o < a ∧ a < o + 1 then F a else M.2.2 a)
    by_cases z : a = o
    · rw [if_pos z, if_pos (by omega)]
    · rw [if_neg z, if_neg (by omega), if_neg (by omega)]
theorem wF_zz {m : Nat} (ho : o < n) (hm : n ≤ m) (hF : ∀ a, n ≤ a → a < m → F a = fun _ => none) (hI : ∀ a, n ≤ a → a < m → I a = fun _ => 0) : zM (wF I F M o n fR fI) n m = wF I F M o m fR fI := by
  refine mem3 (funext fun a => ?_) (funext fun a => ?_) (funext fun a => ?_)
  · show (if n ≤ a ∧ a < m then (fun _ => 0) else (if a = o then fI else if o < a ∧ a < n then I a else M.1 a)) = (if a = o then fI else if o < a ∧ a < m then I a else M.1 a)
    by_cases y : n ≤ a ∧ a < m
    · rw [if_pos y, if_neg (by omega), if_pos (by omega), hI a y.1 y.2]
    · rw [if_neg y]
      by_cases z : a = o
      · rw [if_pos z, if_pos z]
      · rw [if_neg z, if_neg z]
        by_cases x : o < a ∧ a < n
        · rw [if_pos x, if_pos (by omega)]
        · rw [if_neg x, if_neg (by omega)]
  · show (if n ≤ a ∧ a < m then (fun _ => 0) else (if o ≤ a ∧ a < n then (fun _ => 0) else M.2.1 a)) = (if o ≤ a ∧ a < m then (fun _ => 0) else M.2.1 a)
    by_cases y : n ≤ a ∧ a < m
    · rw [if_pos y, if_pos (by omega)]
    · rw [if_neg y]
      by_cases x : o ≤ a ∧ a < n
      · rw [if_pos x, if_pos (by omega)]
      · rw [if_neg x, if_neg (by omega)]
  · show (if n ≤ a ∧ a < m then (fun _ => none) else (if a = o then fR else if o < a ∧ a < n then F a else M.2.2 a)) = (if a = o then fR else if o < a ∧ a < m then F a else M.2.2 a)
    by_cases y : n ≤ a ∧ a < m
    · rw [if_pos y, if_neg (by omega), if_pos (by omega), hF a y.1 y.2]
    · rw [if_neg y]
      by_cases z : a = o
      · rw [if_pos z, if_pos z]
      · rw [if_neg z, if_neg z]
        by_cases x : o < a ∧ a < n
        · rw [if_pos x, if_pos (by omega)]
        · rw [if_neg x, if_neg (by omega)]
/-- a cell in the middle gets its references -/
theorem wF_set {p : Nat} {g : Int → Option Nat} {F2 : Nat → Int → Option Nat} (ho : o < p) (hp : p < n) (h1 : F2 p = g) (h2 : ∀ a, a ≠ p → F2 a = F a) : wR (wF I F M o n fR fI) p g = wF I F2 M o n fR fI := by
  refine mem3 rfl rfl (funext fun a => ?_)
  show (if a = p then g else (if a = o then fR else if o < a ∧ a < n then F a else M.2.2 a)) = (if a = o then fR else if o < a ∧ a < n then F2 a else M.2.2 a)
  by_cases y : a = p
  · rw [if_pos y, if_neg (by omega), if_pos (by omega), y, h1]
  · rw [if_neg y, h2 a y]
theorem wF_seti {p : Nat} {g : Int → Int} {I2 : Nat → Int → Int} (ho : o < p) (hp : p < n) (h1 : I2 p = g) (h2 : ∀ a, a ≠ p → I2 a = I a) : wI (wF I F M o n fR fI) p g = wF I2 F M o n fR fI := by
  refine mem3 (funext fun a => ?_) rfl rfl
  show (if a = p then g else (if a = o then fI else if o < a ∧ a < n then I a else M.1 a)) = (if a = o then fI else if o < a ∧ a < n then I2 a else M.1 a)
  by_cases y : a = p
  · rw [if_pos y, if_neg (by omega), if_pos (by omega), y, h1]
  · rw [if_neg y, h2 a y]
theorem wF_R {j : Int} {x : Option Nat} : sR (wF I F M o n fR fI) o j x = wF I F M o n (up fR j x) fI := by
  have e : gR (wF I F M o n fR fI) o = fR := if_pos rfl
  unfold sR
  rw [e]
  refine mem3 rfl rfl (funext fun a => ?_)
  show (if a = o then up fR j x else (if a = o then fR else if o < a ∧ a < n then F a else M.2.2 a)) = (if a = o then up fR j x else if o < a ∧ a < n then F a else M.2.2 a)
  by_cases y : a = o
  · rw [if_pos y, if_pos y]
  · rw [if_neg y, if_neg y, if_neg y]
theorem wF_I {j x : Int} : sI (wF I F M o n fR fI) o j x = wF I F M o n fR (up fI j x) := by
  have e : gI (wF I F M o n fR fI) o = fI := if_pos rfl
  unfold sI
  rw [e]
  refine mem3 (funext fun a => ?_) rfl rfl
  show (if a = o then up fI j x else (if a = o then fI else if o < a ∧ a < n then I a else M.1 a)) = (if a = o then up fI j x else if o < a ∧ a < n then I a else M.1 a)
  by_cases y : a = o
  · rw [if_pos y, if_pos y]
  · rw [if_neg y, if_neg y, if_neg y]
theorem wF_g (h1 : o < n) (h2 : n < e) : gF I F (wF I F M o n fR fI) n e = wF I F M o e fR fI := by
  refine mem3 (funext fun a => ?_) (funext fun a => ?_) (funext fun a => ?_)
  · show (if a = n then I n else if n < a ∧ a < e then I a else (if a = o then fI else if o < a ∧ a < n then I a else M.1 a)) = (if a = o then fI else if o < a ∧ a < e then I a else M.1 a)
    by_cases y : a = n
    · rw [if_pos y, if_neg (by omega), if_pos (by omega), y]
    · rw [if_neg y]
      by_cases x : n < a ∧ a < e
      · rw [if_pos x, if_neg (by omega), if_pos (by omega)]
      · rw [if_neg x]
        by_cases z : a = o
        · rw [if_pos z, if_pos z]
        · rw [if_neg z, if_neg z]
          by_cases w : o < a ∧ a < n
          · rw [if_pos w, if_pos (by omega)]
          · rw [if_neg w, if_neg (by omega)]
  · show (if n ≤ a ∧ a < e then (fun _ => 0) else (if o ≤ a ∧ a < n then (fun _ => 0) else M.2.1 a)) = (if o ≤ a ∧ a < e then (fun _ => 0) else M.2.1 a)
    by_cases y : n ≤ a ∧ a < e
    · rw [if_pos y, if_pos (by omega)]
    · rw [if_neg y]
      by_cases x : o ≤ a ∧ a < n
      · rw [if_pos x, if_pos (by omega)]
      · rw [if_neg x, if_neg (by omega)]
  · show (if a = n then F n else if n < a ∧ a < e then F a else (if a = o then fR else if o < a ∧ a < n then F a else M.2.2 a)) = (if a = o then fR else if o < a ∧ a < e then F a else M.2.2 a)
    by_cases y : a = n
    · rw [if_pos y, if_neg (by omega), if_pos (by omega), y]
    · rw [if_neg y]
      by_cases x : n < a ∧ a < e
      · rw [if_pos x, if_neg (by omega), if_pos (by omega)]
      · rw [if_neg x]
        by_cases z : a = o
        · rw [if_pos z, if_pos z]
        · rw [if_neg z, if_neg z]
          by_cases w : o < a ∧ a < n
          · rw [if_pos w, if_pos (by omega)]
          · rw [if_neg w, if_neg (by omega)]
theorem wF_G {l : Nat} (ho : o < n) (h : F n = fun j => if 0 ≤ j ∧ j < (l : Int) then some (n + 1 + j.toNat) else none) (hF : ∀ a, n < a → a < n + 1 + l → F a = fun _ => none) (hI : ∀ a, n ≤ a → a < n + 1 + l → I a = fun _ => 0) : zG (wF I F M o n fR fI) n (l : Int) = wF I F M o (n + 1 + l) fR fI := by
  unfold zG
  have e : zM (wF I F M o n fR fI) n (n + 1 + (l : Int).toNat) = wF I (fun a => if a = n then fun _ => none else F a) M o (n + 1 + l) fR fI := by
    rw [Int.toNat_natCast, ← wF_zz (m := n + 1 + l) (I := I) (F := fun a => if a = n then fun _ => none else F a) (fR := fR) (fI := fI) ho (by omega) (fun a a0 a1 => by
      by_cases z : a = n
      · show (if a = n then _ else _) = _
        rw [if_pos z]
      · show (if a = n then _ else _) = _
        rw [if_neg z]; exact hF a (by omega) a1) hI]
    congr 1
    refine mem3 rfl rfl (funext fun a => ?_)
    show (if a = o then fR else if o < a ∧ a < n then F a else M.2.2 a) = (if a = o then fR else if o < a ∧ a < n then (if a = n then fun _ => none else F a) else M.2.2 a)
    by_cases z : a = o
    · rw [if_pos z, if_pos z]
    · rw [if_neg z, if_neg z]
      by_cases w : o < a ∧ a < n
      · rw [if_pos w, if_pos w, if_neg (show ¬ a = n by omega)]
      · rw [if_neg w, if_neg w]
  rw [e]
  exact wF_set ho (by omega) h (fun a ha => by
    show F a = (if a = n then fun _ => none else F a)
    rw [if_neg ha])
theorem wF_fin (h1 : fR = F o) (h2 : fI = I o) : wF I F M o n fR fI = gF I F M o n := by rw [h1, h2]; rfl
-- the rules
variable {d : Nat} {lim : Nat × Nat} {i pc : Nat} {ls : List (Option abV)} {st : List abV} {cnt : Nat × Nat} {Q : abQ} {a b : Int} {c nx : Nat}
theorem kw_newarr {k : Int} (hc : abC i pc = (72, a, b, c, nx)) (hk : kT n = (a.toNat, k)) (h1 : 0 ≤ k) (h2 : k ≤ 100000) (h3 : cnt.1 + 1 ≤ lim.1) (h4 : cnt.2 + k.toNat ≤ lim.2) (h5 : n + 1 < 1000000) (ho : o < n) (hF : F n = fun _ => none) (hI : I n = fun _ => 0) (k1 : abW d lim i nx ls (vr (some n) :: st) (cnt.1 + 1, cnt.2 + k.toNat) (aF A o (n + 1)) (wF I F M o (n + 1) fR fI) Q) : abW d lim i pc ls (vi k :: st) cnt (aF A o n) (wF I F M o n fR fI) Q := bw_newarr hc h1 h2 h3 h4 h5 (by
  rw [aF_N hk (by omega)]
  show abW d lim i nx ls (vr (some n) :: st) _ _ (zM (wF I F M o n fR fI) n (n + 1)) Q
  rw [wF_zz ho (by omega) (fun x x0 x1 => by rw [show x = n by omega]; exact hF) (fun x x0 x1 => by rw [show x = n by omega]; exact hI)]
  exact k1)
theorem kw_anewarr {k : Int} (hc : abC i pc = (73, a, b, c, nx)) (hk : kT n = (26, k)) (h1 : 0 ≤ k) (h2 : k ≤ 100000) (h3 : cnt.1 + 1 ≤ lim.1) (h4 : cnt.2 + k.toNat ≤ lim.2) (h5 : n + 1 < 1000000) (ho : o < n) (hF : F n = fun _ => none) (hI : I n = fun _ => 0) (k1 : abW d lim i nx ls (vr (some n) :: st) (cnt.1 + 1, cnt.2 + k.toNat) (aF A o (n + 1)) (wF I F M o (n + 1) fR fI) Q) : abW d lim i pc ls (vi k :: st) cnt (aF A o n) (wF I F M o n fR fI) Q := bw_anewarr hc h1 h2 h3 h4 h5 (by
  rw [aF_N hk (by omega)]
  show abW d lim i nx ls (vr (some n) :: st) _ _ (zM (wF I F M o n fR fI) n (n + 1)) Q
  rw [wF_zz ho (by omega) (fun x x0 x1 => by rw [show x = n by omega]; exact hF) (fun x x0 x1 => by rw [show x = n by omega]; exact hI)]
  exact k1)
theorem kw_mnewarr {l : Nat} {k : Int} (hc : abC i pc = (74, a, b, c, nx)) (hk : kT n = (a.toNat, (l : Int))) (hr : ∀ x : Nat, x < l → kT (n + 1 + x) = (b.toNat, k)) (h2 : l ≤ 1000) (h3 : 0 ≤ k) (h4 : k ≤ 100000) (h5 : cnt.1 + (1 + l) ≤ lim.1) (h6 : cnt.2 + (l + l * k.toNat) ≤ lim.2) (h7 : n ≤ 1000) (ho : o < n) (h : F n = fun j => if 0 ≤ j ∧ j < (l : Int) then some (n + 1 + j.toNat) else none) (hF : ∀ a, n < a → a < n + 1 + l → F a = fun _ => none) (hI : ∀ a, n ≤ a → a < n + 1 + l → I a = fun _ => 0) (k1 : abW d lim i nx ls (vr (some n) :: st) (cnt.1 + 1 + l, cnt.2 + l + l * k.toNat) (aF A o (n + 1 + l)) (wF I F M o (n + 1 + l) fR fI) Q) : abW d lim i pc ls (vi k :: vi (l : Int) :: st) cnt (aF A o n) (wF I F M o n fR fI) Q := bw_mnewarr hc (by omega) (by omega) h3 h4 h5 h6 (by show n + 1 + l < 1000000; omega) (by
  rw [aF_G hk hr (by omega)]
  show abW d lim i nx ls (vr (some n) :: st) _ _ (zG (wF I F M o n fR fI) n (l : Int)) Q
  rw [wF_G ho h hF hI]
  exact k1)
theorem kw_putR {x : Option Nat} (hc : abC i pc = (58, a, b, c, nx)) (h1 : (kT o).1 = b.toNat) (hn : o < n) (k1 : abW d lim i nx ls st cnt (aF A o n) (wF I F M o n (up fR a x) fI) Q) : abW d lim i pc ls (vr x :: vr (some o) :: st) cnt (aF A o n) (wF I F M o n fR fI) Q := bw_putR hc (by rw [aF_k (by omega) hn]; exact h1) (by rw [wF_R]; exact k1)
theorem kw_putI {x : Int} (hc : abC i pc = (56, a, b, c, nx)) (h1 : (kT o).1 = b.toNat) (hn : o < n) (k1 : abW d lim i nx ls st cnt (aF A o n) (wF I F M o n fR (up fI a x)) Q) : abW d lim i pc ls (vi x :: vr (some o) :: st) cnt (aF A o n) (wF I F M o n fR fI) Q := bw_putI hc (by rw [aF_k (by omega) hn]; exact h1) (by rw [wF_I]; exact k1)
theorem kw_put0 (hc : abC i pc = (56, a, b, c, nx)) (h1 : (kT o).1 = b.toNat) (hn : o < n) (h0 : fI a = 0) (k1 : abW d lim i nx ls st cnt (aF A o n) (wF I F M o n fR fI) Q) : abW d lim i pc ls (vi 0 :: vr (some o) :: st) cnt (aF A o n) (wF I F M o n fR fI) Q := kw_putI hc h1 hn (by rw [up_same h0]; exact k1)
theorem kw_objinit (hc : abC i pc = (82, a, b, c, nx)) (h1 : (kT o).1 < 11) (hn : o < n) (h2 : 1 ≤ d) (h3 : abCat st ≤ 8) (k1 : abW d lim i nx ls st cnt (aF A o n) (wF I F M o n fR fI) Q) : abW d lim i pc ls (vr (some o) :: st) cnt (aF A o n) (wF I F M o n fR fI) Q := bw_objinit hc (by rw [aF_k (by omega) hn]; exact h1) h2 h3 k1
theorem kw_getr {x : Nat} (hc : abC i pc = (55, a, b, c, nx)) (h1 : (kT o).1 = b.toNat) (hn : o < n) (hg : fR a = some x) (k1 : abW d lim i nx ls (vr (some x) :: st) cnt (aF A o n) (wF I F M o n fR fI) Q) : abW d lim i pc ls (vr (some o) :: st) cnt (aF A o n) (wF I F M o n fR fI) Q := bw_getr hc (by rw [aF_k (by omega) hn]; exact h1) (by
  rw [show gR (wF I F M o n fR fI) o = fR from if_pos rfl]; exact hg) k1
end
section
variable {A : abAl} {M : abMem} {o n : Nat} {fR : Int → Option Nat} {fI : Int → Int} {g h : Int → Option Nat} {q : Int → Int}
variable {d : Nat} {lim : Nat × Nat} {i pc : Nat} {ls : List (Option abV)} {st : List abV} {cnt : Nat × Nat} {Q : abQ} {a b : Int} {c nx : Nat}
theorem kw_a20 {j : Int} {x : Nat} (hc : abC i pc = (70, a, b, c, nx)) (ho : o < 20) (hn : 20 < n) (h2 : 0 ≤ j) (h3 : j < 20) (hx : o ≤ x ∧ x < n) (h4 : (kT x).1 = 7) (k1 : abW d lim i nx ls st cnt (aF A o n) (wF (IQ q) (FF (up g j (some x)) h) M o n fR fI) Q) : abW d lim i pc ls (vr (some x) :: vi j :: vr (some 20) :: st) cnt (aF A o n) (wF (IQ q) (FF g h) M o n fR fI) Q := bw_aast hc (by rw [aF_k (by omega) hn]; rfl) h2 (by rw [aF_k (by omega) hn]; exact h3) (by rw [aF_k hx.1 hx.2]; exact h4) (by
  have e : gR (wF (IQ q) (FF g h) M o n fR fI) 20 = g := by
    show (if 20 = o then fR else if o < 20 ∧ 20 < n then FF g h 20 else M.2.2 20) = g
    rw [if_neg (by omega), if_pos ⟨ho, hn⟩]; rfl
  show abW d lim i nx ls st cnt (aF A o n) (wR (wF (IQ q) (FF g h) M o n fR fI) 20 (up (gR (wF (IQ q) (FF g h) M o n fR fI) 20) j (some x))) Q
  rw [e, wF_set (g := up g j (some x)) (F2 := FF (up g j (some x)) h) ho hn rfl (fun y hy => by unfold FF; rw [if_neg hy, if_neg hy])]
  exact k1)
theorem kw_a201 {j : Int} {x : Nat} (hc : abC i pc = (70, a, b, c, nx)) (ho : o < 201) (hn : 201 < n) (h2 : 0 ≤ j) (h3 : j < 2) (hx : o ≤ x ∧ x < n) (h4 : (kT x).1 = 7) (k1 : abW d lim i nx ls st cnt (aF A o n) (wF (IQ q) (FF g (up h j (some x))) M o n fR fI) Q) : abW d lim i pc ls (vr (some x) :: vi j :: vr (some 201) :: st) cnt (aF A o n) (wF (IQ q) (FF g h) M o n fR fI) Q := bw_aast hc (by rw [aF_k (by omega) hn]; rfl) h2 (by rw [aF_k (by omega) hn]; exact h3) (by rw [aF_k hx.1 hx.2]; exact h4) (by
  have e : gR (wF (IQ q) (FF g h) M o n fR fI) 201 = h := by
    show (if 201 = o then fR else if o < 201 ∧ 201 < n then FF g h 201 else M.2.2 201) = h
    rw [if_neg (by omega), if_pos ⟨ho, hn⟩]; rfl
  show abW d lim i nx ls st cnt (aF A o n) (wR (wF (IQ q) (FF g h) M o n fR fI) 201 (up (gR (wF (IQ q) (FF g h) M o n fR fI) 201) j (some x))) Q
  rw [e, wF_set (g := up h j (some x)) (F2 := FF g (up h j (some x))) ho hn rfl (fun y hy => by
    unfold FF
    by_cases z : y = 20
    · rw [if_pos z, if_pos z]
    · rw [if_neg z, if_neg z, if_neg hy, if_neg hy])]
  exact k1)
/-- the first k letters of the own words -/
def oF (k : Int) : Int → Int := fun j => if 0 ≤ j ∧ j < k then ownT j else 0
theorem oF_0 : oF 0 = fun _ => 0 := funext fun j => if_neg (by omega)
theorem oF_s {k x m : Int} (hk : 0 ≤ k) (hm : m = k + 1) (hx : ownT k = x) : up (oF k) k x = oF m := by
  funext j
  rw [hm]
  unfold oF
  by_cases z : j = k
  · rw [up_eq z, if_pos (by omega), z, hx]
  · rw [up_ne z]
    by_cases y : 0 ≤ j ∧ j < k
    · rw [if_pos y, if_pos (by omega)]
    · rw [if_neg y, if_neg (by omega)]
theorem kw_572 {j x m : Int} (hc : abC i pc = (67, a, b, c, nx)) (ho : o < 572) (hn : 572 < n) (h2 : 0 ≤ j) (h3 : j < 94) (hm : m = j + 1) (hx : ownT j = x) (k1 : abW d lim i nx ls st cnt (aF A o n) (wF (IQ (oF m)) (FF g h) M o n fR fI) Q) : abW d lim i pc ls (vi x :: vi j :: vr (some 572) :: st) cnt (aF A o n) (wF (IQ (oF j)) (FF g h) M o n fR fI) Q := bw_asti hc ((aF_k (by omega) hn).trans (show kT 572 = (20, 94) from rfl)) h2 h3 (by
  have e : gI (wF (IQ (oF j)) (FF g h) M o n fR fI) 572 = oF j := by
    show (if 572 = o then fI else if o < 572 ∧ 572 < n then IQ (oF j) 572 else M.1 572) = oF j
    rw [if_neg (by omega), if_pos ⟨ho, hn⟩]; rfl
  show abW d lim i nx ls st cnt (aF A o n) (wI (wF (IQ (oF j)) (FF g h) M o n fR fI) 572 (up (gI (wF (IQ (oF j)) (FF g h) M o n fR fI) 572) j x)) Q
  rw [e, oF_s h2 hm hx, wF_seti (g := oF m) (I2 := IQ (oF m)) ho hn rfl (fun y hy => by unfold IQ; rw [if_neg hy, if_neg hy])]
  exact k1)
end
