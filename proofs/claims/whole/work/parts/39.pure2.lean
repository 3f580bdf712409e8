/-- holds: how many, the drawing of each, how long each -/
abbrev HH : Type := Int × ((Int → Int) × (Int → Int))
def hAdd (h : HH) (v m : Int) : HH := (h.1 + 1, (up h.2.1 h.1 v, up h.2.2 h.1 m))
/-- h is the begin of g -/
def hLe (h g : HH) : Prop := h.1 ≤ g.1 ∧ ∀ j : Int, 0 ≤ j → j < h.1 → g.2.1 j = h.2.1 j ∧ g.2.2 j = h.2.2 j
theorem hLe_refl (h : HH) : hLe h h := ⟨Int.le_refl _, fun _ _ _ => ⟨rfl, rfl⟩⟩
theorem hLe.trans {h g k : HH} (a : hLe h g) (b : hLe g k) : hLe h k := ⟨Int.le_trans a.1 b.1, fun j h1 h2 => by
  have := a.1
  have x := a.2 j h1 h2
  have y := b.2 j h1 (by omega)
  exact ⟨y.1.trans x.1, y.2.trans x.2⟩⟩
theorem hLe_add (h : HH) (v m : Int) : hLe h (hAdd h v m) := ⟨by show h.1 ≤ h.1 + 1; omega, fun j h1 h2 => ⟨up_ne (by omega), up_ne (by omega)⟩⟩
/-- what a line's holds keep to -/
def HV (h : HH) : Prop := 0 ≤ h.1 ∧ ∀ j : Int, 0 ≤ j → j < h.1 → (0 ≤ h.2.1 j ∧ h.2.1 j ≤ 99) ∧ (1 ≤ h.2.2 j ∧ h.2.2 j ≤ 96)
theorem HV_add {h : HH} {v m : Int} (H : HV h) (hv : 0 ≤ v ∧ v ≤ 99) (hm : 1 ≤ m ∧ m ≤ 96) : HV (hAdd h v m) := ⟨by have := H.1; show 0 ≤ h.1 + 1; omega, fun j h1 h2 => by
  have h2 : j < h.1 + 1 := h2
  by_cases q : j = h.1
  · show (0 ≤ up h.2.1 h.1 v j ∧ up h.2.1 h.1 v j ≤ 99) ∧ (1 ≤ up h.2.2 h.1 m j ∧ up h.2.2 h.1 m j ≤ 96)
    rw [up_eq q, up_eq q]; exact ⟨hv, hm⟩
  · show (0 ≤ up h.2.1 h.1 v j ∧ up h.2.1 h.1 v j ≤ 99) ∧ (1 ≤ up h.2.2 h.1 m j ∧ up h.2.2 h.1 m j ≤ 96)
    rw [up_ne q, up_ne q]; exact H.2 j h1 (by omega)⟩
/-- k drawings: v, v and s .. -/
def hRun (h : HH) (v s m : Int) : Nat → HH
  | 0 => h
  | k + 1 => hAdd (hRun h v s m k) (v + (k : Int) * s) m
theorem hRun_s {h : HH} {v s m k : Int} (hk : 0 ≤ k) : hRun h v s m (k + 1).toNat = hAdd (hRun h v s m k.toNat) (v + k * s) m := by
  rw [show (k + 1).toNat = k.toNat + 1 by omega]
  show hAdd _ (v + (k.toNat : Int) * s) m = _
  rw [Int.toNat_of_nonneg hk]
def hRunTo (h : HH) (v w m : Int) : HH := hRun h v (if w < v then -1 else 1) m (ab1 (w - v) + 1).toNat
/-- k holds again, from i on downwards -/
def hBack (h : HH) (i : Int) : Nat → HH
  | 0 => h
  | k + 1 => hAdd (hBack h i k) ((hBack h i k).2.1 (i - (k : Int))) ((hBack h i k).2.2 (i - (k : Int)))
theorem hBack_s {h : HH} {i k : Int} (hk : 0 ≤ k) : hBack h i (k + 1).toNat = hAdd (hBack h i k.toNat) ((hBack h i k.toNat).2.1 (i - k)) ((hBack h i k.toNat).2.2 (i - k)) := by
  rw [show (k + 1).toNat = k.toNat + 1 by omega]
  show hAdd _ ((hBack h i k.toNat).2.1 (i - (k.toNat : Int))) ((hBack h i k.toNat).2.2 (i - (k.toNat : Int))) = _
  rw [Int.toNat_of_nonneg hk]
/-- k holds again, from i on -/
def hCopy (h : HH) (i : Int) : Nat → HH
  | 0 => h
  | k + 1 => hAdd (hCopy h i k) ((hCopy h i k).2.1 (i + (k : Int))) ((hCopy h i k).2.2 (i + (k : Int)))
theorem hCopy_s {h : HH} {i k : Int} (hk : 0 ≤ k) : hCopy h i (k + 1).toNat = hAdd (hCopy h i k.toNat) ((hCopy h i k.toNat).2.1 (i + k)) ((hCopy h i k.toNat).2.2 (i + k)) := by
  rw [show (k + 1).toNat = k.toNat + 1 by omega]
  show hAdd _ ((hCopy h i k.toNat).2.1 (i + (k.toNat : Int))) ((hCopy h i k.toNat).2.2 (i + (k.toNat : Int))) = _
  rw [Int.toNat_of_nonneg hk]
/-- the holds from i to j, k times -/
def hRep (h : HH) (i j : Int) : Nat → HH
  | 0 => h
  | k + 1 => hCopy (hRep h i j k) i (j - i).toNat
theorem hRep_s {h : HH} {i j k : Int} (hk : 0 ≤ k) : hRep h i j (k + 1).toNat = hCopy (hRep h i j k.toNat) i (j - i).toNat := by
  rw [show (k + 1).toNat = k.toNat + 1 by omega]
  rfl
/-- back from the last but one to the one behind f -/
def hSw (h : HH) (f w : Int) : HH := if w ≠ 0 then hBack h (h.1 - 2) (h.1 - 2 - f).toNat else h
def hClose (h : HH) (f w t : Int) : HH := hRep (hSw h f w) f (hSw h f w).1 (t - 1).toNat
theorem hLe_run (h : HH) (v s m : Int) : ∀ k : Nat, hLe h (hRun h v s m k) ∧ (hRun h v s m k).1 = h.1 + k := by
  intro k
  induction k with
  | zero => exact ⟨hLe_refl _, by show h.1 = h.1 + ((0 : Nat) : Int); omega⟩
  | succ k ih => exact ⟨ih.1.trans (hLe_add _ _ _), by show (hRun h v s m k).1 + 1 = _; rw [ih.2]; omega⟩
theorem hLe_back (h : HH) (i : Int) : ∀ k : Nat, hLe h (hBack h i k) ∧ (hBack h i k).1 = h.1 + k := by
  intro k
  induction k with
  | zero => exact ⟨hLe_refl _, by show h.1 = h.1 + ((0 : Nat) : Int); omega⟩
  | succ k ih => exact ⟨ih.1.trans (hLe_add _ _ _), by show (hBack h i k).1 + 1 = _; rw [ih.2]; omega⟩
theorem hLe_copy (h : HH) (i : Int) : ∀ k : Nat, hLe h (hCopy h i k) ∧ (hCopy h i k).1 = h.1 + k := by
  intro k
  induction k with
  | zero => exact ⟨hLe_refl _, by show h.1 = h.1 + ((0 : Nat) : Int); omega⟩
  | succ k ih => exact ⟨ih.1.trans (hLe_add _ _ _), by show (hCopy h i k).1 + 1 = _; rw [ih.2]; omega⟩
theorem hLe_rep (h : HH) (i j : Int) : ∀ k : Nat, hLe h (hRep h i j k) := by
  intro k
  induction k with
  | zero => exact hLe_refl _
  | succ k ih => exact ih.trans (hLe_copy _ _ _).1
theorem hLe_sw (h : HH) (f w : Int) : hLe h (hSw h f w) := by
  unfold hSw
  by_cases q : w ≠ 0
  · rw [if_pos q]; exact (hLe_back _ _ _).1
  · rw [if_neg q]; exact hLe_refl _
theorem hLe_close (h : HH) (f w t : Int) : hLe h (hClose h f w t) := (hLe_sw h f w).trans (hLe_rep _ _ _ _)
theorem HV_run {h : HH} {v s m : Int} (H : HV h) (hm : 1 ≤ m ∧ m ≤ 96) : ∀ k : Nat, (∀ j : Nat, j < k → 0 ≤ v + (j : Int) * s ∧ v + (j : Int) * s ≤ 99) → HV (hRun h v s m k) := by
  intro k
  induction k with
  | zero => intro _; exact H
  | succ k ih => intro hv; exact HV_add (ih (fun j hj => hv j (by omega))) (hv k (by omega)) hm
theorem HV_back {h : HH} {i : Int} (H : HV h) : ∀ k : Nat, i < h.1 → (k : Int) ≤ i + 1 → HV (hBack h i k) := by
  intro k
  induction k with
  | zero => intro _ _; exact H
  | succ k ih =>
    intro h1 h2
    have b := (hLe_back h i k).2
    have q := (ih h1 (by omega)).2 (i - (k : Int)) (by omega) (by omega)
    exact HV_add (ih h1 (by omega)) q.1 q.2
theorem HV_copy {h : HH} {i : Int} (H : HV h) (hi : 0 ≤ i) : ∀ k : Nat, i + (k : Int) ≤ h.1 → HV (hCopy h i k) := by
  intro k
  induction k with
  | zero => intro _; exact H
  | succ k ih =>
    intro h1
    have b := (hLe_copy h i k).2
    have q := (ih (by omega)).2 (i + (k : Int)) (by omega) (by omega)
    exact HV_add (ih (by omega)) q.1 q.2
theorem HV_rep {h : HH} {i j : Int} (H : HV h) (hi : 0 ≤ i) (hj : j ≤ h.1) : ∀ k : Nat, HV (hRep h i j k) := by
  intro k
  induction k with
  | zero => exact H
  | succ k ih =>
    have b := (hLe_rep h i j k).1
    by_cases q : i ≤ j
    · exact HV_copy ih hi _ (by omega)
    · show HV (hCopy (hRep h i j k) i (j - i).toNat)
      rw [show (j - i).toNat = 0 by omega]; exact ih
theorem HV_sw {h : HH} {f w : Int} (H : HV h) (hf : 0 ≤ f) : HV (hSw h f w) := by
  unfold hSw
  have h0 := H.1
  by_cases q : w ≠ 0
  · rw [if_pos q]
    by_cases z : 0 ≤ h.1 - 2 - f
    · exact HV_back H _ (by omega) (by omega)
    · rw [show (h.1 - 2 - f).toNat = 0 by omega]; exact H
  · rw [if_neg q]; exact H
theorem HV_close {h : HH} {f w t : Int} (H : HV h) (hf : 0 ≤ f) : HV (hClose h f w t) := HV_rep (HV_sw H hf) hf (Int.le_refl _) _
theorem HV_to {h : HH} {v w m : Int} (H : HV h) (hv : 0 ≤ v ∧ v ≤ 99) (hw : 0 ≤ w ∧ w ≤ 99) (hm : 1 ≤ m ∧ m ≤ 96) : HV (hRunTo h v w m) := by
  unfold hRunTo
  have ha := ab1_c (w - v)
  refine HV_run H hm _ (fun j hj => ?_)
  by_cases q : w < v
  · rw [if_pos q]; omega
  · rw [if_neg q]; omega
-- the line's small machine: the place; the holds; the open brackets (how many, where each begins, whether it swings); the parts; whether the line has one
abbrev LnS : Type := Int × (HH × ((Int × ((Int → Int) × (Int → Int))) × (Int × Int)))
abbrev lsP (s : LnS) : Int := s.1
abbrev lsH (s : LnS) : HH := s.2.1
abbrev lsK (s : LnS) : Int := s.2.2.1.1
abbrev lsF (s : LnS) : Int → Int := s.2.2.1.2.1
abbrev lsW (s : LnS) : Int → Int := s.2.2.1.2.2
abbrev lsN (s : LnS) : Int := s.2.2.2.1
abbrev lsB (s : LnS) : Int := s.2.2.2.2
abbrev lsM (p : Int) (h : HH) (k : Int) (F W : Int → Int) (c b : Int) : LnS := (p, (h, ((k, (F, W)), (c, b))))
/-- what goes on, or a fault -/
abbrev Ro : Type := (Int × Int) ⊕ (LnS × Int)
/-- from a drawing to another one -/
def dsS (a : Int → Int) (n v : Int) : Rp → Rp × Int
  | .inl e => (.inl e, v)
  | .inr q => if a q = 45 then nuS a n 1 99 (.inr (sk a n (q + 1))) else (.inr q, v)
/-- a part that tells holds -/
noncomputable def bkS (a : Int → Int) (n on : Int) (s : LnS) : Ro := match (tmS a n on (.inr (sk a n (we a n (lsP s))))).1 with
  | .inl e => .inl e
  | .inr q => .inr (lsM q (hRunTo (lsH s) 0 0 (tmS a n on (.inr (sk a n (we a n (lsP s))))).2) (lsK s) (lsF s) (lsW s) (lsN s + 1) 1, 1)
noncomputable def dr1 (a : Int → Int) (n : Int) (s : LnS) : Rp × Int := nuS a n 1 99 (.inr (lsP s))
noncomputable def dr2 (a : Int → Int) (n : Int) (s : LnS) : Rp × Int := dsS a n (dr1 a n s).2 (dr1 a n s).1
noncomputable def dr3 (a : Int → Int) (n on : Int) (s : LnS) : Rp × Int := tmS a n on (dr2 a n s).1
noncomputable def drS (a : Int → Int) (n on : Int) (s : LnS) : Ro := match (dr3 a n on s).1 with
  | .inl e => .inl e
  | .inr q => .inr (lsM q (hRunTo (lsH s) (dr1 a n s).2 (dr2 a n s).2 (dr3 a n on s).2) (lsK s) (lsF s) (lsW s) (lsN s + 1) 1, 1)
/-- a bracket that opens -/
noncomputable def opQ (a : Int → Int) (n : Int) (s : LnS) : Int := if wo a n (lsP s) = 18 then sk a n (we a n (lsP s)) else lsP s
noncomputable def opS (a : Int → Int) (n : Int) (s : LnS) : Ro := if a (opQ a n s) ≠ 40 then .inl (1, opQ a n s) else if lsK s = 5 then .inl (4, opQ a n s) else .inr (lsM (sk a n (opQ a n s + 1)) (lsH s) (lsK s + 1) (up (lsF s) (lsK s) (lsH s).1) (up (lsW s) (lsK s) (if wo a n (lsP s) = 18 then 1 else 0)) (lsN s + 1) 0, 0)
/-- whether a part begins -/
def prP (a : Int → Int) (n k : Int) : Prop := (48 ≤ a k ∧ a k ≤ 57) ∨ a k = 40 ∨ wo a n k = 17 ∨ wo a n k = 18
/-- a part; the last number: whether it is whole -/
noncomputable def ptS (a : Int → Int) (n on : Int) (s : LnS) : Ro :=
  @ite Ro (¬ prP a n (lsP s)) (Classical.propDecidable _) (.inl (1, lsP s))
    (if 48 ≤ a (lsP s) ∧ a (lsP s) ≤ 57 then (match (dr1 a n s).1 with
        | .inl e => .inl e
        | .inr _ => if lsN s = 40 then .inl (4, lsP s) else drS a n on s)
      else if lsN s = 40 then .inl (4, lsP s) else if wo a n (lsP s) = 17 then bkS a n on s else opS a n s)
/-- a bracket that closes -/
noncomputable def csS (a : Int → Int) (n : Int) (s : LnS) : Ro := match (tmS a n 1 (.inr (sk a n (lsP s + 1)))).1 with
  | .inl e => .inl e
  | .inr q => .inr (lsM q (hClose (lsH s) (lsF s (lsK s - 1)) (lsW s (lsK s - 1)) (tmS a n 1 (.inr (sk a n (lsP s + 1)))).2) (lsK s - 1) (lsF s) (lsW s) (lsN s) 1, 0)
/-- one round; the last number: 2 at the end -/
noncomputable def lnS (a : Int → Int) (n on : Int) (s : LnS) : Ro :=
  @ite Ro (prP a n (lsP s)) (Classical.propDecidable _) (ptS a n on s)
    (if a (lsP s) = 41 ∧ 0 < lsK s ∧ lsB s = 1 then csS a n s else if lsK s = 0 ∧ lsB s = 1 then .inr (s, 2) else .inl (1, lsP s))
noncomputable def lnF (a : Int → Int) (n on : Int) : Nat → LnS → Option ((Int × Int) ⊕ LnS)
  | 0, _ => none
  | k + 1, s => match lnS a n on s with
    | .inl e => some (.inl e)
    | .inr (t, 2) => some (.inr t)
    | .inr (t, _) => lnF a n on k t
theorem lnF_mono {a : Int → Int} {n on : Int} : ∀ (k m : Nat) (s : LnS) (x : (Int × Int) ⊕ LnS), lnF a n on k s = some x → k ≤ m → lnF a n on m s = some x := by
  intro k
  induction k with
  | zero => intro m s x h; cases h
  | succ k ih =>
    intro m s x h hm
    obtain ⟨m, rfl⟩ : ∃ j, m = j + 1 := ⟨m - 1, by omega⟩
    unfold lnF at h ⊢
    split at h
    · exact h
    · exact h
    · exact ih m _ x h (by omega)
def isLr (a : Int → Int) (n on : Int) (s : LnS) (x : (Int × Int) ⊕ LnS) : Prop := ∃ k : Nat, lnF a n on k s = some x
theorem isLr_eq {a : Int → Int} {n on : Int} {s : LnS} {x y : (Int × Int) ⊕ LnS} (h : isLr a n on s x) (g : isLr a n on s y) : x = y := by
  obtain ⟨k, h⟩ := h
  obtain ⟨m, g⟩ := g
  have h2 := lnF_mono k (max k m) s x h (Nat.le_max_left _ _)
  have g2 := lnF_mono m (max k m) s y g (Nat.le_max_right _ _)
  rw [h2] at g2
  exact Option.some.inj g2
theorem isLr_f {a : Int → Int} {n on : Int} {s : LnS} {e : Int × Int} (h : lnS a n on s = .inl e) : isLr a n on s (.inl e) := ⟨1, by unfold lnF; rw [h]⟩
theorem isLr_d {a : Int → Int} {n on : Int} {s t : LnS} (h : lnS a n on s = .inr (t, 2)) : isLr a n on s (.inr t) := ⟨1, by unfold lnF; rw [h]; rfl⟩
theorem isLr_s {a : Int → Int} {n on w : Int} {s t : LnS} {x : (Int × Int) ⊕ LnS} (h : lnS a n on s = .inr (t, w)) (hw : w ≠ 2) (g : isLr a n on t x) : isLr a n on s x := by
  obtain ⟨k, g⟩ := g
  refine ⟨k + 1, ?_⟩
  unfold lnF
  rw [h]
  split
  · rename_i q; cases q
  · rename_i q; cases q; exact absurd rfl hw
  · rename_i q; cases q; exact g
noncomputable def lnR (a : Int → Int) (n on : Int) (s : LnS) : (Int × Int) ⊕ LnS := @Classical.epsilon _ ⟨.inl (0, 0)⟩ (isLr a n on s)
theorem lnR_eq {a : Int → Int} {n on : Int} {s : LnS} {x : (Int × Int) ⊕ LnS} (h : isLr a n on s x) : lnR a n on s = x := isLr_eq (@Classical.epsilon_spec _ (isLr a n on s) ⟨x, h⟩) h
/-- the line's begin -/
def ls0 (p : Int) : LnS := lsM p (0, (fun _ => 0, fun _ => 0)) 0 (fun _ => 0) (fun _ => 0) 0 0
/-- what the line's state keeps to -/
abbrev LV (a : Int → Int) (n : Int) (s : LnS) : Prop := (0 ≤ lsP s ∧ lsP s ≤ n ∧ sk a n (lsP s) = lsP s) ∧ HV (lsH s) ∧ (0 ≤ lsK s ∧ lsK s ≤ 5) ∧ (∀ j : Int, 0 ≤ j → j < lsK s → (0 ≤ lsF s j ∧ lsF s j ≤ (lsH s).1) ∧ (lsW s j = 0 ∨ lsW s j = 1)) ∧ (0 ≤ lsN s ∧ lsN s ≤ 40) ∧ (lsB s = 0 ∨ lsB s = 1)
