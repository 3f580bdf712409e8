/-- how far a row of signs with p goes -/
def rnF (p : Int → Bool) (a : Int → Int) : Nat → Int → Int
  | 0, k => k
  | m + 1, k => if p (a k) then rnF p a m (k + 1) else k
def rn (p : Int → Bool) (a : Int → Int) (n k : Int) : Int := rnF p a (n - k).toNat k
/-- a text of n bytes; behind it there is nothing (-1) -/
abbrev okA (a : Int → Int) (n : Int) : Prop := (0 ≤ n ∧ n ≤ 1200) ∧ (∀ k : Int, ¬ (0 ≤ k ∧ k < n) → a k = -1) ∧ (∀ k : Int, 0 ≤ k → k < n → 0 ≤ a k ∧ a k ≤ 255)
theorem rn_t {p : Int → Bool} {a : Int → Int} {n k : Int} (hA : okA a n) (hp : p (-1) = false) (h : p (a k) = true) : rn p a n k = rn p a n (k + 1) := by
  have hk : k < n := by
    by_cases q : k < n
    · exact q
    · rw [hA.2.1 k (by omega), hp] at h; cases h
  unfold rn
  rw [show (n - k).toNat = (n - (k + 1)).toNat + 1 by omega]
  show (if p (a k) = true then _ else _) = _
  rw [if_pos h]
theorem rn_f {p : Int → Bool} {a : Int → Int} {n k : Int} (h : p (a k) = false) : rn p a n k = k := by
  unfold rn
  cases (n - k).toNat with
  | zero => rfl
  | succ m =>
    show (if p (a k) = true then _ else _) = _
    rw [h]; rfl
theorem rn_in0 {p : Int → Bool} {a : Int → Int} {n : Int} (hA : okA a n) (hp : p (-1) = false) : ∀ (m : Nat) (k : Int), (n - k).toNat ≤ m → 0 ≤ k → k ≤ n → (k ≤ rn p a n k ∧ rn p a n k ≤ n ∧ p (a (rn p a n k)) = false ∧ ∀ j : Int, k ≤ j → j < rn p a n k → p (a j) = true) := by
  intro m
  induction m with
  | zero =>
    intro k h h0 h1
    have e : p (a k) = false := by rw [hA.2.1 k (by omega)]; exact hp
    rw [rn_f e]
    exact ⟨by omega, h1, e, fun j h2 h3 => by omega⟩
  | succ m ih =>
    intro k h h0 h1
    by_cases q : p (a k) = true
    · have hk : k < n := by
        by_cases q2 : k < n
        · exact q2
        · rw [hA.2.1 k (by omega), hp] at q; cases q
      rw [rn_t hA hp q]
      obtain ⟨i1, i2, i3, i4⟩ := ih (k + 1) (by omega) (by omega) (by omega)
      refine ⟨by omega, i2, i3, fun j h2 h3 => ?_⟩
      by_cases q3 : j = k
      · rw [q3]; exact q
      · exact i4 j (by omega) h3
    · have e : p (a k) = false := by cases hh : p (a k) <;> simp_all
      rw [rn_f e]
      exact ⟨by omega, h1, e, fun j h2 h3 => by omega⟩
theorem rn_in {p : Int → Bool} {a : Int → Int} {n k : Int} (hA : okA a n) (hp : p (-1) = false) (h0 : 0 ≤ k ∧ k ≤ n) : k ≤ rn p a n k ∧ rn p a n k ≤ n ∧ p (a (rn p a n k)) = false ∧ ∀ j : Int, k ≤ j → j < rn p a n k → p (a j) = true := rn_in0 hA hp _ k (Nat.le_refl _) h0.1 h0.2
/-- where a row ends, told by what holds there -/
theorem rn_eq {p : Int → Bool} {a : Int → Int} {n : Int} (hA : okA a n) (hp : p (-1) = false) : ∀ (m : Nat) (k e : Int), (e - k).toNat ≤ m → k ≤ e → p (a e) = false → (∀ j : Int, k ≤ j → j < e → p (a j) = true) → rn p a n k = e := by
  intro m
  induction m with
  | zero =>
    intro k e h h1 h2 h3
    have q : k = e := by omega
    rw [q]; exact rn_f h2
  | succ m ih =>
    intro k e h h1 h2 h3
    by_cases q : k = e
    · rw [q]; exact rn_f h2
    · rw [rn_t hA hp (h3 k (Int.le_refl _) (by omega))]
      exact ih _ _ (by omega) (by omega) h2 (fun j j1 j2 => h3 j (by omega) j2)
def pBl (x : Int) : Bool := decide (x = 10 ∨ x = 32)
def pSm (x : Int) : Bool := decide (97 ≤ x ∧ x ≤ 122)
def pDg (x : Int) : Bool := decide (48 ≤ x ∧ x ≤ 57)
theorem pBl_t {x : Int} : pBl x = true ↔ (x = 10 ∨ x = 32) := by unfold pBl; exact decide_eq_true_iff
theorem pSm_t {x : Int} : pSm x = true ↔ (97 ≤ x ∧ x ≤ 122) := by unfold pSm; exact decide_eq_true_iff
theorem pDg_t {x : Int} : pDg x = true ↔ (48 ≤ x ∧ x ≤ 57) := by unfold pDg; exact decide_eq_true_iff
theorem pBl_f {x : Int} : pBl x = false ↔ ¬ (x = 10 ∨ x = 32) := by unfold pBl; exact decide_eq_false_iff_not
theorem pSm_f {x : Int} : pSm x = false ↔ ¬ (97 ≤ x ∧ x ≤ 122) := by unfold pSm; exact decide_eq_false_iff_not
theorem pDg_f {x : Int} : pDg x = false ↔ ¬ (48 ≤ x ∧ x ≤ 57) := by unfold pDg; exact decide_eq_false_iff_not
/-- behind blanks; behind a word; behind digits -/
abbrev sk (a : Int → Int) (n k : Int) : Int := rn pBl a n k
abbrev we (a : Int → Int) (n k : Int) : Int := rn pSm a n k
abbrev de (a : Int → Int) (n k : Int) : Int := rn pDg a n k
theorem sk_in {a : Int → Int} {n k : Int} (hA : okA a n) (h0 : 0 ≤ k ∧ k ≤ n) : k ≤ sk a n k ∧ sk a n k ≤ n ∧ ¬ (a (sk a n k) = 10 ∨ a (sk a n k) = 32) := by
  have h := rn_in (p := pBl) hA (by decide) h0
  exact ⟨h.1, h.2.1, pBl_f.mp h.2.2.1⟩
theorem sk_sk {a : Int → Int} {n k : Int} (hA : okA a n) (h0 : 0 ≤ k ∧ k ≤ n) : sk a n (sk a n k) = sk a n k := rn_f (rn_in (p := pBl) hA (by decide) h0).2.2.1
theorem we_in {a : Int → Int} {n k : Int} (hA : okA a n) (h0 : 0 ≤ k ∧ k ≤ n) : k ≤ we a n k ∧ we a n k ≤ n ∧ ¬ (97 ≤ a (we a n k) ∧ a (we a n k) ≤ 122) ∧ ∀ j : Int, k ≤ j → j < we a n k → 97 ≤ a j ∧ a j ≤ 122 := by
  have h := rn_in (p := pSm) hA (by decide) h0
  exact ⟨h.1, h.2.1, pSm_f.mp h.2.2.1, fun j h1 h2 => pSm_t.mp (h.2.2.2 j h1 h2)⟩
theorem de_in {a : Int → Int} {n k : Int} (hA : okA a n) (h0 : 0 ≤ k ∧ k ≤ n) : k ≤ de a n k ∧ de a n k ≤ n ∧ ¬ (48 ≤ a (de a n k) ∧ a (de a n k) ≤ 57) ∧ ∀ j : Int, k ≤ j → j < de a n k → 48 ≤ a j ∧ a j ≤ 57 := by
  have h := rn_in (p := pDg) hA (by decide) h0
  exact ⟨h.1, h.2.1, pDg_f.mp h.2.2.1, fun j h1 h2 => pDg_t.mp (h.2.2.2 j h1 h2)⟩
theorem in_of {a : Int → Int} {n k : Int} (hA : okA a n) (h : 0 ≤ a k) : 0 ≤ k ∧ k < n := by
  by_cases q : 0 ≤ k ∧ k < n
  · exact q
  · rw [hA.2.1 k q] at h; omega
/-- the words of the language, a zero behind each; where each begins, how long it is -/
def ownT (j : Int) : Int := ([6, 18, 1, 13, 5, 19, 0, 12, 1, 25, 5, 18, 0, 15, 14, 0, 12, 15, 15, 16, 0, 19, 20, 15, 16, 0, 3, 5, 12, 0, 1, 20, 0, 19, 9, 26, 5, 0, 9, 14, 11, 0, 19, 12, 9, 4, 5, 0, 6, 18, 15, 13, 0, 20, 15, 0, 18, 9, 7, 8, 20, 0, 12, 5, 6, 20, 0, 4, 15, 23, 14, 0, 21, 16, 0, 8, 9, 4, 5, 0, 2, 12, 1, 14, 11, 0, 19, 23, 9, 14, 7, 0, 24, 0] : List Int).getD j.toNat 0
def osT (w : Int) : Int := ([0, 7, 13, 16, 21, 26, 30, 33, 38, 42, 48, 53, 56, 62, 67, 72, 75, 80, 86, 92, 94] : List Int).getD w.toNat 0
def olT (w : Int) : Int := ([6, 5, 2, 4, 4, 3, 2, 4, 3, 5, 4, 2, 5, 4, 4, 2, 4, 5, 5, 1] : List Int).getD w.toNat 0
theorem own_len : ∀ w : Nat, w < 20 → 1 ≤ olT w ∧ olT w ≤ 6 ∧ 0 ≤ osT w ∧ osT w + olT w < 94 ∧ ownT (osT w + olT w) = 0 ∧ osT w + olT w + 1 = osT (w + 1) := by decide
theorem own_pos : ∀ w : Nat, w < 20 → ∀ j : Nat, j < (olT w).toNat → 1 ≤ ownT (osT w + j) ∧ ownT (osT w + j) ≤ 26 := by decide
theorem own_ne : ∀ w : Nat, w < 20 → ∀ v : Nat, v < 20 → v ≠ w → olT w = olT v → ¬ ∀ j : Nat, j < (olT w).toNat → ownT (osT w + j) = ownT (osT v + j) := by decide
theorem own_lenI {w : Int} (h : 0 ≤ w ∧ w < 20) : 1 ≤ olT w ∧ olT w ≤ 6 ∧ 0 ≤ osT w ∧ osT w + olT w < 94 ∧ ownT (osT w + olT w) = 0 ∧ osT w + olT w + 1 = osT (w + 1) := by
  obtain ⟨x, rfl⟩ := Int.eq_ofNat_of_zero_le h.1
  exact own_len x (by omega)
theorem own_posI {w j : Int} (h : 0 ≤ w ∧ w < 20) (h2 : 0 ≤ j ∧ j < olT w) : 1 ≤ ownT (osT w + j) ∧ ownT (osT w + j) ≤ 26 := by
  obtain ⟨x, rfl⟩ := Int.eq_ofNat_of_zero_le h.1
  obtain ⟨y, rfl⟩ := Int.eq_ofNat_of_zero_le h2.1
  exact own_pos x (by omega) y (by omega)
/-- the m bytes from k on are word w -/
def isW (a : Int → Int) (k m w : Int) : Prop := m = olT w ∧ ∀ j : Int, 0 ≤ j → j < olT w → a (k + j) - 96 = ownT (osT w + j)
def isOw (a : Int → Int) (k m x : Int) : Prop := ((0 ≤ x ∧ x < 20) ∧ isW a k m x) ∨ (x = -1 ∧ ∀ w : Int, 0 ≤ w → w < 20 → ¬ isW a k m w)
theorem own_one {a : Int → Int} {k m v w : Int} (hv : 0 ≤ v ∧ v < 20) (hw : 0 ≤ w ∧ w < 20) (h : isW a k m v) (g : isW a k m w) : v = w := by
  obtain ⟨x, rfl⟩ := Int.eq_ofNat_of_zero_le hv.1
  obtain ⟨y, rfl⟩ := Int.eq_ofNat_of_zero_le hw.1
  by_cases q : x = y
  · rw [q]
  · exfalso
    refine own_ne y (by omega) x (by omega) q (by rw [← h.1, ← g.1]) (fun j hj => ?_)
    have e : olT (x : Int) = olT (y : Int) := by rw [← h.1, ← g.1]
    rw [← g.2 j (by omega) (by omega), ← h.2 j (by omega) (by omega)]
theorem isOw_eq {a : Int → Int} {k m x y : Int} (h : isOw a k m x) (g : isOw a k m y) : x = y := by
  rcases h with ⟨h1, h2⟩ | ⟨h1, h2⟩
  · rcases g with ⟨g1, g2⟩ | ⟨g1, g2⟩
    · exact own_one h1 g1 h2 g2
    · exact absurd h2 (g2 x h1.1 h1.2)
  · rcases g with ⟨g1, g2⟩ | ⟨g1, g2⟩
    · exact absurd g2 (h2 y g1.1 g1.2)
    · rw [h1, g1]
noncomputable def ow (a : Int → Int) (k m : Int) : Int := @Classical.epsilon Int ⟨0⟩ (isOw a k m)
theorem ow_spec (a : Int → Int) (k m : Int) : isOw a k m (ow a k m) := by
  refine @Classical.epsilon_spec Int (isOw a k m) ?_
  by_cases q : ∃ w : Int, (0 ≤ w ∧ w < 20) ∧ isW a k m w
  · obtain ⟨w, h1, h2⟩ := q
    exact ⟨w, Or.inl ⟨h1, h2⟩⟩
  · exact ⟨-1, Or.inr ⟨rfl, fun w h1 h2 h3 => q ⟨w, ⟨h1, h2⟩, h3⟩⟩⟩
theorem ow_eq {a : Int → Int} {k m x : Int} (h : isOw a k m x) : ow a k m = x := isOw_eq (ow_spec a k m) h
theorem ow_iff {a : Int → Int} {k m w : Int} (hw : 0 ≤ w ∧ w < 20) : ow a k m = w ↔ isW a k m w := by
  refine ⟨fun h => ?_, fun h => ow_eq (Or.inl ⟨hw, h⟩)⟩
  rcases ow_spec a k m with ⟨_, h2⟩ | ⟨h1, _⟩
  · rw [h] at h2; exact h2
  · omega
theorem ow_in (a : Int → Int) (k m : Int) : -1 ≤ ow a k m ∧ ow a k m < 20 := by
  rcases ow_spec a k m with ⟨h1, _⟩ | ⟨h1, _⟩ <;> omega
theorem ow_none {a : Int → Int} {k m : Int} (h : ¬ (1 ≤ m ∧ m ≤ 6)) : ow a k m = -1 := ow_eq (Or.inr ⟨rfl, fun w h1 h2 h3 => by
  obtain ⟨x, rfl⟩ := Int.eq_ofNat_of_zero_le h1
  have := own_len x (by omega)
  have := h3.1
  omega⟩)
/-- the word of the language that stands at k, or none -/
noncomputable def wo (a : Int → Int) (n k : Int) : Int := ow a k (we a n k - k)
/-- the number of the first m digits from k on -/
def dvF (a : Int → Int) (k : Int) : Nat → Int
  | 0 => 0
  | m + 1 => 10 * dvF a k m + a (k + m) - 48
theorem dvF_s {a : Int → Int} {k m : Int} (h : 0 ≤ m) : dvF a k (m + 1).toNat = 10 * dvF a k m.toNat + a (k + m) - 48 := by
  rw [show (m + 1).toNat = m.toNat + 1 by omega]
  show 10 * dvF a k m.toNat + a (k + (m.toNat : Int)) - 48 = _
  rw [Int.toNat_of_nonneg h]
theorem dvF_in {a : Int → Int} {k e : Int} (h : ∀ j : Int, k ≤ j → j < e → 48 ≤ a j ∧ a j ≤ 57) : (0 ≤ e - k → 0 ≤ dvF a k 0 ∧ dvF a k 0 ≤ 0) ∧ (1 ≤ e - k → 0 ≤ dvF a k 1 ∧ dvF a k 1 ≤ 9) ∧ (2 ≤ e - k → 0 ≤ dvF a k 2 ∧ dvF a k 2 ≤ 99) ∧ (3 ≤ e - k → 0 ≤ dvF a k 3 ∧ dvF a k 3 ≤ 999) := by
  have e0 : dvF a k 0 = 0 := rfl
  have e1 : dvF a k 1 = 10 * dvF a k 0 + a (k + (0 : Nat)) - 48 := rfl
  have e2 : dvF a k 2 = 10 * dvF a k 1 + a (k + (1 : Nat)) - 48 := rfl
  have e3 : dvF a k 3 = 10 * dvF a k 2 + a (k + (2 : Nat)) - 48 := rfl
  have h0 := h (k + (0 : Nat)) (by omega)
  have h1 := h (k + (1 : Nat)) (by omega)
  have h2 := h (k + (2 : Nat)) (by omega)
  refine ⟨fun _ => by omega, fun q => ?_, fun q => ?_, fun q => ?_⟩
  · have := h0 (by omega); omega
  · have := h0 (by omega); have := h1 (by omega); omega
  · have := h0 (by omega); have := h1 (by omega); have := h2 (by omega); omega
/-- the number at k: its first three digits -/
def nv (a : Int → Int) (n k : Int) : Int := dvF a k (min 3 (de a n k - k)).toNat
theorem nv_in {a : Int → Int} {n k : Int} (hA : okA a n) (h0 : 0 ≤ k ∧ k ≤ n) : 0 ≤ nv a n k ∧ nv a n k ≤ 999 := by
  have hd := de_in hA h0
  obtain ⟨q0, q1, q2, q3⟩ := dvF_in (k := k) (e := de a n k) hd.2.2.2
  unfold nv
  by_cases z3 : 3 ≤ de a n k - k
  · rw [show (min 3 (de a n k - k)).toNat = 3 by omega]; exact q3 z3
  by_cases z2 : 2 ≤ de a n k - k
  · rw [show (min 3 (de a n k - k)).toNat = 2 by omega]; have := q2 z2; omega
  by_cases z1 : 1 ≤ de a n k - k
  · rw [show (min 3 (de a n k - k)).toNat = 1 by omega]; have := q1 z1; omega
  rw [show (min 3 (de a n k - k)).toNat = 0 by omega]; have := q0 (by omega); omega
-- where the reading stands: a fault (which, where), or a place
abbrev Rp : Type := (Int × Int) ⊕ Int
def nuR (a : Int → Int) (n lo hi k : Int) : Rp × Int := if de a n k = k ∨ 3 < de a n k - k then (.inl (1, k), lo) else if ¬ (lo ≤ nv a n k ∧ nv a n k ≤ hi) then (.inl (2, k), lo) else (.inr (sk a n (de a n k)), nv a n k)
def nuS (a : Int → Int) (n lo hi : Int) : Rp → Rp × Int
  | .inl e => (.inl e, lo)
  | .inr k => nuR a n lo hi k
noncomputable def woS (a : Int → Int) (n w : Int) : Rp → Rp
  | .inl e => .inl e
  | .inr k => if wo a n k = w then .inr (sk a n (we a n k)) else .inl (1, k)
def siS (a : Int → Int) (n c : Int) : Rp → Rp
  | .inl e => .inl e
  | .inr k => if a k = c then .inr (sk a n (k + 1)) else .inl (1, k)
/-- layer l has the name that the m bytes from k on are -/
def nmE (S a : Int → Int) (k m l : Int) : Prop := S (12 + 7 * l) = m ∧ ∀ i : Int, 0 ≤ i → i < m → S (13 + 7 * l + i) = a (k + i)
def isLn (S a : Int → Int) (z k m x : Int) : Prop := (x = -1 ∧ ∀ l : Int, 0 ≤ l → l < z → ¬ nmE S a k m l) ∨ ((0 ≤ x ∧ x < z) ∧ nmE S a k m x ∧ ∀ l : Int, 0 ≤ l → l < x → ¬ nmE S a k m l)
theorem isLn_eq {S a : Int → Int} {z k m x y : Int} (h : isLn S a z k m x) (g : isLn S a z k m y) : x = y := by
  rcases h with ⟨h1, h2⟩ | ⟨h1, h2, h3⟩
  · rcases g with ⟨g1, g2⟩ | ⟨g1, g2, g3⟩
    · rw [h1, g1]
    · exact absurd g2 (h2 y g1.1 g1.2)
  · rcases g with ⟨g1, g2⟩ | ⟨g1, g2, g3⟩
    · exact absurd h2 (g2 x h1.1 h1.2)
    · by_cases q : x < y
      · exact absurd h2 (g3 x h1.1 q)
      · by_cases q2 : y < x
        · exact absurd g2 (h3 y g1.1 q2)
        · omega
theorem isLn_ex (S a : Int → Int) (k m : Int) : ∀ z : Nat, ∃ x : Int, isLn S a z k m x := by
  intro z
  induction z with
  | zero => exact ⟨-1, Or.inl ⟨rfl, fun l h1 h2 => by omega⟩⟩
  | succ z ih =>
    obtain ⟨x, h⟩ := ih
    rcases h with ⟨h1, h2⟩ | ⟨h1, h2, h3⟩
    · by_cases q : nmE S a k m z
      · exact ⟨z, Or.inr ⟨by omega, q, h2⟩⟩
      · refine ⟨-1, Or.inl ⟨rfl, fun l l1 l2 => ?_⟩⟩
        by_cases e : l = z
        · rw [e]; exact q
        · exact h2 l l1 (by omega)
    · exact ⟨x, Or.inr ⟨by omega, h2, h3⟩⟩
noncomputable def fnL (S a : Int → Int) (z k m : Int) : Int := @Classical.epsilon Int ⟨0⟩ (isLn S a z k m)
theorem fnL_eq {S a : Int → Int} {z k m x : Int} (h : isLn S a z k m x) : fnL S a z k m = x := isLn_eq (@Classical.epsilon_spec Int (isLn S a z k m) ⟨x, h⟩) h
theorem fnL_in {S a : Int → Int} {z k m : Int} (hz : 0 ≤ z) : -1 ≤ fnL S a z k m ∧ fnL S a z k m < max z 0 := by
  obtain ⟨y, rfl⟩ := Int.eq_ofNat_of_zero_le hz
  obtain ⟨x, h⟩ := isLn_ex S a k m y
  rw [fnL_eq h]
  rcases h with ⟨h1, _⟩ | ⟨h1, _⟩ <;> omega
/-- a name: which layer has it -/
noncomputable def naR (S a : Int → Int) (n k : Int) : Rp × Int := if (1 ≤ we a n k - k ∧ we a n k - k ≤ 6) ∧ wo a n k = -1 then (.inr (sk a n (we a n k)), fnL S a (S 1) k (we a n k - k)) else (.inl (1, k), -1)
noncomputable def naS (S a : Int → Int) (n : Int) : Rp → Rp × Int
  | .inl e => (.inl e, -1)
  | .inr k => naR S a n k
/-- a layer told ahead -/
noncomputable def owR (S a : Int → Int) (n k : Int) : Rp × Int := match naR S a n k with
  | (.inl e, _) => (.inl e, 0)
  | (.inr q, l) => if l = -1 then (.inl (3, k), 0) else (.inr q, l)
noncomputable def owS (S a : Int → Int) (n : Int) : Rp → Rp × Int
  | .inl e => (.inl e, 0)
  | .inr k => owR S a n k
