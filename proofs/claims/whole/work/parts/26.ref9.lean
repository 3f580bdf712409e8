/-- a row as exposures: how many, the drawing of each, the length of each -/
def sp (f : Int → Int) : Nat → Int × ((Int → Int) × (Int → Int))
  | 0 => (0, (fun _ => 0, fun _ => 0))
  | i + 1 => if 0 < i ∧ f i = f ((i : Int) - 1) then ((sp f i).1, ((sp f i).2.1, up (sp f i).2.2 ((sp f i).1 - 1) ((sp f i).2.2 ((sp f i).1 - 1) + 1))) else ((sp f i).1 + 1, (up (sp f i).2.1 (sp f i).1 (f i), up (sp f i).2.2 (sp f i).1 1))
theorem sp_t {f : Int → Int} {i : Int} (h : 0 < i) (e : f i = f (i - 1)) : sp f (i + 1).toNat = ((sp f i.toNat).1, ((sp f i.toNat).2.1, up (sp f i.toNat).2.2 ((sp f i.toNat).1 - 1) ((sp f i.toNat).2.2 ((sp f i.toNat).1 - 1) + 1))) := by
  have q : (i + 1).toNat = i.toNat + 1 := by omega
  rw [q]
  have h2 : 0 < i.toNat ∧ f (i.toNat : Int) = f ((i.toNat : Int) - 1) := by rw [Int.toNat_of_nonneg (by omega)]; exact ⟨by omega, e⟩
  show (if 0 < i.toNat ∧ f (i.toNat : Int) = f ((i.toNat : Int) - 1) then _ else _) = _
  rw [if_pos h2]
theorem sp_f {f : Int → Int} {i : Int} (h0 : 0 ≤ i) (h : ¬ (0 < i ∧ f i = f (i - 1))) : sp f (i + 1).toNat = ((sp f i.toNat).1 + 1, (up (sp f i.toNat).2.1 (sp f i.toNat).1 (f i), up (sp f i.toNat).2.2 (sp f i.toNat).1 1)) := by
  have q : (i + 1).toNat = i.toNat + 1 := by omega
  rw [q]
  have e : (i.toNat : Int) = i := Int.toNat_of_nonneg h0
  have h2 : ¬ (0 < i.toNat ∧ f (i.toNat : Int) = f ((i.toNat : Int) - 1)) := by rw [e]; exact fun k => h ⟨by omega, k.2⟩
  show (if 0 < i.toNat ∧ f (i.toNat : Int) = f ((i.toNat : Int) - 1) then _ else _) = _
  rw [if_neg h2, e]
theorem sp_in (f : Int → Int) : ∀ i : Nat, (0 ≤ (sp f i).1 ∧ (sp f i).1 ≤ i ∧ (0 < i → 1 ≤ (sp f i).1)) ∧ (∀ e : Int, 0 ≤ e → e < (sp f i).1 → 1 ≤ (sp f i).2.2 e ∧ (sp f i).2.2 e ≤ i) ∧ (0 < i → (sp f i).2.1 ((sp f i).1 - 1) = f ((i : Int) - 1)) ∧ (∀ e : Int, 0 ≤ e → e < (sp f i).1 → ∃ j : Int, 0 ≤ j ∧ j < i ∧ (sp f i).2.1 e = f j) := by
  intro i
  induction i with
  | zero => exact ⟨⟨Int.le_refl _, Int.le_refl _, fun h => absurd h (by decide)⟩, fun e h1 h2 => by have : e < 0 := h2; omega, fun h => absurd h (by decide), fun e h1 h2 => by have : e < 0 := h2; omega⟩
  | succ i ih =>
    obtain ⟨⟨a1, a2, a3⟩, a4, a5, a6⟩ := ih
    have e0 : (((i : Nat) : Int) + 1).toNat = i + 1 := by omega
    have e1 : ((i : Nat) : Int).toNat = i := by omega
    by_cases q : 0 < (i : Int) ∧ f i = f ((i : Int) - 1)
    · have s := sp_t q.1 q.2
      rw [e0, e1] at s
      rw [s]
      have := a3 (by omega)
      refine ⟨⟨a1, by show _ ≤ ((i + 1 : Nat) : Int); omega, fun _ => this⟩, fun e h1 h2 => ?_, fun _ => ?_, fun e h1 h2 => ?_⟩
      · have h3 : e < (sp f i).1 := h2
        show 1 ≤ up _ _ _ e ∧ up _ _ _ e ≤ _
        unfold up
        have b := a4 e h1 h3
        have b2 := a4 ((sp f i).1 - 1) (by omega) (by omega)
        split <;> omega
      · show (sp f i).2.1 ((sp f i).1 - 1) = f (((i + 1 : Nat) : Int) - 1)
        rw [a5 (by omega), ← q.2]
        congr 1; omega
      · obtain ⟨j, j1, j2, j3⟩ := a6 e h1 h2
        exact ⟨j, j1, by omega, j3⟩
    · have s := sp_f (by omega) q
      rw [e0, e1] at s
      rw [s]
      refine ⟨⟨by show 0 ≤ (sp f i).1 + 1; omega, by show (sp f i).1 + 1 ≤ _; omega, fun _ => by show 1 ≤ (sp f i).1 + 1; omega⟩, fun e h1 h2 => ?_, fun _ => ?_, fun e h1 h2 => ?_⟩
      · have h3 : e < (sp f i).1 + 1 := h2
        show 1 ≤ up _ _ _ e ∧ up _ _ _ e ≤ _
        unfold up
        split
        · omega
        · have b := a4 e h1 (by omega); omega
      · show up (sp f i).2.1 (sp f i).1 (f i) ((sp f i).1 + 1 - 1) = f (((i + 1 : Nat) : Int) - 1)
        unfold up
        rw [if_pos (by omega)]
        congr 1; omega
      · have h3 : e < (sp f i).1 + 1 := h2
        show ∃ j : Int, 0 ≤ j ∧ j < ((i + 1 : Nat) : Int) ∧ up (sp f i).2.1 (sp f i).1 (f i) e = f j
        unfold up
        by_cases z : e = (sp f i).1
        · exact ⟨i, by omega, by omega, by rw [if_pos z]⟩
        · obtain ⟨j, j1, j2, j3⟩ := a6 e h1 (by omega)
          exact ⟨j, j1, by omega, by rw [if_neg z]; exact j3⟩
theorem sp_congr {f g : Int → Int} : ∀ n : Nat, (∀ j : Int, 0 ≤ j → j < n → f j = g j) → sp f n = sp g n := by
  intro n
  induction n with
  | zero => intro _; rfl
  | succ n ih =>
    intro h
    have e := ih (fun j h1 h2 => h j h1 (by omega))
    have e2 := h n (by omega) (by omega)
    by_cases q : 0 < n ∧ f n = f ((n : Int) - 1)
    · have e3 := h ((n : Int) - 1) (by omega) (by omega)
      have q2 : 0 < n ∧ g n = g ((n : Int) - 1) := ⟨q.1, by rw [← e2, ← e3]; exact q.2⟩
      show (if 0 < n ∧ f n = f ((n : Int) - 1) then _ else _) = (if 0 < n ∧ g n = g ((n : Int) - 1) then _ else _)
      rw [if_pos q, if_pos q2, e]
    · have q2 : ¬ (0 < n ∧ g n = g ((n : Int) - 1)) := fun k => q ⟨k.1, by rw [e2, h ((n : Int) - 1) (by omega) (by omega)]; exact k.2⟩
      show (if 0 < n ∧ f n = f ((n : Int) - 1) then _ else _) = (if 0 < n ∧ g n = g ((n : Int) - 1) then _ else _)
      rw [if_neg q, if_neg q2, e, e2]
/-- a run of m exposures from a on -/
def rnP (D T : Int → Int) (a m : Int) : Prop := 0 < D a ∧ ∃ s : Int, (s = 1 ∨ s = -1) ∧ ∀ k : Int, 1 ≤ k → k < m → 0 < D (a + k) ∧ D (a + k) - D (a + k - 1) = s ∧ T (a + k) = T a
def lkP (D T : Int → Int) (i j : Int) : Prop := D i = D j ∧ T i = T j
def rdP (D T : Int → Int) (a m k : Int) : Prop := ∀ j : Int, k ≤ j → j < m → lkP D T (a + j) (a + j - k)
def sgP (D T : Int → Int) (a m e : Int) : Prop := ∀ j : Int, e ≤ j → j < m → lkP D T (a + j) (a + 2 * e - 2 - j)
/-- by so many marks the m exposures from a on can be written, when F tells of less -/
def cdP (D T : Int → Int) (F : Int → Int → Int) (a m x : Int) : Prop := x = m ∨ (rnP D T a m ∧ x = 2) ∨ (∃ k : Int, 1 ≤ k ∧ k < m ∧ x = F a k + F (a + k) (m - k)) ∨ (∃ k : Int, 1 ≤ k ∧ k < m ∧ m % k = 0 ∧ rdP D T a m k ∧ x = F a k + 1) ∨ (m % 2 = 0 ∧ 4 ≤ m ∧ sgP D T a m (m / 2 + 1) ∧ x = F a (m / 2 + 1) + 1)
def isMn (C : Int → Prop) (x : Int) : Prop := C x ∧ ∀ y : Int, C y → x ≤ y
def gdF (D T : Int → Int) (F : Int → Int → Int) (a m : Int) : Prop := (m = 1 ∧ F a m = 1) ∨ (2 ≤ m ∧ isMn (cdP D T F a m) (F a m))
def okF (D T : Int → Int) (F : Int → Int → Int) (n : Int) : Prop := ∀ a m : Int, 0 ≤ a → 1 ≤ m → a + m ≤ n → gdF D T F a m
theorem gdF_in {D T : Int → Int} {F : Int → Int → Int} : ∀ (z : Nat) (a m : Int), m ≤ z → 1 ≤ m → (∀ b k : Int, a ≤ b → 1 ≤ k → b + k ≤ a + m → gdF D T F b k) → 1 ≤ F a m ∧ F a m ≤ m := by
  intro z
  induction z with
  | zero => intro a m h1 h2; omega
  | succ z ih =>
    intro a m h1 h2 h
    rcases h a m (by omega) h2 (by omega) with ⟨q1, q2⟩ | ⟨q1, q2⟩
    · omega
    · have hm := q2.2 m (Or.inl rfl)
      refine ⟨?_, hm⟩
      have sub : ∀ b k : Int, a ≤ b → 1 ≤ k → k < m → b + k ≤ a + m → 1 ≤ F b k := fun b k b1 b2 b3 b4 => (ih b k (by omega) b2 (fun c j c1 c2 c3 => h c j (by omega) c2 (by omega))).1
      rcases q2.1 with c | c | ⟨k, k1, k2, c⟩ | ⟨k, k1, k2, k3, k4, c⟩ | ⟨c1, c2, c3, c⟩
      · omega
      · omega
      · have := sub a k (by omega) k1 k2 (by omega)
        have := sub (a + k) (m - k) (by omega) (by omega) (by omega) (by omega)
        omega
      · have := sub a k (by omega) k1 k2 (by omega)
        omega
      · have := sub a (m / 2 + 1) (by omega) (by omega) (by omega) (by omega)
        omega
theorem cdP_congr {D T E U : Int → Int} {F G : Int → Int → Int} {a m x : Int} (hm : 2 ≤ m) (hD : ∀ j : Int, a ≤ j → j < a + m → D j = E j ∧ T j = U j) (hF : ∀ b k : Int, a ≤ b → 1 ≤ k → k < m → b + k ≤ a + m → F b k = G b k) (h : cdP D T F a m x) : cdP E U G a m x := by
  have lk : ∀ i j : Int, a ≤ i → i < a + m → a ≤ j → j < a + m → lkP D T i j → lkP E U i j := fun i j i1 i2 j1 j2 q => ⟨by rw [← (hD i i1 i2).1, ← (hD j j1 j2).1]; exact q.1, by rw [← (hD i i1 i2).2, ← (hD j j1 j2).2]; exact q.2⟩
  rcases h with c | ⟨⟨r0, s, r1, r2⟩, c⟩ | ⟨k, k1, k2, c⟩ | ⟨k, k1, k2, k3, k4, c⟩ | ⟨c1, c2, c3, c⟩
  · exact Or.inl c
  · refine Or.inr (Or.inl ⟨⟨by rw [← (hD a (by omega) (by omega)).1]; exact r0, s, r1, fun k k1 k2 => ?_⟩, c⟩)
    have := r2 k k1 k2
    rw [← (hD (a + k) (by omega) (by omega)).1, ← (hD (a + k) (by omega) (by omega)).2, ← (hD (a + k - 1) (by omega) (by omega)).1, ← (hD a (by omega) (by omega)).2]
    exact this
  · exact Or.inr (Or.inr (Or.inl ⟨k, k1, k2, by rw [← hF a k (by omega) k1 k2 (by omega), ← hF (a + k) (m - k) (by omega) (by omega) (by omega) (by omega)]; exact c⟩))
  · exact Or.inr (Or.inr (Or.inr (Or.inl ⟨k, k1, k2, k3, fun j j1 j2 => lk _ _ (by omega) (by omega) (by omega) (by omega) (k4 j j1 j2), by rw [← hF a k (by omega) k1 k2 (by omega)]; exact c⟩)))
  · exact Or.inr (Or.inr (Or.inr (Or.inr ⟨c1, c2, fun j j1 j2 => lk _ _ (by omega) (by omega) (by omega) (by omega) (c3 j j1 j2), by rw [← hF a (m / 2 + 1) (by omega) (by omega) (by omega) (by omega)]; exact c⟩)))
theorem gdF_congr {D T E U : Int → Int} {F G : Int → Int → Int} {a m : Int} (hD : ∀ j : Int, a ≤ j → j < a + m → D j = E j ∧ T j = U j) (hF : ∀ b k : Int, a ≤ b → 1 ≤ k → k ≤ m → b + k ≤ a + m → F b k = G b k) (h : gdF D T F a m) : gdF E U G a m := by
  rcases h with ⟨h1, h2⟩ | ⟨h1, h2⟩
  · exact Or.inl ⟨h1, by rw [← hF a m (by omega) (by omega) (by omega) (by omega)]; exact h2⟩
  · refine Or.inr ⟨h1, ?_, fun y hy => ?_⟩
    · rw [← hF a m (by omega) (by omega) (by omega) (by omega)]
      exact cdP_congr h1 hD (fun b k b1 b2 b3 b4 => hF b k b1 b2 (by omega) b4) h2.1
    · rw [← hF a m (by omega) (by omega) (by omega) (by omega)]
      exact h2.2 y (cdP_congr h1 (fun j j1 j2 => ⟨(hD j j1 j2).1.symm, (hD j j1 j2).2.symm⟩) (fun b k b1 b2 b3 b4 => (hF b k b1 b2 (by omega) b4).symm) hy)
theorem isMn_eq {C : Int → Prop} {x y : Int} (h : isMn C x) (k : isMn C y) : x = y := by
  have := h.2 y k.1
  have := k.2 x h.1
  omega
theorem okF_eq {D T E U : Int → Int} {F G : Int → Int → Int} {n : Int} (hD : ∀ j : Int, 0 ≤ j → j < n → D j = E j ∧ T j = U j) (h : okF D T F n) (k : okF E U G n) : ∀ (z : Nat) (a m : Int), m ≤ z → 0 ≤ a → 1 ≤ m → a + m ≤ n → F a m = G a m := by
  intro z
  induction z with
  | zero => intro a m h1 h2 h3; omega
  | succ z ih =>
    intro a m h1 h2 h3 h4
    rcases h a m h2 h3 h4 with ⟨p1, p2⟩ | ⟨p1, p2⟩ <;> rcases k a m h2 h3 h4 with ⟨q1, q2⟩ | ⟨q1, q2⟩
    · omega
    · omega
    · omega
    · have e : ∀ b j : Int, a ≤ b → 1 ≤ j → j < m → b + j ≤ a + m → F b j = G b j := fun b j b1 b2 b3 b4 => ih b j (by omega) (by omega) b2 (by omega)
      exact isMn_eq (C := cdP E U G a m) ⟨cdP_congr p1 (fun j j1 j2 => hD j (by omega) (by omega)) e p2.1, fun y hy => p2.2 y (cdP_congr p1 (fun j j1 j2 => ⟨(hD j (by omega) (by omega)).1.symm, (hD j (by omega) (by omega)).2.symm⟩) (fun b j b1 b2 b3 b4 => (e b j b1 b2 b3 b4).symm) hy)⟩ q2
/-- x is the fewest marks that write the row -/
def isMk (f : Int → Int) (n x : Int) : Prop := ((sp f n.toNat).1 = 0 ∧ x = 0) ∨ (1 ≤ (sp f n.toNat).1 ∧ ∃ F : Int → Int → Int, okF (sp f n.toNat).2.1 (sp f n.toNat).2.2 F (sp f n.toNat).1 ∧ x = F 0 (sp f n.toNat).1)
theorem isMk_eq {f : Int → Int} {n x y : Int} (h : isMk f n x) (k : isMk f n y) : x = y := by
  rcases h with ⟨h1, h2⟩ | ⟨h1, F, h2, h3⟩ <;> rcases k with ⟨k1, k2⟩ | ⟨k1, G, k2, k3⟩
  · omega
  · omega
  · omega
  · rw [h3, k3]
    exact okF_eq (fun _ _ _ => ⟨rfl, rfl⟩) h2 k2 (sp f n.toNat).1.toNat 0 _ (by omega) (by omega) h1 (by omega)
noncomputable def mkV (f : Int → Int) (n : Int) : Int := @Classical.epsilon Int ⟨0⟩ (isMk f n)
theorem mkV_eq {f : Int → Int} {n x : Int} (h : isMk f n x) : mkV f n = x := isMk_eq (@Classical.epsilon_spec Int (isMk f n) ⟨x, h⟩) h
theorem isMk_in {f : Int → Int} {n x : Int} (h : isMk f n x) (hn : 0 ≤ n) : 0 ≤ x ∧ x ≤ n := by
  have q := (sp_in f n.toNat).1
  rcases h with ⟨h1, h2⟩ | ⟨h1, F, h2, h3⟩
  · omega
  · have := gdF_in (D := (sp f n.toNat).2.1) (T := (sp f n.toNat).2.2) (F := F) (sp f n.toNat).1.toNat 0 (sp f n.toNat).1 (by omega) h1 (fun b k b1 b2 b3 => h2 b k b1 b2 (by omega))
    omega
