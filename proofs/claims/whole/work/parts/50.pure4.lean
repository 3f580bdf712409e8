theorem nuS_ok {a : Int → Int} {n lo hi q : Int} {z : Rp} (h : (nuS a n lo hi z).1 = .inr q) : (∃ p : Int, z = .inr p) ∧ lo ≤ (nuS a n lo hi z).2 ∧ (nuS a n lo hi z).2 ≤ hi := by
  rcases z with e | p
  · cases h
  · refine ⟨⟨p, rfl⟩, ?_⟩
    by_cases c : de a n p = p ∨ 3 < de a n p - p
    · rw [nu_a c] at h; cases h
    · by_cases c2 : lo ≤ nv a n p ∧ nv a n p ≤ hi
      · rw [nu_d c c2]; exact c2
      · rw [nu_c c c2] at h; cases h
theorem woS_ok {a : Int → Int} {n w q : Int} {z : Rp} (h : woS a n w z = .inr q) : ∃ p : Int, z = .inr p := by
  rcases z with e | p
  · cases h
  · exact ⟨p, rfl⟩
theorem siS_ok {a : Int → Int} {n w q : Int} {z : Rp} (h : siS a n w z = .inr q) : ∃ p : Int, z = .inr p := by
  rcases z with e | p
  · cases h
  · exact ⟨p, rfl⟩
theorem wyS_ok {a : Int → Int} {n m l q : Int} {z : Rp} (h : (wyS a n m l z).1 = .inr q) : ∃ p : Int, z = .inr p := by
  rcases z with e | p
  · cases h
  · exact ⟨p, rfl⟩
theorem owS_ok {S a : Int → Int} {n q : Int} {z : Rp} (h1 : 0 ≤ S 1) (h : (owS S a n z).1 = .inr q) : 0 ≤ (owS S a n z).2 ∧ (owS S a n z).2 < S 1 := by
  rcases z with e | p
  · cases h
  · rcases hx : (naS S a n (.inr p)).1 with e | k
    · rw [owS_f hx] at h; cases h
    · rw [owS_g hx] at h ⊢
      by_cases c : (naS S a n (.inr p)).2 = -1
      · rw [if_pos c] at h; cases h
      · rw [if_neg c]
        show 0 ≤ (naS S a n (.inr p)).2 ∧ (naS S a n (.inr p)).2 < S 1
        have f := fnL_in (S := S) (a := a) (z := S 1) (k := p) (m := we a n p - p) h1
        by_cases hh : (1 ≤ we a n p - p ∧ we a n p - p ≤ 6) ∧ wo a n p = -1
        · rw [naS_y hh] at c ⊢
          have c : fnL S a (S 1) p (we a n p - p) ≠ -1 := c
          show 0 ≤ fnL S a (S 1) p (we a n p - p) ∧ fnL S a (S 1) p (we a n p - p) < S 1
          omega
        · rw [naS_n hh] at hx; cases hx
theorem slU_lo {S a : Int → Int} {n j : Int} {z : Rp} (h0 : 0 ≤ S 3) (hj : j < 334) : slU S a n z j = S j := by
  unfold slU
  rw [up_ne (by omega), up_ne (by omega)]
  unfold sl1
  rw [spS_o (by omega) (by omega), up_ne (by omega)]
theorem slS_lo {S a : Int → Int} {n j : Int} {z : Rp} (h0 : 0 ≤ S 3) (hj : j < 334) (h3 : j ≠ 3) : (slS S a n z).2 j = S j := by
  unfold slS
  show up _ 3 _ j = S j
  rw [up_ne h3, slU_lo h0 hj]
theorem hdS_lo {S a : Int → Int} {n j : Int} {z : Rp} (h0 : 0 ≤ S 4) (hj : j < 394) (h4 : j ≠ 4) : (hdS S a n z).2 j = S j := by
  unfold hdS
  show up _ 4 _ j = S j
  rw [up_ne h4, spS_o (by omega) (by omega), up_ne (by omega)]
theorem clS_lo {S a : Int → Int} {n j : Int} {z : Rp} (h0 : 0 ≤ S 2) (hj : j < 54) (h2 : j ≠ 2) : (clS S a n z).2 j = S j := by
  unfold clS
  show up _ 2 _ j = S j
  rw [up_ne h2]
  exact bxU_lo h0 hj
theorem laE_lo {S a : Int → Int} {n on l j : Int} {t : LnS} (hl : 0 ≤ l) (hj : j < 6) (h1 : j ≠ 1) : (laE S a n on l t).2 j = S j := by
  unfold laE
  show up _ 1 _ j = S j
  rw [up_ne h1]
  unfold laT
  rw [ltF_lo hl (by omega), up_ne (by omega)]
theorem laS_lo {S a : Int → Int} {n p j : Int} (hl : 0 ≤ S 1) (hj : j < 6) (h1 : j ≠ 1) : (laS S a n p).2 j = S j := by
  unfold laS
  split
  · rfl
  · split
    · rfl
    · unfold laN
      split
      · exact nmF_lo hl (by omega)
      · unfold laL
        split
        · exact nmF_lo hl (by omega)
        · rw [laE_lo hl hj h1]; exact nmF_lo hl (by omega)
theorem st_lo {S a : Int → Int} {n p j : Int} (hc : CT S) (h : j = 0 ∨ j = 5) : (stS S a n p).2 j = S j := by
  unfold stS
  split
  · rfl
  · split
    · rfl
    · split
      · exact laS_lo (by have := hc.2.1; omega) (by omega) (by omega)
      · split
        · exact clS_lo (by have := hc.2.2.1; omega) (by omega) (by omega)
        · split
          · exact slS_lo (by have := hc.2.2.2.1; omega) (by omega) (by omega)
          · exact hdS_lo (by have := hc.2.2.2.2.1; omega) (by omega) (by omega)
theorem laE_1 {S a : Int → Int} {n on l : Int} {t : LnS} : (laE S a n on l t).2 1 = laT S on l (lsH t) (enW a n (lsP t)).2 1 + 1 := by
  show up (laT S on l (lsH t) (enW a n (lsP t)).2) 1 (laT S on l (lsH t) (enW a n (lsP t)).2 1 + 1) 1 = _
  exact up_eq rfl
theorem clS_2 {S a : Int → Int} {n : Int} {z : Rp} : (clS S a n z).2 2 = clU S a n z 2 + 1 := by
  show up (clU S a n z) 2 (clU S a n z 2 + 1) 2 = _
  exact up_eq rfl
theorem slS_3 {S a : Int → Int} {n : Int} {z : Rp} : (slS S a n z).2 3 = slU S a n z 3 + 1 := by
  show up (slU S a n z) 3 (slU S a n z 3 + 1) 3 = _
  exact up_eq rfl
noncomputable def hdU (S a : Int → Int) (n : Int) (z : Rp) : Int → Int := (spS (up S (394 + 3 * S 4) (owS S a n z).2) a n (394 + 3 * S 4 + 1) (owS S a n z).1).2
theorem hdS_4 {S a : Int → Int} {n : Int} {z : Rp} : (hdS S a n z).2 4 = hdU S a n z 4 + 1 := by
  show up (hdU S a n z) 4 (hdU S a n z 4 + 1) 4 = _
  exact up_eq rfl
theorem laS_1 {S a : Int → Int} {n p q : Int} (hl : 0 ≤ S 1) (h : (laS S a n p).1 = .inr q) : (laS S a n p).2 1 = S 1 + 1 := by
  unfold laS at h ⊢
  split at h
  · cases h
  · split at h
    · cases h
    · rename_i k _ hk
      rw [if_neg hk]
      unfold laN at h ⊢
      split at h
      · cases h
      · unfold laL at h ⊢
        split at h
        · cases h
        · rw [laE_1]
          unfold laT
          rw [ltF_lo hl (by decide), up_ne (by omega), nmF_lo hl (by decide)]
theorem st_ct {S a : Int → Int} {n p q : Int} (hc : CT S) (h : (stS S a n p).1 = .inr q) : CT (stS S a n p).2 ∧ S 5 ≤ 59 := by
  have l0 := st_lo (a := a) (n := n) (p := p) hc (Or.inl rfl)
  have l5 := st_lo (a := a) (n := n) (p := p) hc (Or.inr rfl)
  obtain ⟨c0, c1, c2, c3, c4, c5⟩ := hc
  by_cases g : wo a n p = 1 ∨ wo a n p = 5 ∨ wo a n p = 9 ∨ wo a n p = 16
  · by_cases f : S 5 = 60 ∨ flP S (wo a n p)
    · rw [st_4 g f] at h; cases h
    · have f5 : S 5 ≠ 60 := fun k => f (Or.inl k)
      have ff : ¬ flP S (wo a n p) := fun k => f (Or.inr k)
      unfold flP at ff
      refine ⟨⟨by rw [l0]; exact c0, ?_⟩, by omega⟩
      rw [l5]
      rw [st_g g f] at h ⊢
      by_cases w1 : wo a n p = 1
      · rw [if_pos w1] at h ⊢
        have e := laS_1 (by omega) h
        have e2 := laS_lo (S := S) (a := a) (n := n) (p := sk a n (we a n p)) (j := 2) (by omega) (by omega) (by omega)
        have e3 := laS_lo (S := S) (a := a) (n := n) (p := sk a n (we a n p)) (j := 3) (by omega) (by omega) (by omega)
        have e4 := laS_lo (S := S) (a := a) (n := n) (p := sk a n (we a n p)) (j := 4) (by omega) (by omega) (by omega)
        omega
      · rw [if_neg w1] at h ⊢
        by_cases w5 : wo a n p = 5
        · rw [if_pos w5]
          have e1 := clS_lo (S := S) (a := a) (n := n) (z := .inr (sk a n (we a n p))) (j := 1) (by omega) (by omega) (by omega)
          have e3 := clS_lo (S := S) (a := a) (n := n) (z := .inr (sk a n (we a n p))) (j := 3) (by omega) (by omega) (by omega)
          have e4 := clS_lo (S := S) (a := a) (n := n) (z := .inr (sk a n (we a n p))) (j := 4) (by omega) (by omega) (by omega)
          have e2 : (clS S a n (.inr (sk a n (we a n p)))).2 2 = S 2 + 1 := by
            rw [clS_2]
            unfold clU
            rw [bxU_lo (by omega) (by decide)]
          omega
        · rw [if_neg w5]
          by_cases w9 : wo a n p = 9
          · rw [if_pos w9]
            have e1 := slS_lo (S := S) (a := a) (n := n) (z := .inr (sk a n (we a n p))) (j := 1) (by omega) (by omega) (by omega)
            have e2 := slS_lo (S := S) (a := a) (n := n) (z := .inr (sk a n (we a n p))) (j := 2) (by omega) (by omega) (by omega)
            have e4 := slS_lo (S := S) (a := a) (n := n) (z := .inr (sk a n (we a n p))) (j := 4) (by omega) (by omega) (by omega)
            have e3 : (slS S a n (.inr (sk a n (we a n p)))).2 3 = S 3 + 1 := by
              rw [slS_3, slU_lo (by omega) (by decide)]
            omega
          · rw [if_neg w9]
            have e1 := hdS_lo (S := S) (a := a) (n := n) (z := .inr (sk a n (we a n p))) (j := 1) (by omega) (by omega) (by omega)
            have e2 := hdS_lo (S := S) (a := a) (n := n) (z := .inr (sk a n (we a n p))) (j := 2) (by omega) (by omega) (by omega)
            have e3 := hdS_lo (S := S) (a := a) (n := n) (z := .inr (sk a n (we a n p))) (j := 3) (by omega) (by omega) (by omega)
            have e4 : (hdS S a n (.inr (sk a n (we a n p)))).2 4 = S 4 + 1 := by
              rw [hdS_4]
              unfold hdU
              rw [spS_o (by omega) (by omega), up_ne (by omega)]
            omega
  · rw [st_1 g] at h; cases h
-- the statements, one behind the other
abbrev Sc : Type := (Int × Int) ⊕ (Int → Int)
noncomputable def scL (a : Int → Int) (n : Int) : Nat → Rp → (Int → Int) → Option Sc
  | 0, _, _ => none
  | _ + 1, .inl e, _ => some (.inl e)
  | k + 1, .inr p, S => if a p = -1 then some (if S 1 = 0 then .inl (5, n) else .inr S) else scL a n k (enS (stS S a n p).2 a n (stS S a n p).1).1 (enS (stS S a n p).2 a n (stS S a n p).1).2
theorem scL_mono {a : Int → Int} {n : Int} : ∀ (k m : Nat) (z : Rp) (S : Int → Int) (x : Sc), scL a n k z S = some x → k ≤ m → scL a n m z S = some x := by
  intro k
  induction k with
  | zero => intro m z S x h; cases h
  | succ k ih =>
    intro m z S x h hm
    obtain ⟨m, rfl⟩ : ∃ j, m = j + 1 := ⟨m - 1, by omega⟩
    rcases z with e | p
    · exact h
    · unfold scL at h ⊢
      by_cases c : a p = -1
      · rw [if_pos c] at h ⊢; exact h
      · rw [if_neg c] at h ⊢; exact ih m _ _ x h (by omega)
def isSc (a : Int → Int) (n : Int) (z : Rp) (S : Int → Int) (x : Sc) : Prop := ∃ k : Nat, scL a n k z S = some x
theorem isSc_eq {a : Int → Int} {n : Int} {z : Rp} {S : Int → Int} {x y : Sc} (h : isSc a n z S x) (g : isSc a n z S y) : x = y := by
  obtain ⟨k, h⟩ := h
  obtain ⟨m, g⟩ := g
  have h2 := scL_mono k (max k m) z S x h (Nat.le_max_left _ _)
  have g2 := scL_mono m (max k m) z S y g (Nat.le_max_right _ _)
  rw [h2] at g2
  exact Option.some.inj g2
theorem isSc_f {a : Int → Int} {n : Int} {e : Int × Int} {S : Int → Int} : isSc a n (.inl e) S (.inl e) := ⟨1, rfl⟩
theorem isSc_5 {a : Int → Int} {n p : Int} {S : Int → Int} (h : a p = -1) (h1 : S 1 = 0) : isSc a n (.inr p) S (.inl (5, n)) := ⟨1, by unfold scL; rw [if_pos h, if_pos h1]⟩
theorem isSc_d {a : Int → Int} {n p : Int} {S : Int → Int} (h : a p = -1) (h1 : S 1 ≠ 0) : isSc a n (.inr p) S (.inr S) := ⟨1, by unfold scL; rw [if_pos h, if_neg h1]⟩
theorem isSc_s {a : Int → Int} {n p : Int} {S : Int → Int} {x : Sc} (h : a p ≠ -1) (g : isSc a n (enS (stS S a n p).2 a n (stS S a n p).1).1 (enS (stS S a n p).2 a n (stS S a n p).1).2 x) : isSc a n (.inr p) S x := by
  obtain ⟨k, g⟩ := g
  exact ⟨k + 1, by unfold scL; rw [if_neg h]; exact g⟩
/-- a whole text -/
noncomputable def sc0 (a : Int → Int) (n : Int) : Rp × (Int → Int) := frS (fun _ => 0) a n (.inr (sk a n 0))
noncomputable def sc1 (a : Int → Int) (n : Int) : Rp × (Int → Int) := enS (sc0 a n).2 a n (sc0 a n).1
def isTx (a : Int → Int) (n : Int) (x : Sc) : Prop := isSc a n (sc1 a n).1 (sc1 a n).2 x
theorem sc0_ct {a : Int → Int} {n : Int} : CT (sc0 a n).2 ∧ (sc0 a n).2 5 = 0 := by
  have h : 1 ≤ (nuS a n 1 96 (woS a n 0 (.inr (sk a n 0)))).2 ∧ (nuS a n 1 96 (woS a n 0 (.inr (sk a n 0)))).2 ≤ 96 := nuS_in (by decide)
  have e : ∀ j : Int, j ≠ 0 → (sc0 a n).2 j = 0 := fun j hj => by
    show up (fun _ => 0) 0 (nuS a n 1 96 (woS a n 0 (.inr (sk a n 0)))).2 j = 0
    exact up_ne hj
  have e0 : (sc0 a n).2 0 = (nuS a n 1 96 (woS a n 0 (.inr (sk a n 0)))).2 := by
    show up (fun _ => 0) 0 (nuS a n 1 96 (woS a n 0 (.inr (sk a n 0)))).2 0 = _
    exact up_eq rfl
  have x1 := e 1 (by decide)
  have x2 := e 2 (by decide)
  have x3 := e 3 (by decide)
  have x4 := e 4 (by decide)
  have x5 := e 5 (by decide)
  exact ⟨⟨by omega, by omega, by omega, by omega, by omega, by omega⟩, x5⟩
theorem en_ct {S a : Int → Int} {n : Int} {z : Rp} (h : CT S) (h5 : S 5 ≤ 59) : CT (enS S a n z).2 := by
  have e : ∀ j : Int, j ≠ 5 → (enS S a n z).2 j = S j := fun j hj => by
    show up S 5 (S 5 + 1) j = S j
    exact up_ne hj
  have e5 : (enS S a n z).2 5 = S 5 + 1 := by
    show up S 5 (S 5 + 1) 5 = _
    exact up_eq rfl
  obtain ⟨c0, c1, c2, c3, c4, c5⟩ := h
  have x0 := e 0 (by decide)
  have x1 := e 1 (by decide)
  have x2 := e 2 (by decide)
  have x3 := e 3 (by decide)
  have x4 := e 4 (by decide)
  exact ⟨by omega, by omega, by omega, by omega, by omega, by omega⟩
theorem en_ok {S a : Int → Int} {n q : Int} {z : Rp} (h : (enS S a n z).1 = .inr q) : ∃ p : Int, z = .inr p := siS_ok h
