theorem rT_3 {b : Bool} {x y : Option Nat} {z : Option Nat × Option Nat} {a k : Nat} (h : ¬ (a = 3 ∧ k = 3)) : rT (b, (x, z)) a k = rT (b, (y, z)) a k := by
  by_cases q : a < 4
  · have : a = 0 ∨ a = 1 ∨ a = 2 ∨ a = 3 := by omega
    rcases this with rfl | rfl | rfl | rfl
    · rfl
    · rfl
    · rfl
    · match k, h with
      | 0, _ => rfl
      | 1, _ => rfl
      | 2, _ => rfl
      | 3, h => exact absurd ⟨rfl, rfl⟩ h
      | k + 4, _ => rfl
  · have e : Nat.blt a 4 = false := by
      cases hh : Nat.blt a 4
      · rfl
      · exact absurd (Nat.blt_eq.mp hh) q
    unfold rT
    simp only [e, cond_false]
theorem rr_3 {b : Bool} {x y : Option Nat} {z : Option Nat × Option Nat} {a : Nat} {j : Int} (h : ¬ (a = 3 ∧ j = 3)) : rr (b, (x, z)) a j = rr (b, (y, z)) a j := by
  unfold rr
  match j, h with
  | .ofNat k, h =>
    show (bif Nat.blt a 582 then rT (b, (x, z)) a k else none) = (bif Nat.blt a 582 then rT (b, (y, z)) a k else none)
    rw [show rT (b, (x, z)) a k = rT (b, (y, z)) a k from rT_3 (fun g => h ⟨g.1, by rw [g.2]; rfl⟩)]
  | .negSucc _, _ => rfl
theorem RF_3 {r : abRf} {M : abMem} (hR : RF r M) (x : Option Nat) : RF (r.1, (x, r.2.2)) (sR M 3 3 x) := by
  intro a j
  by_cases h : a = 3 ∧ j = 3
  · rw [h.1, h.2]
    show (if (3 : Nat) = 3 then up (gR M 3) 3 x else gR M 3) 3 = _
    rw [if_pos rfl, up_eq rfl]
    rfl
  · rw [rr_3 (y := r.2.1) h]
    show (if a = 3 then up (gR M 3) 3 x else gR M a) j = _
    by_cases q : a = 3
    · rw [if_pos q, up_ne (fun g => h ⟨q, g⟩), ← q]
      exact hR a j
    · rw [if_neg q]
      exact hR a j
