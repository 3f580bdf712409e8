section
variable {L : Nat} {xs : Nat → Int32}
/-- the memory when both are made -/
def M9 (L : Nat) (xs : Nat → Int32) : abMem := gF (IQ (oF 94)) (FF (rr r0 20) (rr r0 201)) (gF (IQ (fun _ => 0)) (FF (rr r0 20) (rr r0 201)) (abM0 L xs) 0 567) 567 582
theorem FF_all : FF (rr r0 20) (rr r0 201) = rr r0 := by
  funext a
  unfold FF
  by_cases y : a = 20
  · rw [if_pos y, y]
  · rw [if_neg y]
    by_cases z : a = 201
    · rw [if_pos z, z]
    · rw [if_neg z]
theorem rr_hi {a : Nat} (h : 582 ≤ a) : rr r0 a = fun _ => none := by
  funext j
  have e : Nat.blt a 582 = false := by
    cases hh : Nat.blt a 582
    · rfl
    · exact absurd (Nat.blt_eq.mp hh) (by omega)
  unfold rr
  rw [e]
  rfl
theorem M9_R : RF r0 (M9 L xs) := fun a j => by
  show (if a = 567 then FF (rr r0 20) (rr r0 201) 567 else if 567 < a ∧ a < 582 then FF (rr r0 20) (rr r0 201) a else (if a = 0 then FF (rr r0 20) (rr r0 201) 0 else if 0 < a ∧ a < 567 then FF (rr r0 20) (rr r0 201) a else fun _ => none)) j = rr r0 a j
  rw [FF_all]
  by_cases z : a = 567
  · rw [if_pos z, z]
  · rw [if_neg z]
    by_cases y : 567 < a ∧ a < 582
    · rw [if_pos y]
    · rw [if_neg y]
      by_cases x : a = 0
      · rw [if_pos x, x]
      · rw [if_neg x]
        by_cases w : 0 < a ∧ a < 567
        · rw [if_pos w]
        · rw [if_neg w, rr_hi (by omega)]
theorem M9_lo {a : Nat} (h : a < 567) : gI (M9 L xs) a = I1 a := by
  show (if a = 567 then IQ (oF 94) 567 else if 567 < a ∧ a < 582 then IQ (oF 94) a else (if a = 0 then IQ (fun _ => 0) 0 else if 0 < a ∧ a < 567 then IQ (fun _ => 0) a else (abM0 L xs).1 a)) = I1 a
  rw [if_neg (show ¬ a = 567 by omega), if_neg (show ¬ (567 < a ∧ a < 582) by omega)]
  have e : ∀ b : Nat, b ≠ 572 → IQ (fun _ => 0) b = I1 b := fun b hb => by unfold IQ; rw [if_neg hb]
  by_cases z : a = 0
  · rw [if_pos z, z, e 0 (by decide)]
  · rw [if_neg z, if_pos (by omega), e a (by omega)]
theorem M9_hi {a : Nat} (h : 567 ≤ a ∧ a < 582) : gI (M9 L xs) a = IQ (oF 94) a := by
  show (if a = 567 then IQ (oF 94) 567 else if 567 < a ∧ a < 582 then IQ (oF 94) a else (if a = 0 then IQ (fun _ => 0) 0 else if 0 < a ∧ a < 567 then IQ (fun _ => 0) a else (abM0 L xs).1 a)) = IQ (oF 94) a
  by_cases z : a = 567
  · rw [if_pos z, z]
  · rw [if_neg z, if_pos (by omega)]
theorem M9_z {a : Nat} (h : a < 582) (h1 : a ≠ 3) (h2 : a ≠ 567) (h3 : a ≠ 572) (j : Int) : gI (M9 L xs) a j = 0 := by
  by_cases q : a < 567
  · rw [M9_lo q]
    unfold I1
    rw [if_neg (fun k => h1 k.1), if_neg (fun k => h2 k.1)]
  · rw [M9_hi ⟨by omega, h⟩, IQ_z h3 h1 h2]
theorem M9_s (j : Int) : In32 (gI (M9 L xs) 1000042 j) := by
  have e : gI (M9 L xs) 1000042 j = (abM0 L xs).1 1000042 j := rfl
  rw [e]
  show In32 (if 1000042 = 1000042 ∧ 0 ≤ j ∧ j < (L : Int) then (xs j.toNat).toInt else 0)
  split
  · exact inI _
  · exact ⟨by decide, by decide⟩
theorem M9_I : INV r0 (M9 L xs) 0 := by
  have z8 : ∀ j, gI (M9 L xs) 568 j = 0 := M9_z (by decide) (by decide) (by decide) (by decide)
  have z9 : ∀ j, gI (M9 L xs) 569 j = 0 := M9_z (by decide) (by decide) (by decide) (by decide)
  have e8 : gI (M9 L xs) 568 = fun _ => 0 := funext z8
  have z7 : ∀ j, ¬ (j = 7 ∨ j = 12 ∨ j = 21) → gI (M9 L xs) 567 j = 0 := fun j hj => by
    rw [M9_hi (by decide)]
    show (if 567 = 3 ∧ j = 6 then -1 else if 567 = 567 ∧ (j = 7 ∨ j = 12 ∨ j = 21) then -1 else 0) = (0 : Int)
    rw [if_neg (fun k => absurd k.1 (by decide)), if_neg (fun k => hj k.2)]
  have z77 : gI (M9 L xs) 567 7 = -1 := by rw [M9_hi (by decide)]; rfl
  have z36 : gI (M9 L xs) 3 6 = -1 := by rw [M9_lo (by decide)]; rfl
  have z35 : gI (M9 L xs) 3 5 = 0 := by rw [M9_lo (by decide)]; rfl
  have sw : SW (fun _ => 0) := (SR_0 (M := M9 L xs) (s := 372) (M9_z (by decide) (by decide) (by decide) (by decide) 0) (M9_z (by decide) (by decide) (by decide) (by decide) 1) (M9_z (by decide) (by decide) (by decide) (by decide) 2) (M9_z (by decide) (by decide) (by decide) (by decide) 3) (M9_z (by decide) (by decide) (by decide) (by decide) 4) (M9_z (by decide) (by decide) (by decide) (by decide) 5)).1
  refine ⟨M9_R, ⟨by rw [e8]; exact sw, fun j _ _ => by rw [z9]; decide⟩, ?_, ⟨fun l f l0 l1 => ?_, fun p p0 p1 => ?_, fun p p0 p1 => ?_, fun l l0 l1 => ?_⟩, ⟨⟨?_, ?_⟩, ?_, fun j j0 j1 => ?_⟩, fun q q0 q1 => ?_, ⟨?_, ?_, fun j j0 j1 => ?_⟩, fun j j0 j1 => ?_, ⟨?_, ?_⟩, fun l l0 l1 => ?_, Or.inl ?_, ⟨?_, fun x x0 x1 => ?_⟩, ?_, ?_⟩
  · rw [e8]
    exact SR_0 (s := 372) (M9_z (by decide) (by decide) (by decide) (by decide) 0) (M9_z (by decide) (by decide) (by decide) (by decide) 1) (M9_z (by decide) (by decide) (by decide) (by decide) 2) (M9_z (by decide) (by decide) (by decide) (by decide) 3) (M9_z (by decide) (by decide) (by decide) (by decide) 4) (M9_z (by decide) (by decide) (by decide) (by decide) 5)
  · rw [z8] at l1; omega
  · rw [z9, M9_z (by decide) (by decide) (by decide) (by decide)]
  · rw [z8] at p1; omega
  · rw [z8] at l1; omega
  · rw [z7 3 (by decide), M9_z (by decide) (by decide) (by decide) (by decide)]
  · rw [z7 3 (by decide)]; decide
  · rw [M9_z (by decide) (by decide) (by decide) (by decide)]; decide
  · rw [z7 3 (by decide)] at j1; omega
  · rw [M9_z (by decide) (by decide) (by decide) (by decide), M9_z (by decide) (by decide) (by decide) (by decide)]
    exact ⟨rfl, Or.inl rfl⟩
  · rw [z7 5 (by decide), M9_z (by decide) (by decide) (by decide) (by decide)]
  · rw [z7 5 (by decide)]; decide
  · rw [z7 5 (by decide)] at j1; omega
  · rw [M9_hi (by decide)]
    show (if 0 ≤ j ∧ j < 94 then ownT j else 0) = ownT j
    rw [if_pos ⟨j0, j1⟩]
  · rw [z35, z7 6 (by decide)]
  · rw [z36, z77]
  · rw [z8] at l1; omega
  · exact M9_z (by decide) (by decide) (by decide) (by decide) 14
  · rw [M9_z (by decide) (by decide) (by decide) (by decide)]; decide
  · rw [M9_z (by decide) (by decide) (by decide) (by decide), M9_z (by decide) (by decide) (by decide) (by decide)]; decide
  · intro _; exact z8 0
  · intro l l0 l1
    rw [z8] at l1; omega
theorem A9 (L : Nat) : aF (aF (0, abK0 L) 0 567) 567 582 = A0 L := by
  rw [aF_aF (by decide) (by decide)]
  refine Prod.ext rfl (funext fun a => ?_)
  show (if 0 ≤ a ∧ a < 582 then kT a else abK0 L a) = kk L a
  unfold kk
  by_cases z : a < 582
  · rw [if_pos ⟨Nat.zero_le _, z⟩, Nat.blt_eq.mpr z]; rfl
  · rw [if_neg (by omega)]
    cases e : Nat.blt a 582
    · rfl
    · exact absurd (Nat.blt_eq.mp e) z
theorem law_run (hL : L ≤ 3072) : abW 14 (600000, 7302250) 297 0 [some (vr (some 1000042)), none, none, none] [] (0, 0) (0, abK0 L) (abM0 L xs) (fun v _ _ => v = some (vi 1)) := by
  refine bw_new rfl (Nat.le_of_ble_eq_true rfl) (Nat.le_of_ble_eq_true rfl) (by show 0 + 1 < 1000000; decide) ?_
  refine bw_dup rfl ?_
  refine bw_callI (e := 13) (mc := 566) (ms := 80441) (as := []) rfl rfl rfl rfl (Nat.le_of_ble_eq_true rfl) (Nat.le_of_ble_eq_true rfl) (Nat.le_of_ble_eq_true rfl) (Nat.le_of_ble_eq_true rfl) rfl (ct_83_0 (q := fun _ => 0) (0, abK0 L) (abM0 L xs) rfl) (fun v A2 M2 hq => ?_)
  obtain ⟨rfl, rfl, rfl⟩ := hq
  refine bw_astore (ls2 := [_, _, _, _]) rfl rfl (Nat.le_of_ble_eq_true rfl) rfl ?_
  refine bw_new rfl (Nat.le_of_ble_eq_true rfl) (Nat.le_of_ble_eq_true rfl) (by show 567 + 1 < 1000000; decide) ?_
  refine bw_dup rfl ?_
  refine bw_callI (e := 13) (mc := 14) (ms := 47921) (as := []) rfl rfl rfl rfl (Nat.le_of_ble_eq_true rfl) (Nat.le_of_ble_eq_true rfl) (Nat.le_of_ble_eq_true rfl) (Nat.le_of_ble_eq_true rfl) rfl (ct_140_567 (aF (0, abK0 L) 0 567) _ rfl) (fun v A2 M2 hq => ?_)
  obtain ⟨rfl, rfl, rfl⟩ := hq
  refine bw_astore (ls2 := [_, _, _, _]) rfl rfl (Nat.le_of_ble_eq_true rfl) rfl ?_
  refine bw_push rfl ?_
  refine bw_istore (ls2 := [_, _, _, _]) rfl rfl (Nat.le_of_ble_eq_true rfl) rfl ?_
  rw [A9]
  exact law_loop (c1 := 582) (c2 := 128410) hL (by decide) (L + 7) r0 (M9 L xs) 0 0 M9_I (by decide) M9_s (by decide) (by omega)
end
