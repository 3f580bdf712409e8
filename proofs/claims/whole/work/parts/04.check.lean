theorem ab_nb {x k : Nat} (h : k ≤ x) : Nat.blt x k = false := by
  cases e : Nat.blt x k
  · rfl
  · exact absurd (Nat.blt_eq.mp e) (Nat.not_lt.mpr h)
theorem ab_rng {f : Nat → Bool} {lo n x : Nat} (h : (List.range n).all (fun j => f (j + lo)) = true) (h1 : lo ≤ x) (h2 : x < lo + n) : f x = true := by
  have := List.all_eq_true.mp h (x - lo) (List.mem_range.mpr (by omega))
  rwa [Nat.sub_add_cancel h1] at this
theorem abk_0_0 : (List.range 32).all (fun j => abChk 0 prog_2_method_1_code true (j + 0) (abc_0 (j + 0))) = true := by decide +kernel
theorem abk_0 (x : Nat) : abChk 0 prog_2_method_1_code true x (abc_0 x) = true := by
  rcases Nat.lt_or_ge x 32 with h | h
  · exact ab_rng (f := fun y => abChk 0 prog_2_method_1_code true y (abc_0 y)) abk_0_0 (Nat.zero_le x) h
  have h0 := h
  clear h
  have e : abc_0 x = ab00 := by unfold abc_0; rw [ab_nb h0]; rfl
  rw [e]; rfl
theorem abk_1_0 : (List.range 14).all (fun j => abChk 0 prog_2_method_2_code false (j + 0) (abc_1 (j + 0))) = true := by decide +kernel
theorem abk_1 (x : Nat) : abChk 0 prog_2_method_2_code false x (abc_1 x) = true := by
  rcases Nat.lt_or_ge x 14 with h | h
  · exact ab_rng (f := fun y => abChk 0 prog_2_method_2_code false y (abc_1 y)) abk_1_0 (Nat.zero_le x) h
  have h0 := h
  clear h
  have e : abc_1 x = ab00 := by unfold abc_1; rw [ab_nb h0]; rfl
  rw [e]; rfl
theorem abk_2_0 : (List.range 128).all (fun j => abChk 0 prog_2_method_3_code false (j + 0) (abc_2 (j + 0))) = true := by decide +kernel
theorem abk_2_1 : (List.range 13).all (fun j => abChk 0 prog_2_method_3_code false (j + 128) (abc_2 (j + 128))) = true := by decide +kernel
theorem abk_2 (x : Nat) : abChk 0 prog_2_method_3_code false x (abc_2 x) = true := by
  rcases Nat.lt_or_ge x 128 with h | h
  · exact ab_rng (f := fun y => abChk 0 prog_2_method_3_code false y (abc_2 y)) abk_2_0 (Nat.zero_le x) h
  have h0 := h
  clear h
  rcases Nat.lt_or_ge x 141 with h | h
  · exact ab_rng (f := fun y => abChk 0 prog_2_method_3_code false y (abc_2 y)) abk_2_1 h0 h
  have h0 := h
  clear h
  have e : abc_2 x = ab00 := by unfold abc_2; rw [ab_nb h0]; rfl
  rw [e]; rfl
theorem abk_3_0 : (List.range 33).all (fun j => abChk 0 prog_2_method_4_code false (j + 0) (abc_3 (j + 0))) = true := by decide +kernel
theorem abk_3 (x : Nat) : abChk 0 prog_2_method_4_code false x (abc_3 x) = true := by
  rcases Nat.lt_or_ge x 33 with h | h
  · exact ab_rng (f := fun y => abChk 0 prog_2_method_4_code false y (abc_3 y)) abk_3_0 (Nat.zero_le x) h
  have h0 := h
  clear h
  have e : abc_3 x = ab00 := by unfold abc_3; rw [ab_nb h0]; rfl
  rw [e]; rfl
theorem abk_4_0 : (List.range 39).all (fun j => abChk 0 prog_2_method_5_code false (j + 0) (abc_4 (j + 0))) = true := by decide +kernel
theorem abk_4 (x : Nat) : abChk 0 prog_2_method_5_code false x (abc_4 x) = true := by
  rcases Nat.lt_or_ge x 39 with h | h
  · exact ab_rng (f := fun y => abChk 0 prog_2_method_5_code false y (abc_4 y)) abk_4_0 (Nat.zero_le x) h
  have h0 := h
  clear h
  have e : abc_4 x = ab00 := by unfold abc_4; rw [ab_nb h0]; rfl
  rw [e]; rfl
theorem abk_5_0 : (List.range 45).all (fun j => abChk 1 prog_3_method_1_code true (j + 0) (abc_5 (j + 0))) = true := by decide +kernel
theorem abk_5 (x : Nat) : abChk 1 prog_3_method_1_code true x (abc_5 x) = true := by
  rcases Nat.lt_or_ge x 45 with h | h
  · exact ab_rng (f := fun y => abChk 1 prog_3_method_1_code true y (abc_5 y)) abk_5_0 (Nat.zero_le x) h
  have h0 := h
  clear h
  have e : abc_5 x = ab00 := by unfold abc_5; rw [ab_nb h0]; rfl
  rw [e]; rfl
theorem abk_6_0 : (List.range 39).all (fun j => abChk 1 prog_3_method_2_code false (j + 0) (abc_6 (j + 0))) = true := by decide +kernel
theorem abk_6 (x : Nat) : abChk 1 prog_3_method_2_code false x (abc_6 x) = true := by
  rcases Nat.lt_or_ge x 39 with h | h
  · exact ab_rng (f := fun y => abChk 1 prog_3_method_2_code false y (abc_6 y)) abk_6_0 (Nat.zero_le x) h
  have h0 := h
  clear h
  have e : abc_6 x = ab00 := by unfold abc_6; rw [ab_nb h0]; rfl
  rw [e]; rfl
theorem abk_7_0 : (List.range 94).all (fun j => abChk 1 prog_3_method_3_code false (j + 0) (abc_7 (j + 0))) = true := by decide +kernel
theorem abk_7 (x : Nat) : abChk 1 prog_3_method_3_code false x (abc_7 x) = true := by
  rcases Nat.lt_or_ge x 94 with h | h
  · exact ab_rng (f := fun y => abChk 1 prog_3_method_3_code false y (abc_7 y)) abk_7_0 (Nat.zero_le x) h
  have h0 := h
  clear h
  have e : abc_7 x = ab00 := by unfold abc_7; rw [ab_nb h0]; rfl
  rw [e]; rfl
theorem abk_8_0 : (List.range 112).all (fun j => abChk 1 prog_3_method_4_code false (j + 0) (abc_8 (j + 0))) = true := by decide +kernel
theorem abk_8 (x : Nat) : abChk 1 prog_3_method_4_code false x (abc_8 x) = true := by
  rcases Nat.lt_or_ge x 112 with h | h
  · exact ab_rng (f := fun y => abChk 1 prog_3_method_4_code false y (abc_8 y)) abk_8_0 (Nat.zero_le x) h
  have h0 := h
  clear h
  have e : abc_8 x = ab00 := by unfold abc_8; rw [ab_nb h0]; rfl
  rw [e]; rfl
theorem abk_9_0 : (List.range 128).all (fun j => abChk 1 prog_3_method_5_code false (j + 0) (abc_9 (j + 0))) = true := by decide +kernel
theorem abk_9 (x : Nat) : abChk 1 prog_3_method_5_code false x (abc_9 x) = true := by
  rcases Nat.lt_or_ge x 128 with h | h
  · exact ab_rng (f := fun y => abChk 1 prog_3_method_5_code false y (abc_9 y)) abk_9_0 (Nat.zero_le x) h
  have h0 := h
  clear h
  have e : abc_9 x = ab00 := by unfold abc_9; rw [ab_nb h0]; rfl
  rw [e]; rfl
theorem abk_10_0 : (List.range 16).all (fun j => abChk 1 prog_3_method_6_code false (j + 0) (abc_10 (j + 0))) = true := by decide +kernel
theorem abk_10 (x : Nat) : abChk 1 prog_3_method_6_code false x (abc_10 x) = true := by
  rcases Nat.lt_or_ge x 16 with h | h
  · exact ab_rng (f := fun y => abChk 1 prog_3_method_6_code false y (abc_10 y)) abk_10_0 (Nat.zero_le x) h
  have h0 := h
  clear h
  have e : abc_10 x = ab00 := by unfold abc_10; rw [ab_nb h0]; rfl
  rw [e]; rfl
theorem abk_11_0 : (List.range 48).all (fun j => abChk 1 prog_3_method_7_code false (j + 0) (abc_11 (j + 0))) = true := by decide +kernel
theorem abk_11 (x : Nat) : abChk 1 prog_3_method_7_code false x (abc_11 x) = true := by
  rcases Nat.lt_or_ge x 48 with h | h
  · exact ab_rng (f := fun y => abChk 1 prog_3_method_7_code false y (abc_11 y)) abk_11_0 (Nat.zero_le x) h
  have h0 := h
  clear h
  have e : abc_11 x = ab00 := by unfold abc_11; rw [ab_nb h0]; rfl
  rw [e]; rfl
theorem abk_12_0 : (List.range 63).all (fun j => abChk 1 prog_3_method_8_code false (j + 0) (abc_12 (j + 0))) = true := by decide +kernel
theorem abk_12 (x : Nat) : abChk 1 prog_3_method_8_code false x (abc_12 x) = true := by
  rcases Nat.lt_or_ge x 63 with h | h
  · exact ab_rng (f := fun y => abChk 1 prog_3_method_8_code false y (abc_12 y)) abk_12_0 (Nat.zero_le x) h
  have h0 := h
  clear h
  have e : abc_12 x = ab00 := by unfold abc_12; rw [ab_nb h0]; rfl
  rw [e]; rfl
theorem abk_13_0 : (List.range 125).all (fun j => abChk 1 prog_3_method_9_code false (j + 0) (abc_13 (j + 0))) = true := by decide +kernel
theorem abk_13 (x : Nat) : abChk 1 prog_3_method_9_code false x (abc_13 x) = true := by
  rcases Nat.lt_or_ge x 125 with h | h
  · exact ab_rng (f := fun y => abChk 1 prog_3_method_9_code false y (abc_13 y)) abk_13_0 (Nat.zero_le x) h
  have h0 := h
  clear h
  have e : abc_13 x = ab00 := by unfold abc_13; rw [ab_nb h0]; rfl
  rw [e]; rfl
theorem abk_14_0 : (List.range 41).all (fun j => abChk 2 prog_4_method_1_code true (j + 0) (abc_14 (j + 0))) = true := by decide +kernel
theorem abk_14 (x : Nat) : abChk 2 prog_4_method_1_code true x (abc_14 x) = true := by
  rcases Nat.lt_or_ge x 41 with h | h
  · exact ab_rng (f := fun y => abChk 2 prog_4_method_1_code true y (abc_14 y)) abk_14_0 (Nat.zero_le x) h
  have h0 := h
  clear h
  have e : abc_14 x = ab00 := by unfold abc_14; rw [ab_nb h0]; rfl
  rw [e]; rfl
theorem abk_15_0 : (List.range 6).all (fun j => abChk 2 prog_4_method_2_code false (j + 0) (abc_15 (j + 0))) = true := by decide +kernel
theorem abk_15 (x : Nat) : abChk 2 prog_4_method_2_code false x (abc_15 x) = true := by
  rcases Nat.lt_or_ge x 6 with h | h
  · exact ab_rng (f := fun y => abChk 2 prog_4_method_2_code false y (abc_15 y)) abk_15_0 (Nat.zero_le x) h
  have h0 := h
  clear h
  have e : abc_15 x = ab00 := by unfold abc_15; rw [ab_nb h0]; rfl
  rw [e]; rfl
theorem abk_16_0 : (List.range 54).all (fun j => abChk 2 prog_4_method_3_code false (j + 0) (abc_16 (j + 0))) = true := by decide +kernel
theorem abk_16 (x : Nat) : abChk 2 prog_4_method_3_code false x (abc_16 x) = true := by
  rcases Nat.lt_or_ge x 54 with h | h
  · exact ab_rng (f := fun y => abChk 2 prog_4_method_3_code false y (abc_16 y)) abk_16_0 (Nat.zero_le x) h
  have h0 := h
  clear h
  have e : abc_16 x = ab00 := by unfold abc_16; rw [ab_nb h0]; rfl
  rw [e]; rfl
theorem abk_17_0 : (List.range 53).all (fun j => abChk 2 prog_4_method_4_code false (j + 0) (abc_17 (j + 0))) = true := by decide +kernel
theorem abk_17 (x : Nat) : abChk 2 prog_4_method_4_code false x (abc_17 x) = true := by
  rcases Nat.lt_or_ge x 53 with h | h
  · exact ab_rng (f := fun y => abChk 2 prog_4_method_4_code false y (abc_17 y)) abk_17_0 (Nat.zero_le x) h
  have h0 := h
  clear h
  have e : abc_17 x = ab00 := by unfold abc_17; rw [ab_nb h0]; rfl
  rw [e]; rfl
theorem abk_18_0 : (List.range 35).all (fun j => abChk 3 prog_5_method_1_code true (j + 0) (abc_18 (j + 0))) = true := by decide +kernel
theorem abk_18 (x : Nat) : abChk 3 prog_5_method_1_code true x (abc_18 x) = true := by
  rcases Nat.lt_or_ge x 35 with h | h
  · exact ab_rng (f := fun y => abChk 3 prog_5_method_1_code true y (abc_18 y)) abk_18_0 (Nat.zero_le x) h
  have h0 := h
  clear h
  have e : abc_18 x = ab00 := by unfold abc_18; rw [ab_nb h0]; rfl
  rw [e]; rfl
theorem abk_19_0 : (List.range 36).all (fun j => abChk 3 prog_5_method_2_code false (j + 0) (abc_19 (j + 0))) = true := by decide +kernel
theorem abk_19 (x : Nat) : abChk 3 prog_5_method_2_code false x (abc_19 x) = true := by
  rcases Nat.lt_or_ge x 36 with h | h
  · exact ab_rng (f := fun y => abChk 3 prog_5_method_2_code false y (abc_19 y)) abk_19_0 (Nat.zero_le x) h
  have h0 := h
  clear h
  have e : abc_19 x = ab00 := by unfold abc_19; rw [ab_nb h0]; rfl
  rw [e]; rfl
theorem abk_20_0 : (List.range 61).all (fun j => abChk 3 prog_5_method_3_code false (j + 0) (abc_20 (j + 0))) = true := by decide +kernel
theorem abk_20 (x : Nat) : abChk 3 prog_5_method_3_code false x (abc_20 x) = true := by
  rcases Nat.lt_or_ge x 61 with h | h
  · exact ab_rng (f := fun y => abChk 3 prog_5_method_3_code false y (abc_20 y)) abk_20_0 (Nat.zero_le x) h
  have h0 := h
  clear h
  have e : abc_20 x = ab00 := by unfold abc_20; rw [ab_nb h0]; rfl
  rw [e]; rfl
theorem abk_21_0 : (List.range 50).all (fun j => abChk 3 prog_5_method_4_code false (j + 0) (abc_21 (j + 0))) = true := by decide +kernel
theorem abk_21 (x : Nat) : abChk 3 prog_5_method_4_code false x (abc_21 x) = true := by
  rcases Nat.lt_or_ge x 50 with h | h
  · exact ab_rng (f := fun y => abChk 3 prog_5_method_4_code false y (abc_21 y)) abk_21_0 (Nat.zero_le x) h
  have h0 := h
  clear h
  have e : abc_21 x = ab00 := by unfold abc_21; rw [ab_nb h0]; rfl
  rw [e]; rfl
theorem abk_22_0 : (List.range 47).all (fun j => abChk 3 prog_5_method_5_code false (j + 0) (abc_22 (j + 0))) = true := by decide +kernel
theorem abk_22 (x : Nat) : abChk 3 prog_5_method_5_code false x (abc_22 x) = true := by
  rcases Nat.lt_or_ge x 47 with h | h
  · exact ab_rng (f := fun y => abChk 3 prog_5_method_5_code false y (abc_22 y)) abk_22_0 (Nat.zero_le x) h
  have h0 := h
  clear h
  have e : abc_22 x = ab00 := by unfold abc_22; rw [ab_nb h0]; rfl
  rw [e]; rfl
theorem abk_23_0 : (List.range 128).all (fun j => abChk 3 prog_5_method_6_code false (j + 0) (abc_23 (j + 0))) = true := by decide +kernel
theorem abk_23_1 : (List.range 6).all (fun j => abChk 3 prog_5_method_6_code false (j + 128) (abc_23 (j + 128))) = true := by decide +kernel
theorem abk_23 (x : Nat) : abChk 3 prog_5_method_6_code false x (abc_23 x) = true := by
  rcases Nat.lt_or_ge x 128 with h | h
  · exact ab_rng (f := fun y => abChk 3 prog_5_method_6_code false y (abc_23 y)) abk_23_0 (Nat.zero_le x) h
  have h0 := h
  clear h
  rcases Nat.lt_or_ge x 134 with h | h
  · exact ab_rng (f := fun y => abChk 3 prog_5_method_6_code false y (abc_23 y)) abk_23_1 h0 h
  have h0 := h
  clear h
  have e : abc_23 x = ab00 := by unfold abc_23; rw [ab_nb h0]; rfl
  rw [e]; rfl
theorem abk_24_0 : (List.range 60).all (fun j => abChk 3 prog_5_method_7_code false (j + 0) (abc_24 (j + 0))) = true := by decide +kernel
theorem abk_24 (x : Nat) : abChk 3 prog_5_method_7_code false x (abc_24 x) = true := by
  rcases Nat.lt_or_ge x 60 with h | h
  · exact ab_rng (f := fun y => abChk 3 prog_5_method_7_code false y (abc_24 y)) abk_24_0 (Nat.zero_le x) h
  have h0 := h
  clear h
  have e : abc_24 x = ab00 := by unfold abc_24; rw [ab_nb h0]; rfl
  rw [e]; rfl
theorem abk_25_0 : (List.range 61).all (fun j => abChk 4 prog_6_method_1_code true (j + 0) (abc_25 (j + 0))) = true := by decide +kernel
theorem abk_25 (x : Nat) : abChk 4 prog_6_method_1_code true x (abc_25 x) = true := by
  rcases Nat.lt_or_ge x 61 with h | h
  · exact ab_rng (f := fun y => abChk 4 prog_6_method_1_code true y (abc_25 y)) abk_25_0 (Nat.zero_le x) h
  have h0 := h
  clear h
  have e : abc_25 x = ab00 := by unfold abc_25; rw [ab_nb h0]; rfl
  rw [e]; rfl
theorem abk_26_0 : (List.range 123).all (fun j => abChk 4 prog_6_method_2_code false (j + 0) (abc_26 (j + 0))) = true := by decide +kernel
theorem abk_26 (x : Nat) : abChk 4 prog_6_method_2_code false x (abc_26 x) = true := by
  rcases Nat.lt_or_ge x 123 with h | h
  · exact ab_rng (f := fun y => abChk 4 prog_6_method_2_code false y (abc_26 y)) abk_26_0 (Nat.zero_le x) h
  have h0 := h
  clear h
  have e : abc_26 x = ab00 := by unfold abc_26; rw [ab_nb h0]; rfl
  rw [e]; rfl
theorem abk_27_0 : (List.range 99).all (fun j => abChk 4 prog_6_method_3_code false (j + 0) (abc_27 (j + 0))) = true := by decide +kernel
theorem abk_27 (x : Nat) : abChk 4 prog_6_method_3_code false x (abc_27 x) = true := by
  rcases Nat.lt_or_ge x 99 with h | h
  · exact ab_rng (f := fun y => abChk 4 prog_6_method_3_code false y (abc_27 y)) abk_27_0 (Nat.zero_le x) h
  have h0 := h
  clear h
  have e : abc_27 x = ab00 := by unfold abc_27; rw [ab_nb h0]; rfl
  rw [e]; rfl
theorem abk_28_0 : (List.range 128).all (fun j => abChk 4 prog_6_method_4_code false (j + 0) (abc_28 (j + 0))) = true := by decide +kernel
theorem abk_28_1 : (List.range 52).all (fun j => abChk 4 prog_6_method_4_code false (j + 128) (abc_28 (j + 128))) = true := by decide +kernel
theorem abk_28 (x : Nat) : abChk 4 prog_6_method_4_code false x (abc_28 x) = true := by
  rcases Nat.lt_or_ge x 128 with h | h
  · exact ab_rng (f := fun y => abChk 4 prog_6_method_4_code false y (abc_28 y)) abk_28_0 (Nat.zero_le x) h
  have h0 := h
  clear h
  rcases Nat.lt_or_ge x 180 with h | h
  · exact ab_rng (f := fun y => abChk 4 prog_6_method_4_code false y (abc_28 y)) abk_28_1 h0 h
  have h0 := h
  clear h
  have e : abc_28 x = ab00 := by unfold abc_28; rw [ab_nb h0]; rfl
  rw [e]; rfl
theorem abk_29_0 : (List.range 36).all (fun j => abChk 4 prog_6_method_5_code false (j + 0) (abc_29 (j + 0))) = true := by decide +kernel
theorem abk_29 (x : Nat) : abChk 4 prog_6_method_5_code false x (abc_29 x) = true := by
  rcases Nat.lt_or_ge x 36 with h | h
  · exact ab_rng (f := fun y => abChk 4 prog_6_method_5_code false y (abc_29 y)) abk_29_0 (Nat.zero_le x) h
  have h0 := h
  clear h
  have e : abc_29 x = ab00 := by unfold abc_29; rw [ab_nb h0]; rfl
  rw [e]; rfl
theorem abk_30_0 : (List.range 38).all (fun j => abChk 4 prog_6_method_6_code false (j + 0) (abc_30 (j + 0))) = true := by decide +kernel
theorem abk_30 (x : Nat) : abChk 4 prog_6_method_6_code false x (abc_30 x) = true := by
  rcases Nat.lt_or_ge x 38 with h | h
  · exact ab_rng (f := fun y => abChk 4 prog_6_method_6_code false y (abc_30 y)) abk_30_0 (Nat.zero_le x) h
  have h0 := h
  clear h
  have e : abc_30 x = ab00 := by unfold abc_30; rw [ab_nb h0]; rfl
  rw [e]; rfl
theorem abk_31_0 : (List.range 76).all (fun j => abChk 4 prog_6_method_7_code false (j + 0) (abc_31 (j + 0))) = true := by decide +kernel
theorem abk_31 (x : Nat) : abChk 4 prog_6_method_7_code false x (abc_31 x) = true := by
  rcases Nat.lt_or_ge x 76 with h | h
  · exact ab_rng (f := fun y => abChk 4 prog_6_method_7_code false y (abc_31 y)) abk_31_0 (Nat.zero_le x) h
  have h0 := h
  clear h
  have e : abc_31 x = ab00 := by unfold abc_31; rw [ab_nb h0]; rfl
  rw [e]; rfl
theorem abk_32_0 : (List.range 67).all (fun j => abChk 4 prog_6_method_8_code false (j + 0) (abc_32 (j + 0))) = true := by decide +kernel
theorem abk_32 (x : Nat) : abChk 4 prog_6_method_8_code false x (abc_32 x) = true := by
  rcases Nat.lt_or_ge x 67 with h | h
  · exact ab_rng (f := fun y => abChk 4 prog_6_method_8_code false y (abc_32 y)) abk_32_0 (Nat.zero_le x) h
  have h0 := h
  clear h
  have e : abc_32 x = ab00 := by unfold abc_32; rw [ab_nb h0]; rfl
  rw [e]; rfl
theorem abk_33_0 : (List.range 75).all (fun j => abChk 4 prog_6_method_9_code false (j + 0) (abc_33 (j + 0))) = true := by decide +kernel
theorem abk_33 (x : Nat) : abChk 4 prog_6_method_9_code false x (abc_33 x) = true := by
  rcases Nat.lt_or_ge x 75 with h | h
  · exact ab_rng (f := fun y => abChk 4 prog_6_method_9_code false y (abc_33 y)) abk_33_0 (Nat.zero_le x) h
  have h0 := h
  clear h
  have e : abc_33 x = ab00 := by unfold abc_33; rw [ab_nb h0]; rfl
  rw [e]; rfl
theorem abk_34_0 : (List.range 34).all (fun j => abChk 5 prog_7_method_1_code true (j + 0) (abc_34 (j + 0))) = true := by decide +kernel
theorem abk_34 (x : Nat) : abChk 5 prog_7_method_1_code true x (abc_34 x) = true := by
  rcases Nat.lt_or_ge x 34 with h | h
  · exact ab_rng (f := fun y => abChk 5 prog_7_method_1_code true y (abc_34 y)) abk_34_0 (Nat.zero_le x) h
  have h0 := h
  clear h
  have e : abc_34 x = ab00 := by unfold abc_34; rw [ab_nb h0]; rfl
  rw [e]; rfl
theorem abk_35_0 : (List.range 128).all (fun j => abChk 5 prog_7_method_2_code false (j + 0) (abc_35 (j + 0))) = true := by decide +kernel
theorem abk_35_1 : (List.range 93).all (fun j => abChk 5 prog_7_method_2_code false (j + 128) (abc_35 (j + 128))) = true := by decide +kernel
theorem abk_35 (x : Nat) : abChk 5 prog_7_method_2_code false x (abc_35 x) = true := by
  rcases Nat.lt_or_ge x 128 with h | h
  · exact ab_rng (f := fun y => abChk 5 prog_7_method_2_code false y (abc_35 y)) abk_35_0 (Nat.zero_le x) h
  have h0 := h
  clear h
  rcases Nat.lt_or_ge x 221 with h | h
  · exact ab_rng (f := fun y => abChk 5 prog_7_method_2_code false y (abc_35 y)) abk_35_1 h0 h
  have h0 := h
  clear h
  have e : abc_35 x = ab00 := by unfold abc_35; rw [ab_nb h0]; rfl
  rw [e]; rfl
theorem abk_36_0 : (List.range 68).all (fun j => abChk 5 prog_7_method_3_code false (j + 0) (abc_36 (j + 0))) = true := by decide +kernel
theorem abk_36 (x : Nat) : abChk 5 prog_7_method_3_code false x (abc_36 x) = true := by
  rcases Nat.lt_or_ge x 68 with h | h
  · exact ab_rng (f := fun y => abChk 5 prog_7_method_3_code false y (abc_36 y)) abk_36_0 (Nat.zero_le x) h
  have h0 := h
  clear h
  have e : abc_36 x = ab00 := by unfold abc_36; rw [ab_nb h0]; rfl
  rw [e]; rfl
theorem abk_37_0 : (List.range 60).all (fun j => abChk 5 prog_7_method_4_code false (j + 0) (abc_37 (j + 0))) = true := by decide +kernel
theorem abk_37 (x : Nat) : abChk 5 prog_7_method_4_code false x (abc_37 x) = true := by
  rcases Nat.lt_or_ge x 60 with h | h
  · exact ab_rng (f := fun y => abChk 5 prog_7_method_4_code false y (abc_37 y)) abk_37_0 (Nat.zero_le x) h
  have h0 := h
  clear h
  have e : abc_37 x = ab00 := by unfold abc_37; rw [ab_nb h0]; rfl
  rw [e]; rfl
theorem abk_38_0 : (List.range 100).all (fun j => abChk 5 prog_7_method_5_code false (j + 0) (abc_38 (j + 0))) = true := by decide +kernel
theorem abk_38 (x : Nat) : abChk 5 prog_7_method_5_code false x (abc_38 x) = true := by
  rcases Nat.lt_or_ge x 100 with h | h
  · exact ab_rng (f := fun y => abChk 5 prog_7_method_5_code false y (abc_38 y)) abk_38_0 (Nat.zero_le x) h
  have h0 := h
  clear h
  have e : abc_38 x = ab00 := by unfold abc_38; rw [ab_nb h0]; rfl
  rw [e]; rfl
theorem abk_39_0 : (List.range 20).all (fun j => abChk 5 prog_7_method_6_code false (j + 0) (abc_39 (j + 0))) = true := by decide +kernel
theorem abk_39 (x : Nat) : abChk 5 prog_7_method_6_code false x (abc_39 x) = true := by
  rcases Nat.lt_or_ge x 20 with h | h
  · exact ab_rng (f := fun y => abChk 5 prog_7_method_6_code false y (abc_39 y)) abk_39_0 (Nat.zero_le x) h
  have h0 := h
  clear h
  have e : abc_39 x = ab00 := by unfold abc_39; rw [ab_nb h0]; rfl
  rw [e]; rfl
theorem abk_40_0 : (List.range 40).all (fun j => abChk 5 prog_7_method_7_code false (j + 0) (abc_40 (j + 0))) = true := by decide +kernel
theorem abk_40 (x : Nat) : abChk 5 prog_7_method_7_code false x (abc_40 x) = true := by
  rcases Nat.lt_or_ge x 40 with h | h
  · exact ab_rng (f := fun y => abChk 5 prog_7_method_7_code false y (abc_40 y)) abk_40_0 (Nat.zero_le x) h
  have h0 := h
  clear h
  have e : abc_40 x = ab00 := by unfold abc_40; rw [ab_nb h0]; rfl
  rw [e]; rfl
theorem abk_41_0 : (List.range 128).all (fun j => abChk 5 prog_7_method_8_code false (j + 0) (abc_41 (j + 0))) = true := by decide +kernel
theorem abk_41_1 : (List.range 33).all (fun j => abChk 5 prog_7_method_8_code false (j + 128) (abc_41 (j + 128))) = true := by decide +kernel
theorem abk_41 (x : Nat) : abChk 5 prog_7_method_8_code false x (abc_41 x) = true := by
  rcases Nat.lt_or_ge x 128 with h | h
  · exact ab_rng (f := fun y => abChk 5 prog_7_method_8_code false y (abc_41 y)) abk_41_0 (Nat.zero_le x) h
  have h0 := h
  clear h
  rcases Nat.lt_or_ge x 161 with h | h
  · exact ab_rng (f := fun y => abChk 5 prog_7_method_8_code false y (abc_41 y)) abk_41_1 h0 h
  have h0 := h
  clear h
  have e : abc_41 x = ab00 := by unfold abc_41; rw [ab_nb h0]; rfl
  rw [e]; rfl
theorem abk_42_0 : (List.range 32).all (fun j => abChk 5 prog_7_method_9_code false (j + 0) (abc_42 (j + 0))) = true := by decide +kernel
theorem abk_42 (x : Nat) : abChk 5 prog_7_method_9_code false x (abc_42 x) = true := by
  rcases Nat.lt_or_ge x 32 with h | h
  · exact ab_rng (f := fun y => abChk 5 prog_7_method_9_code false y (abc_42 y)) abk_42_0 (Nat.zero_le x) h
  have h0 := h
  clear h
  have e : abc_42 x = ab00 := by unfold abc_42; rw [ab_nb h0]; rfl
  rw [e]; rfl
theorem abk_43_0 : (List.range 128).all (fun j => abChk 5 prog_7_method_10_code false (j + 0) (abc_43 (j + 0))) = true := by decide +kernel
theorem abk_43_1 : (List.range 44).all (fun j => abChk 5 prog_7_method_10_code false (j + 128) (abc_43 (j + 128))) = true := by decide +kernel
theorem abk_43 (x : Nat) : abChk 5 prog_7_method_10_code false x (abc_43 x) = true := by
  rcases Nat.lt_or_ge x 128 with h | h
  · exact ab_rng (f := fun y => abChk 5 prog_7_method_10_code false y (abc_43 y)) abk_43_0 (Nat.zero_le x) h
  have h0 := h
  clear h
  rcases Nat.lt_or_ge x 172 with h | h
  · exact ab_rng (f := fun y => abChk 5 prog_7_method_10_code false y (abc_43 y)) abk_43_1 h0 h
  have h0 := h
  clear h
  have e : abc_43 x = ab00 := by unfold abc_43; rw [ab_nb h0]; rfl
  rw [e]; rfl
theorem abk_44_0 : (List.range 128).all (fun j => abChk 5 prog_7_method_11_code false (j + 0) (abc_44 (j + 0))) = true := by decide +kernel
theorem abk_44_1 : (List.range 60).all (fun j => abChk 5 prog_7_method_11_code false (j + 128) (abc_44 (j + 128))) = true := by decide +kernel
theorem abk_44 (x : Nat) : abChk 5 prog_7_method_11_code false x (abc_44 x) = true := by
  rcases Nat.lt_or_ge x 128 with h | h
  · exact ab_rng (f := fun y => abChk 5 prog_7_method_11_code false y (abc_44 y)) abk_44_0 (Nat.zero_le x) h
  have h0 := h
  clear h
  rcases Nat.lt_or_ge x 188 with h | h
  · exact ab_rng (f := fun y => abChk 5 prog_7_method_11_code false y (abc_44 y)) abk_44_1 h0 h
  have h0 := h
  clear h
  have e : abc_44 x = ab00 := by unfold abc_44; rw [ab_nb h0]; rfl
  rw [e]; rfl
theorem abk_45_0 : (List.range 95).all (fun j => abChk 5 prog_7_method_12_code false (j + 0) (abc_45 (j + 0))) = true := by decide +kernel
theorem abk_45 (x : Nat) : abChk 5 prog_7_method_12_code false x (abc_45 x) = true := by
  rcases Nat.lt_or_ge x 95 with h | h
  · exact ab_rng (f := fun y => abChk 5 prog_7_method_12_code false y (abc_45 y)) abk_45_0 (Nat.zero_le x) h
  have h0 := h
  clear h
  have e : abc_45 x = ab00 := by unfold abc_45; rw [ab_nb h0]; rfl
  rw [e]; rfl
theorem abk_46_0 : (List.range 54).all (fun j => abChk 5 prog_7_method_13_code false (j + 0) (abc_46 (j + 0))) = true := by decide +kernel
theorem abk_46 (x : Nat) : abChk 5 prog_7_method_13_code false x (abc_46 x) = true := by
  rcases Nat.lt_or_ge x 54 with h | h
  · exact ab_rng (f := fun y => abChk 5 prog_7_method_13_code false y (abc_46 y)) abk_46_0 (Nat.zero_le x) h
  have h0 := h
  clear h
  have e : abc_46 x = ab00 := by unfold abc_46; rw [ab_nb h0]; rfl
  rw [e]; rfl
theorem abk_47_0 : (List.range 128).all (fun j => abChk 5 prog_7_method_14_code false (j + 0) (abc_47 (j + 0))) = true := by decide +kernel
theorem abk_47_1 : (List.range 8).all (fun j => abChk 5 prog_7_method_14_code false (j + 128) (abc_47 (j + 128))) = true := by decide +kernel
theorem abk_47 (x : Nat) : abChk 5 prog_7_method_14_code false x (abc_47 x) = true := by
  rcases Nat.lt_or_ge x 128 with h | h
  · exact ab_rng (f := fun y => abChk 5 prog_7_method_14_code false y (abc_47 y)) abk_47_0 (Nat.zero_le x) h
  have h0 := h
  clear h
  rcases Nat.lt_or_ge x 136 with h | h
  · exact ab_rng (f := fun y => abChk 5 prog_7_method_14_code false y (abc_47 y)) abk_47_1 h0 h
  have h0 := h
  clear h
  have e : abc_47 x = ab00 := by unfold abc_47; rw [ab_nb h0]; rfl
  rw [e]; rfl
theorem abk_48_0 : (List.range 102).all (fun j => abChk 5 prog_7_method_15_code false (j + 0) (abc_48 (j + 0))) = true := by decide +kernel
theorem abk_48 (x : Nat) : abChk 5 prog_7_method_15_code false x (abc_48 x) = true := by
  rcases Nat.lt_or_ge x 102 with h | h
  · exact ab_rng (f := fun y => abChk 5 prog_7_method_15_code false y (abc_48 y)) abk_48_0 (Nat.zero_le x) h
  have h0 := h
  clear h
  have e : abc_48 x = ab00 := by unfold abc_48; rw [ab_nb h0]; rfl
  rw [e]; rfl
theorem abk_49_0 : (List.range 34).all (fun j => abChk 5 prog_7_method_16_code false (j + 0) (abc_49 (j + 0))) = true := by decide +kernel
theorem abk_49 (x : Nat) : abChk 5 prog_7_method_16_code false x (abc_49 x) = true := by
  rcases Nat.lt_or_ge x 34 with h | h
  · exact ab_rng (f := fun y => abChk 5 prog_7_method_16_code false y (abc_49 y)) abk_49_0 (Nat.zero_le x) h
  have h0 := h
  clear h
  have e : abc_49 x = ab00 := by unfold abc_49; rw [ab_nb h0]; rfl
  rw [e]; rfl
theorem abk_50_0 : (List.range 72).all (fun j => abChk 5 prog_7_method_17_code false (j + 0) (abc_50 (j + 0))) = true := by decide +kernel
theorem abk_50 (x : Nat) : abChk 5 prog_7_method_17_code false x (abc_50 x) = true := by
  rcases Nat.lt_or_ge x 72 with h | h
  · exact ab_rng (f := fun y => abChk 5 prog_7_method_17_code false y (abc_50 y)) abk_50_0 (Nat.zero_le x) h
  have h0 := h
  clear h
  have e : abc_50 x = ab00 := by unfold abc_50; rw [ab_nb h0]; rfl
  rw [e]; rfl
theorem abk_51_0 : (List.range 27).all (fun j => abChk 5 prog_7_method_18_code false (j + 0) (abc_51 (j + 0))) = true := by decide +kernel
theorem abk_51 (x : Nat) : abChk 5 prog_7_method_18_code false x (abc_51 x) = true := by
  rcases Nat.lt_or_ge x 27 with h | h
  · exact ab_rng (f := fun y => abChk 5 prog_7_method_18_code false y (abc_51 y)) abk_51_0 (Nat.zero_le x) h
  have h0 := h
  clear h
  have e : abc_51 x = ab00 := by unfold abc_51; rw [ab_nb h0]; rfl
  rw [e]; rfl
theorem abk_52_0 : (List.range 93).all (fun j => abChk 5 prog_7_method_19_code false (j + 0) (abc_52 (j + 0))) = true := by decide +kernel
theorem abk_52 (x : Nat) : abChk 5 prog_7_method_19_code false x (abc_52 x) = true := by
  rcases Nat.lt_or_ge x 93 with h | h
  · exact ab_rng (f := fun y => abChk 5 prog_7_method_19_code false y (abc_52 y)) abk_52_0 (Nat.zero_le x) h
  have h0 := h
  clear h
  have e : abc_52 x = ab00 := by unfold abc_52; rw [ab_nb h0]; rfl
  rw [e]; rfl
theorem abk_53_0 : (List.range 94).all (fun j => abChk 5 prog_7_method_20_code false (j + 0) (abc_53 (j + 0))) = true := by decide +kernel
theorem abk_53 (x : Nat) : abChk 5 prog_7_method_20_code false x (abc_53 x) = true := by
  rcases Nat.lt_or_ge x 94 with h | h
  · exact ab_rng (f := fun y => abChk 5 prog_7_method_20_code false y (abc_53 y)) abk_53_0 (Nat.zero_le x) h
  have h0 := h
  clear h
  have e : abc_53 x = ab00 := by unfold abc_53; rw [ab_nb h0]; rfl
  rw [e]; rfl
theorem abk_54_0 : (List.range 32).all (fun j => abChk 5 prog_7_method_21_code false (j + 0) (abc_54 (j + 0))) = true := by decide +kernel
theorem abk_54 (x : Nat) : abChk 5 prog_7_method_21_code false x (abc_54 x) = true := by
  rcases Nat.lt_or_ge x 32 with h | h
  · exact ab_rng (f := fun y => abChk 5 prog_7_method_21_code false y (abc_54 y)) abk_54_0 (Nat.zero_le x) h
  have h0 := h
  clear h
  have e : abc_54 x = ab00 := by unfold abc_54; rw [ab_nb h0]; rfl
  rw [e]; rfl
theorem abk_55_0 : (List.range 32).all (fun j => abChk 5 prog_7_method_22_code false (j + 0) (abc_55 (j + 0))) = true := by decide +kernel
theorem abk_55 (x : Nat) : abChk 5 prog_7_method_22_code false x (abc_55 x) = true := by
  rcases Nat.lt_or_ge x 32 with h | h
  · exact ab_rng (f := fun y => abChk 5 prog_7_method_22_code false y (abc_55 y)) abk_55_0 (Nat.zero_le x) h
  have h0 := h
  clear h
  have e : abc_55 x = ab00 := by unfold abc_55; rw [ab_nb h0]; rfl
  rw [e]; rfl
theorem abk_56_0 : (List.range 12).all (fun j => abChk 5 prog_7_method_23_code false (j + 0) (abc_56 (j + 0))) = true := by decide +kernel
theorem abk_56 (x : Nat) : abChk 5 prog_7_method_23_code false x (abc_56 x) = true := by
  rcases Nat.lt_or_ge x 12 with h | h
  · exact ab_rng (f := fun y => abChk 5 prog_7_method_23_code false y (abc_56 y)) abk_56_0 (Nat.zero_le x) h
  have h0 := h
  clear h
  have e : abc_56 x = ab00 := by unfold abc_56; rw [ab_nb h0]; rfl
  rw [e]; rfl
theorem abk_57_0 : (List.range 113).all (fun j => abChk 6 prog_9_method_1_code true (j + 0) (abc_57 (j + 0))) = true := by decide +kernel
theorem abk_57 (x : Nat) : abChk 6 prog_9_method_1_code true x (abc_57 x) = true := by
  rcases Nat.lt_or_ge x 113 with h | h
  · exact ab_rng (f := fun y => abChk 6 prog_9_method_1_code true y (abc_57 y)) abk_57_0 (Nat.zero_le x) h
  have h0 := h
  clear h
  have e : abc_57 x = ab00 := by unfold abc_57; rw [ab_nb h0]; rfl
  rw [e]; rfl
theorem abk_58_0 : (List.range 31).all (fun j => abChk 6 prog_9_method_2_code false (j + 0) (abc_58 (j + 0))) = true := by decide +kernel
theorem abk_58 (x : Nat) : abChk 6 prog_9_method_2_code false x (abc_58 x) = true := by
  rcases Nat.lt_or_ge x 31 with h | h
  · exact ab_rng (f := fun y => abChk 6 prog_9_method_2_code false y (abc_58 y)) abk_58_0 (Nat.zero_le x) h
  have h0 := h
  clear h
  have e : abc_58 x = ab00 := by unfold abc_58; rw [ab_nb h0]; rfl
  rw [e]; rfl
theorem abk_59_0 : (List.range 18).all (fun j => abChk 6 prog_9_method_3_code false (j + 0) (abc_59 (j + 0))) = true := by decide +kernel
theorem abk_59 (x : Nat) : abChk 6 prog_9_method_3_code false x (abc_59 x) = true := by
  rcases Nat.lt_or_ge x 18 with h | h
  · exact ab_rng (f := fun y => abChk 6 prog_9_method_3_code false y (abc_59 y)) abk_59_0 (Nat.zero_le x) h
  have h0 := h
  clear h
  have e : abc_59 x = ab00 := by unfold abc_59; rw [ab_nb h0]; rfl
  rw [e]; rfl
theorem abk_60_0 : (List.range 18).all (fun j => abChk 6 prog_9_method_4_code false (j + 0) (abc_60 (j + 0))) = true := by decide +kernel
theorem abk_60 (x : Nat) : abChk 6 prog_9_method_4_code false x (abc_60 x) = true := by
  rcases Nat.lt_or_ge x 18 with h | h
  · exact ab_rng (f := fun y => abChk 6 prog_9_method_4_code false y (abc_60 y)) abk_60_0 (Nat.zero_le x) h
  have h0 := h
  clear h
  have e : abc_60 x = ab00 := by unfold abc_60; rw [ab_nb h0]; rfl
  rw [e]; rfl
theorem abk_61_0 : (List.range 45).all (fun j => abChk 6 prog_9_method_5_code false (j + 0) (abc_61 (j + 0))) = true := by decide +kernel
theorem abk_61 (x : Nat) : abChk 6 prog_9_method_5_code false x (abc_61 x) = true := by
  rcases Nat.lt_or_ge x 45 with h | h
  · exact ab_rng (f := fun y => abChk 6 prog_9_method_5_code false y (abc_61 y)) abk_61_0 (Nat.zero_le x) h
  have h0 := h
  clear h
  have e : abc_61 x = ab00 := by unfold abc_61; rw [ab_nb h0]; rfl
  rw [e]; rfl
theorem abk_62_0 : (List.range 51).all (fun j => abChk 6 prog_9_method_6_code false (j + 0) (abc_62 (j + 0))) = true := by decide +kernel
theorem abk_62 (x : Nat) : abChk 6 prog_9_method_6_code false x (abc_62 x) = true := by
  rcases Nat.lt_or_ge x 51 with h | h
  · exact ab_rng (f := fun y => abChk 6 prog_9_method_6_code false y (abc_62 y)) abk_62_0 (Nat.zero_le x) h
  have h0 := h
  clear h
  have e : abc_62 x = ab00 := by unfold abc_62; rw [ab_nb h0]; rfl
  rw [e]; rfl
theorem abk_63_0 : (List.range 128).all (fun j => abChk 6 prog_9_method_7_code false (j + 0) (abc_63 (j + 0))) = true := by decide +kernel
theorem abk_63_1 : (List.range 39).all (fun j => abChk 6 prog_9_method_7_code false (j + 128) (abc_63 (j + 128))) = true := by decide +kernel
theorem abk_63 (x : Nat) : abChk 6 prog_9_method_7_code false x (abc_63 x) = true := by
  rcases Nat.lt_or_ge x 128 with h | h
  · exact ab_rng (f := fun y => abChk 6 prog_9_method_7_code false y (abc_63 y)) abk_63_0 (Nat.zero_le x) h
  have h0 := h
  clear h
  rcases Nat.lt_or_ge x 167 with h | h
  · exact ab_rng (f := fun y => abChk 6 prog_9_method_7_code false y (abc_63 y)) abk_63_1 h0 h
  have h0 := h
  clear h
  have e : abc_63 x = ab00 := by unfold abc_63; rw [ab_nb h0]; rfl
  rw [e]; rfl
theorem abk_64_0 : (List.range 63).all (fun j => abChk 6 prog_9_method_8_code false (j + 0) (abc_64 (j + 0))) = true := by decide +kernel
theorem abk_64 (x : Nat) : abChk 6 prog_9_method_8_code false x (abc_64 x) = true := by
  rcases Nat.lt_or_ge x 63 with h | h
  · exact ab_rng (f := fun y => abChk 6 prog_9_method_8_code false y (abc_64 y)) abk_64_0 (Nat.zero_le x) h
  have h0 := h
  clear h
  have e : abc_64 x = ab00 := by unfold abc_64; rw [ab_nb h0]; rfl
  rw [e]; rfl
theorem abk_65_0 : (List.range 125).all (fun j => abChk 6 prog_9_method_9_code false (j + 0) (abc_65 (j + 0))) = true := by decide +kernel
theorem abk_65 (x : Nat) : abChk 6 prog_9_method_9_code false x (abc_65 x) = true := by
  rcases Nat.lt_or_ge x 125 with h | h
  · exact ab_rng (f := fun y => abChk 6 prog_9_method_9_code false y (abc_65 y)) abk_65_0 (Nat.zero_le x) h
  have h0 := h
  clear h
  have e : abc_65 x = ab00 := by unfold abc_65; rw [ab_nb h0]; rfl
  rw [e]; rfl
theorem abk_66_0 : (List.range 75).all (fun j => abChk 6 prog_9_method_10_code false (j + 0) (abc_66 (j + 0))) = true := by decide +kernel
theorem abk_66 (x : Nat) : abChk 6 prog_9_method_10_code false x (abc_66 x) = true := by
  rcases Nat.lt_or_ge x 75 with h | h
  · exact ab_rng (f := fun y => abChk 6 prog_9_method_10_code false y (abc_66 y)) abk_66_0 (Nat.zero_le x) h
  have h0 := h
  clear h
  have e : abc_66 x = ab00 := by unfold abc_66; rw [ab_nb h0]; rfl
  rw [e]; rfl
theorem abk_67_0 : (List.range 45).all (fun j => abChk 6 prog_9_method_11_code false (j + 0) (abc_67 (j + 0))) = true := by decide +kernel
theorem abk_67 (x : Nat) : abChk 6 prog_9_method_11_code false x (abc_67 x) = true := by
  rcases Nat.lt_or_ge x 45 with h | h
  · exact ab_rng (f := fun y => abChk 6 prog_9_method_11_code false y (abc_67 y)) abk_67_0 (Nat.zero_le x) h
  have h0 := h
  clear h
  have e : abc_67 x = ab00 := by unfold abc_67; rw [ab_nb h0]; rfl
  rw [e]; rfl
theorem abk_68_0 : (List.range 25).all (fun j => abChk 7 prog_10_method_1_code true (j + 0) (abc_68 (j + 0))) = true := by decide +kernel
theorem abk_68 (x : Nat) : abChk 7 prog_10_method_1_code true x (abc_68 x) = true := by
  rcases Nat.lt_or_ge x 25 with h | h
  · exact ab_rng (f := fun y => abChk 7 prog_10_method_1_code true y (abc_68 y)) abk_68_0 (Nat.zero_le x) h
  have h0 := h
  clear h
  have e : abc_68 x = ab00 := by unfold abc_68; rw [ab_nb h0]; rfl
  rw [e]; rfl
theorem abk_69_0 : (List.range 41).all (fun j => abChk 7 prog_10_method_2_code false (j + 0) (abc_69 (j + 0))) = true := by decide +kernel
theorem abk_69 (x : Nat) : abChk 7 prog_10_method_2_code false x (abc_69 x) = true := by
  rcases Nat.lt_or_ge x 41 with h | h
  · exact ab_rng (f := fun y => abChk 7 prog_10_method_2_code false y (abc_69 y)) abk_69_0 (Nat.zero_le x) h
  have h0 := h
  clear h
  have e : abc_69 x = ab00 := by unfold abc_69; rw [ab_nb h0]; rfl
  rw [e]; rfl
theorem abk_70_0 : (List.range 49).all (fun j => abChk 7 prog_10_method_3_code false (j + 0) (abc_70 (j + 0))) = true := by decide +kernel
theorem abk_70 (x : Nat) : abChk 7 prog_10_method_3_code false x (abc_70 x) = true := by
  rcases Nat.lt_or_ge x 49 with h | h
  · exact ab_rng (f := fun y => abChk 7 prog_10_method_3_code false y (abc_70 y)) abk_70_0 (Nat.zero_le x) h
  have h0 := h
  clear h
  have e : abc_70 x = ab00 := by unfold abc_70; rw [ab_nb h0]; rfl
  rw [e]; rfl
theorem abk_71_0 : (List.range 28).all (fun j => abChk 7 prog_10_method_4_code false (j + 0) (abc_71 (j + 0))) = true := by decide +kernel
theorem abk_71 (x : Nat) : abChk 7 prog_10_method_4_code false x (abc_71 x) = true := by
  rcases Nat.lt_or_ge x 28 with h | h
  · exact ab_rng (f := fun y => abChk 7 prog_10_method_4_code false y (abc_71 y)) abk_71_0 (Nat.zero_le x) h
  have h0 := h
  clear h
  have e : abc_71 x = ab00 := by unfold abc_71; rw [ab_nb h0]; rfl
  rw [e]; rfl
theorem abk_72_0 : (List.range 14).all (fun j => abChk 8 prog_11_method_1_code true (j + 0) (abc_72 (j + 0))) = true := by decide +kernel
theorem abk_72 (x : Nat) : abChk 8 prog_11_method_1_code true x (abc_72 x) = true := by
  rcases Nat.lt_or_ge x 14 with h | h
  · exact ab_rng (f := fun y => abChk 8 prog_11_method_1_code true y (abc_72 y)) abk_72_0 (Nat.zero_le x) h
  have h0 := h
  clear h
  have e : abc_72 x = ab00 := by unfold abc_72; rw [ab_nb h0]; rfl
  rw [e]; rfl
theorem abk_73_0 : (List.range 47).all (fun j => abChk 8 prog_11_method_2_code false (j + 0) (abc_73 (j + 0))) = true := by decide +kernel
theorem abk_73 (x : Nat) : abChk 8 prog_11_method_2_code false x (abc_73 x) = true := by
  rcases Nat.lt_or_ge x 47 with h | h
  · exact ab_rng (f := fun y => abChk 8 prog_11_method_2_code false y (abc_73 y)) abk_73_0 (Nat.zero_le x) h
  have h0 := h
  clear h
  have e : abc_73 x = ab00 := by unfold abc_73; rw [ab_nb h0]; rfl
  rw [e]; rfl
theorem abk_74_0 : (List.range 10).all (fun j => abChk 8 prog_11_method_3_code false (j + 0) (abc_74 (j + 0))) = true := by decide +kernel
theorem abk_74 (x : Nat) : abChk 8 prog_11_method_3_code false x (abc_74 x) = true := by
  rcases Nat.lt_or_ge x 10 with h | h
  · exact ab_rng (f := fun y => abChk 8 prog_11_method_3_code false y (abc_74 y)) abk_74_0 (Nat.zero_le x) h
  have h0 := h
  clear h
  have e : abc_74 x = ab00 := by unfold abc_74; rw [ab_nb h0]; rfl
  rw [e]; rfl
theorem abk_75_0 : (List.range 128).all (fun j => abChk 8 prog_11_method_4_code false (j + 0) (abc_75 (j + 0))) = true := by decide +kernel
theorem abk_75_1 : (List.range 122).all (fun j => abChk 8 prog_11_method_4_code false (j + 128) (abc_75 (j + 128))) = true := by decide +kernel
theorem abk_75 (x : Nat) : abChk 8 prog_11_method_4_code false x (abc_75 x) = true := by
  rcases Nat.lt_or_ge x 128 with h | h
  · exact ab_rng (f := fun y => abChk 8 prog_11_method_4_code false y (abc_75 y)) abk_75_0 (Nat.zero_le x) h
  have h0 := h
  clear h
  rcases Nat.lt_or_ge x 250 with h | h
  · exact ab_rng (f := fun y => abChk 8 prog_11_method_4_code false y (abc_75 y)) abk_75_1 h0 h
  have h0 := h
  clear h
  have e : abc_75 x = ab00 := by unfold abc_75; rw [ab_nb h0]; rfl
  rw [e]; rfl
theorem abk_76_0 : (List.range 27).all (fun j => abChk 8 prog_11_method_5_code false (j + 0) (abc_76 (j + 0))) = true := by decide +kernel
theorem abk_76 (x : Nat) : abChk 8 prog_11_method_5_code false x (abc_76 x) = true := by
  rcases Nat.lt_or_ge x 27 with h | h
  · exact ab_rng (f := fun y => abChk 8 prog_11_method_5_code false y (abc_76 y)) abk_76_0 (Nat.zero_le x) h
  have h0 := h
  clear h
  have e : abc_76 x = ab00 := by unfold abc_76; rw [ab_nb h0]; rfl
  rw [e]; rfl
theorem abk_77_0 : (List.range 78).all (fun j => abChk 8 prog_11_method_6_code false (j + 0) (abc_77 (j + 0))) = true := by decide +kernel
theorem abk_77 (x : Nat) : abChk 8 prog_11_method_6_code false x (abc_77 x) = true := by
  rcases Nat.lt_or_ge x 78 with h | h
  · exact ab_rng (f := fun y => abChk 8 prog_11_method_6_code false y (abc_77 y)) abk_77_0 (Nat.zero_le x) h
  have h0 := h
  clear h
  have e : abc_77 x = ab00 := by unfold abc_77; rw [ab_nb h0]; rfl
  rw [e]; rfl
theorem abk_78_0 : (List.range 16).all (fun j => abChk 8 prog_11_method_7_code false (j + 0) (abc_78 (j + 0))) = true := by decide +kernel
theorem abk_78 (x : Nat) : abChk 8 prog_11_method_7_code false x (abc_78 x) = true := by
  rcases Nat.lt_or_ge x 16 with h | h
  · exact ab_rng (f := fun y => abChk 8 prog_11_method_7_code false y (abc_78 y)) abk_78_0 (Nat.zero_le x) h
  have h0 := h
  clear h
  have e : abc_78 x = ab00 := by unfold abc_78; rw [ab_nb h0]; rfl
  rw [e]; rfl
theorem abk_79_0 : (List.range 16).all (fun j => abChk 8 prog_11_method_8_code false (j + 0) (abc_79 (j + 0))) = true := by decide +kernel
theorem abk_79 (x : Nat) : abChk 8 prog_11_method_8_code false x (abc_79 x) = true := by
  rcases Nat.lt_or_ge x 16 with h | h
  · exact ab_rng (f := fun y => abChk 8 prog_11_method_8_code false y (abc_79 y)) abk_79_0 (Nat.zero_le x) h
  have h0 := h
  clear h
  have e : abc_79 x = ab00 := by unfold abc_79; rw [ab_nb h0]; rfl
  rw [e]; rfl
theorem abk_80_0 : (List.range 35).all (fun j => abChk 8 prog_11_method_9_code false (j + 0) (abc_80 (j + 0))) = true := by decide +kernel
theorem abk_80 (x : Nat) : abChk 8 prog_11_method_9_code false x (abc_80 x) = true := by
  rcases Nat.lt_or_ge x 35 with h | h
  · exact ab_rng (f := fun y => abChk 8 prog_11_method_9_code false y (abc_80 y)) abk_80_0 (Nat.zero_le x) h
  have h0 := h
  clear h
  have e : abc_80 x = ab00 := by unfold abc_80; rw [ab_nb h0]; rfl
  rw [e]; rfl
theorem abk_81_0 : (List.range 94).all (fun j => abChk 8 prog_11_method_10_code false (j + 0) (abc_81 (j + 0))) = true := by decide +kernel
theorem abk_81 (x : Nat) : abChk 8 prog_11_method_10_code false x (abc_81 x) = true := by
  rcases Nat.lt_or_ge x 94 with h | h
  · exact ab_rng (f := fun y => abChk 8 prog_11_method_10_code false y (abc_81 y)) abk_81_0 (Nat.zero_le x) h
  have h0 := h
  clear h
  have e : abc_81 x = ab00 := by unfold abc_81; rw [ab_nb h0]; rfl
  rw [e]; rfl
theorem abk_82_0 : (List.range 48).all (fun j => abChk 8 prog_11_method_11_code false (j + 0) (abc_82 (j + 0))) = true := by decide +kernel
theorem abk_82 (x : Nat) : abChk 8 prog_11_method_11_code false x (abc_82 x) = true := by
  rcases Nat.lt_or_ge x 48 with h | h
  · exact ab_rng (f := fun y => abChk 8 prog_11_method_11_code false y (abc_82 y)) abk_82_0 (Nat.zero_le x) h
  have h0 := h
  clear h
  have e : abc_82 x = ab00 := by unfold abc_82; rw [ab_nb h0]; rfl
  rw [e]; rfl
theorem abk_83_0 : (List.range 128).all (fun j => abChk 9 prog_1_method_1_code true (j + 0) (abc_83 (j + 0))) = true := by decide +kernel
theorem abk_83_1 : (List.range 34).all (fun j => abChk 9 prog_1_method_1_code true (j + 128) (abc_83 (j + 128))) = true := by decide +kernel
theorem abk_83 (x : Nat) : abChk 9 prog_1_method_1_code true x (abc_83 x) = true := by
  rcases Nat.lt_or_ge x 128 with h | h
  · exact ab_rng (f := fun y => abChk 9 prog_1_method_1_code true y (abc_83 y)) abk_83_0 (Nat.zero_le x) h
  have h0 := h
  clear h
  rcases Nat.lt_or_ge x 162 with h | h
  · exact ab_rng (f := fun y => abChk 9 prog_1_method_1_code true y (abc_83 y)) abk_83_1 h0 h
  have h0 := h
  clear h
  have e : abc_83 x = ab00 := by unfold abc_83; rw [ab_nb h0]; rfl
  rw [e]; rfl
theorem abk_84_0 : (List.range 65).all (fun j => abChk 9 prog_1_method_2_code false (j + 0) (abc_84 (j + 0))) = true := by decide +kernel
theorem abk_84 (x : Nat) : abChk 9 prog_1_method_2_code false x (abc_84 x) = true := by
  rcases Nat.lt_or_ge x 65 with h | h
  · exact ab_rng (f := fun y => abChk 9 prog_1_method_2_code false y (abc_84 y)) abk_84_0 (Nat.zero_le x) h
  have h0 := h
  clear h
  have e : abc_84 x = ab00 := by unfold abc_84; rw [ab_nb h0]; rfl
  rw [e]; rfl
theorem abk_85_0 : (List.range 27).all (fun j => abChk 9 prog_1_method_3_code false (j + 0) (abc_85 (j + 0))) = true := by decide +kernel
theorem abk_85 (x : Nat) : abChk 9 prog_1_method_3_code false x (abc_85 x) = true := by
  rcases Nat.lt_or_ge x 27 with h | h
  · exact ab_rng (f := fun y => abChk 9 prog_1_method_3_code false y (abc_85 y)) abk_85_0 (Nat.zero_le x) h
  have h0 := h
  clear h
  have e : abc_85 x = ab00 := by unfold abc_85; rw [ab_nb h0]; rfl
  rw [e]; rfl
theorem abk_86_0 : (List.range 94).all (fun j => abChk 9 prog_1_method_4_code false (j + 0) (abc_86 (j + 0))) = true := by decide +kernel
theorem abk_86 (x : Nat) : abChk 9 prog_1_method_4_code false x (abc_86 x) = true := by
  rcases Nat.lt_or_ge x 94 with h | h
  · exact ab_rng (f := fun y => abChk 9 prog_1_method_4_code false y (abc_86 y)) abk_86_0 (Nat.zero_le x) h
  have h0 := h
  clear h
  have e : abc_86 x = ab00 := by unfold abc_86; rw [ab_nb h0]; rfl
  rw [e]; rfl
theorem abk_87_0 : (List.range 46).all (fun j => abChk 9 prog_1_method_5_code false (j + 0) (abc_87 (j + 0))) = true := by decide +kernel
theorem abk_87 (x : Nat) : abChk 9 prog_1_method_5_code false x (abc_87 x) = true := by
  rcases Nat.lt_or_ge x 46 with h | h
  · exact ab_rng (f := fun y => abChk 9 prog_1_method_5_code false y (abc_87 y)) abk_87_0 (Nat.zero_le x) h
  have h0 := h
  clear h
  have e : abc_87 x = ab00 := by unfold abc_87; rw [ab_nb h0]; rfl
  rw [e]; rfl
theorem abk_88_0 : (List.range 88).all (fun j => abChk 9 prog_1_method_6_code false (j + 0) (abc_88 (j + 0))) = true := by decide +kernel
theorem abk_88 (x : Nat) : abChk 9 prog_1_method_6_code false x (abc_88 x) = true := by
  rcases Nat.lt_or_ge x 88 with h | h
  · exact ab_rng (f := fun y => abChk 9 prog_1_method_6_code false y (abc_88 y)) abk_88_0 (Nat.zero_le x) h
  have h0 := h
  clear h
  have e : abc_88 x = ab00 := by unfold abc_88; rw [ab_nb h0]; rfl
  rw [e]; rfl
theorem abk_89_0 : (List.range 102).all (fun j => abChk 9 prog_1_method_7_code false (j + 0) (abc_89 (j + 0))) = true := by decide +kernel
theorem abk_89 (x : Nat) : abChk 9 prog_1_method_7_code false x (abc_89 x) = true := by
  rcases Nat.lt_or_ge x 102 with h | h
  · exact ab_rng (f := fun y => abChk 9 prog_1_method_7_code false y (abc_89 y)) abk_89_0 (Nat.zero_le x) h
  have h0 := h
  clear h
  have e : abc_89 x = ab00 := by unfold abc_89; rw [ab_nb h0]; rfl
  rw [e]; rfl
theorem abk_90_0 : (List.range 128).all (fun j => abChk 9 prog_1_method_8_code false (j + 0) (abc_90 (j + 0))) = true := by decide +kernel
theorem abk_90_1 : (List.range 21).all (fun j => abChk 9 prog_1_method_8_code false (j + 128) (abc_90 (j + 128))) = true := by decide +kernel
theorem abk_90 (x : Nat) : abChk 9 prog_1_method_8_code false x (abc_90 x) = true := by
  rcases Nat.lt_or_ge x 128 with h | h
  · exact ab_rng (f := fun y => abChk 9 prog_1_method_8_code false y (abc_90 y)) abk_90_0 (Nat.zero_le x) h
  have h0 := h
  clear h
  rcases Nat.lt_or_ge x 149 with h | h
  · exact ab_rng (f := fun y => abChk 9 prog_1_method_8_code false y (abc_90 y)) abk_90_1 h0 h
  have h0 := h
  clear h
  have e : abc_90 x = ab00 := by unfold abc_90; rw [ab_nb h0]; rfl
  rw [e]; rfl
theorem abk_91_0 : (List.range 61).all (fun j => abChk 9 prog_1_method_9_code false (j + 0) (abc_91 (j + 0))) = true := by decide +kernel
theorem abk_91 (x : Nat) : abChk 9 prog_1_method_9_code false x (abc_91 x) = true := by
  rcases Nat.lt_or_ge x 61 with h | h
  · exact ab_rng (f := fun y => abChk 9 prog_1_method_9_code false y (abc_91 y)) abk_91_0 (Nat.zero_le x) h
  have h0 := h
  clear h
  have e : abc_91 x = ab00 := by unfold abc_91; rw [ab_nb h0]; rfl
  rw [e]; rfl
theorem abk_92_0 : (List.range 39).all (fun j => abChk 9 prog_1_method_10_code false (j + 0) (abc_92 (j + 0))) = true := by decide +kernel
theorem abk_92 (x : Nat) : abChk 9 prog_1_method_10_code false x (abc_92 x) = true := by
  rcases Nat.lt_or_ge x 39 with h | h
  · exact ab_rng (f := fun y => abChk 9 prog_1_method_10_code false y (abc_92 y)) abk_92_0 (Nat.zero_le x) h
  have h0 := h
  clear h
  have e : abc_92 x = ab00 := by unfold abc_92; rw [ab_nb h0]; rfl
  rw [e]; rfl
theorem abk_93_0 : (List.range 25).all (fun j => abChk 9 prog_1_method_11_code false (j + 0) (abc_93 (j + 0))) = true := by decide +kernel
theorem abk_93 (x : Nat) : abChk 9 prog_1_method_11_code false x (abc_93 x) = true := by
  rcases Nat.lt_or_ge x 25 with h | h
  · exact ab_rng (f := fun y => abChk 9 prog_1_method_11_code false y (abc_93 y)) abk_93_0 (Nat.zero_le x) h
  have h0 := h
  clear h
  have e : abc_93 x = ab00 := by unfold abc_93; rw [ab_nb h0]; rfl
  rw [e]; rfl
theorem abk_94_0 : (List.range 25).all (fun j => abChk 9 prog_1_method_12_code false (j + 0) (abc_94 (j + 0))) = true := by decide +kernel
theorem abk_94 (x : Nat) : abChk 9 prog_1_method_12_code false x (abc_94 x) = true := by
  rcases Nat.lt_or_ge x 25 with h | h
  · exact ab_rng (f := fun y => abChk 9 prog_1_method_12_code false y (abc_94 y)) abk_94_0 (Nat.zero_le x) h
  have h0 := h
  clear h
  have e : abc_94 x = ab00 := by unfold abc_94; rw [ab_nb h0]; rfl
  rw [e]; rfl
theorem abk_95_0 : (List.range 89).all (fun j => abChk 9 prog_1_method_13_code false (j + 0) (abc_95 (j + 0))) = true := by decide +kernel
theorem abk_95 (x : Nat) : abChk 9 prog_1_method_13_code false x (abc_95 x) = true := by
  rcases Nat.lt_or_ge x 89 with h | h
  · exact ab_rng (f := fun y => abChk 9 prog_1_method_13_code false y (abc_95 y)) abk_95_0 (Nat.zero_le x) h
  have h0 := h
  clear h
  have e : abc_95 x = ab00 := by unfold abc_95; rw [ab_nb h0]; rfl
  rw [e]; rfl
theorem abk_96_0 : (List.range 78).all (fun j => abChk 9 prog_1_method_14_code false (j + 0) (abc_96 (j + 0))) = true := by decide +kernel
theorem abk_96 (x : Nat) : abChk 9 prog_1_method_14_code false x (abc_96 x) = true := by
  rcases Nat.lt_or_ge x 78 with h | h
  · exact ab_rng (f := fun y => abChk 9 prog_1_method_14_code false y (abc_96 y)) abk_96_0 (Nat.zero_le x) h
  have h0 := h
  clear h
  have e : abc_96 x = ab00 := by unfold abc_96; rw [ab_nb h0]; rfl
  rw [e]; rfl
theorem abk_97_0 : (List.range 128).all (fun j => abChk 9 prog_1_method_15_code false (j + 0) (abc_97 (j + 0))) = true := by decide +kernel
theorem abk_97_1 : (List.range 7).all (fun j => abChk 9 prog_1_method_15_code false (j + 128) (abc_97 (j + 128))) = true := by decide +kernel
theorem abk_97 (x : Nat) : abChk 9 prog_1_method_15_code false x (abc_97 x) = true := by
  rcases Nat.lt_or_ge x 128 with h | h
  · exact ab_rng (f := fun y => abChk 9 prog_1_method_15_code false y (abc_97 y)) abk_97_0 (Nat.zero_le x) h
  have h0 := h
  clear h
  rcases Nat.lt_or_ge x 135 with h | h
  · exact ab_rng (f := fun y => abChk 9 prog_1_method_15_code false y (abc_97 y)) abk_97_1 h0 h
  have h0 := h
  clear h
  have e : abc_97 x = ab00 := by unfold abc_97; rw [ab_nb h0]; rfl
  rw [e]; rfl
theorem abk_98_0 : (List.range 59).all (fun j => abChk 9 prog_1_method_16_code false (j + 0) (abc_98 (j + 0))) = true := by decide +kernel
theorem abk_98 (x : Nat) : abChk 9 prog_1_method_16_code false x (abc_98 x) = true := by
  rcases Nat.lt_or_ge x 59 with h | h
  · exact ab_rng (f := fun y => abChk 9 prog_1_method_16_code false y (abc_98 y)) abk_98_0 (Nat.zero_le x) h
  have h0 := h
  clear h
  have e : abc_98 x = ab00 := by unfold abc_98; rw [ab_nb h0]; rfl
  rw [e]; rfl
theorem abk_99_0 : (List.range 67).all (fun j => abChk 9 prog_1_method_17_code false (j + 0) (abc_99 (j + 0))) = true := by decide +kernel
theorem abk_99 (x : Nat) : abChk 9 prog_1_method_17_code false x (abc_99 x) = true := by
  rcases Nat.lt_or_ge x 67 with h | h
  · exact ab_rng (f := fun y => abChk 9 prog_1_method_17_code false y (abc_99 y)) abk_99_0 (Nat.zero_le x) h
  have h0 := h
  clear h
  have e : abc_99 x = ab00 := by unfold abc_99; rw [ab_nb h0]; rfl
  rw [e]; rfl
theorem abk_100_0 : (List.range 25).all (fun j => abChk 9 prog_1_method_18_code false (j + 0) (abc_100 (j + 0))) = true := by decide +kernel
theorem abk_100 (x : Nat) : abChk 9 prog_1_method_18_code false x (abc_100 x) = true := by
  rcases Nat.lt_or_ge x 25 with h | h
  · exact ab_rng (f := fun y => abChk 9 prog_1_method_18_code false y (abc_100 y)) abk_100_0 (Nat.zero_le x) h
  have h0 := h
  clear h
  have e : abc_100 x = ab00 := by unfold abc_100; rw [ab_nb h0]; rfl
  rw [e]; rfl
theorem abk_101_0 : (List.range 57).all (fun j => abChk 9 prog_1_method_19_code false (j + 0) (abc_101 (j + 0))) = true := by decide +kernel
theorem abk_101 (x : Nat) : abChk 9 prog_1_method_19_code false x (abc_101 x) = true := by
  rcases Nat.lt_or_ge x 57 with h | h
  · exact ab_rng (f := fun y => abChk 9 prog_1_method_19_code false y (abc_101 y)) abk_101_0 (Nat.zero_le x) h
  have h0 := h
  clear h
  have e : abc_101 x = ab00 := by unfold abc_101; rw [ab_nb h0]; rfl
  rw [e]; rfl
theorem abk_102_0 : (List.range 59).all (fun j => abChk 9 prog_1_method_20_code false (j + 0) (abc_102 (j + 0))) = true := by decide +kernel
theorem abk_102 (x : Nat) : abChk 9 prog_1_method_20_code false x (abc_102 x) = true := by
  rcases Nat.lt_or_ge x 59 with h | h
  · exact ab_rng (f := fun y => abChk 9 prog_1_method_20_code false y (abc_102 y)) abk_102_0 (Nat.zero_le x) h
  have h0 := h
  clear h
  have e : abc_102 x = ab00 := by unfold abc_102; rw [ab_nb h0]; rfl
  rw [e]; rfl
theorem abk_103_0 : (List.range 58).all (fun j => abChk 9 prog_1_method_21_code false (j + 0) (abc_103 (j + 0))) = true := by decide +kernel
theorem abk_103 (x : Nat) : abChk 9 prog_1_method_21_code false x (abc_103 x) = true := by
  rcases Nat.lt_or_ge x 58 with h | h
  · exact ab_rng (f := fun y => abChk 9 prog_1_method_21_code false y (abc_103 y)) abk_103_0 (Nat.zero_le x) h
  have h0 := h
  clear h
  have e : abc_103 x = ab00 := by unfold abc_103; rw [ab_nb h0]; rfl
  rw [e]; rfl
theorem abk_104_0 : (List.range 48).all (fun j => abChk 9 prog_1_method_22_code false (j + 0) (abc_104 (j + 0))) = true := by decide +kernel
theorem abk_104 (x : Nat) : abChk 9 prog_1_method_22_code false x (abc_104 x) = true := by
  rcases Nat.lt_or_ge x 48 with h | h
  · exact ab_rng (f := fun y => abChk 9 prog_1_method_22_code false y (abc_104 y)) abk_104_0 (Nat.zero_le x) h
  have h0 := h
  clear h
  have e : abc_104 x = ab00 := by unfold abc_104; rw [ab_nb h0]; rfl
  rw [e]; rfl
theorem abk_105_0 : (List.range 49).all (fun j => abChk 9 prog_1_method_23_code false (j + 0) (abc_105 (j + 0))) = true := by decide +kernel
theorem abk_105 (x : Nat) : abChk 9 prog_1_method_23_code false x (abc_105 x) = true := by
  rcases Nat.lt_or_ge x 49 with h | h
  · exact ab_rng (f := fun y => abChk 9 prog_1_method_23_code false y (abc_105 y)) abk_105_0 (Nat.zero_le x) h
  have h0 := h
  clear h
  have e : abc_105 x = ab00 := by unfold abc_105; rw [ab_nb h0]; rfl
  rw [e]; rfl
theorem abk_106_0 : (List.range 68).all (fun j => abChk 9 prog_1_method_24_code false (j + 0) (abc_106 (j + 0))) = true := by decide +kernel
theorem abk_106 (x : Nat) : abChk 9 prog_1_method_24_code false x (abc_106 x) = true := by
  rcases Nat.lt_or_ge x 68 with h | h
  · exact ab_rng (f := fun y => abChk 9 prog_1_method_24_code false y (abc_106 y)) abk_106_0 (Nat.zero_le x) h
  have h0 := h
  clear h
  have e : abc_106 x = ab00 := by unfold abc_106; rw [ab_nb h0]; rfl
  rw [e]; rfl
theorem abk_107_0 : (List.range 22).all (fun j => abChk 9 prog_1_method_25_code false (j + 0) (abc_107 (j + 0))) = true := by decide +kernel
theorem abk_107 (x : Nat) : abChk 9 prog_1_method_25_code false x (abc_107 x) = true := by
  rcases Nat.lt_or_ge x 22 with h | h
  · exact ab_rng (f := fun y => abChk 9 prog_1_method_25_code false y (abc_107 y)) abk_107_0 (Nat.zero_le x) h
  have h0 := h
  clear h
  have e : abc_107 x = ab00 := by unfold abc_107; rw [ab_nb h0]; rfl
  rw [e]; rfl
theorem abk_108_0 : (List.range 106).all (fun j => abChk 9 prog_1_method_26_code false (j + 0) (abc_108 (j + 0))) = true := by decide +kernel
theorem abk_108 (x : Nat) : abChk 9 prog_1_method_26_code false x (abc_108 x) = true := by
  rcases Nat.lt_or_ge x 106 with h | h
  · exact ab_rng (f := fun y => abChk 9 prog_1_method_26_code false y (abc_108 y)) abk_108_0 (Nat.zero_le x) h
  have h0 := h
  clear h
  have e : abc_108 x = ab00 := by unfold abc_108; rw [ab_nb h0]; rfl
  rw [e]; rfl
theorem abk_109_0 : (List.range 78).all (fun j => abChk 9 prog_1_method_27_code false (j + 0) (abc_109 (j + 0))) = true := by decide +kernel
theorem abk_109 (x : Nat) : abChk 9 prog_1_method_27_code false x (abc_109 x) = true := by
  rcases Nat.lt_or_ge x 78 with h | h
  · exact ab_rng (f := fun y => abChk 9 prog_1_method_27_code false y (abc_109 y)) abk_109_0 (Nat.zero_le x) h
  have h0 := h
  clear h
  have e : abc_109 x = ab00 := by unfold abc_109; rw [ab_nb h0]; rfl
  rw [e]; rfl
theorem abk_110_0 : (List.range 74).all (fun j => abChk 9 prog_1_method_28_code false (j + 0) (abc_110 (j + 0))) = true := by decide +kernel
theorem abk_110 (x : Nat) : abChk 9 prog_1_method_28_code false x (abc_110 x) = true := by
  rcases Nat.lt_or_ge x 74 with h | h
  · exact ab_rng (f := fun y => abChk 9 prog_1_method_28_code false y (abc_110 y)) abk_110_0 (Nat.zero_le x) h
  have h0 := h
  clear h
  have e : abc_110 x = ab00 := by unfold abc_110; rw [ab_nb h0]; rfl
  rw [e]; rfl
theorem abk_111_0 : (List.range 58).all (fun j => abChk 9 prog_1_method_29_code false (j + 0) (abc_111 (j + 0))) = true := by decide +kernel
theorem abk_111 (x : Nat) : abChk 9 prog_1_method_29_code false x (abc_111 x) = true := by
  rcases Nat.lt_or_ge x 58 with h | h
  · exact ab_rng (f := fun y => abChk 9 prog_1_method_29_code false y (abc_111 y)) abk_111_0 (Nat.zero_le x) h
  have h0 := h
  clear h
  have e : abc_111 x = ab00 := by unfold abc_111; rw [ab_nb h0]; rfl
  rw [e]; rfl
theorem abk_112_0 : (List.range 110).all (fun j => abChk 9 prog_1_method_30_code false (j + 0) (abc_112 (j + 0))) = true := by decide +kernel
theorem abk_112 (x : Nat) : abChk 9 prog_1_method_30_code false x (abc_112 x) = true := by
  rcases Nat.lt_or_ge x 110 with h | h
  · exact ab_rng (f := fun y => abChk 9 prog_1_method_30_code false y (abc_112 y)) abk_112_0 (Nat.zero_le x) h
  have h0 := h
  clear h
  have e : abc_112 x = ab00 := by unfold abc_112; rw [ab_nb h0]; rfl
  rw [e]; rfl
theorem abk_113_0 : (List.range 50).all (fun j => abChk 9 prog_1_method_31_code false (j + 0) (abc_113 (j + 0))) = true := by decide +kernel
theorem abk_113 (x : Nat) : abChk 9 prog_1_method_31_code false x (abc_113 x) = true := by
  rcases Nat.lt_or_ge x 50 with h | h
  · exact ab_rng (f := fun y => abChk 9 prog_1_method_31_code false y (abc_113 y)) abk_113_0 (Nat.zero_le x) h
  have h0 := h
  clear h
  have e : abc_113 x = ab00 := by unfold abc_113; rw [ab_nb h0]; rfl
  rw [e]; rfl
theorem abk_114_0 : (List.range 114).all (fun j => abChk 9 prog_1_method_32_code false (j + 0) (abc_114 (j + 0))) = true := by decide +kernel
theorem abk_114 (x : Nat) : abChk 9 prog_1_method_32_code false x (abc_114 x) = true := by
  rcases Nat.lt_or_ge x 114 with h | h
  · exact ab_rng (f := fun y => abChk 9 prog_1_method_32_code false y (abc_114 y)) abk_114_0 (Nat.zero_le x) h
  have h0 := h
  clear h
  have e : abc_114 x = ab00 := by unfold abc_114; rw [ab_nb h0]; rfl
  rw [e]; rfl
theorem abk_115_0 : (List.range 102).all (fun j => abChk 9 prog_1_method_33_code false (j + 0) (abc_115 (j + 0))) = true := by decide +kernel
theorem abk_115 (x : Nat) : abChk 9 prog_1_method_33_code false x (abc_115 x) = true := by
  rcases Nat.lt_or_ge x 102 with h | h
  · exact ab_rng (f := fun y => abChk 9 prog_1_method_33_code false y (abc_115 y)) abk_115_0 (Nat.zero_le x) h
  have h0 := h
  clear h
  have e : abc_115 x = ab00 := by unfold abc_115; rw [ab_nb h0]; rfl
  rw [e]; rfl
theorem abk_116_0 : (List.range 128).all (fun j => abChk 9 prog_1_method_34_code false (j + 0) (abc_116 (j + 0))) = true := by decide +kernel
theorem abk_116_1 : (List.range 17).all (fun j => abChk 9 prog_1_method_34_code false (j + 128) (abc_116 (j + 128))) = true := by decide +kernel
theorem abk_116 (x : Nat) : abChk 9 prog_1_method_34_code false x (abc_116 x) = true := by
  rcases Nat.lt_or_ge x 128 with h | h
  · exact ab_rng (f := fun y => abChk 9 prog_1_method_34_code false y (abc_116 y)) abk_116_0 (Nat.zero_le x) h
  have h0 := h
  clear h
  rcases Nat.lt_or_ge x 145 with h | h
  · exact ab_rng (f := fun y => abChk 9 prog_1_method_34_code false y (abc_116 y)) abk_116_1 h0 h
  have h0 := h
  clear h
  have e : abc_116 x = ab00 := by unfold abc_116; rw [ab_nb h0]; rfl
  rw [e]; rfl
theorem abk_117_0 : (List.range 128).all (fun j => abChk 9 prog_1_method_35_code false (j + 0) (abc_117 (j + 0))) = true := by decide +kernel
theorem abk_117_1 : (List.range 16).all (fun j => abChk 9 prog_1_method_35_code false (j + 128) (abc_117 (j + 128))) = true := by decide +kernel
theorem abk_117 (x : Nat) : abChk 9 prog_1_method_35_code false x (abc_117 x) = true := by
  rcases Nat.lt_or_ge x 128 with h | h
  · exact ab_rng (f := fun y => abChk 9 prog_1_method_35_code false y (abc_117 y)) abk_117_0 (Nat.zero_le x) h
  have h0 := h
  clear h
  rcases Nat.lt_or_ge x 144 with h | h
  · exact ab_rng (f := fun y => abChk 9 prog_1_method_35_code false y (abc_117 y)) abk_117_1 h0 h
  have h0 := h
  clear h
  have e : abc_117 x = ab00 := by unfold abc_117; rw [ab_nb h0]; rfl
  rw [e]; rfl
theorem abk_118_0 : (List.range 95).all (fun j => abChk 9 prog_1_method_36_code false (j + 0) (abc_118 (j + 0))) = true := by decide +kernel
theorem abk_118 (x : Nat) : abChk 9 prog_1_method_36_code false x (abc_118 x) = true := by
  rcases Nat.lt_or_ge x 95 with h | h
  · exact ab_rng (f := fun y => abChk 9 prog_1_method_36_code false y (abc_118 y)) abk_118_0 (Nat.zero_le x) h
  have h0 := h
  clear h
  have e : abc_118 x = ab00 := by unfold abc_118; rw [ab_nb h0]; rfl
  rw [e]; rfl
theorem abk_119_0 : (List.range 95).all (fun j => abChk 9 prog_1_method_37_code false (j + 0) (abc_119 (j + 0))) = true := by decide +kernel
theorem abk_119 (x : Nat) : abChk 9 prog_1_method_37_code false x (abc_119 x) = true := by
  rcases Nat.lt_or_ge x 95 with h | h
  · exact ab_rng (f := fun y => abChk 9 prog_1_method_37_code false y (abc_119 y)) abk_119_0 (Nat.zero_le x) h
  have h0 := h
  clear h
  have e : abc_119 x = ab00 := by unfold abc_119; rw [ab_nb h0]; rfl
  rw [e]; rfl
theorem abk_120_0 : (List.range 56).all (fun j => abChk 9 prog_1_method_38_code false (j + 0) (abc_120 (j + 0))) = true := by decide +kernel
theorem abk_120 (x : Nat) : abChk 9 prog_1_method_38_code false x (abc_120 x) = true := by
  rcases Nat.lt_or_ge x 56 with h | h
  · exact ab_rng (f := fun y => abChk 9 prog_1_method_38_code false y (abc_120 y)) abk_120_0 (Nat.zero_le x) h
  have h0 := h
  clear h
  have e : abc_120 x = ab00 := by unfold abc_120; rw [ab_nb h0]; rfl
  rw [e]; rfl
theorem abk_121_0 : (List.range 36).all (fun j => abChk 9 prog_1_method_39_code false (j + 0) (abc_121 (j + 0))) = true := by decide +kernel
theorem abk_121 (x : Nat) : abChk 9 prog_1_method_39_code false x (abc_121 x) = true := by
  rcases Nat.lt_or_ge x 36 with h | h
  · exact ab_rng (f := fun y => abChk 9 prog_1_method_39_code false y (abc_121 y)) abk_121_0 (Nat.zero_le x) h
  have h0 := h
  clear h
  have e : abc_121 x = ab00 := by unfold abc_121; rw [ab_nb h0]; rfl
  rw [e]; rfl
theorem abk_122_0 : (List.range 53).all (fun j => abChk 9 prog_1_method_40_code false (j + 0) (abc_122 (j + 0))) = true := by decide +kernel
theorem abk_122 (x : Nat) : abChk 9 prog_1_method_40_code false x (abc_122 x) = true := by
  rcases Nat.lt_or_ge x 53 with h | h
  · exact ab_rng (f := fun y => abChk 9 prog_1_method_40_code false y (abc_122 y)) abk_122_0 (Nat.zero_le x) h
  have h0 := h
  clear h
  have e : abc_122 x = ab00 := by unfold abc_122; rw [ab_nb h0]; rfl
  rw [e]; rfl
theorem abk_123_0 : (List.range 56).all (fun j => abChk 9 prog_1_method_41_code false (j + 0) (abc_123 (j + 0))) = true := by decide +kernel
theorem abk_123 (x : Nat) : abChk 9 prog_1_method_41_code false x (abc_123 x) = true := by
  rcases Nat.lt_or_ge x 56 with h | h
  · exact ab_rng (f := fun y => abChk 9 prog_1_method_41_code false y (abc_123 y)) abk_123_0 (Nat.zero_le x) h
  have h0 := h
  clear h
  have e : abc_123 x = ab00 := by unfold abc_123; rw [ab_nb h0]; rfl
  rw [e]; rfl
theorem abk_124_0 : (List.range 80).all (fun j => abChk 9 prog_1_method_42_code false (j + 0) (abc_124 (j + 0))) = true := by decide +kernel
theorem abk_124 (x : Nat) : abChk 9 prog_1_method_42_code false x (abc_124 x) = true := by
  rcases Nat.lt_or_ge x 80 with h | h
  · exact ab_rng (f := fun y => abChk 9 prog_1_method_42_code false y (abc_124 y)) abk_124_0 (Nat.zero_le x) h
  have h0 := h
  clear h
  have e : abc_124 x = ab00 := by unfold abc_124; rw [ab_nb h0]; rfl
  rw [e]; rfl
theorem abk_125_0 : (List.range 28).all (fun j => abChk 9 prog_1_method_43_code false (j + 0) (abc_125 (j + 0))) = true := by decide +kernel
theorem abk_125 (x : Nat) : abChk 9 prog_1_method_43_code false x (abc_125 x) = true := by
  rcases Nat.lt_or_ge x 28 with h | h
  · exact ab_rng (f := fun y => abChk 9 prog_1_method_43_code false y (abc_125 y)) abk_125_0 (Nat.zero_le x) h
  have h0 := h
  clear h
  have e : abc_125 x = ab00 := by unfold abc_125; rw [ab_nb h0]; rfl
  rw [e]; rfl
theorem abk_126_0 : (List.range 26).all (fun j => abChk 9 prog_1_method_44_code false (j + 0) (abc_126 (j + 0))) = true := by decide +kernel
theorem abk_126 (x : Nat) : abChk 9 prog_1_method_44_code false x (abc_126 x) = true := by
  rcases Nat.lt_or_ge x 26 with h | h
  · exact ab_rng (f := fun y => abChk 9 prog_1_method_44_code false y (abc_126 y)) abk_126_0 (Nat.zero_le x) h
  have h0 := h
  clear h
  have e : abc_126 x = ab00 := by unfold abc_126; rw [ab_nb h0]; rfl
  rw [e]; rfl
theorem abk_127_0 : (List.range 16).all (fun j => abChk 9 prog_1_method_45_code false (j + 0) (abc_127 (j + 0))) = true := by decide +kernel
theorem abk_127 (x : Nat) : abChk 9 prog_1_method_45_code false x (abc_127 x) = true := by
  rcases Nat.lt_or_ge x 16 with h | h
  · exact ab_rng (f := fun y => abChk 9 prog_1_method_45_code false y (abc_127 y)) abk_127_0 (Nat.zero_le x) h
  have h0 := h
  clear h
  have e : abc_127 x = ab00 := by unfold abc_127; rw [ab_nb h0]; rfl
  rw [e]; rfl
theorem abk_128_0 : (List.range 21).all (fun j => abChk 9 prog_1_method_46_code false (j + 0) (abc_128 (j + 0))) = true := by decide +kernel
theorem abk_128 (x : Nat) : abChk 9 prog_1_method_46_code false x (abc_128 x) = true := by
  rcases Nat.lt_or_ge x 21 with h | h
  · exact ab_rng (f := fun y => abChk 9 prog_1_method_46_code false y (abc_128 y)) abk_128_0 (Nat.zero_le x) h
  have h0 := h
  clear h
  have e : abc_128 x = ab00 := by unfold abc_128; rw [ab_nb h0]; rfl
  rw [e]; rfl
theorem abk_129_0 : (List.range 39).all (fun j => abChk 9 prog_1_method_47_code false (j + 0) (abc_129 (j + 0))) = true := by decide +kernel
theorem abk_129 (x : Nat) : abChk 9 prog_1_method_47_code false x (abc_129 x) = true := by
  rcases Nat.lt_or_ge x 39 with h | h
  · exact ab_rng (f := fun y => abChk 9 prog_1_method_47_code false y (abc_129 y)) abk_129_0 (Nat.zero_le x) h
  have h0 := h
  clear h
  have e : abc_129 x = ab00 := by unfold abc_129; rw [ab_nb h0]; rfl
  rw [e]; rfl
theorem abk_130_0 : (List.range 74).all (fun j => abChk 9 prog_1_method_48_code false (j + 0) (abc_130 (j + 0))) = true := by decide +kernel
theorem abk_130 (x : Nat) : abChk 9 prog_1_method_48_code false x (abc_130 x) = true := by
  rcases Nat.lt_or_ge x 74 with h | h
  · exact ab_rng (f := fun y => abChk 9 prog_1_method_48_code false y (abc_130 y)) abk_130_0 (Nat.zero_le x) h
  have h0 := h
  clear h
  have e : abc_130 x = ab00 := by unfold abc_130; rw [ab_nb h0]; rfl
  rw [e]; rfl
theorem abk_131_0 : (List.range 14).all (fun j => abChk 9 prog_1_method_49_code false (j + 0) (abc_131 (j + 0))) = true := by decide +kernel
theorem abk_131 (x : Nat) : abChk 9 prog_1_method_49_code false x (abc_131 x) = true := by
  rcases Nat.lt_or_ge x 14 with h | h
  · exact ab_rng (f := fun y => abChk 9 prog_1_method_49_code false y (abc_131 y)) abk_131_0 (Nat.zero_le x) h
  have h0 := h
  clear h
  have e : abc_131 x = ab00 := by unfold abc_131; rw [ab_nb h0]; rfl
  rw [e]; rfl
theorem abk_132_0 : (List.range 110).all (fun j => abChk 9 prog_1_method_50_code false (j + 0) (abc_132 (j + 0))) = true := by decide +kernel
theorem abk_132 (x : Nat) : abChk 9 prog_1_method_50_code false x (abc_132 x) = true := by
  rcases Nat.lt_or_ge x 110 with h | h
  · exact ab_rng (f := fun y => abChk 9 prog_1_method_50_code false y (abc_132 y)) abk_132_0 (Nat.zero_le x) h
  have h0 := h
  clear h
  have e : abc_132 x = ab00 := by unfold abc_132; rw [ab_nb h0]; rfl
  rw [e]; rfl
theorem abk_133_0 : (List.range 33).all (fun j => abChk 9 prog_1_method_51_code false (j + 0) (abc_133 (j + 0))) = true := by decide +kernel
theorem abk_133 (x : Nat) : abChk 9 prog_1_method_51_code false x (abc_133 x) = true := by
  rcases Nat.lt_or_ge x 33 with h | h
  · exact ab_rng (f := fun y => abChk 9 prog_1_method_51_code false y (abc_133 y)) abk_133_0 (Nat.zero_le x) h
  have h0 := h
  clear h
  have e : abc_133 x = ab00 := by unfold abc_133; rw [ab_nb h0]; rfl
  rw [e]; rfl
theorem abk_134_0 : (List.range 36).all (fun j => abChk 9 prog_1_method_52_code false (j + 0) (abc_134 (j + 0))) = true := by decide +kernel
theorem abk_134 (x : Nat) : abChk 9 prog_1_method_52_code false x (abc_134 x) = true := by
  rcases Nat.lt_or_ge x 36 with h | h
  · exact ab_rng (f := fun y => abChk 9 prog_1_method_52_code false y (abc_134 y)) abk_134_0 (Nat.zero_le x) h
  have h0 := h
  clear h
  have e : abc_134 x = ab00 := by unfold abc_134; rw [ab_nb h0]; rfl
  rw [e]; rfl
theorem abk_135_0 : (List.range 102).all (fun j => abChk 9 prog_1_method_53_code false (j + 0) (abc_135 (j + 0))) = true := by decide +kernel
theorem abk_135 (x : Nat) : abChk 9 prog_1_method_53_code false x (abc_135 x) = true := by
  rcases Nat.lt_or_ge x 102 with h | h
  · exact ab_rng (f := fun y => abChk 9 prog_1_method_53_code false y (abc_135 y)) abk_135_0 (Nat.zero_le x) h
  have h0 := h
  clear h
  have e : abc_135 x = ab00 := by unfold abc_135; rw [ab_nb h0]; rfl
  rw [e]; rfl
theorem abk_136_0 : (List.range 16).all (fun j => abChk 10 prog_13_method_1_code false (j + 0) (abc_136 (j + 0))) = true := by decide +kernel
theorem abk_136 (x : Nat) : abChk 10 prog_13_method_1_code false x (abc_136 x) = true := by
  rcases Nat.lt_or_ge x 16 with h | h
  · exact ab_rng (f := fun y => abChk 10 prog_13_method_1_code false y (abc_136 y)) abk_136_0 (Nat.zero_le x) h
  have h0 := h
  clear h
  have e : abc_136 x = ab00 := by unfold abc_136; rw [ab_nb h0]; rfl
  rw [e]; rfl
theorem abk_137_0 : (List.range 11).all (fun j => abChk 10 prog_13_method_2_code false (j + 0) (abc_137 (j + 0))) = true := by decide +kernel
theorem abk_137 (x : Nat) : abChk 10 prog_13_method_2_code false x (abc_137 x) = true := by
  rcases Nat.lt_or_ge x 11 with h | h
  · exact ab_rng (f := fun y => abChk 10 prog_13_method_2_code false y (abc_137 y)) abk_137_0 (Nat.zero_le x) h
  have h0 := h
  clear h
  have e : abc_137 x = ab00 := by unfold abc_137; rw [ab_nb h0]; rfl
  rw [e]; rfl
theorem abk_138_0 : (List.range 11).all (fun j => abChk 10 prog_13_method_3_code false (j + 0) (abc_138 (j + 0))) = true := by decide +kernel
theorem abk_138 (x : Nat) : abChk 10 prog_13_method_3_code false x (abc_138 x) = true := by
  rcases Nat.lt_or_ge x 11 with h | h
  · exact ab_rng (f := fun y => abChk 10 prog_13_method_3_code false y (abc_138 y)) abk_138_0 (Nat.zero_le x) h
  have h0 := h
  clear h
  have e : abc_138 x = ab00 := by unfold abc_138; rw [ab_nb h0]; rfl
  rw [e]; rfl
theorem abk_139_0 : (List.range 11).all (fun j => abChk 10 prog_13_method_4_code false (j + 0) (abc_139 (j + 0))) = true := by decide +kernel
theorem abk_139 (x : Nat) : abChk 10 prog_13_method_4_code false x (abc_139 x) = true := by
  rcases Nat.lt_or_ge x 11 with h | h
  · exact ab_rng (f := fun y => abChk 10 prog_13_method_4_code false y (abc_139 y)) abk_139_0 (Nat.zero_le x) h
  have h0 := h
  clear h
  have e : abc_139 x = ab00 := by unfold abc_139; rw [ab_nb h0]; rfl
  rw [e]; rfl
theorem abk_140_0 : (List.range 128).all (fun j => abChk 10 prog_13_method_5_code true (j + 0) (abc_140 (j + 0))) = true := by decide +kernel
theorem abk_140_1 : (List.range 128).all (fun j => abChk 10 prog_13_method_5_code true (j + 128) (abc_140 (j + 128))) = true := by decide +kernel
theorem abk_140_2 : (List.range 128).all (fun j => abChk 10 prog_13_method_5_code true (j + 256) (abc_140 (j + 256))) = true := by decide +kernel
theorem abk_140_3 : (List.range 128).all (fun j => abChk 10 prog_13_method_5_code true (j + 384) (abc_140 (j + 384))) = true := by decide +kernel
theorem abk_140_4 : (List.range 128).all (fun j => abChk 10 prog_13_method_5_code true (j + 512) (abc_140 (j + 512))) = true := by decide +kernel
theorem abk_140_5 : (List.range 101).all (fun j => abChk 10 prog_13_method_5_code true (j + 640) (abc_140 (j + 640))) = true := by decide +kernel
theorem abk_140 (x : Nat) : abChk 10 prog_13_method_5_code true x (abc_140 x) = true := by
  rcases Nat.lt_or_ge x 128 with h | h
  · exact ab_rng (f := fun y => abChk 10 prog_13_method_5_code true y (abc_140 y)) abk_140_0 (Nat.zero_le x) h
  have h0 := h
  clear h
  rcases Nat.lt_or_ge x 256 with h | h
  · exact ab_rng (f := fun y => abChk 10 prog_13_method_5_code true y (abc_140 y)) abk_140_1 h0 h
  have h0 := h
  clear h
  rcases Nat.lt_or_ge x 384 with h | h
  · exact ab_rng (f := fun y => abChk 10 prog_13_method_5_code true y (abc_140 y)) abk_140_2 h0 h
  have h0 := h
  clear h
  rcases Nat.lt_or_ge x 512 with h | h
  · exact ab_rng (f := fun y => abChk 10 prog_13_method_5_code true y (abc_140 y)) abk_140_3 h0 h
  have h0 := h
  clear h
  rcases Nat.lt_or_ge x 640 with h | h
  · exact ab_rng (f := fun y => abChk 10 prog_13_method_5_code true y (abc_140 y)) abk_140_4 h0 h
  have h0 := h
  clear h
  rcases Nat.lt_or_ge x 741 with h | h
  · exact ab_rng (f := fun y => abChk 10 prog_13_method_5_code true y (abc_140 y)) abk_140_5 h0 h
  have h0 := h
  clear h
  have e : abc_140 x = ab00 := by unfold abc_140; rw [ab_nb h0]; rfl
  rw [e]; rfl
theorem abk_141_0 : (List.range 32).all (fun j => abChk 10 prog_13_method_6_code false (j + 0) (abc_141 (j + 0))) = true := by decide +kernel
theorem abk_141 (x : Nat) : abChk 10 prog_13_method_6_code false x (abc_141 x) = true := by
  rcases Nat.lt_or_ge x 32 with h | h
  · exact ab_rng (f := fun y => abChk 10 prog_13_method_6_code false y (abc_141 y)) abk_141_0 (Nat.zero_le x) h
  have h0 := h
  clear h
  have e : abc_141 x = ab00 := by unfold abc_141; rw [ab_nb h0]; rfl
  rw [e]; rfl
theorem abk_142_0 : (List.range 48).all (fun j => abChk 10 prog_13_method_7_code false (j + 0) (abc_142 (j + 0))) = true := by decide +kernel
theorem abk_142 (x : Nat) : abChk 10 prog_13_method_7_code false x (abc_142 x) = true := by
  rcases Nat.lt_or_ge x 48 with h | h
  · exact ab_rng (f := fun y => abChk 10 prog_13_method_7_code false y (abc_142 y)) abk_142_0 (Nat.zero_le x) h
  have h0 := h
  clear h
  have e : abc_142 x = ab00 := by unfold abc_142; rw [ab_nb h0]; rfl
  rw [e]; rfl
theorem abk_143_0 : (List.range 47).all (fun j => abChk 10 prog_13_method_8_code false (j + 0) (abc_143 (j + 0))) = true := by decide +kernel
theorem abk_143 (x : Nat) : abChk 10 prog_13_method_8_code false x (abc_143 x) = true := by
  rcases Nat.lt_or_ge x 47 with h | h
  · exact ab_rng (f := fun y => abChk 10 prog_13_method_8_code false y (abc_143 y)) abk_143_0 (Nat.zero_le x) h
  have h0 := h
  clear h
  have e : abc_143 x = ab00 := by unfold abc_143; rw [ab_nb h0]; rfl
  rw [e]; rfl
theorem abk_144_0 : (List.range 21).all (fun j => abChk 10 prog_13_method_9_code false (j + 0) (abc_144 (j + 0))) = true := by decide +kernel
theorem abk_144 (x : Nat) : abChk 10 prog_13_method_9_code false x (abc_144 x) = true := by
  rcases Nat.lt_or_ge x 21 with h | h
  · exact ab_rng (f := fun y => abChk 10 prog_13_method_9_code false y (abc_144 y)) abk_144_0 (Nat.zero_le x) h
  have h0 := h
  clear h
  have e : abc_144 x = ab00 := by unfold abc_144; rw [ab_nb h0]; rfl
  rw [e]; rfl
theorem abk_145_0 : (List.range 19).all (fun j => abChk 10 prog_13_method_10_code false (j + 0) (abc_145 (j + 0))) = true := by decide +kernel
theorem abk_145 (x : Nat) : abChk 10 prog_13_method_10_code false x (abc_145 x) = true := by
  rcases Nat.lt_or_ge x 19 with h | h
  · exact ab_rng (f := fun y => abChk 10 prog_13_method_10_code false y (abc_145 y)) abk_145_0 (Nat.zero_le x) h
  have h0 := h
  clear h
  have e : abc_145 x = ab00 := by unfold abc_145; rw [ab_nb h0]; rfl
  rw [e]; rfl
theorem abk_146_0 : (List.range 26).all (fun j => abChk 10 prog_13_method_11_code false (j + 0) (abc_146 (j + 0))) = true := by decide +kernel
theorem abk_146 (x : Nat) : abChk 10 prog_13_method_11_code false x (abc_146 x) = true := by
  rcases Nat.lt_or_ge x 26 with h | h
  · exact ab_rng (f := fun y => abChk 10 prog_13_method_11_code false y (abc_146 y)) abk_146_0 (Nat.zero_le x) h
  have h0 := h
  clear h
  have e : abc_146 x = ab00 := by unfold abc_146; rw [ab_nb h0]; rfl
  rw [e]; rfl
theorem abk_147_0 : (List.range 26).all (fun j => abChk 10 prog_13_method_12_code false (j + 0) (abc_147 (j + 0))) = true := by decide +kernel
theorem abk_147 (x : Nat) : abChk 10 prog_13_method_12_code false x (abc_147 x) = true := by
  rcases Nat.lt_or_ge x 26 with h | h
  · exact ab_rng (f := fun y => abChk 10 prog_13_method_12_code false y (abc_147 y)) abk_147_0 (Nat.zero_le x) h
  have h0 := h
  clear h
  have e : abc_147 x = ab00 := by unfold abc_147; rw [ab_nb h0]; rfl
  rw [e]; rfl
theorem abk_148_0 : (List.range 48).all (fun j => abChk 10 prog_13_method_13_code false (j + 0) (abc_148 (j + 0))) = true := by decide +kernel
theorem abk_148 (x : Nat) : abChk 10 prog_13_method_13_code false x (abc_148 x) = true := by
  rcases Nat.lt_or_ge x 48 with h | h
  · exact ab_rng (f := fun y => abChk 10 prog_13_method_13_code false y (abc_148 y)) abk_148_0 (Nat.zero_le x) h
  have h0 := h
  clear h
  have e : abc_148 x = ab00 := by unfold abc_148; rw [ab_nb h0]; rfl
  rw [e]; rfl
theorem abk_149_0 : (List.range 34).all (fun j => abChk 10 prog_13_method_14_code false (j + 0) (abc_149 (j + 0))) = true := by decide +kernel
theorem abk_149 (x : Nat) : abChk 10 prog_13_method_14_code false x (abc_149 x) = true := by
  rcases Nat.lt_or_ge x 34 with h | h
  · exact ab_rng (f := fun y => abChk 10 prog_13_method_14_code false y (abc_149 y)) abk_149_0 (Nat.zero_le x) h
  have h0 := h
  clear h
  have e : abc_149 x = ab00 := by unfold abc_149; rw [ab_nb h0]; rfl
  rw [e]; rfl
theorem abk_150_0 : (List.range 13).all (fun j => abChk 10 prog_13_method_15_code false (j + 0) (abc_150 (j + 0))) = true := by decide +kernel
theorem abk_150 (x : Nat) : abChk 10 prog_13_method_15_code false x (abc_150 x) = true := by
  rcases Nat.lt_or_ge x 13 with h | h
  · exact ab_rng (f := fun y => abChk 10 prog_13_method_15_code false y (abc_150 y)) abk_150_0 (Nat.zero_le x) h
  have h0 := h
  clear h
  have e : abc_150 x = ab00 := by unfold abc_150; rw [ab_nb h0]; rfl
  rw [e]; rfl
theorem abk_151_0 : (List.range 19).all (fun j => abChk 10 prog_13_method_16_code false (j + 0) (abc_151 (j + 0))) = true := by decide +kernel
theorem abk_151 (x : Nat) : abChk 10 prog_13_method_16_code false x (abc_151 x) = true := by
  rcases Nat.lt_or_ge x 19 with h | h
  · exact ab_rng (f := fun y => abChk 10 prog_13_method_16_code false y (abc_151 y)) abk_151_0 (Nat.zero_le x) h
  have h0 := h
  clear h
  have e : abc_151 x = ab00 := by unfold abc_151; rw [ab_nb h0]; rfl
  rw [e]; rfl
theorem abk_152_0 : (List.range 26).all (fun j => abChk 10 prog_13_method_17_code false (j + 0) (abc_152 (j + 0))) = true := by decide +kernel
theorem abk_152 (x : Nat) : abChk 10 prog_13_method_17_code false x (abc_152 x) = true := by
  rcases Nat.lt_or_ge x 26 with h | h
  · exact ab_rng (f := fun y => abChk 10 prog_13_method_17_code false y (abc_152 y)) abk_152_0 (Nat.zero_le x) h
  have h0 := h
  clear h
  have e : abc_152 x = ab00 := by unfold abc_152; rw [ab_nb h0]; rfl
  rw [e]; rfl
theorem abk_153_0 : (List.range 120).all (fun j => abChk 10 prog_13_method_18_code false (j + 0) (abc_153 (j + 0))) = true := by decide +kernel
theorem abk_153 (x : Nat) : abChk 10 prog_13_method_18_code false x (abc_153 x) = true := by
  rcases Nat.lt_or_ge x 120 with h | h
  · exact ab_rng (f := fun y => abChk 10 prog_13_method_18_code false y (abc_153 y)) abk_153_0 (Nat.zero_le x) h
  have h0 := h
  clear h
  have e : abc_153 x = ab00 := by unfold abc_153; rw [ab_nb h0]; rfl
  rw [e]; rfl
theorem abk_154_0 : (List.range 23).all (fun j => abChk 10 prog_13_method_19_code false (j + 0) (abc_154 (j + 0))) = true := by decide +kernel
theorem abk_154 (x : Nat) : abChk 10 prog_13_method_19_code false x (abc_154 x) = true := by
  rcases Nat.lt_or_ge x 23 with h | h
  · exact ab_rng (f := fun y => abChk 10 prog_13_method_19_code false y (abc_154 y)) abk_154_0 (Nat.zero_le x) h
  have h0 := h
  clear h
  have e : abc_154 x = ab00 := by unfold abc_154; rw [ab_nb h0]; rfl
  rw [e]; rfl
theorem abk_155_0 : (List.range 19).all (fun j => abChk 10 prog_13_method_20_code false (j + 0) (abc_155 (j + 0))) = true := by decide +kernel
theorem abk_155 (x : Nat) : abChk 10 prog_13_method_20_code false x (abc_155 x) = true := by
  rcases Nat.lt_or_ge x 19 with h | h
  · exact ab_rng (f := fun y => abChk 10 prog_13_method_20_code false y (abc_155 y)) abk_155_0 (Nat.zero_le x) h
  have h0 := h
  clear h
  have e : abc_155 x = ab00 := by unfold abc_155; rw [ab_nb h0]; rfl
  rw [e]; rfl
theorem abk_156_0 : (List.range 23).all (fun j => abChk 10 prog_13_method_21_code false (j + 0) (abc_156 (j + 0))) = true := by decide +kernel
theorem abk_156 (x : Nat) : abChk 10 prog_13_method_21_code false x (abc_156 x) = true := by
  rcases Nat.lt_or_ge x 23 with h | h
  · exact ab_rng (f := fun y => abChk 10 prog_13_method_21_code false y (abc_156 y)) abk_156_0 (Nat.zero_le x) h
  have h0 := h
  clear h
  have e : abc_156 x = ab00 := by unfold abc_156; rw [ab_nb h0]; rfl
  rw [e]; rfl
theorem abk_157_0 : (List.range 25).all (fun j => abChk 10 prog_13_method_22_code false (j + 0) (abc_157 (j + 0))) = true := by decide +kernel
theorem abk_157 (x : Nat) : abChk 10 prog_13_method_22_code false x (abc_157 x) = true := by
  rcases Nat.lt_or_ge x 25 with h | h
  · exact ab_rng (f := fun y => abChk 10 prog_13_method_22_code false y (abc_157 y)) abk_157_0 (Nat.zero_le x) h
  have h0 := h
  clear h
  have e : abc_157 x = ab00 := by unfold abc_157; rw [ab_nb h0]; rfl
  rw [e]; rfl
theorem abk_158_0 : (List.range 39).all (fun j => abChk 10 prog_13_method_23_code false (j + 0) (abc_158 (j + 0))) = true := by decide +kernel
theorem abk_158 (x : Nat) : abChk 10 prog_13_method_23_code false x (abc_158 x) = true := by
  rcases Nat.lt_or_ge x 39 with h | h
  · exact ab_rng (f := fun y => abChk 10 prog_13_method_23_code false y (abc_158 y)) abk_158_0 (Nat.zero_le x) h
  have h0 := h
  clear h
  have e : abc_158 x = ab00 := by unfold abc_158; rw [ab_nb h0]; rfl
  rw [e]; rfl
theorem abk_159_0 : (List.range 128).all (fun j => abChk 10 prog_13_method_24_code false (j + 0) (abc_159 (j + 0))) = true := by decide +kernel
theorem abk_159_1 : (List.range 29).all (fun j => abChk 10 prog_13_method_24_code false (j + 128) (abc_159 (j + 128))) = true := by decide +kernel
theorem abk_159 (x : Nat) : abChk 10 prog_13_method_24_code false x (abc_159 x) = true := by
  rcases Nat.lt_or_ge x 128 with h | h
  · exact ab_rng (f := fun y => abChk 10 prog_13_method_24_code false y (abc_159 y)) abk_159_0 (Nat.zero_le x) h
  have h0 := h
  clear h
  rcases Nat.lt_or_ge x 157 with h | h
  · exact ab_rng (f := fun y => abChk 10 prog_13_method_24_code false y (abc_159 y)) abk_159_1 h0 h
  have h0 := h
  clear h
  have e : abc_159 x = ab00 := by unfold abc_159; rw [ab_nb h0]; rfl
  rw [e]; rfl
theorem abk_160_0 : (List.range 69).all (fun j => abChk 10 prog_13_method_25_code false (j + 0) (abc_160 (j + 0))) = true := by decide +kernel
theorem abk_160 (x : Nat) : abChk 10 prog_13_method_25_code false x (abc_160 x) = true := by
  rcases Nat.lt_or_ge x 69 with h | h
  · exact ab_rng (f := fun y => abChk 10 prog_13_method_25_code false y (abc_160 y)) abk_160_0 (Nat.zero_le x) h
  have h0 := h
  clear h
  have e : abc_160 x = ab00 := by unfold abc_160; rw [ab_nb h0]; rfl
  rw [e]; rfl
theorem abk_161_0 : (List.range 33).all (fun j => abChk 10 prog_13_method_26_code false (j + 0) (abc_161 (j + 0))) = true := by decide +kernel
theorem abk_161 (x : Nat) : abChk 10 prog_13_method_26_code false x (abc_161 x) = true := by
  rcases Nat.lt_or_ge x 33 with h | h
  · exact ab_rng (f := fun y => abChk 10 prog_13_method_26_code false y (abc_161 y)) abk_161_0 (Nat.zero_le x) h
  have h0 := h
  clear h
  have e : abc_161 x = ab00 := by unfold abc_161; rw [ab_nb h0]; rfl
  rw [e]; rfl
theorem abk_162_0 : (List.range 69).all (fun j => abChk 10 prog_13_method_27_code false (j + 0) (abc_162 (j + 0))) = true := by decide +kernel
theorem abk_162 (x : Nat) : abChk 10 prog_13_method_27_code false x (abc_162 x) = true := by
  rcases Nat.lt_or_ge x 69 with h | h
  · exact ab_rng (f := fun y => abChk 10 prog_13_method_27_code false y (abc_162 y)) abk_162_0 (Nat.zero_le x) h
  have h0 := h
  clear h
  have e : abc_162 x = ab00 := by unfold abc_162; rw [ab_nb h0]; rfl
  rw [e]; rfl
theorem abk_163_0 : (List.range 32).all (fun j => abChk 10 prog_13_method_28_code false (j + 0) (abc_163 (j + 0))) = true := by decide +kernel
theorem abk_163 (x : Nat) : abChk 10 prog_13_method_28_code false x (abc_163 x) = true := by
  rcases Nat.lt_or_ge x 32 with h | h
  · exact ab_rng (f := fun y => abChk 10 prog_13_method_28_code false y (abc_163 y)) abk_163_0 (Nat.zero_le x) h
  have h0 := h
  clear h
  have e : abc_163 x = ab00 := by unfold abc_163; rw [ab_nb h0]; rfl
  rw [e]; rfl
theorem abk_164_0 : (List.range 42).all (fun j => abChk 10 prog_13_method_29_code false (j + 0) (abc_164 (j + 0))) = true := by decide +kernel
theorem abk_164 (x : Nat) : abChk 10 prog_13_method_29_code false x (abc_164 x) = true := by
  rcases Nat.lt_or_ge x 42 with h | h
  · exact ab_rng (f := fun y => abChk 10 prog_13_method_29_code false y (abc_164 y)) abk_164_0 (Nat.zero_le x) h
  have h0 := h
  clear h
  have e : abc_164 x = ab00 := by unfold abc_164; rw [ab_nb h0]; rfl
  rw [e]; rfl
theorem abk_165_0 : (List.range 30).all (fun j => abChk 10 prog_13_method_30_code false (j + 0) (abc_165 (j + 0))) = true := by decide +kernel
theorem abk_165 (x : Nat) : abChk 10 prog_13_method_30_code false x (abc_165 x) = true := by
  rcases Nat.lt_or_ge x 30 with h | h
  · exact ab_rng (f := fun y => abChk 10 prog_13_method_30_code false y (abc_165 y)) abk_165_0 (Nat.zero_le x) h
  have h0 := h
  clear h
  have e : abc_165 x = ab00 := by unfold abc_165; rw [ab_nb h0]; rfl
  rw [e]; rfl
theorem abk_166_0 : (List.range 75).all (fun j => abChk 10 prog_13_method_31_code false (j + 0) (abc_166 (j + 0))) = true := by decide +kernel
theorem abk_166 (x : Nat) : abChk 10 prog_13_method_31_code false x (abc_166 x) = true := by
  rcases Nat.lt_or_ge x 75 with h | h
  · exact ab_rng (f := fun y => abChk 10 prog_13_method_31_code false y (abc_166 y)) abk_166_0 (Nat.zero_le x) h
  have h0 := h
  clear h
  have e : abc_166 x = ab00 := by unfold abc_166; rw [ab_nb h0]; rfl
  rw [e]; rfl
theorem abk_167_0 : (List.range 21).all (fun j => abChk 10 prog_13_method_32_code false (j + 0) (abc_167 (j + 0))) = true := by decide +kernel
theorem abk_167 (x : Nat) : abChk 10 prog_13_method_32_code false x (abc_167 x) = true := by
  rcases Nat.lt_or_ge x 21 with h | h
  · exact ab_rng (f := fun y => abChk 10 prog_13_method_32_code false y (abc_167 y)) abk_167_0 (Nat.zero_le x) h
  have h0 := h
  clear h
  have e : abc_167 x = ab00 := by unfold abc_167; rw [ab_nb h0]; rfl
  rw [e]; rfl
theorem abk_168_0 : (List.range 106).all (fun j => abChk 10 prog_13_method_33_code false (j + 0) (abc_168 (j + 0))) = true := by decide +kernel
theorem abk_168 (x : Nat) : abChk 10 prog_13_method_33_code false x (abc_168 x) = true := by
  rcases Nat.lt_or_ge x 106 with h | h
  · exact ab_rng (f := fun y => abChk 10 prog_13_method_33_code false y (abc_168 y)) abk_168_0 (Nat.zero_le x) h
  have h0 := h
  clear h
  have e : abc_168 x = ab00 := by unfold abc_168; rw [ab_nb h0]; rfl
  rw [e]; rfl
theorem abk_169_0 : (List.range 29).all (fun j => abChk 10 prog_13_method_34_code false (j + 0) (abc_169 (j + 0))) = true := by decide +kernel
theorem abk_169 (x : Nat) : abChk 10 prog_13_method_34_code false x (abc_169 x) = true := by
  rcases Nat.lt_or_ge x 29 with h | h
  · exact ab_rng (f := fun y => abChk 10 prog_13_method_34_code false y (abc_169 y)) abk_169_0 (Nat.zero_le x) h
  have h0 := h
  clear h
  have e : abc_169 x = ab00 := by unfold abc_169; rw [ab_nb h0]; rfl
  rw [e]; rfl
theorem abk_170_0 : (List.range 43).all (fun j => abChk 10 prog_13_method_35_code false (j + 0) (abc_170 (j + 0))) = true := by decide +kernel
theorem abk_170 (x : Nat) : abChk 10 prog_13_method_35_code false x (abc_170 x) = true := by
  rcases Nat.lt_or_ge x 43 with h | h
  · exact ab_rng (f := fun y => abChk 10 prog_13_method_35_code false y (abc_170 y)) abk_170_0 (Nat.zero_le x) h
  have h0 := h
  clear h
  have e : abc_170 x = ab00 := by unfold abc_170; rw [ab_nb h0]; rfl
  rw [e]; rfl
theorem abk_171_0 : (List.range 101).all (fun j => abChk 10 prog_13_method_36_code false (j + 0) (abc_171 (j + 0))) = true := by decide +kernel
theorem abk_171 (x : Nat) : abChk 10 prog_13_method_36_code false x (abc_171 x) = true := by
  rcases Nat.lt_or_ge x 101 with h | h
  · exact ab_rng (f := fun y => abChk 10 prog_13_method_36_code false y (abc_171 y)) abk_171_0 (Nat.zero_le x) h
  have h0 := h
  clear h
  have e : abc_171 x = ab00 := by unfold abc_171; rw [ab_nb h0]; rfl
  rw [e]; rfl
theorem abk_172_0 : (List.range 88).all (fun j => abChk 10 prog_13_method_37_code false (j + 0) (abc_172 (j + 0))) = true := by decide +kernel
theorem abk_172 (x : Nat) : abChk 10 prog_13_method_37_code false x (abc_172 x) = true := by
  rcases Nat.lt_or_ge x 88 with h | h
  · exact ab_rng (f := fun y => abChk 10 prog_13_method_37_code false y (abc_172 y)) abk_172_0 (Nat.zero_le x) h
  have h0 := h
  clear h
  have e : abc_172 x = ab00 := by unfold abc_172; rw [ab_nb h0]; rfl
  rw [e]; rfl
theorem abk_173_0 : (List.range 112).all (fun j => abChk 10 prog_13_method_38_code false (j + 0) (abc_173 (j + 0))) = true := by decide +kernel
theorem abk_173 (x : Nat) : abChk 10 prog_13_method_38_code false x (abc_173 x) = true := by
  rcases Nat.lt_or_ge x 112 with h | h
  · exact ab_rng (f := fun y => abChk 10 prog_13_method_38_code false y (abc_173 y)) abk_173_0 (Nat.zero_le x) h
  have h0 := h
  clear h
  have e : abc_173 x = ab00 := by unfold abc_173; rw [ab_nb h0]; rfl
  rw [e]; rfl
theorem abk_174_0 : (List.range 128).all (fun j => abChk 10 prog_13_method_39_code false (j + 0) (abc_174 (j + 0))) = true := by decide +kernel
theorem abk_174_1 : (List.range 31).all (fun j => abChk 10 prog_13_method_39_code false (j + 128) (abc_174 (j + 128))) = true := by decide +kernel
theorem abk_174 (x : Nat) : abChk 10 prog_13_method_39_code false x (abc_174 x) = true := by
  rcases Nat.lt_or_ge x 128 with h | h
  · exact ab_rng (f := fun y => abChk 10 prog_13_method_39_code false y (abc_174 y)) abk_174_0 (Nat.zero_le x) h
  have h0 := h
  clear h
  rcases Nat.lt_or_ge x 159 with h | h
  · exact ab_rng (f := fun y => abChk 10 prog_13_method_39_code false y (abc_174 y)) abk_174_1 h0 h
  have h0 := h
  clear h
  have e : abc_174 x = ab00 := by unfold abc_174; rw [ab_nb h0]; rfl
  rw [e]; rfl
theorem abk_175_0 : (List.range 128).all (fun j => abChk 10 prog_13_method_40_code false (j + 0) (abc_175 (j + 0))) = true := by decide +kernel
theorem abk_175_1 : (List.range 48).all (fun j => abChk 10 prog_13_method_40_code false (j + 128) (abc_175 (j + 128))) = true := by decide +kernel
theorem abk_175 (x : Nat) : abChk 10 prog_13_method_40_code false x (abc_175 x) = true := by
  rcases Nat.lt_or_ge x 128 with h | h
  · exact ab_rng (f := fun y => abChk 10 prog_13_method_40_code false y (abc_175 y)) abk_175_0 (Nat.zero_le x) h
  have h0 := h
  clear h
  rcases Nat.lt_or_ge x 176 with h | h
  · exact ab_rng (f := fun y => abChk 10 prog_13_method_40_code false y (abc_175 y)) abk_175_1 h0 h
  have h0 := h
  clear h
  have e : abc_175 x = ab00 := by unfold abc_175; rw [ab_nb h0]; rfl
  rw [e]; rfl
theorem abk_176_0 : (List.range 11).all (fun j => abChk 10 prog_13_method_41_code false (j + 0) (abc_176 (j + 0))) = true := by decide +kernel
theorem abk_176 (x : Nat) : abChk 10 prog_13_method_41_code false x (abc_176 x) = true := by
  rcases Nat.lt_or_ge x 11 with h | h
  · exact ab_rng (f := fun y => abChk 10 prog_13_method_41_code false y (abc_176 y)) abk_176_0 (Nat.zero_le x) h
  have h0 := h
  clear h
  have e : abc_176 x = ab00 := by unfold abc_176; rw [ab_nb h0]; rfl
  rw [e]; rfl
theorem abk_177_0 : (List.range 21).all (fun j => abChk 10 prog_13_method_42_code false (j + 0) (abc_177 (j + 0))) = true := by decide +kernel
theorem abk_177 (x : Nat) : abChk 10 prog_13_method_42_code false x (abc_177 x) = true := by
  rcases Nat.lt_or_ge x 21 with h | h
  · exact ab_rng (f := fun y => abChk 10 prog_13_method_42_code false y (abc_177 y)) abk_177_0 (Nat.zero_le x) h
  have h0 := h
  clear h
  have e : abc_177 x = ab00 := by unfold abc_177; rw [ab_nb h0]; rfl
  rw [e]; rfl
theorem abk_178_0 : (List.range 128).all (fun j => abChk 10 prog_13_method_43_code false (j + 0) (abc_178 (j + 0))) = true := by decide +kernel
theorem abk_178_1 : (List.range 76).all (fun j => abChk 10 prog_13_method_43_code false (j + 128) (abc_178 (j + 128))) = true := by decide +kernel
theorem abk_178 (x : Nat) : abChk 10 prog_13_method_43_code false x (abc_178 x) = true := by
  rcases Nat.lt_or_ge x 128 with h | h
  · exact ab_rng (f := fun y => abChk 10 prog_13_method_43_code false y (abc_178 y)) abk_178_0 (Nat.zero_le x) h
  have h0 := h
  clear h
  rcases Nat.lt_or_ge x 204 with h | h
  · exact ab_rng (f := fun y => abChk 10 prog_13_method_43_code false y (abc_178 y)) abk_178_1 h0 h
  have h0 := h
  clear h
  have e : abc_178 x = ab00 := by unfold abc_178; rw [ab_nb h0]; rfl
  rw [e]; rfl
theorem abk_179_0 : (List.range 128).all (fun j => abChk 10 prog_13_method_44_code false (j + 0) (abc_179 (j + 0))) = true := by decide +kernel
theorem abk_179_1 : (List.range 17).all (fun j => abChk 10 prog_13_method_44_code false (j + 128) (abc_179 (j + 128))) = true := by decide +kernel
theorem abk_179 (x : Nat) : abChk 10 prog_13_method_44_code false x (abc_179 x) = true := by
  rcases Nat.lt_or_ge x 128 with h | h
  · exact ab_rng (f := fun y => abChk 10 prog_13_method_44_code false y (abc_179 y)) abk_179_0 (Nat.zero_le x) h
  have h0 := h
  clear h
  rcases Nat.lt_or_ge x 145 with h | h
  · exact ab_rng (f := fun y => abChk 10 prog_13_method_44_code false y (abc_179 y)) abk_179_1 h0 h
  have h0 := h
  clear h
  have e : abc_179 x = ab00 := by unfold abc_179; rw [ab_nb h0]; rfl
  rw [e]; rfl
theorem abk_180_0 : (List.range 56).all (fun j => abChk 10 prog_13_method_45_code false (j + 0) (abc_180 (j + 0))) = true := by decide +kernel
theorem abk_180 (x : Nat) : abChk 10 prog_13_method_45_code false x (abc_180 x) = true := by
  rcases Nat.lt_or_ge x 56 with h | h
  · exact ab_rng (f := fun y => abChk 10 prog_13_method_45_code false y (abc_180 y)) abk_180_0 (Nat.zero_le x) h
  have h0 := h
  clear h
  have e : abc_180 x = ab00 := by unfold abc_180; rw [ab_nb h0]; rfl
  rw [e]; rfl
theorem abk_181_0 : (List.range 57).all (fun j => abChk 10 prog_13_method_46_code false (j + 0) (abc_181 (j + 0))) = true := by decide +kernel
theorem abk_181 (x : Nat) : abChk 10 prog_13_method_46_code false x (abc_181 x) = true := by
  rcases Nat.lt_or_ge x 57 with h | h
  · exact ab_rng (f := fun y => abChk 10 prog_13_method_46_code false y (abc_181 y)) abk_181_0 (Nat.zero_le x) h
  have h0 := h
  clear h
  have e : abc_181 x = ab00 := by unfold abc_181; rw [ab_nb h0]; rfl
  rw [e]; rfl
theorem abk_182_0 : (List.range 119).all (fun j => abChk 10 prog_13_method_47_code false (j + 0) (abc_182 (j + 0))) = true := by decide +kernel
theorem abk_182 (x : Nat) : abChk 10 prog_13_method_47_code false x (abc_182 x) = true := by
  rcases Nat.lt_or_ge x 119 with h | h
  · exact ab_rng (f := fun y => abChk 10 prog_13_method_47_code false y (abc_182 y)) abk_182_0 (Nat.zero_le x) h
  have h0 := h
  clear h
  have e : abc_182 x = ab00 := by unfold abc_182; rw [ab_nb h0]; rfl
  rw [e]; rfl
theorem abk_183_0 : (List.range 42).all (fun j => abChk 10 prog_13_method_48_code false (j + 0) (abc_183 (j + 0))) = true := by decide +kernel
theorem abk_183 (x : Nat) : abChk 10 prog_13_method_48_code false x (abc_183 x) = true := by
  rcases Nat.lt_or_ge x 42 with h | h
  · exact ab_rng (f := fun y => abChk 10 prog_13_method_48_code false y (abc_183 y)) abk_183_0 (Nat.zero_le x) h
  have h0 := h
  clear h
  have e : abc_183 x = ab00 := by unfold abc_183; rw [ab_nb h0]; rfl
  rw [e]; rfl
theorem abk_184_0 : (List.range 100).all (fun j => abChk 10 prog_13_method_49_code false (j + 0) (abc_184 (j + 0))) = true := by decide +kernel
theorem abk_184 (x : Nat) : abChk 10 prog_13_method_49_code false x (abc_184 x) = true := by
  rcases Nat.lt_or_ge x 100 with h | h
  · exact ab_rng (f := fun y => abChk 10 prog_13_method_49_code false y (abc_184 y)) abk_184_0 (Nat.zero_le x) h
  have h0 := h
  clear h
  have e : abc_184 x = ab00 := by unfold abc_184; rw [ab_nb h0]; rfl
  rw [e]; rfl
theorem abk_185_0 : (List.range 128).all (fun j => abChk 10 prog_13_method_50_code false (j + 0) (abc_185 (j + 0))) = true := by decide +kernel
theorem abk_185_1 : (List.range 10).all (fun j => abChk 10 prog_13_method_50_code false (j + 128) (abc_185 (j + 128))) = true := by decide +kernel
theorem abk_185 (x : Nat) : abChk 10 prog_13_method_50_code false x (abc_185 x) = true := by
  rcases Nat.lt_or_ge x 128 with h | h
  · exact ab_rng (f := fun y => abChk 10 prog_13_method_50_code false y (abc_185 y)) abk_185_0 (Nat.zero_le x) h
  have h0 := h
  clear h
  rcases Nat.lt_or_ge x 138 with h | h
  · exact ab_rng (f := fun y => abChk 10 prog_13_method_50_code false y (abc_185 y)) abk_185_1 h0 h
  have h0 := h
  clear h
  have e : abc_185 x = ab00 := by unfold abc_185; rw [ab_nb h0]; rfl
  rw [e]; rfl
theorem abk_186_0 : (List.range 19).all (fun j => abChk 10 prog_13_method_51_code false (j + 0) (abc_186 (j + 0))) = true := by decide +kernel
theorem abk_186 (x : Nat) : abChk 10 prog_13_method_51_code false x (abc_186 x) = true := by
  rcases Nat.lt_or_ge x 19 with h | h
  · exact ab_rng (f := fun y => abChk 10 prog_13_method_51_code false y (abc_186 y)) abk_186_0 (Nat.zero_le x) h
  have h0 := h
  clear h
  have e : abc_186 x = ab00 := by unfold abc_186; rw [ab_nb h0]; rfl
  rw [e]; rfl
theorem abk_187_0 : (List.range 128).all (fun j => abChk 10 prog_13_method_52_code false (j + 0) (abc_187 (j + 0))) = true := by decide +kernel
theorem abk_187_1 : (List.range 98).all (fun j => abChk 10 prog_13_method_52_code false (j + 128) (abc_187 (j + 128))) = true := by decide +kernel
theorem abk_187 (x : Nat) : abChk 10 prog_13_method_52_code false x (abc_187 x) = true := by
  rcases Nat.lt_or_ge x 128 with h | h
  · exact ab_rng (f := fun y => abChk 10 prog_13_method_52_code false y (abc_187 y)) abk_187_0 (Nat.zero_le x) h
  have h0 := h
  clear h
  rcases Nat.lt_or_ge x 226 with h | h
  · exact ab_rng (f := fun y => abChk 10 prog_13_method_52_code false y (abc_187 y)) abk_187_1 h0 h
  have h0 := h
  clear h
  have e : abc_187 x = ab00 := by unfold abc_187; rw [ab_nb h0]; rfl
  rw [e]; rfl
theorem abk_188_0 : (List.range 25).all (fun j => abChk 10 prog_13_method_53_code false (j + 0) (abc_188 (j + 0))) = true := by decide +kernel
theorem abk_188 (x : Nat) : abChk 10 prog_13_method_53_code false x (abc_188 x) = true := by
  rcases Nat.lt_or_ge x 25 with h | h
  · exact ab_rng (f := fun y => abChk 10 prog_13_method_53_code false y (abc_188 y)) abk_188_0 (Nat.zero_le x) h
  have h0 := h
  clear h
  have e : abc_188 x = ab00 := by unfold abc_188; rw [ab_nb h0]; rfl
  rw [e]; rfl
theorem abk_189_0 : (List.range 65).all (fun j => abChk 10 prog_13_method_54_code false (j + 0) (abc_189 (j + 0))) = true := by decide +kernel
theorem abk_189 (x : Nat) : abChk 10 prog_13_method_54_code false x (abc_189 x) = true := by
  rcases Nat.lt_or_ge x 65 with h | h
  · exact ab_rng (f := fun y => abChk 10 prog_13_method_54_code false y (abc_189 y)) abk_189_0 (Nat.zero_le x) h
  have h0 := h
  clear h
  have e : abc_189 x = ab00 := by unfold abc_189; rw [ab_nb h0]; rfl
  rw [e]; rfl
theorem abk_190_0 : (List.range 7).all (fun j => abChk 10 prog_13_method_55_code false (j + 0) (abc_190 (j + 0))) = true := by decide +kernel
theorem abk_190 (x : Nat) : abChk 10 prog_13_method_55_code false x (abc_190 x) = true := by
  rcases Nat.lt_or_ge x 7 with h | h
  · exact ab_rng (f := fun y => abChk 10 prog_13_method_55_code false y (abc_190 y)) abk_190_0 (Nat.zero_le x) h
  have h0 := h
  clear h
  have e : abc_190 x = ab00 := by unfold abc_190; rw [ab_nb h0]; rfl
  rw [e]; rfl
theorem abk_191_0 : (List.range 7).all (fun j => abChk 10 prog_13_method_56_code false (j + 0) (abc_191 (j + 0))) = true := by decide +kernel
theorem abk_191 (x : Nat) : abChk 10 prog_13_method_56_code false x (abc_191 x) = true := by
  rcases Nat.lt_or_ge x 7 with h | h
  · exact ab_rng (f := fun y => abChk 10 prog_13_method_56_code false y (abc_191 y)) abk_191_0 (Nat.zero_le x) h
  have h0 := h
  clear h
  have e : abc_191 x = ab00 := by unfold abc_191; rw [ab_nb h0]; rfl
  rw [e]; rfl
theorem abk_192_0 : (List.range 12).all (fun j => abChk 10 prog_13_method_57_code false (j + 0) (abc_192 (j + 0))) = true := by decide +kernel
theorem abk_192 (x : Nat) : abChk 10 prog_13_method_57_code false x (abc_192 x) = true := by
  rcases Nat.lt_or_ge x 12 with h | h
  · exact ab_rng (f := fun y => abChk 10 prog_13_method_57_code false y (abc_192 y)) abk_192_0 (Nat.zero_le x) h
  have h0 := h
  clear h
  have e : abc_192 x = ab00 := by unfold abc_192; rw [ab_nb h0]; rfl
  rw [e]; rfl
theorem abk_193_0 : (List.range 12).all (fun j => abChk 10 prog_13_method_58_code false (j + 0) (abc_193 (j + 0))) = true := by decide +kernel
theorem abk_193 (x : Nat) : abChk 10 prog_13_method_58_code false x (abc_193 x) = true := by
  rcases Nat.lt_or_ge x 12 with h | h
  · exact ab_rng (f := fun y => abChk 10 prog_13_method_58_code false y (abc_193 y)) abk_193_0 (Nat.zero_le x) h
  have h0 := h
  clear h
  have e : abc_193 x = ab00 := by unfold abc_193; rw [ab_nb h0]; rfl
  rw [e]; rfl
theorem abk_194_0 : (List.range 14).all (fun j => abChk 10 prog_13_method_59_code false (j + 0) (abc_194 (j + 0))) = true := by decide +kernel
theorem abk_194 (x : Nat) : abChk 10 prog_13_method_59_code false x (abc_194 x) = true := by
  rcases Nat.lt_or_ge x 14 with h | h
  · exact ab_rng (f := fun y => abChk 10 prog_13_method_59_code false y (abc_194 y)) abk_194_0 (Nat.zero_le x) h
  have h0 := h
  clear h
  have e : abc_194 x = ab00 := by unfold abc_194; rw [ab_nb h0]; rfl
  rw [e]; rfl
theorem abk_195_0 : (List.range 87).all (fun j => abChk 10 prog_13_method_60_code false (j + 0) (abc_195 (j + 0))) = true := by decide +kernel
theorem abk_195 (x : Nat) : abChk 10 prog_13_method_60_code false x (abc_195 x) = true := by
  rcases Nat.lt_or_ge x 87 with h | h
  · exact ab_rng (f := fun y => abChk 10 prog_13_method_60_code false y (abc_195 y)) abk_195_0 (Nat.zero_le x) h
  have h0 := h
  clear h
  have e : abc_195 x = ab00 := by unfold abc_195; rw [ab_nb h0]; rfl
  rw [e]; rfl
theorem abk_196_0 : (List.range 24).all (fun j => abChk 10 prog_13_method_61_code false (j + 0) (abc_196 (j + 0))) = true := by decide +kernel
theorem abk_196 (x : Nat) : abChk 10 prog_13_method_61_code false x (abc_196 x) = true := by
  rcases Nat.lt_or_ge x 24 with h | h
  · exact ab_rng (f := fun y => abChk 10 prog_13_method_61_code false y (abc_196 y)) abk_196_0 (Nat.zero_le x) h
  have h0 := h
  clear h
  have e : abc_196 x = ab00 := by unfold abc_196; rw [ab_nb h0]; rfl
  rw [e]; rfl
theorem abk_197_0 : (List.range 29).all (fun j => abChk 10 prog_13_method_62_code false (j + 0) (abc_197 (j + 0))) = true := by decide +kernel
theorem abk_197 (x : Nat) : abChk 10 prog_13_method_62_code false x (abc_197 x) = true := by
  rcases Nat.lt_or_ge x 29 with h | h
  · exact ab_rng (f := fun y => abChk 10 prog_13_method_62_code false y (abc_197 y)) abk_197_0 (Nat.zero_le x) h
  have h0 := h
  clear h
  have e : abc_197 x = ab00 := by unfold abc_197; rw [ab_nb h0]; rfl
  rw [e]; rfl
theorem abk_198_0 : (List.range 63).all (fun j => abChk 10 prog_13_method_63_code false (j + 0) (abc_198 (j + 0))) = true := by decide +kernel
theorem abk_198 (x : Nat) : abChk 10 prog_13_method_63_code false x (abc_198 x) = true := by
  rcases Nat.lt_or_ge x 63 with h | h
  · exact ab_rng (f := fun y => abChk 10 prog_13_method_63_code false y (abc_198 y)) abk_198_0 (Nat.zero_le x) h
  have h0 := h
  clear h
  have e : abc_198 x = ab00 := by unfold abc_198; rw [ab_nb h0]; rfl
  rw [e]; rfl
theorem abk_199_0 : (List.range 45).all (fun j => abChk 10 prog_13_method_64_code false (j + 0) (abc_199 (j + 0))) = true := by decide +kernel
theorem abk_199 (x : Nat) : abChk 10 prog_13_method_64_code false x (abc_199 x) = true := by
  rcases Nat.lt_or_ge x 45 with h | h
  · exact ab_rng (f := fun y => abChk 10 prog_13_method_64_code false y (abc_199 y)) abk_199_0 (Nat.zero_le x) h
  have h0 := h
  clear h
  have e : abc_199 x = ab00 := by unfold abc_199; rw [ab_nb h0]; rfl
  rw [e]; rfl
theorem abk_200_0 : (List.range 34).all (fun j => abChk 10 prog_13_method_65_code false (j + 0) (abc_200 (j + 0))) = true := by decide +kernel
theorem abk_200 (x : Nat) : abChk 10 prog_13_method_65_code false x (abc_200 x) = true := by
  rcases Nat.lt_or_ge x 34 with h | h
  · exact ab_rng (f := fun y => abChk 10 prog_13_method_65_code false y (abc_200 y)) abk_200_0 (Nat.zero_le x) h
  have h0 := h
  clear h
  have e : abc_200 x = ab00 := by unfold abc_200; rw [ab_nb h0]; rfl
  rw [e]; rfl
theorem abk_201_0 : (List.range 38).all (fun j => abChk 10 prog_13_method_66_code false (j + 0) (abc_201 (j + 0))) = true := by decide +kernel
theorem abk_201 (x : Nat) : abChk 10 prog_13_method_66_code false x (abc_201 x) = true := by
  rcases Nat.lt_or_ge x 38 with h | h
  · exact ab_rng (f := fun y => abChk 10 prog_13_method_66_code false y (abc_201 y)) abk_201_0 (Nat.zero_le x) h
  have h0 := h
  clear h
  have e : abc_201 x = ab00 := by unfold abc_201; rw [ab_nb h0]; rfl
  rw [e]; rfl
theorem abk_202_0 : (List.range 70).all (fun j => abChk 10 prog_13_method_67_code false (j + 0) (abc_202 (j + 0))) = true := by decide +kernel
theorem abk_202 (x : Nat) : abChk 10 prog_13_method_67_code false x (abc_202 x) = true := by
  rcases Nat.lt_or_ge x 70 with h | h
  · exact ab_rng (f := fun y => abChk 10 prog_13_method_67_code false y (abc_202 y)) abk_202_0 (Nat.zero_le x) h
  have h0 := h
  clear h
  have e : abc_202 x = ab00 := by unfold abc_202; rw [ab_nb h0]; rfl
  rw [e]; rfl
theorem abk_203_0 : (List.range 32).all (fun j => abChk 10 prog_13_method_68_code false (j + 0) (abc_203 (j + 0))) = true := by decide +kernel
theorem abk_203 (x : Nat) : abChk 10 prog_13_method_68_code false x (abc_203 x) = true := by
  rcases Nat.lt_or_ge x 32 with h | h
  · exact ab_rng (f := fun y => abChk 10 prog_13_method_68_code false y (abc_203 y)) abk_203_0 (Nat.zero_le x) h
  have h0 := h
  clear h
  have e : abc_203 x = ab00 := by unfold abc_203; rw [ab_nb h0]; rfl
  rw [e]; rfl
theorem abk_204_0 : (List.range 102).all (fun j => abChk 10 prog_13_method_69_code false (j + 0) (abc_204 (j + 0))) = true := by decide +kernel
theorem abk_204 (x : Nat) : abChk 10 prog_13_method_69_code false x (abc_204 x) = true := by
  rcases Nat.lt_or_ge x 102 with h | h
  · exact ab_rng (f := fun y => abChk 10 prog_13_method_69_code false y (abc_204 y)) abk_204_0 (Nat.zero_le x) h
  have h0 := h
  clear h
  have e : abc_204 x = ab00 := by unfold abc_204; rw [ab_nb h0]; rfl
  rw [e]; rfl
theorem abk_205_0 : (List.range 63).all (fun j => abChk 10 prog_13_method_70_code false (j + 0) (abc_205 (j + 0))) = true := by decide +kernel
theorem abk_205 (x : Nat) : abChk 10 prog_13_method_70_code false x (abc_205 x) = true := by
  rcases Nat.lt_or_ge x 63 with h | h
  · exact ab_rng (f := fun y => abChk 10 prog_13_method_70_code false y (abc_205 y)) abk_205_0 (Nat.zero_le x) h
  have h0 := h
  clear h
  have e : abc_205 x = ab00 := by unfold abc_205; rw [ab_nb h0]; rfl
  rw [e]; rfl
theorem abk_206_0 : (List.range 45).all (fun j => abChk 10 prog_13_method_71_code false (j + 0) (abc_206 (j + 0))) = true := by decide +kernel
theorem abk_206 (x : Nat) : abChk 10 prog_13_method_71_code false x (abc_206 x) = true := by
  rcases Nat.lt_or_ge x 45 with h | h
  · exact ab_rng (f := fun y => abChk 10 prog_13_method_71_code false y (abc_206 y)) abk_206_0 (Nat.zero_le x) h
  have h0 := h
  clear h
  have e : abc_206 x = ab00 := by unfold abc_206; rw [ab_nb h0]; rfl
  rw [e]; rfl
theorem abk_207_0 : (List.range 28).all (fun j => abChk 10 prog_13_method_72_code false (j + 0) (abc_207 (j + 0))) = true := by decide +kernel
theorem abk_207 (x : Nat) : abChk 10 prog_13_method_72_code false x (abc_207 x) = true := by
  rcases Nat.lt_or_ge x 28 with h | h
  · exact ab_rng (f := fun y => abChk 10 prog_13_method_72_code false y (abc_207 y)) abk_207_0 (Nat.zero_le x) h
  have h0 := h
  clear h
  have e : abc_207 x = ab00 := by unfold abc_207; rw [ab_nb h0]; rfl
  rw [e]; rfl
theorem abk_208_0 : (List.range 36).all (fun j => abChk 10 prog_13_method_73_code false (j + 0) (abc_208 (j + 0))) = true := by decide +kernel
theorem abk_208 (x : Nat) : abChk 10 prog_13_method_73_code false x (abc_208 x) = true := by
  rcases Nat.lt_or_ge x 36 with h | h
  · exact ab_rng (f := fun y => abChk 10 prog_13_method_73_code false y (abc_208 y)) abk_208_0 (Nat.zero_le x) h
  have h0 := h
  clear h
  have e : abc_208 x = ab00 := by unfold abc_208; rw [ab_nb h0]; rfl
  rw [e]; rfl
theorem abk_209_0 : (List.range 128).all (fun j => abChk 10 prog_13_method_74_code false (j + 0) (abc_209 (j + 0))) = true := by decide +kernel
theorem abk_209_1 : (List.range 17).all (fun j => abChk 10 prog_13_method_74_code false (j + 128) (abc_209 (j + 128))) = true := by decide +kernel
theorem abk_209 (x : Nat) : abChk 10 prog_13_method_74_code false x (abc_209 x) = true := by
  rcases Nat.lt_or_ge x 128 with h | h
  · exact ab_rng (f := fun y => abChk 10 prog_13_method_74_code false y (abc_209 y)) abk_209_0 (Nat.zero_le x) h
  have h0 := h
  clear h
  rcases Nat.lt_or_ge x 145 with h | h
  · exact ab_rng (f := fun y => abChk 10 prog_13_method_74_code false y (abc_209 y)) abk_209_1 h0 h
  have h0 := h
  clear h
  have e : abc_209 x = ab00 := by unfold abc_209; rw [ab_nb h0]; rfl
  rw [e]; rfl
theorem abk_210_0 : (List.range 38).all (fun j => abChk 10 prog_13_method_75_code false (j + 0) (abc_210 (j + 0))) = true := by decide +kernel
theorem abk_210 (x : Nat) : abChk 10 prog_13_method_75_code false x (abc_210 x) = true := by
  rcases Nat.lt_or_ge x 38 with h | h
  · exact ab_rng (f := fun y => abChk 10 prog_13_method_75_code false y (abc_210 y)) abk_210_0 (Nat.zero_le x) h
  have h0 := h
  clear h
  have e : abc_210 x = ab00 := by unfold abc_210; rw [ab_nb h0]; rfl
  rw [e]; rfl
theorem abk_211_0 : (List.range 73).all (fun j => abChk 10 prog_13_method_76_code false (j + 0) (abc_211 (j + 0))) = true := by decide +kernel
theorem abk_211 (x : Nat) : abChk 10 prog_13_method_76_code false x (abc_211 x) = true := by
  rcases Nat.lt_or_ge x 73 with h | h
  · exact ab_rng (f := fun y => abChk 10 prog_13_method_76_code false y (abc_211 y)) abk_211_0 (Nat.zero_le x) h
  have h0 := h
  clear h
  have e : abc_211 x = ab00 := by unfold abc_211; rw [ab_nb h0]; rfl
  rw [e]; rfl
theorem abk_212_0 : (List.range 101).all (fun j => abChk 10 prog_13_method_77_code false (j + 0) (abc_212 (j + 0))) = true := by decide +kernel
theorem abk_212 (x : Nat) : abChk 10 prog_13_method_77_code false x (abc_212 x) = true := by
  rcases Nat.lt_or_ge x 101 with h | h
  · exact ab_rng (f := fun y => abChk 10 prog_13_method_77_code false y (abc_212 y)) abk_212_0 (Nat.zero_le x) h
  have h0 := h
  clear h
  have e : abc_212 x = ab00 := by unfold abc_212; rw [ab_nb h0]; rfl
  rw [e]; rfl
theorem abk_213_0 : (List.range 81).all (fun j => abChk 10 prog_13_method_78_code false (j + 0) (abc_213 (j + 0))) = true := by decide +kernel
theorem abk_213 (x : Nat) : abChk 10 prog_13_method_78_code false x (abc_213 x) = true := by
  rcases Nat.lt_or_ge x 81 with h | h
  · exact ab_rng (f := fun y => abChk 10 prog_13_method_78_code false y (abc_213 y)) abk_213_0 (Nat.zero_le x) h
  have h0 := h
  clear h
  have e : abc_213 x = ab00 := by unfold abc_213; rw [ab_nb h0]; rfl
  rw [e]; rfl
theorem abk_214_0 : (List.range 99).all (fun j => abChk 10 prog_13_method_79_code false (j + 0) (abc_214 (j + 0))) = true := by decide +kernel
theorem abk_214 (x : Nat) : abChk 10 prog_13_method_79_code false x (abc_214 x) = true := by
  rcases Nat.lt_or_ge x 99 with h | h
  · exact ab_rng (f := fun y => abChk 10 prog_13_method_79_code false y (abc_214 y)) abk_214_0 (Nat.zero_le x) h
  have h0 := h
  clear h
  have e : abc_214 x = ab00 := by unfold abc_214; rw [ab_nb h0]; rfl
  rw [e]; rfl
theorem abk_215_0 : (List.range 55).all (fun j => abChk 10 prog_13_method_80_code false (j + 0) (abc_215 (j + 0))) = true := by decide +kernel
theorem abk_215 (x : Nat) : abChk 10 prog_13_method_80_code false x (abc_215 x) = true := by
  rcases Nat.lt_or_ge x 55 with h | h
  · exact ab_rng (f := fun y => abChk 10 prog_13_method_80_code false y (abc_215 y)) abk_215_0 (Nat.zero_le x) h
  have h0 := h
  clear h
  have e : abc_215 x = ab00 := by unfold abc_215; rw [ab_nb h0]; rfl
  rw [e]; rfl
theorem abk_216_0 : (List.range 99).all (fun j => abChk 10 prog_13_method_81_code false (j + 0) (abc_216 (j + 0))) = true := by decide +kernel
theorem abk_216 (x : Nat) : abChk 10 prog_13_method_81_code false x (abc_216 x) = true := by
  rcases Nat.lt_or_ge x 99 with h | h
  · exact ab_rng (f := fun y => abChk 10 prog_13_method_81_code false y (abc_216 y)) abk_216_0 (Nat.zero_le x) h
  have h0 := h
  clear h
  have e : abc_216 x = ab00 := by unfold abc_216; rw [ab_nb h0]; rfl
  rw [e]; rfl
theorem abk_217_0 : (List.range 36).all (fun j => abChk 10 prog_13_method_82_code false (j + 0) (abc_217 (j + 0))) = true := by decide +kernel
theorem abk_217 (x : Nat) : abChk 10 prog_13_method_82_code false x (abc_217 x) = true := by
  rcases Nat.lt_or_ge x 36 with h | h
  · exact ab_rng (f := fun y => abChk 10 prog_13_method_82_code false y (abc_217 y)) abk_217_0 (Nat.zero_le x) h
  have h0 := h
  clear h
  have e : abc_217 x = ab00 := by unfold abc_217; rw [ab_nb h0]; rfl
  rw [e]; rfl
theorem abk_218_0 : (List.range 125).all (fun j => abChk 10 prog_13_method_83_code false (j + 0) (abc_218 (j + 0))) = true := by decide +kernel
theorem abk_218 (x : Nat) : abChk 10 prog_13_method_83_code false x (abc_218 x) = true := by
  rcases Nat.lt_or_ge x 125 with h | h
  · exact ab_rng (f := fun y => abChk 10 prog_13_method_83_code false y (abc_218 y)) abk_218_0 (Nat.zero_le x) h
  have h0 := h
  clear h
  have e : abc_218 x = ab00 := by unfold abc_218; rw [ab_nb h0]; rfl
  rw [e]; rfl
theorem abk_219_0 : (List.range 36).all (fun j => abChk 10 prog_13_method_84_code false (j + 0) (abc_219 (j + 0))) = true := by decide +kernel
theorem abk_219 (x : Nat) : abChk 10 prog_13_method_84_code false x (abc_219 x) = true := by
  rcases Nat.lt_or_ge x 36 with h | h
  · exact ab_rng (f := fun y => abChk 10 prog_13_method_84_code false y (abc_219 y)) abk_219_0 (Nat.zero_le x) h
  have h0 := h
  clear h
  have e : abc_219 x = ab00 := by unfold abc_219; rw [ab_nb h0]; rfl
  rw [e]; rfl
theorem abk_220_0 : (List.range 40).all (fun j => abChk 10 prog_13_method_85_code false (j + 0) (abc_220 (j + 0))) = true := by decide +kernel
theorem abk_220 (x : Nat) : abChk 10 prog_13_method_85_code false x (abc_220 x) = true := by
  rcases Nat.lt_or_ge x 40 with h | h
  · exact ab_rng (f := fun y => abChk 10 prog_13_method_85_code false y (abc_220 y)) abk_220_0 (Nat.zero_le x) h
  have h0 := h
  clear h
  have e : abc_220 x = ab00 := by unfold abc_220; rw [ab_nb h0]; rfl
  rw [e]; rfl
theorem abk_221_0 : (List.range 20).all (fun j => abChk 10 prog_13_method_86_code false (j + 0) (abc_221 (j + 0))) = true := by decide +kernel
theorem abk_221 (x : Nat) : abChk 10 prog_13_method_86_code false x (abc_221 x) = true := by
  rcases Nat.lt_or_ge x 20 with h | h
  · exact ab_rng (f := fun y => abChk 10 prog_13_method_86_code false y (abc_221 y)) abk_221_0 (Nat.zero_le x) h
  have h0 := h
  clear h
  have e : abc_221 x = ab00 := by unfold abc_221; rw [ab_nb h0]; rfl
  rw [e]; rfl
theorem abk_222_0 : (List.range 128).all (fun j => abChk 10 prog_13_method_87_code false (j + 0) (abc_222 (j + 0))) = true := by decide +kernel
theorem abk_222_1 : (List.range 12).all (fun j => abChk 10 prog_13_method_87_code false (j + 128) (abc_222 (j + 128))) = true := by decide +kernel
theorem abk_222 (x : Nat) : abChk 10 prog_13_method_87_code false x (abc_222 x) = true := by
  rcases Nat.lt_or_ge x 128 with h | h
  · exact ab_rng (f := fun y => abChk 10 prog_13_method_87_code false y (abc_222 y)) abk_222_0 (Nat.zero_le x) h
  have h0 := h
  clear h
  rcases Nat.lt_or_ge x 140 with h | h
  · exact ab_rng (f := fun y => abChk 10 prog_13_method_87_code false y (abc_222 y)) abk_222_1 h0 h
  have h0 := h
  clear h
  have e : abc_222 x = ab00 := by unfold abc_222; rw [ab_nb h0]; rfl
  rw [e]; rfl
theorem abk_223_0 : (List.range 66).all (fun j => abChk 10 prog_13_method_88_code false (j + 0) (abc_223 (j + 0))) = true := by decide +kernel
theorem abk_223 (x : Nat) : abChk 10 prog_13_method_88_code false x (abc_223 x) = true := by
  rcases Nat.lt_or_ge x 66 with h | h
  · exact ab_rng (f := fun y => abChk 10 prog_13_method_88_code false y (abc_223 y)) abk_223_0 (Nat.zero_le x) h
  have h0 := h
  clear h
  have e : abc_223 x = ab00 := by unfold abc_223; rw [ab_nb h0]; rfl
  rw [e]; rfl
theorem abk_224_0 : (List.range 18).all (fun j => abChk 10 prog_13_method_89_code false (j + 0) (abc_224 (j + 0))) = true := by decide +kernel
theorem abk_224 (x : Nat) : abChk 10 prog_13_method_89_code false x (abc_224 x) = true := by
  rcases Nat.lt_or_ge x 18 with h | h
  · exact ab_rng (f := fun y => abChk 10 prog_13_method_89_code false y (abc_224 y)) abk_224_0 (Nat.zero_le x) h
  have h0 := h
  clear h
  have e : abc_224 x = ab00 := by unfold abc_224; rw [ab_nb h0]; rfl
  rw [e]; rfl
theorem abk_225_0 : (List.range 93).all (fun j => abChk 10 prog_13_method_90_code false (j + 0) (abc_225 (j + 0))) = true := by decide +kernel
theorem abk_225 (x : Nat) : abChk 10 prog_13_method_90_code false x (abc_225 x) = true := by
  rcases Nat.lt_or_ge x 93 with h | h
  · exact ab_rng (f := fun y => abChk 10 prog_13_method_90_code false y (abc_225 y)) abk_225_0 (Nat.zero_le x) h
  have h0 := h
  clear h
  have e : abc_225 x = ab00 := by unfold abc_225; rw [ab_nb h0]; rfl
  rw [e]; rfl
theorem abk_226_0 : (List.range 39).all (fun j => abChk 10 prog_13_method_91_code false (j + 0) (abc_226 (j + 0))) = true := by decide +kernel
theorem abk_226 (x : Nat) : abChk 10 prog_13_method_91_code false x (abc_226 x) = true := by
  rcases Nat.lt_or_ge x 39 with h | h
  · exact ab_rng (f := fun y => abChk 10 prog_13_method_91_code false y (abc_226 y)) abk_226_0 (Nat.zero_le x) h
  have h0 := h
  clear h
  have e : abc_226 x = ab00 := by unfold abc_226; rw [ab_nb h0]; rfl
  rw [e]; rfl
theorem abk_227_0 : (List.range 67).all (fun j => abChk 10 prog_13_method_92_code false (j + 0) (abc_227 (j + 0))) = true := by decide +kernel
theorem abk_227 (x : Nat) : abChk 10 prog_13_method_92_code false x (abc_227 x) = true := by
  rcases Nat.lt_or_ge x 67 with h | h
  · exact ab_rng (f := fun y => abChk 10 prog_13_method_92_code false y (abc_227 y)) abk_227_0 (Nat.zero_le x) h
  have h0 := h
  clear h
  have e : abc_227 x = ab00 := by unfold abc_227; rw [ab_nb h0]; rfl
  rw [e]; rfl
theorem abk_228_0 : (List.range 35).all (fun j => abChk 10 prog_13_method_93_code false (j + 0) (abc_228 (j + 0))) = true := by decide +kernel
theorem abk_228 (x : Nat) : abChk 10 prog_13_method_93_code false x (abc_228 x) = true := by
  rcases Nat.lt_or_ge x 35 with h | h
  · exact ab_rng (f := fun y => abChk 10 prog_13_method_93_code false y (abc_228 y)) abk_228_0 (Nat.zero_le x) h
  have h0 := h
  clear h
  have e : abc_228 x = ab00 := by unfold abc_228; rw [ab_nb h0]; rfl
  rw [e]; rfl
theorem abk_229_0 : (List.range 128).all (fun j => abChk 10 prog_13_method_94_code false (j + 0) (abc_229 (j + 0))) = true := by decide +kernel
theorem abk_229_1 : (List.range 18).all (fun j => abChk 10 prog_13_method_94_code false (j + 128) (abc_229 (j + 128))) = true := by decide +kernel
theorem abk_229 (x : Nat) : abChk 10 prog_13_method_94_code false x (abc_229 x) = true := by
  rcases Nat.lt_or_ge x 128 with h | h
  · exact ab_rng (f := fun y => abChk 10 prog_13_method_94_code false y (abc_229 y)) abk_229_0 (Nat.zero_le x) h
  have h0 := h
  clear h
  rcases Nat.lt_or_ge x 146 with h | h
  · exact ab_rng (f := fun y => abChk 10 prog_13_method_94_code false y (abc_229 y)) abk_229_1 h0 h
  have h0 := h
  clear h
  have e : abc_229 x = ab00 := by unfold abc_229; rw [ab_nb h0]; rfl
  rw [e]; rfl
theorem abk_230_0 : (List.range 128).all (fun j => abChk 10 prog_13_method_95_code false (j + 0) (abc_230 (j + 0))) = true := by decide +kernel
theorem abk_230_1 : (List.range 84).all (fun j => abChk 10 prog_13_method_95_code false (j + 128) (abc_230 (j + 128))) = true := by decide +kernel
theorem abk_230 (x : Nat) : abChk 10 prog_13_method_95_code false x (abc_230 x) = true := by
  rcases Nat.lt_or_ge x 128 with h | h
  · exact ab_rng (f := fun y => abChk 10 prog_13_method_95_code false y (abc_230 y)) abk_230_0 (Nat.zero_le x) h
  have h0 := h
  clear h
  rcases Nat.lt_or_ge x 212 with h | h
  · exact ab_rng (f := fun y => abChk 10 prog_13_method_95_code false y (abc_230 y)) abk_230_1 h0 h
  have h0 := h
  clear h
  have e : abc_230 x = ab00 := by unfold abc_230; rw [ab_nb h0]; rfl
  rw [e]; rfl
theorem abk_231_0 : (List.range 23).all (fun j => abChk 10 prog_13_method_96_code false (j + 0) (abc_231 (j + 0))) = true := by decide +kernel
theorem abk_231 (x : Nat) : abChk 10 prog_13_method_96_code false x (abc_231 x) = true := by
  rcases Nat.lt_or_ge x 23 with h | h
  · exact ab_rng (f := fun y => abChk 10 prog_13_method_96_code false y (abc_231 y)) abk_231_0 (Nat.zero_le x) h
  have h0 := h
  clear h
  have e : abc_231 x = ab00 := by unfold abc_231; rw [ab_nb h0]; rfl
  rw [e]; rfl
theorem abk_232_0 : (List.range 26).all (fun j => abChk 10 prog_13_method_97_code false (j + 0) (abc_232 (j + 0))) = true := by decide +kernel
theorem abk_232 (x : Nat) : abChk 10 prog_13_method_97_code false x (abc_232 x) = true := by
  rcases Nat.lt_or_ge x 26 with h | h
  · exact ab_rng (f := fun y => abChk 10 prog_13_method_97_code false y (abc_232 y)) abk_232_0 (Nat.zero_le x) h
  have h0 := h
  clear h
  have e : abc_232 x = ab00 := by unfold abc_232; rw [ab_nb h0]; rfl
  rw [e]; rfl
theorem abk_233_0 : (List.range 41).all (fun j => abChk 10 prog_13_method_98_code false (j + 0) (abc_233 (j + 0))) = true := by decide +kernel
theorem abk_233 (x : Nat) : abChk 10 prog_13_method_98_code false x (abc_233 x) = true := by
  rcases Nat.lt_or_ge x 41 with h | h
  · exact ab_rng (f := fun y => abChk 10 prog_13_method_98_code false y (abc_233 y)) abk_233_0 (Nat.zero_le x) h
  have h0 := h
  clear h
  have e : abc_233 x = ab00 := by unfold abc_233; rw [ab_nb h0]; rfl
  rw [e]; rfl
theorem abk_234_0 : (List.range 41).all (fun j => abChk 10 prog_13_method_99_code false (j + 0) (abc_234 (j + 0))) = true := by decide +kernel
theorem abk_234 (x : Nat) : abChk 10 prog_13_method_99_code false x (abc_234 x) = true := by
  rcases Nat.lt_or_ge x 41 with h | h
  · exact ab_rng (f := fun y => abChk 10 prog_13_method_99_code false y (abc_234 y)) abk_234_0 (Nat.zero_le x) h
  have h0 := h
  clear h
  have e : abc_234 x = ab00 := by unfold abc_234; rw [ab_nb h0]; rfl
  rw [e]; rfl
theorem abk_235_0 : (List.range 70).all (fun j => abChk 10 prog_13_method_100_code false (j + 0) (abc_235 (j + 0))) = true := by decide +kernel
theorem abk_235 (x : Nat) : abChk 10 prog_13_method_100_code false x (abc_235 x) = true := by
  rcases Nat.lt_or_ge x 70 with h | h
  · exact ab_rng (f := fun y => abChk 10 prog_13_method_100_code false y (abc_235 y)) abk_235_0 (Nat.zero_le x) h
  have h0 := h
  clear h
  have e : abc_235 x = ab00 := by unfold abc_235; rw [ab_nb h0]; rfl
  rw [e]; rfl
theorem abk_236_0 : (List.range 68).all (fun j => abChk 10 prog_13_method_101_code false (j + 0) (abc_236 (j + 0))) = true := by decide +kernel
theorem abk_236 (x : Nat) : abChk 10 prog_13_method_101_code false x (abc_236 x) = true := by
  rcases Nat.lt_or_ge x 68 with h | h
  · exact ab_rng (f := fun y => abChk 10 prog_13_method_101_code false y (abc_236 y)) abk_236_0 (Nat.zero_le x) h
  have h0 := h
  clear h
  have e : abc_236 x = ab00 := by unfold abc_236; rw [ab_nb h0]; rfl
  rw [e]; rfl
theorem abk_237_0 : (List.range 43).all (fun j => abChk 10 prog_13_method_102_code false (j + 0) (abc_237 (j + 0))) = true := by decide +kernel
theorem abk_237 (x : Nat) : abChk 10 prog_13_method_102_code false x (abc_237 x) = true := by
  rcases Nat.lt_or_ge x 43 with h | h
  · exact ab_rng (f := fun y => abChk 10 prog_13_method_102_code false y (abc_237 y)) abk_237_0 (Nat.zero_le x) h
  have h0 := h
  clear h
  have e : abc_237 x = ab00 := by unfold abc_237; rw [ab_nb h0]; rfl
  rw [e]; rfl
theorem abk_238_0 : (List.range 45).all (fun j => abChk 10 prog_13_method_103_code false (j + 0) (abc_238 (j + 0))) = true := by decide +kernel
theorem abk_238 (x : Nat) : abChk 10 prog_13_method_103_code false x (abc_238 x) = true := by
  rcases Nat.lt_or_ge x 45 with h | h
  · exact ab_rng (f := fun y => abChk 10 prog_13_method_103_code false y (abc_238 y)) abk_238_0 (Nat.zero_le x) h
  have h0 := h
  clear h
  have e : abc_238 x = ab00 := by unfold abc_238; rw [ab_nb h0]; rfl
  rw [e]; rfl
theorem abk_239_0 : (List.range 19).all (fun j => abChk 10 prog_13_method_104_code false (j + 0) (abc_239 (j + 0))) = true := by decide +kernel
theorem abk_239 (x : Nat) : abChk 10 prog_13_method_104_code false x (abc_239 x) = true := by
  rcases Nat.lt_or_ge x 19 with h | h
  · exact ab_rng (f := fun y => abChk 10 prog_13_method_104_code false y (abc_239 y)) abk_239_0 (Nat.zero_le x) h
  have h0 := h
  clear h
  have e : abc_239 x = ab00 := by unfold abc_239; rw [ab_nb h0]; rfl
  rw [e]; rfl
theorem abk_240_0 : (List.range 74).all (fun j => abChk 10 prog_13_method_105_code false (j + 0) (abc_240 (j + 0))) = true := by decide +kernel
theorem abk_240 (x : Nat) : abChk 10 prog_13_method_105_code false x (abc_240 x) = true := by
  rcases Nat.lt_or_ge x 74 with h | h
  · exact ab_rng (f := fun y => abChk 10 prog_13_method_105_code false y (abc_240 y)) abk_240_0 (Nat.zero_le x) h
  have h0 := h
  clear h
  have e : abc_240 x = ab00 := by unfold abc_240; rw [ab_nb h0]; rfl
  rw [e]; rfl
theorem abk_241_0 : (List.range 42).all (fun j => abChk 10 prog_13_method_106_code false (j + 0) (abc_241 (j + 0))) = true := by decide +kernel
theorem abk_241 (x : Nat) : abChk 10 prog_13_method_106_code false x (abc_241 x) = true := by
  rcases Nat.lt_or_ge x 42 with h | h
  · exact ab_rng (f := fun y => abChk 10 prog_13_method_106_code false y (abc_241 y)) abk_241_0 (Nat.zero_le x) h
  have h0 := h
  clear h
  have e : abc_241 x = ab00 := by unfold abc_241; rw [ab_nb h0]; rfl
  rw [e]; rfl
theorem abk_242_0 : (List.range 63).all (fun j => abChk 10 prog_13_method_107_code false (j + 0) (abc_242 (j + 0))) = true := by decide +kernel
theorem abk_242 (x : Nat) : abChk 10 prog_13_method_107_code false x (abc_242 x) = true := by
  rcases Nat.lt_or_ge x 63 with h | h
  · exact ab_rng (f := fun y => abChk 10 prog_13_method_107_code false y (abc_242 y)) abk_242_0 (Nat.zero_le x) h
  have h0 := h
  clear h
  have e : abc_242 x = ab00 := by unfold abc_242; rw [ab_nb h0]; rfl
  rw [e]; rfl
theorem abk_243_0 : (List.range 78).all (fun j => abChk 10 prog_13_method_108_code false (j + 0) (abc_243 (j + 0))) = true := by decide +kernel
theorem abk_243 (x : Nat) : abChk 10 prog_13_method_108_code false x (abc_243 x) = true := by
  rcases Nat.lt_or_ge x 78 with h | h
  · exact ab_rng (f := fun y => abChk 10 prog_13_method_108_code false y (abc_243 y)) abk_243_0 (Nat.zero_le x) h
  have h0 := h
  clear h
  have e : abc_243 x = ab00 := by unfold abc_243; rw [ab_nb h0]; rfl
  rw [e]; rfl
theorem abk_244_0 : (List.range 38).all (fun j => abChk 10 prog_13_method_109_code false (j + 0) (abc_244 (j + 0))) = true := by decide +kernel
theorem abk_244 (x : Nat) : abChk 10 prog_13_method_109_code false x (abc_244 x) = true := by
  rcases Nat.lt_or_ge x 38 with h | h
  · exact ab_rng (f := fun y => abChk 10 prog_13_method_109_code false y (abc_244 y)) abk_244_0 (Nat.zero_le x) h
  have h0 := h
  clear h
  have e : abc_244 x = ab00 := by unfold abc_244; rw [ab_nb h0]; rfl
  rw [e]; rfl
theorem abk_245_0 : (List.range 65).all (fun j => abChk 10 prog_13_method_110_code false (j + 0) (abc_245 (j + 0))) = true := by decide +kernel
theorem abk_245 (x : Nat) : abChk 10 prog_13_method_110_code false x (abc_245 x) = true := by
  rcases Nat.lt_or_ge x 65 with h | h
  · exact ab_rng (f := fun y => abChk 10 prog_13_method_110_code false y (abc_245 y)) abk_245_0 (Nat.zero_le x) h
  have h0 := h
  clear h
  have e : abc_245 x = ab00 := by unfold abc_245; rw [ab_nb h0]; rfl
  rw [e]; rfl
theorem abk_246_0 : (List.range 38).all (fun j => abChk 10 prog_13_method_111_code false (j + 0) (abc_246 (j + 0))) = true := by decide +kernel
theorem abk_246 (x : Nat) : abChk 10 prog_13_method_111_code false x (abc_246 x) = true := by
  rcases Nat.lt_or_ge x 38 with h | h
  · exact ab_rng (f := fun y => abChk 10 prog_13_method_111_code false y (abc_246 y)) abk_246_0 (Nat.zero_le x) h
  have h0 := h
  clear h
  have e : abc_246 x = ab00 := by unfold abc_246; rw [ab_nb h0]; rfl
  rw [e]; rfl
theorem abk_247_0 : (List.range 38).all (fun j => abChk 10 prog_13_method_112_code false (j + 0) (abc_247 (j + 0))) = true := by decide +kernel
theorem abk_247 (x : Nat) : abChk 10 prog_13_method_112_code false x (abc_247 x) = true := by
  rcases Nat.lt_or_ge x 38 with h | h
  · exact ab_rng (f := fun y => abChk 10 prog_13_method_112_code false y (abc_247 y)) abk_247_0 (Nat.zero_le x) h
  have h0 := h
  clear h
  have e : abc_247 x = ab00 := by unfold abc_247; rw [ab_nb h0]; rfl
  rw [e]; rfl
theorem abk_248_0 : (List.range 38).all (fun j => abChk 10 prog_13_method_113_code false (j + 0) (abc_248 (j + 0))) = true := by decide +kernel
theorem abk_248 (x : Nat) : abChk 10 prog_13_method_113_code false x (abc_248 x) = true := by
  rcases Nat.lt_or_ge x 38 with h | h
  · exact ab_rng (f := fun y => abChk 10 prog_13_method_113_code false y (abc_248 y)) abk_248_0 (Nat.zero_le x) h
  have h0 := h
  clear h
  have e : abc_248 x = ab00 := by unfold abc_248; rw [ab_nb h0]; rfl
  rw [e]; rfl
theorem abk_249_0 : (List.range 70).all (fun j => abChk 10 prog_13_method_114_code false (j + 0) (abc_249 (j + 0))) = true := by decide +kernel
theorem abk_249 (x : Nat) : abChk 10 prog_13_method_114_code false x (abc_249 x) = true := by
  rcases Nat.lt_or_ge x 70 with h | h
  · exact ab_rng (f := fun y => abChk 10 prog_13_method_114_code false y (abc_249 y)) abk_249_0 (Nat.zero_le x) h
  have h0 := h
  clear h
  have e : abc_249 x = ab00 := by unfold abc_249; rw [ab_nb h0]; rfl
  rw [e]; rfl
theorem abk_250_0 : (List.range 16).all (fun j => abChk 10 prog_13_method_115_code false (j + 0) (abc_250 (j + 0))) = true := by decide +kernel
theorem abk_250 (x : Nat) : abChk 10 prog_13_method_115_code false x (abc_250 x) = true := by
  rcases Nat.lt_or_ge x 16 with h | h
  · exact ab_rng (f := fun y => abChk 10 prog_13_method_115_code false y (abc_250 y)) abk_250_0 (Nat.zero_le x) h
  have h0 := h
  clear h
  have e : abc_250 x = ab00 := by unfold abc_250; rw [ab_nb h0]; rfl
  rw [e]; rfl
theorem abk_251_0 : (List.range 48).all (fun j => abChk 10 prog_13_method_116_code false (j + 0) (abc_251 (j + 0))) = true := by decide +kernel
theorem abk_251 (x : Nat) : abChk 10 prog_13_method_116_code false x (abc_251 x) = true := by
  rcases Nat.lt_or_ge x 48 with h | h
  · exact ab_rng (f := fun y => abChk 10 prog_13_method_116_code false y (abc_251 y)) abk_251_0 (Nat.zero_le x) h
  have h0 := h
  clear h
  have e : abc_251 x = ab00 := by unfold abc_251; rw [ab_nb h0]; rfl
  rw [e]; rfl
theorem abk_252_0 : (List.range 38).all (fun j => abChk 10 prog_13_method_117_code false (j + 0) (abc_252 (j + 0))) = true := by decide +kernel
theorem abk_252 (x : Nat) : abChk 10 prog_13_method_117_code false x (abc_252 x) = true := by
  rcases Nat.lt_or_ge x 38 with h | h
  · exact ab_rng (f := fun y => abChk 10 prog_13_method_117_code false y (abc_252 y)) abk_252_0 (Nat.zero_le x) h
  have h0 := h
  clear h
  have e : abc_252 x = ab00 := by unfold abc_252; rw [ab_nb h0]; rfl
  rw [e]; rfl
theorem abk_253_0 : (List.range 63).all (fun j => abChk 10 prog_13_method_118_code false (j + 0) (abc_253 (j + 0))) = true := by decide +kernel
theorem abk_253 (x : Nat) : abChk 10 prog_13_method_118_code false x (abc_253 x) = true := by
  rcases Nat.lt_or_ge x 63 with h | h
  · exact ab_rng (f := fun y => abChk 10 prog_13_method_118_code false y (abc_253 y)) abk_253_0 (Nat.zero_le x) h
  have h0 := h
  clear h
  have e : abc_253 x = ab00 := by unfold abc_253; rw [ab_nb h0]; rfl
  rw [e]; rfl
theorem abk_254_0 : (List.range 40).all (fun j => abChk 10 prog_13_method_119_code false (j + 0) (abc_254 (j + 0))) = true := by decide +kernel
theorem abk_254 (x : Nat) : abChk 10 prog_13_method_119_code false x (abc_254 x) = true := by
  rcases Nat.lt_or_ge x 40 with h | h
  · exact ab_rng (f := fun y => abChk 10 prog_13_method_119_code false y (abc_254 y)) abk_254_0 (Nat.zero_le x) h
  have h0 := h
  clear h
  have e : abc_254 x = ab00 := by unfold abc_254; rw [ab_nb h0]; rfl
  rw [e]; rfl
theorem abk_255_0 : (List.range 52).all (fun j => abChk 10 prog_13_method_120_code false (j + 0) (abc_255 (j + 0))) = true := by decide +kernel
theorem abk_255 (x : Nat) : abChk 10 prog_13_method_120_code false x (abc_255 x) = true := by
  rcases Nat.lt_or_ge x 52 with h | h
  · exact ab_rng (f := fun y => abChk 10 prog_13_method_120_code false y (abc_255 y)) abk_255_0 (Nat.zero_le x) h
  have h0 := h
  clear h
  have e : abc_255 x = ab00 := by unfold abc_255; rw [ab_nb h0]; rfl
  rw [e]; rfl
theorem abk_256_0 : (List.range 43).all (fun j => abChk 10 prog_13_method_121_code false (j + 0) (abc_256 (j + 0))) = true := by decide +kernel
theorem abk_256 (x : Nat) : abChk 10 prog_13_method_121_code false x (abc_256 x) = true := by
  rcases Nat.lt_or_ge x 43 with h | h
  · exact ab_rng (f := fun y => abChk 10 prog_13_method_121_code false y (abc_256 y)) abk_256_0 (Nat.zero_le x) h
  have h0 := h
  clear h
  have e : abc_256 x = ab00 := by unfold abc_256; rw [ab_nb h0]; rfl
  rw [e]; rfl
theorem abk_257_0 : (List.range 47).all (fun j => abChk 10 prog_13_method_122_code false (j + 0) (abc_257 (j + 0))) = true := by decide +kernel
theorem abk_257 (x : Nat) : abChk 10 prog_13_method_122_code false x (abc_257 x) = true := by
  rcases Nat.lt_or_ge x 47 with h | h
  · exact ab_rng (f := fun y => abChk 10 prog_13_method_122_code false y (abc_257 y)) abk_257_0 (Nat.zero_le x) h
  have h0 := h
  clear h
  have e : abc_257 x = ab00 := by unfold abc_257; rw [ab_nb h0]; rfl
  rw [e]; rfl
theorem abk_258_0 : (List.range 76).all (fun j => abChk 10 prog_13_method_123_code false (j + 0) (abc_258 (j + 0))) = true := by decide +kernel
theorem abk_258 (x : Nat) : abChk 10 prog_13_method_123_code false x (abc_258 x) = true := by
  rcases Nat.lt_or_ge x 76 with h | h
  · exact ab_rng (f := fun y => abChk 10 prog_13_method_123_code false y (abc_258 y)) abk_258_0 (Nat.zero_le x) h
  have h0 := h
  clear h
  have e : abc_258 x = ab00 := by unfold abc_258; rw [ab_nb h0]; rfl
  rw [e]; rfl
theorem abk_259_0 : (List.range 95).all (fun j => abChk 10 prog_13_method_124_code false (j + 0) (abc_259 (j + 0))) = true := by decide +kernel
theorem abk_259 (x : Nat) : abChk 10 prog_13_method_124_code false x (abc_259 x) = true := by
  rcases Nat.lt_or_ge x 95 with h | h
  · exact ab_rng (f := fun y => abChk 10 prog_13_method_124_code false y (abc_259 y)) abk_259_0 (Nat.zero_le x) h
  have h0 := h
  clear h
  have e : abc_259 x = ab00 := by unfold abc_259; rw [ab_nb h0]; rfl
  rw [e]; rfl
theorem abk_260_0 : (List.range 100).all (fun j => abChk 10 prog_13_method_125_code false (j + 0) (abc_260 (j + 0))) = true := by decide +kernel
theorem abk_260 (x : Nat) : abChk 10 prog_13_method_125_code false x (abc_260 x) = true := by
  rcases Nat.lt_or_ge x 100 with h | h
  · exact ab_rng (f := fun y => abChk 10 prog_13_method_125_code false y (abc_260 y)) abk_260_0 (Nat.zero_le x) h
  have h0 := h
  clear h
  have e : abc_260 x = ab00 := by unfold abc_260; rw [ab_nb h0]; rfl
  rw [e]; rfl
theorem abk_261_0 : (List.range 54).all (fun j => abChk 10 prog_13_method_126_code false (j + 0) (abc_261 (j + 0))) = true := by decide +kernel
theorem abk_261 (x : Nat) : abChk 10 prog_13_method_126_code false x (abc_261 x) = true := by
  rcases Nat.lt_or_ge x 54 with h | h
  · exact ab_rng (f := fun y => abChk 10 prog_13_method_126_code false y (abc_261 y)) abk_261_0 (Nat.zero_le x) h
  have h0 := h
  clear h
  have e : abc_261 x = ab00 := by unfold abc_261; rw [ab_nb h0]; rfl
  rw [e]; rfl
theorem abk_262_0 : (List.range 128).all (fun j => abChk 10 prog_13_method_127_code false (j + 0) (abc_262 (j + 0))) = true := by decide +kernel
theorem abk_262_1 : (List.range 9).all (fun j => abChk 10 prog_13_method_127_code false (j + 128) (abc_262 (j + 128))) = true := by decide +kernel
theorem abk_262 (x : Nat) : abChk 10 prog_13_method_127_code false x (abc_262 x) = true := by
  rcases Nat.lt_or_ge x 128 with h | h
  · exact ab_rng (f := fun y => abChk 10 prog_13_method_127_code false y (abc_262 y)) abk_262_0 (Nat.zero_le x) h
  have h0 := h
  clear h
  rcases Nat.lt_or_ge x 137 with h | h
  · exact ab_rng (f := fun y => abChk 10 prog_13_method_127_code false y (abc_262 y)) abk_262_1 h0 h
  have h0 := h
  clear h
  have e : abc_262 x = ab00 := by unfold abc_262; rw [ab_nb h0]; rfl
  rw [e]; rfl
theorem abk_263_0 : (List.range 128).all (fun j => abChk 10 prog_13_method_128_code false (j + 0) (abc_263 (j + 0))) = true := by decide +kernel
theorem abk_263_1 : (List.range 30).all (fun j => abChk 10 prog_13_method_128_code false (j + 128) (abc_263 (j + 128))) = true := by decide +kernel
theorem abk_263 (x : Nat) : abChk 10 prog_13_method_128_code false x (abc_263 x) = true := by
  rcases Nat.lt_or_ge x 128 with h | h
  · exact ab_rng (f := fun y => abChk 10 prog_13_method_128_code false y (abc_263 y)) abk_263_0 (Nat.zero_le x) h
  have h0 := h
  clear h
  rcases Nat.lt_or_ge x 158 with h | h
  · exact ab_rng (f := fun y => abChk 10 prog_13_method_128_code false y (abc_263 y)) abk_263_1 h0 h
  have h0 := h
  clear h
  have e : abc_263 x = ab00 := by unfold abc_263; rw [ab_nb h0]; rfl
  rw [e]; rfl
theorem abk_264_0 : (List.range 43).all (fun j => abChk 10 prog_13_method_129_code false (j + 0) (abc_264 (j + 0))) = true := by decide +kernel
theorem abk_264 (x : Nat) : abChk 10 prog_13_method_129_code false x (abc_264 x) = true := by
  rcases Nat.lt_or_ge x 43 with h | h
  · exact ab_rng (f := fun y => abChk 10 prog_13_method_129_code false y (abc_264 y)) abk_264_0 (Nat.zero_le x) h
  have h0 := h
  clear h
  have e : abc_264 x = ab00 := by unfold abc_264; rw [ab_nb h0]; rfl
  rw [e]; rfl
theorem abk_265_0 : (List.range 81).all (fun j => abChk 10 prog_13_method_130_code false (j + 0) (abc_265 (j + 0))) = true := by decide +kernel
theorem abk_265 (x : Nat) : abChk 10 prog_13_method_130_code false x (abc_265 x) = true := by
  rcases Nat.lt_or_ge x 81 with h | h
  · exact ab_rng (f := fun y => abChk 10 prog_13_method_130_code false y (abc_265 y)) abk_265_0 (Nat.zero_le x) h
  have h0 := h
  clear h
  have e : abc_265 x = ab00 := by unfold abc_265; rw [ab_nb h0]; rfl
  rw [e]; rfl
theorem abk_266_0 : (List.range 35).all (fun j => abChk 10 prog_13_method_131_code false (j + 0) (abc_266 (j + 0))) = true := by decide +kernel
theorem abk_266 (x : Nat) : abChk 10 prog_13_method_131_code false x (abc_266 x) = true := by
  rcases Nat.lt_or_ge x 35 with h | h
  · exact ab_rng (f := fun y => abChk 10 prog_13_method_131_code false y (abc_266 y)) abk_266_0 (Nat.zero_le x) h
  have h0 := h
  clear h
  have e : abc_266 x = ab00 := by unfold abc_266; rw [ab_nb h0]; rfl
  rw [e]; rfl
theorem abk_267_0 : (List.range 42).all (fun j => abChk 10 prog_13_method_132_code false (j + 0) (abc_267 (j + 0))) = true := by decide +kernel
theorem abk_267 (x : Nat) : abChk 10 prog_13_method_132_code false x (abc_267 x) = true := by
  rcases Nat.lt_or_ge x 42 with h | h
  · exact ab_rng (f := fun y => abChk 10 prog_13_method_132_code false y (abc_267 y)) abk_267_0 (Nat.zero_le x) h
  have h0 := h
  clear h
  have e : abc_267 x = ab00 := by unfold abc_267; rw [ab_nb h0]; rfl
  rw [e]; rfl
theorem abk_268_0 : (List.range 48).all (fun j => abChk 10 prog_13_method_133_code false (j + 0) (abc_268 (j + 0))) = true := by decide +kernel
theorem abk_268 (x : Nat) : abChk 10 prog_13_method_133_code false x (abc_268 x) = true := by
  rcases Nat.lt_or_ge x 48 with h | h
  · exact ab_rng (f := fun y => abChk 10 prog_13_method_133_code false y (abc_268 y)) abk_268_0 (Nat.zero_le x) h
  have h0 := h
  clear h
  have e : abc_268 x = ab00 := by unfold abc_268; rw [ab_nb h0]; rfl
  rw [e]; rfl
theorem abk_269_0 : (List.range 48).all (fun j => abChk 10 prog_13_method_134_code false (j + 0) (abc_269 (j + 0))) = true := by decide +kernel
theorem abk_269 (x : Nat) : abChk 10 prog_13_method_134_code false x (abc_269 x) = true := by
  rcases Nat.lt_or_ge x 48 with h | h
  · exact ab_rng (f := fun y => abChk 10 prog_13_method_134_code false y (abc_269 y)) abk_269_0 (Nat.zero_le x) h
  have h0 := h
  clear h
  have e : abc_269 x = ab00 := by unfold abc_269; rw [ab_nb h0]; rfl
  rw [e]; rfl
theorem abk_270_0 : (List.range 97).all (fun j => abChk 10 prog_13_method_135_code false (j + 0) (abc_270 (j + 0))) = true := by decide +kernel
theorem abk_270 (x : Nat) : abChk 10 prog_13_method_135_code false x (abc_270 x) = true := by
  rcases Nat.lt_or_ge x 97 with h | h
  · exact ab_rng (f := fun y => abChk 10 prog_13_method_135_code false y (abc_270 y)) abk_270_0 (Nat.zero_le x) h
  have h0 := h
  clear h
  have e : abc_270 x = ab00 := by unfold abc_270; rw [ab_nb h0]; rfl
  rw [e]; rfl
theorem abk_271_0 : (List.range 35).all (fun j => abChk 11 prog_8_method_2_code false (j + 0) (abc_271 (j + 0))) = true := by decide +kernel
theorem abk_271 (x : Nat) : abChk 11 prog_8_method_2_code false x (abc_271 x) = true := by
  rcases Nat.lt_or_ge x 35 with h | h
  · exact ab_rng (f := fun y => abChk 11 prog_8_method_2_code false y (abc_271 y)) abk_271_0 (Nat.zero_le x) h
  have h0 := h
  clear h
  have e : abc_271 x = ab00 := by unfold abc_271; rw [ab_nb h0]; rfl
  rw [e]; rfl
theorem abk_272_0 : (List.range 41).all (fun j => abChk 11 prog_8_method_3_code false (j + 0) (abc_272 (j + 0))) = true := by decide +kernel
theorem abk_272 (x : Nat) : abChk 11 prog_8_method_3_code false x (abc_272 x) = true := by
  rcases Nat.lt_or_ge x 41 with h | h
  · exact ab_rng (f := fun y => abChk 11 prog_8_method_3_code false y (abc_272 y)) abk_272_0 (Nat.zero_le x) h
  have h0 := h
  clear h
  have e : abc_272 x = ab00 := by unfold abc_272; rw [ab_nb h0]; rfl
  rw [e]; rfl
theorem abk_273_0 : (List.range 26).all (fun j => abChk 11 prog_8_method_4_code false (j + 0) (abc_273 (j + 0))) = true := by decide +kernel
theorem abk_273 (x : Nat) : abChk 11 prog_8_method_4_code false x (abc_273 x) = true := by
  rcases Nat.lt_or_ge x 26 with h | h
  · exact ab_rng (f := fun y => abChk 11 prog_8_method_4_code false y (abc_273 y)) abk_273_0 (Nat.zero_le x) h
  have h0 := h
  clear h
  have e : abc_273 x = ab00 := by unfold abc_273; rw [ab_nb h0]; rfl
  rw [e]; rfl
theorem abk_274_0 : (List.range 73).all (fun j => abChk 11 prog_8_method_5_code false (j + 0) (abc_274 (j + 0))) = true := by decide +kernel
theorem abk_274 (x : Nat) : abChk 11 prog_8_method_5_code false x (abc_274 x) = true := by
  rcases Nat.lt_or_ge x 73 with h | h
  · exact ab_rng (f := fun y => abChk 11 prog_8_method_5_code false y (abc_274 y)) abk_274_0 (Nat.zero_le x) h
  have h0 := h
  clear h
  have e : abc_274 x = ab00 := by unfold abc_274; rw [ab_nb h0]; rfl
  rw [e]; rfl
theorem abk_275_0 : (List.range 50).all (fun j => abChk 11 prog_8_method_6_code false (j + 0) (abc_275 (j + 0))) = true := by decide +kernel
theorem abk_275 (x : Nat) : abChk 11 prog_8_method_6_code false x (abc_275 x) = true := by
  rcases Nat.lt_or_ge x 50 with h | h
  · exact ab_rng (f := fun y => abChk 11 prog_8_method_6_code false y (abc_275 y)) abk_275_0 (Nat.zero_le x) h
  have h0 := h
  clear h
  have e : abc_275 x = ab00 := by unfold abc_275; rw [ab_nb h0]; rfl
  rw [e]; rfl
theorem abk_276_0 : (List.range 25).all (fun j => abChk 11 prog_8_method_7_code false (j + 0) (abc_276 (j + 0))) = true := by decide +kernel
theorem abk_276 (x : Nat) : abChk 11 prog_8_method_7_code false x (abc_276 x) = true := by
  rcases Nat.lt_or_ge x 25 with h | h
  · exact ab_rng (f := fun y => abChk 11 prog_8_method_7_code false y (abc_276 y)) abk_276_0 (Nat.zero_le x) h
  have h0 := h
  clear h
  have e : abc_276 x = ab00 := by unfold abc_276; rw [ab_nb h0]; rfl
  rw [e]; rfl
theorem abk_277_0 : (List.range 33).all (fun j => abChk 11 prog_8_method_8_code false (j + 0) (abc_277 (j + 0))) = true := by decide +kernel
theorem abk_277 (x : Nat) : abChk 11 prog_8_method_8_code false x (abc_277 x) = true := by
  rcases Nat.lt_or_ge x 33 with h | h
  · exact ab_rng (f := fun y => abChk 11 prog_8_method_8_code false y (abc_277 y)) abk_277_0 (Nat.zero_le x) h
  have h0 := h
  clear h
  have e : abc_277 x = ab00 := by unfold abc_277; rw [ab_nb h0]; rfl
  rw [e]; rfl
theorem abk_278_0 : (List.range 25).all (fun j => abChk 11 prog_8_method_9_code false (j + 0) (abc_278 (j + 0))) = true := by decide +kernel
theorem abk_278 (x : Nat) : abChk 11 prog_8_method_9_code false x (abc_278 x) = true := by
  rcases Nat.lt_or_ge x 25 with h | h
  · exact ab_rng (f := fun y => abChk 11 prog_8_method_9_code false y (abc_278 y)) abk_278_0 (Nat.zero_le x) h
  have h0 := h
  clear h
  have e : abc_278 x = ab00 := by unfold abc_278; rw [ab_nb h0]; rfl
  rw [e]; rfl
theorem abk_279_0 : (List.range 24).all (fun j => abChk 11 prog_8_method_10_code false (j + 0) (abc_279 (j + 0))) = true := by decide +kernel
theorem abk_279 (x : Nat) : abChk 11 prog_8_method_10_code false x (abc_279 x) = true := by
  rcases Nat.lt_or_ge x 24 with h | h
  · exact ab_rng (f := fun y => abChk 11 prog_8_method_10_code false y (abc_279 y)) abk_279_0 (Nat.zero_le x) h
  have h0 := h
  clear h
  have e : abc_279 x = ab00 := by unfold abc_279; rw [ab_nb h0]; rfl
  rw [e]; rfl
theorem abk_280_0 : (List.range 35).all (fun j => abChk 11 prog_8_method_11_code false (j + 0) (abc_280 (j + 0))) = true := by decide +kernel
theorem abk_280 (x : Nat) : abChk 11 prog_8_method_11_code false x (abc_280 x) = true := by
  rcases Nat.lt_or_ge x 35 with h | h
  · exact ab_rng (f := fun y => abChk 11 prog_8_method_11_code false y (abc_280 y)) abk_280_0 (Nat.zero_le x) h
  have h0 := h
  clear h
  have e : abc_280 x = ab00 := by unfold abc_280; rw [ab_nb h0]; rfl
  rw [e]; rfl
theorem abk_281_0 : (List.range 74).all (fun j => abChk 11 prog_8_method_12_code false (j + 0) (abc_281 (j + 0))) = true := by decide +kernel
theorem abk_281 (x : Nat) : abChk 11 prog_8_method_12_code false x (abc_281 x) = true := by
  rcases Nat.lt_or_ge x 74 with h | h
  · exact ab_rng (f := fun y => abChk 11 prog_8_method_12_code false y (abc_281 y)) abk_281_0 (Nat.zero_le x) h
  have h0 := h
  clear h
  have e : abc_281 x = ab00 := by unfold abc_281; rw [ab_nb h0]; rfl
  rw [e]; rfl
theorem abk_282_0 : (List.range 39).all (fun j => abChk 11 prog_8_method_13_code false (j + 0) (abc_282 (j + 0))) = true := by decide +kernel
theorem abk_282 (x : Nat) : abChk 11 prog_8_method_13_code false x (abc_282 x) = true := by
  rcases Nat.lt_or_ge x 39 with h | h
  · exact ab_rng (f := fun y => abChk 11 prog_8_method_13_code false y (abc_282 y)) abk_282_0 (Nat.zero_le x) h
  have h0 := h
  clear h
  have e : abc_282 x = ab00 := by unfold abc_282; rw [ab_nb h0]; rfl
  rw [e]; rfl
theorem abk_283_0 : (List.range 61).all (fun j => abChk 13 prog_14_method_50_code false (j + 0) (abc_283 (j + 0))) = true := by decide +kernel
theorem abk_283 (x : Nat) : abChk 13 prog_14_method_50_code false x (abc_283 x) = true := by
  rcases Nat.lt_or_ge x 61 with h | h
  · exact ab_rng (f := fun y => abChk 13 prog_14_method_50_code false y (abc_283 y)) abk_283_0 (Nat.zero_le x) h
  have h0 := h
  clear h
  have e : abc_283 x = ab00 := by unfold abc_283; rw [ab_nb h0]; rfl
  rw [e]; rfl
theorem abk_284_0 : (List.range 11).all (fun j => abChk 15 prog_16_method_54_code false (j + 0) (abc_284 (j + 0))) = true := by decide +kernel
theorem abk_284 (x : Nat) : abChk 15 prog_16_method_54_code false x (abc_284 x) = true := by
  rcases Nat.lt_or_ge x 11 with h | h
  · exact ab_rng (f := fun y => abChk 15 prog_16_method_54_code false y (abc_284 y)) abk_284_0 (Nat.zero_le x) h
  have h0 := h
  clear h
  have e : abc_284 x = ab00 := by unfold abc_284; rw [ab_nb h0]; rfl
  rw [e]; rfl
theorem abk_285_0 : (List.range 25).all (fun j => abChk 15 prog_16_method_56_code false (j + 0) (abc_285 (j + 0))) = true := by decide +kernel
theorem abk_285 (x : Nat) : abChk 15 prog_16_method_56_code false x (abc_285 x) = true := by
  rcases Nat.lt_or_ge x 25 with h | h
  · exact ab_rng (f := fun y => abChk 15 prog_16_method_56_code false y (abc_285 y)) abk_285_0 (Nat.zero_le x) h
  have h0 := h
  clear h
  have e : abc_285 x = ab00 := by unfold abc_285; rw [ab_nb h0]; rfl
  rw [e]; rfl
theorem abk_286_0 : (List.range 15).all (fun j => abChk 15 prog_16_method_152_code false (j + 0) (abc_286 (j + 0))) = true := by decide +kernel
theorem abk_286 (x : Nat) : abChk 15 prog_16_method_152_code false x (abc_286 x) = true := by
  rcases Nat.lt_or_ge x 15 with h | h
  · exact ab_rng (f := fun y => abChk 15 prog_16_method_152_code false y (abc_286 y)) abk_286_0 (Nat.zero_le x) h
  have h0 := h
  clear h
  have e : abc_286 x = ab00 := by unfold abc_286; rw [ab_nb h0]; rfl
  rw [e]; rfl
theorem abk_287_0 : (List.range 19).all (fun j => abChk 15 prog_16_method_154_code false (j + 0) (abc_287 (j + 0))) = true := by decide +kernel
theorem abk_287 (x : Nat) : abChk 15 prog_16_method_154_code false x (abc_287 x) = true := by
  rcases Nat.lt_or_ge x 19 with h | h
  · exact ab_rng (f := fun y => abChk 15 prog_16_method_154_code false y (abc_287 y)) abk_287_0 (Nat.zero_le x) h
  have h0 := h
  clear h
  have e : abc_287 x = ab00 := by unfold abc_287; rw [ab_nb h0]; rfl
  rw [e]; rfl
theorem abk_288_0 : (List.range 10).all (fun j => abChk 15 prog_16_method_155_code false (j + 0) (abc_288 (j + 0))) = true := by decide +kernel
theorem abk_288 (x : Nat) : abChk 15 prog_16_method_155_code false x (abc_288 x) = true := by
  rcases Nat.lt_or_ge x 10 with h | h
  · exact ab_rng (f := fun y => abChk 15 prog_16_method_155_code false y (abc_288 y)) abk_288_0 (Nat.zero_le x) h
  have h0 := h
  clear h
  have e : abc_288 x = ab00 := by unfold abc_288; rw [ab_nb h0]; rfl
  rw [e]; rfl
theorem abk_289_0 : (List.range 15).all (fun j => abChk 16 prog_17_method_2_code false (j + 0) (abc_289 (j + 0))) = true := by decide +kernel
theorem abk_289 (x : Nat) : abChk 16 prog_17_method_2_code false x (abc_289 x) = true := by
  rcases Nat.lt_or_ge x 15 with h | h
  · exact ab_rng (f := fun y => abChk 16 prog_17_method_2_code false y (abc_289 y)) abk_289_0 (Nat.zero_le x) h
  have h0 := h
  clear h
  have e : abc_289 x = ab00 := by unfold abc_289; rw [ab_nb h0]; rfl
  rw [e]; rfl
theorem abk_290_0 : (List.range 60).all (fun j => abChk 17 prog_18_method_5_code false (j + 0) (abc_290 (j + 0))) = true := by decide +kernel
theorem abk_290 (x : Nat) : abChk 17 prog_18_method_5_code false x (abc_290 x) = true := by
  rcases Nat.lt_or_ge x 60 with h | h
  · exact ab_rng (f := fun y => abChk 17 prog_18_method_5_code false y (abc_290 y)) abk_290_0 (Nat.zero_le x) h
  have h0 := h
  clear h
  have e : abc_290 x = ab00 := by unfold abc_290; rw [ab_nb h0]; rfl
  rw [e]; rfl
theorem abk_291_0 : (List.range 5).all (fun j => abChk 17 prog_18_method_6_code false (j + 0) (abc_291 (j + 0))) = true := by decide +kernel
theorem abk_291 (x : Nat) : abChk 17 prog_18_method_6_code false x (abc_291 x) = true := by
  rcases Nat.lt_or_ge x 5 with h | h
  · exact ab_rng (f := fun y => abChk 17 prog_18_method_6_code false y (abc_291 y)) abk_291_0 (Nat.zero_le x) h
  have h0 := h
  clear h
  have e : abc_291 x = ab00 := by unfold abc_291; rw [ab_nb h0]; rfl
  rw [e]; rfl
theorem abk_292_0 : (List.range 11).all (fun j => abChk 17 prog_18_method_83_code false (j + 0) (abc_292 (j + 0))) = true := by decide +kernel
theorem abk_292 (x : Nat) : abChk 17 prog_18_method_83_code false x (abc_292 x) = true := by
  rcases Nat.lt_or_ge x 11 with h | h
  · exact ab_rng (f := fun y => abChk 17 prog_18_method_83_code false y (abc_292 y)) abk_292_0 (Nat.zero_le x) h
  have h0 := h
  clear h
  have e : abc_292 x = ab00 := by unfold abc_292; rw [ab_nb h0]; rfl
  rw [e]; rfl
theorem abk_293_0 : (List.range 9).all (fun j => abChk 17 prog_18_method_91_code false (j + 0) (abc_293 (j + 0))) = true := by decide +kernel
theorem abk_293 (x : Nat) : abChk 17 prog_18_method_91_code false x (abc_293 x) = true := by
  rcases Nat.lt_or_ge x 9 with h | h
  · exact ab_rng (f := fun y => abChk 17 prog_18_method_91_code false y (abc_293 y)) abk_293_0 (Nat.zero_le x) h
  have h0 := h
  clear h
  have e : abc_293 x = ab00 := by unfold abc_293; rw [ab_nb h0]; rfl
  rw [e]; rfl
theorem abk_294_0 : (List.range 23).all (fun j => abChk 19 prog_20_method_101_code false (j + 0) (abc_294 (j + 0))) = true := by decide +kernel
theorem abk_294 (x : Nat) : abChk 19 prog_20_method_101_code false x (abc_294 x) = true := by
  rcases Nat.lt_or_ge x 23 with h | h
  · exact ab_rng (f := fun y => abChk 19 prog_20_method_101_code false y (abc_294 y)) abk_294_0 (Nat.zero_le x) h
  have h0 := h
  clear h
  have e : abc_294 x = ab00 := by unfold abc_294; rw [ab_nb h0]; rfl
  rw [e]; rfl
theorem abk_295_0 : (List.range 21).all (fun j => abChk 19 prog_20_method_103_code false (j + 0) (abc_295 (j + 0))) = true := by decide +kernel
theorem abk_295 (x : Nat) : abChk 19 prog_20_method_103_code false x (abc_295 x) = true := by
  rcases Nat.lt_or_ge x 21 with h | h
  · exact ab_rng (f := fun y => abChk 19 prog_20_method_103_code false y (abc_295 y)) abk_295_0 (Nat.zero_le x) h
  have h0 := h
  clear h
  have e : abc_295 x = ab00 := by unfold abc_295; rw [ab_nb h0]; rfl
  rw [e]; rfl
theorem abk_296_0 : (List.range 18).all (fun j => abChk 20 prog_21_method_11_code false (j + 0) (abc_296 (j + 0))) = true := by decide +kernel
theorem abk_296 (x : Nat) : abChk 20 prog_21_method_11_code false x (abc_296 x) = true := by
  rcases Nat.lt_or_ge x 18 with h | h
  · exact ab_rng (f := fun y => abChk 20 prog_21_method_11_code false y (abc_296 y)) abk_296_0 (Nat.zero_le x) h
  have h0 := h
  clear h
  have e : abc_296 x = ab00 := by unfold abc_296; rw [ab_nb h0]; rfl
  rw [e]; rfl
theorem abk_297_0 : (List.range 128).all (fun j => abChk 12 code false (j + 0) (abc_297 (j + 0))) = true := by decide +kernel
theorem abk_297_1 : (List.range 128).all (fun j => abChk 12 code false (j + 128) (abc_297 (j + 128))) = true := by decide +kernel
theorem abk_297_2 : (List.range 128).all (fun j => abChk 12 code false (j + 256) (abc_297 (j + 256))) = true := by decide +kernel
theorem abk_297_3 : (List.range 128).all (fun j => abChk 12 code false (j + 384) (abc_297 (j + 384))) = true := by decide +kernel
theorem abk_297_4 : (List.range 128).all (fun j => abChk 12 code false (j + 512) (abc_297 (j + 512))) = true := by decide +kernel
theorem abk_297_5 : (List.range 128).all (fun j => abChk 12 code false (j + 640) (abc_297 (j + 640))) = true := by decide +kernel
theorem abk_297_6 : (List.range 128).all (fun j => abChk 12 code false (j + 768) (abc_297 (j + 768))) = true := by decide +kernel
theorem abk_297_7 : (List.range 128).all (fun j => abChk 12 code false (j + 896) (abc_297 (j + 896))) = true := by decide +kernel
theorem abk_297_8 : (List.range 128).all (fun j => abChk 12 code false (j + 1024) (abc_297 (j + 1024))) = true := by decide +kernel
theorem abk_297_9 : (List.range 128).all (fun j => abChk 12 code false (j + 1152) (abc_297 (j + 1152))) = true := by decide +kernel
theorem abk_297_10 : (List.range 128).all (fun j => abChk 12 code false (j + 1280) (abc_297 (j + 1280))) = true := by decide +kernel
theorem abk_297_11 : (List.range 85).all (fun j => abChk 12 code false (j + 1408) (abc_297 (j + 1408))) = true := by decide +kernel
theorem abk_297 (x : Nat) : abChk 12 code false x (abc_297 x) = true := by
  rcases Nat.lt_or_ge x 128 with h | h
  · exact ab_rng (f := fun y => abChk 12 code false y (abc_297 y)) abk_297_0 (Nat.zero_le x) h
  have h0 := h
  clear h
  rcases Nat.lt_or_ge x 256 with h | h
  · exact ab_rng (f := fun y => abChk 12 code false y (abc_297 y)) abk_297_1 h0 h
  have h0 := h
  clear h
  rcases Nat.lt_or_ge x 384 with h | h
  · exact ab_rng (f := fun y => abChk 12 code false y (abc_297 y)) abk_297_2 h0 h
  have h0 := h
  clear h
  rcases Nat.lt_or_ge x 512 with h | h
  · exact ab_rng (f := fun y => abChk 12 code false y (abc_297 y)) abk_297_3 h0 h
  have h0 := h
  clear h
  rcases Nat.lt_or_ge x 640 with h | h
  · exact ab_rng (f := fun y => abChk 12 code false y (abc_297 y)) abk_297_4 h0 h
  have h0 := h
  clear h
  rcases Nat.lt_or_ge x 768 with h | h
  · exact ab_rng (f := fun y => abChk 12 code false y (abc_297 y)) abk_297_5 h0 h
  have h0 := h
  clear h
  rcases Nat.lt_or_ge x 896 with h | h
  · exact ab_rng (f := fun y => abChk 12 code false y (abc_297 y)) abk_297_6 h0 h
  have h0 := h
  clear h
  rcases Nat.lt_or_ge x 1024 with h | h
  · exact ab_rng (f := fun y => abChk 12 code false y (abc_297 y)) abk_297_7 h0 h
  have h0 := h
  clear h
  rcases Nat.lt_or_ge x 1152 with h | h
  · exact ab_rng (f := fun y => abChk 12 code false y (abc_297 y)) abk_297_8 h0 h
  have h0 := h
  clear h
  rcases Nat.lt_or_ge x 1280 with h | h
  · exact ab_rng (f := fun y => abChk 12 code false y (abc_297 y)) abk_297_9 h0 h
  have h0 := h
  clear h
  rcases Nat.lt_or_ge x 1408 with h | h
  · exact ab_rng (f := fun y => abChk 12 code false y (abc_297 y)) abk_297_10 h0 h
  have h0 := h
  clear h
  rcases Nat.lt_or_ge x 1493 with h | h
  · exact ab_rng (f := fun y => abChk 12 code false y (abc_297 y)) abk_297_11 h0 h
  have h0 := h
  clear h
  have e : abc_297 x = ab00 := by unfold abc_297; rw [ab_nb h0]; rfl
  rw [e]; rfl
