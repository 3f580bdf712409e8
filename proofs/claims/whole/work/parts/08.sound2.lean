set_option maxRecDepth 20000 in
theorem abws_0 : ∀ k, k < 4 → u_lay "CelSheet$Album" abT0 k ∈ abTb := fun k hk => match k, hk with
  | 0, _ => abTb_mem (ab_t1 (List.mem_of_getElem? (i := 196) rfl)) rfl
  | 1, _ => abTb_mem (ab_t1 (List.mem_of_getElem? (i := 198) rfl)) rfl
  | 2, _ => abTb_mem (ab_t1 (List.mem_of_getElem? (i := 200) rfl)) rfl
  | 3, _ => abTb_mem (ab_t1 (List.mem_of_getElem? (i := 202) rfl)) rfl
  | (j + 4), h => absurd h (by omega)
theorem abcl_0 : Cond.instantiable "CelSheet$Album" 4 ∈ lw_tbl ∧ Cond.initialized "CelSheet$Album" ∈ lw_tbl := ⟨(ab_t1 (List.mem_of_getElem? (i := 185) rfl)), (ab_t1 (List.mem_of_getElem? (i := 8) rfl))⟩
set_option maxRecDepth 20000 in
theorem abws_1 : ∀ k, k < 8 → u_lay "CelSheet$Camera" abT1 k ∈ abTb := fun k hk => match k, hk with
  | 0, _ => abTb_mem (ab_t1 (List.mem_of_getElem? (i := 214) rfl)) rfl
  | 1, _ => abTb_mem (ab_t1 (List.mem_of_getElem? (i := 216) rfl)) rfl
  | 2, _ => abTb_mem (ab_t1 (List.mem_of_getElem? (i := 218) rfl)) rfl
  | 3, _ => abTb_mem (ab_t1 (List.mem_of_getElem? (i := 220) rfl)) rfl
  | 4, _ => abTb_mem (ab_t1 (List.mem_of_getElem? (i := 222) rfl)) rfl
  | 5, _ => abTb_mem (ab_t1 (List.mem_of_getElem? (i := 224) rfl)) rfl
  | 6, _ => abTb_mem (ab_t1 (List.mem_of_getElem? (i := 226) rfl)) rfl
  | 7, _ => abTb_mem (ab_t1 (List.mem_of_getElem? (i := 228) rfl)) rfl
  | (j + 8), h => absurd h (by omega)
theorem abcl_1 : Cond.instantiable "CelSheet$Camera" 8 ∈ lw_tbl ∧ Cond.initialized "CelSheet$Camera" ∈ lw_tbl := ⟨(ab_t1 (List.mem_of_getElem? (i := 179) rfl)), (ab_t1 (List.mem_of_getElem? (i := 7) rfl))⟩
set_option maxRecDepth 20000 in
theorem abws_2 : ∀ k, k < 3 → u_lay "CelSheet$History" abT2 k ∈ abTb := fun k hk => match k, hk with
  | 0, _ => abTb_mem (ab_t1 (List.mem_of_getElem? (i := 171) rfl)) rfl
  | 1, _ => abTb_mem (ab_t1 (List.mem_of_getElem? (i := 173) rfl)) rfl
  | 2, _ => abTb_mem (ab_t1 (List.mem_of_getElem? (i := 175) rfl)) rfl
  | (j + 3), h => absurd h (by omega)
theorem abcl_2 : Cond.instantiable "CelSheet$History" 3 ∈ lw_tbl ∧ Cond.initialized "CelSheet$History" ∈ lw_tbl := ⟨(ab_t1 (List.mem_of_getElem? (i := 159) rfl)), (ab_t1 (List.mem_of_getElem? (i := 6) rfl))⟩
set_option maxRecDepth 20000 in
theorem abws_3 : ∀ k, k < 11 → u_lay "CelSheet$Line" abT3 k ∈ abTb := fun k hk => match k, hk with
  | 0, _ => abTb_mem (ab_t1 (List.mem_of_getElem? (i := 90) rfl)) rfl
  | 1, _ => abTb_mem (ab_t1 (List.mem_of_getElem? (i := 92) rfl)) rfl
  | 2, _ => abTb_mem (ab_t1 (List.mem_of_getElem? (i := 94) rfl)) rfl
  | 3, _ => abTb_mem (ab_t1 (List.mem_of_getElem? (i := 96) rfl)) rfl
  | 4, _ => abTb_mem (ab_t1 (List.mem_of_getElem? (i := 98) rfl)) rfl
  | 5, _ => abTb_mem (ab_t1 (List.mem_of_getElem? (i := 100) rfl)) rfl
  | 6, _ => abTb_mem (ab_t1 (List.mem_of_getElem? (i := 102) rfl)) rfl
  | 7, _ => abTb_mem (ab_t1 (List.mem_of_getElem? (i := 104) rfl)) rfl
  | 8, _ => abTb_mem (ab_t1 (List.mem_of_getElem? (i := 106) rfl)) rfl
  | 9, _ => abTb_mem (ab_t1 (List.mem_of_getElem? (i := 108) rfl)) rfl
  | 10, _ => abTb_mem (ab_t1 (List.mem_of_getElem? (i := 110) rfl)) rfl
  | (j + 11), h => absurd h (by omega)
theorem abcl_3 : Cond.instantiable "CelSheet$Line" 11 ∈ lw_tbl ∧ Cond.initialized "CelSheet$Line" ∈ lw_tbl := ⟨(ab_t1 (List.mem_of_getElem? (i := 69) rfl)), (ab_t1 (List.mem_of_getElem? (i := 4) rfl))⟩
set_option maxRecDepth 20000 in
theorem abws_4 : ∀ k, k < 7 → u_lay "CelSheet$Marker" abT4 k ∈ abTb := fun k hk => match k, hk with
  | 0, _ => abTb_mem (ab_t2 (List.mem_of_getElem? (i := 5) rfl)) rfl
  | 1, _ => abTb_mem (ab_t2 (List.mem_of_getElem? (i := 7) rfl)) rfl
  | 2, _ => abTb_mem (ab_t2 (List.mem_of_getElem? (i := 9) rfl)) rfl
  | 3, _ => abTb_mem (ab_t2 (List.mem_of_getElem? (i := 11) rfl)) rfl
  | 4, _ => abTb_mem (ab_t2 (List.mem_of_getElem? (i := 13) rfl)) rfl
  | 5, _ => abTb_mem (ab_t2 (List.mem_of_getElem? (i := 15) rfl)) rfl
  | 6, _ => abTb_mem (ab_t2 (List.mem_of_getElem? (i := 17) rfl)) rfl
  | (j + 7), h => absurd h (by omega)
theorem abcl_4 : Cond.instantiable "CelSheet$Marker" 7 ∈ lw_tbl ∧ Cond.initialized "CelSheet$Marker" ∈ lw_tbl := ⟨(ab_t1 (List.mem_of_getElem? (i := 232) rfl)), (ab_t1 (List.mem_of_getElem? (i := 9) rfl))⟩
set_option maxRecDepth 20000 in
theorem abws_5 : ∀ k, k < 7 → u_lay "CelSheet$Parser" abT5 k ∈ abTb := fun k hk => match k, hk with
  | 0, _ => abTb_mem (ab_t1 (List.mem_of_getElem? (i := 124) rfl)) rfl
  | 1, _ => abTb_mem (ab_t1 (List.mem_of_getElem? (i := 126) rfl)) rfl
  | 2, _ => abTb_mem (ab_t1 (List.mem_of_getElem? (i := 128) rfl)) rfl
  | 3, _ => abTb_mem (ab_t1 (List.mem_of_getElem? (i := 130) rfl)) rfl
  | 4, _ => abTb_mem (ab_t1 (List.mem_of_getElem? (i := 132) rfl)) rfl
  | 5, _ => abTb_mem (ab_t1 (List.mem_of_getElem? (i := 134) rfl)) rfl
  | 6, _ => abTb_mem (ab_t1 (List.mem_of_getElem? (i := 136) rfl)) rfl
  | (j + 7), h => absurd h (by omega)
theorem abcl_5 : Cond.instantiable "CelSheet$Parser" 7 ∈ lw_tbl ∧ Cond.initialized "CelSheet$Parser" ∈ lw_tbl := ⟨(ab_t1 (List.mem_of_getElem? (i := 63) rfl)), (ab_t1 (List.mem_of_getElem? (i := 3) rfl))⟩
set_option maxRecDepth 20000 in
theorem abws_6 : ∀ k, k < 16 → u_lay "CelSheet$Scene" abT6 k ∈ abTb := fun k hk => match k, hk with
  | 0, _ => abTb_mem (ab_t2 (List.mem_of_getElem? (i := 72) rfl)) rfl
  | 1, _ => abTb_mem (ab_t2 (List.mem_of_getElem? (i := 74) rfl)) rfl
  | 2, _ => abTb_mem (ab_t2 (List.mem_of_getElem? (i := 76) rfl)) rfl
  | 3, _ => abTb_mem (ab_t2 (List.mem_of_getElem? (i := 78) rfl)) rfl
  | 4, _ => abTb_mem (ab_t2 (List.mem_of_getElem? (i := 80) rfl)) rfl
  | 5, _ => abTb_mem (ab_t2 (List.mem_of_getElem? (i := 82) rfl)) rfl
  | 6, _ => abTb_mem (ab_t2 (List.mem_of_getElem? (i := 84) rfl)) rfl
  | 7, _ => abTb_mem (ab_t2 (List.mem_of_getElem? (i := 86) rfl)) rfl
  | 8, _ => abTb_mem (ab_t2 (List.mem_of_getElem? (i := 88) rfl)) rfl
  | 9, _ => abTb_mem (ab_t2 (List.mem_of_getElem? (i := 90) rfl)) rfl
  | 10, _ => abTb_mem (ab_t2 (List.mem_of_getElem? (i := 92) rfl)) rfl
  | 11, _ => abTb_mem (ab_t2 (List.mem_of_getElem? (i := 94) rfl)) rfl
  | 12, _ => abTb_mem (ab_t2 (List.mem_of_getElem? (i := 96) rfl)) rfl
  | 13, _ => abTb_mem (ab_t2 (List.mem_of_getElem? (i := 98) rfl)) rfl
  | 14, _ => abTb_mem (ab_t2 (List.mem_of_getElem? (i := 100) rfl)) rfl
  | 15, _ => abTb_mem (ab_t2 (List.mem_of_getElem? (i := 102) rfl)) rfl
  | (j + 16), h => absurd h (by omega)
theorem abcl_6 : Cond.instantiable "CelSheet$Scene" 16 ∈ lw_tbl ∧ Cond.initialized "CelSheet$Scene" ∈ lw_tbl := ⟨(ab_t2 (List.mem_of_getElem? (i := 21) rfl)), (ab_t1 (List.mem_of_getElem? (i := 10) rfl))⟩
set_option maxRecDepth 20000 in
theorem abws_7 : ∀ k, k < 2 → u_lay "CelSheet$Sheet" abT7 k ∈ abTb := fun k hk => match k, hk with
  | 0, _ => abTb_mem (ab_t1 (List.mem_of_getElem? (i := 153) rfl)) rfl
  | 1, _ => abTb_mem (ab_t1 (List.mem_of_getElem? (i := 155) rfl)) rfl
  | (j + 2), h => absurd h (by omega)
theorem abcl_7 : Cond.instantiable "CelSheet$Sheet" 2 ∈ lw_tbl ∧ Cond.initialized "CelSheet$Sheet" ∈ lw_tbl := ⟨(ab_t1 (List.mem_of_getElem? (i := 140) rfl)), (ab_t1 (List.mem_of_getElem? (i := 5) rfl))⟩
set_option maxRecDepth 20000 in
theorem abws_8 : ∀ k, k < 5 → u_lay "CelSheet$Tape" abT8 k ∈ abTb := fun k hk => match k, hk with
  | 0, _ => abTb_mem (ab_t1 (List.mem_of_getElem? (i := 50) rfl)) rfl
  | 1, _ => abTb_mem (ab_t1 (List.mem_of_getElem? (i := 52) rfl)) rfl
  | 2, _ => abTb_mem (ab_t1 (List.mem_of_getElem? (i := 54) rfl)) rfl
  | 3, _ => abTb_mem (ab_t1 (List.mem_of_getElem? (i := 56) rfl)) rfl
  | 4, _ => abTb_mem (ab_t1 (List.mem_of_getElem? (i := 58) rfl)) rfl
  | (j + 5), h => absurd h (by omega)
theorem abcl_8 : Cond.instantiable "CelSheet$Tape" 5 ∈ lw_tbl ∧ Cond.initialized "CelSheet$Tape" ∈ lw_tbl := ⟨(ab_t1 (List.mem_of_getElem? (i := 30) rfl)), (ab_t1 (List.mem_of_getElem? (i := 2) rfl))⟩
set_option maxRecDepth 20000 in
theorem abws_9 : ∀ k, k < 15 → u_lay "CelSheet" abT9 k ∈ abTb := fun k hk => match k, hk with
  | 0, _ => abTb_mem (ab_t2 (List.mem_of_getElem? (i := 120) rfl)) rfl
  | 1, _ => abTb_mem (ab_t2 (List.mem_of_getElem? (i := 122) rfl)) rfl
  | 2, _ => abTb_mem (ab_t2 (List.mem_of_getElem? (i := 124) rfl)) rfl
  | 3, _ => abTb_mem (ab_t2 (List.mem_of_getElem? (i := 126) rfl)) rfl
  | 4, _ => abTb_mem (ab_t2 (List.mem_of_getElem? (i := 128) rfl)) rfl
  | 5, _ => abTb_mem (ab_t2 (List.mem_of_getElem? (i := 130) rfl)) rfl
  | 6, _ => abTb_mem (ab_t2 (List.mem_of_getElem? (i := 132) rfl)) rfl
  | 7, _ => abTb_mem (ab_t2 (List.mem_of_getElem? (i := 134) rfl)) rfl
  | 8, _ => abTb_mem (ab_t2 (List.mem_of_getElem? (i := 136) rfl)) rfl
  | 9, _ => abTb_mem (ab_t2 (List.mem_of_getElem? (i := 138) rfl)) rfl
  | 10, _ => abTb_mem (ab_t2 (List.mem_of_getElem? (i := 140) rfl)) rfl
  | 11, _ => abTb_mem (ab_t2 (List.mem_of_getElem? (i := 142) rfl)) rfl
  | 12, _ => abTb_mem (ab_t2 (List.mem_of_getElem? (i := 144) rfl)) rfl
  | 13, _ => abTb_mem (ab_t2 (List.mem_of_getElem? (i := 146) rfl)) rfl
  | 14, _ => abTb_mem (ab_t2 (List.mem_of_getElem? (i := 148) rfl)) rfl
  | (j + 15), h => absurd h (by omega)
theorem abcl_9 : Cond.instantiable "CelSheet" 15 ∈ lw_tbl ∧ Cond.initialized "CelSheet" ∈ lw_tbl := ⟨(ab_t1 (List.mem_of_getElem? (i := 22) rfl)), (ab_t1 (List.mem_of_getElem? (i := 1) rfl))⟩
set_option maxRecDepth 20000 in
theorem abws_10 : ∀ k, k < 33 → u_lay "CelSheetModel" abT10 k ∈ abTb := fun k hk => match k, hk with
  | 0, _ => abTb_mem (ab_t5 (List.mem_of_getElem? (i := 131) rfl)) rfl
  | 1, _ => abTb_mem (ab_t5 (List.mem_of_getElem? (i := 133) rfl)) rfl
  | 2, _ => abTb_mem (ab_t5 (List.mem_of_getElem? (i := 135) rfl)) rfl
  | 3, _ => abTb_mem (ab_t5 (List.mem_of_getElem? (i := 137) rfl)) rfl
  | 4, _ => abTb_mem (ab_t5 (List.mem_of_getElem? (i := 139) rfl)) rfl
  | 5, _ => abTb_mem (ab_t5 (List.mem_of_getElem? (i := 141) rfl)) rfl
  | 6, _ => abTb_mem (ab_t5 (List.mem_of_getElem? (i := 143) rfl)) rfl
  | 7, _ => abTb_mem (ab_t5 (List.mem_of_getElem? (i := 145) rfl)) rfl
  | 8, _ => abTb_mem (ab_t5 (List.mem_of_getElem? (i := 147) rfl)) rfl
  | 9, _ => abTb_mem (ab_t5 (List.mem_of_getElem? (i := 149) rfl)) rfl
  | 10, _ => abTb_mem (ab_t5 (List.mem_of_getElem? (i := 151) rfl)) rfl
  | 11, _ => abTb_mem (ab_t5 (List.mem_of_getElem? (i := 153) rfl)) rfl
  | 12, _ => abTb_mem (ab_t5 (List.mem_of_getElem? (i := 155) rfl)) rfl
  | 13, _ => abTb_mem (ab_t5 (List.mem_of_getElem? (i := 157) rfl)) rfl
  | 14, _ => abTb_mem (ab_t5 (List.mem_of_getElem? (i := 159) rfl)) rfl
  | 15, _ => abTb_mem (ab_t5 (List.mem_of_getElem? (i := 161) rfl)) rfl
  | 16, _ => abTb_mem (ab_t5 (List.mem_of_getElem? (i := 163) rfl)) rfl
  | 17, _ => abTb_mem (ab_t5 (List.mem_of_getElem? (i := 165) rfl)) rfl
  | 18, _ => abTb_mem (ab_t5 (List.mem_of_getElem? (i := 167) rfl)) rfl
  | 19, _ => abTb_mem (ab_t5 (List.mem_of_getElem? (i := 169) rfl)) rfl
  | 20, _ => abTb_mem (ab_t5 (List.mem_of_getElem? (i := 171) rfl)) rfl
  | 21, _ => abTb_mem (ab_t5 (List.mem_of_getElem? (i := 173) rfl)) rfl
  | 22, _ => abTb_mem (ab_t5 (List.mem_of_getElem? (i := 175) rfl)) rfl
  | 23, _ => abTb_mem (ab_t5 (List.mem_of_getElem? (i := 177) rfl)) rfl
  | 24, _ => abTb_mem (ab_t5 (List.mem_of_getElem? (i := 179) rfl)) rfl
  | 25, _ => abTb_mem (ab_t5 (List.mem_of_getElem? (i := 181) rfl)) rfl
  | 26, _ => abTb_mem (ab_t5 (List.mem_of_getElem? (i := 183) rfl)) rfl
  | 27, _ => abTb_mem (ab_t5 (List.mem_of_getElem? (i := 185) rfl)) rfl
  | 28, _ => abTb_mem (ab_t5 (List.mem_of_getElem? (i := 187) rfl)) rfl
  | 29, _ => abTb_mem (ab_t5 (List.mem_of_getElem? (i := 189) rfl)) rfl
  | 30, _ => abTb_mem (ab_t5 (List.mem_of_getElem? (i := 191) rfl)) rfl
  | 31, _ => abTb_mem (ab_t5 (List.mem_of_getElem? (i := 193) rfl)) rfl
  | 32, _ => abTb_mem (ab_t5 (List.mem_of_getElem? (i := 195) rfl)) rfl
  | (j + 33), h => absurd h (by omega)
theorem abcl_10 : Cond.instantiable "CelSheetModel" 33 ∈ lw_tbl ∧ Cond.initialized "CelSheetModel" ∈ lw_tbl := ⟨(ab_t5 (List.mem_of_getElem? (i := 93) rfl)), (ab_t1 (List.mem_of_getElem? (i := 11) rfl))⟩
def abClP (ci : Nat) (r : vw_C) : Prop := (∀ w ∈ u_ws r.1 r.2.1 r.2.2, w ∈ abTb) ∧ (∀ k, k < r.2.2 → parseFieldDescriptor (r.2.1 k).2.2.1 = some (abTy ci k)) ∧ (∀ a, a < r.2.2 → ∀ b, b < r.2.2 → a ≠ b → (r.2.1 a).2.1 ≠ (r.2.1 b).2.1) ∧ (∀ k, k < r.2.2 → (r.2.1 k).1 = r.1) ∧ abN ci = r.2.2 ∧ Cond.instantiable r.1 r.2.2 ∈ lw_tbl ∧ Cond.initialized r.1 ∈ lw_tbl ∧ abR ci = r.1 ∧ ci < 11
theorem abws_of {C : String} {T : u_T} {N : Nat} (h : ∀ k, k < N → u_lay C T k ∈ abTb) : ∀ w ∈ u_ws C T N, w ∈ abTb := fun w hw => by
  obtain ⟨k, hk, rfl⟩ := List.mem_map.mp hw
  exact h k (List.mem_range.mp hk)
theorem abclp_0 : abClP 0 ("CelSheet$Album", abT0, 4) := ⟨abws_of abws_0, by decide +kernel, by decide +kernel, by decide +kernel, rfl, abcl_0.1, abcl_0.2, rfl, by decide⟩
theorem abclp_1 : abClP 1 ("CelSheet$Camera", abT1, 8) := ⟨abws_of abws_1, by decide +kernel, by decide +kernel, by decide +kernel, rfl, abcl_1.1, abcl_1.2, rfl, by decide⟩
theorem abclp_2 : abClP 2 ("CelSheet$History", abT2, 3) := ⟨abws_of abws_2, by decide +kernel, by decide +kernel, by decide +kernel, rfl, abcl_2.1, abcl_2.2, rfl, by decide⟩
theorem abclp_3 : abClP 3 ("CelSheet$Line", abT3, 11) := ⟨abws_of abws_3, by decide +kernel, by decide +kernel, by decide +kernel, rfl, abcl_3.1, abcl_3.2, rfl, by decide⟩
theorem abclp_4 : abClP 4 ("CelSheet$Marker", abT4, 7) := ⟨abws_of abws_4, by decide +kernel, by decide +kernel, by decide +kernel, rfl, abcl_4.1, abcl_4.2, rfl, by decide⟩
theorem abclp_5 : abClP 5 ("CelSheet$Parser", abT5, 7) := ⟨abws_of abws_5, by decide +kernel, by decide +kernel, by decide +kernel, rfl, abcl_5.1, abcl_5.2, rfl, by decide⟩
theorem abclp_6 : abClP 6 ("CelSheet$Scene", abT6, 16) := ⟨abws_of abws_6, by decide +kernel, by decide +kernel, by decide +kernel, rfl, abcl_6.1, abcl_6.2, rfl, by decide⟩
theorem abclp_7 : abClP 7 ("CelSheet$Sheet", abT7, 2) := ⟨abws_of abws_7, by decide +kernel, by decide +kernel, by decide +kernel, rfl, abcl_7.1, abcl_7.2, rfl, by decide⟩
theorem abclp_8 : abClP 8 ("CelSheet$Tape", abT8, 5) := ⟨abws_of abws_8, by decide +kernel, by decide +kernel, by decide +kernel, rfl, abcl_8.1, abcl_8.2, rfl, by decide⟩
theorem abclp_9 : abClP 9 ("CelSheet", abT9, 15) := ⟨abws_of abws_9, by decide +kernel, by decide +kernel, by decide +kernel, rfl, abcl_9.1, abcl_9.2, rfl, by decide⟩
theorem abclp_10 : abClP 10 ("CelSheetModel", abT10, 33) := ⟨abws_of abws_10, by decide +kernel, by decide +kernel, by decide +kernel, rfl, abcl_10.1, abcl_10.2, rfl, by decide⟩
theorem abCl_ok (ci : Nat) (r : vw_C) (h : abCl[ci]? = some r) : abClP ci r := match ci, h with
  | 0, h => by cases h; exact abclp_0
  | 1, h => by cases h; exact abclp_1
  | 2, h => by cases h; exact abclp_2
  | 3, h => by cases h; exact abclp_3
  | 4, h => by cases h; exact abclp_4
  | 5, h => by cases h; exact abclp_5
  | 6, h => by cases h; exact abclp_6
  | 7, h => by cases h; exact abclp_7
  | 8, h => by cases h; exact abclp_8
  | 9, h => by cases h; exact abclp_9
  | 10, h => by cases h; exact abclp_10
  | (j + 11), h => absurd h (by simp [abCl])
theorem abCl_get {ci : Nat} (h : ci < 11) : ∃ r, abCl[ci]? = some r := ⟨abCl[ci]'(by simpa using h), by simp⟩
theorem abTy_ok (c k : Nat) : abTy c k = .int ∨ abTy c k = .boolean ∨ (∃ t, abTy c k = .array t) ∨ ∃ t, abTy c k = .object t := by
  unfold abTy
  split <;> simp
theorem abFt_0 {c k : Nat} (h : abFt c k = 0) : abTy c k = .int := by
  unfold abFt at h
  rcases abTy_ok c k with q | q | ⟨t, q⟩ | ⟨t, q⟩ <;> rw [q] at h ⊢ <;> simp at h
theorem abFt_1 {c k : Nat} (h : abFt c k = 1) : abTy c k = .boolean := by
  unfold abFt at h
  rcases abTy_ok c k with q | q | ⟨t, q⟩ | ⟨t, q⟩ <;> rw [q] at h ⊢ <;> simp at h
theorem abFt_2 {c k : Nat} (h : abFt c k = 2) : (∃ t, abTy c k = .array t) ∨ ∃ t, abTy c k = .object t := by
  unfold abFt at h
  rcases abTy_ok c k with q | q | ⟨t, q⟩ | ⟨t, q⟩ <;> rw [q] at h ⊢ <;> simp at h ⊢
theorem abFt_def {c k : Nat} : defaultValue (abTy c k) = if abFt c k = 2 then .null else .int 0 := by
  unfold abFt
  rcases abTy_ok c k with q | q | ⟨t, q⟩ | ⟨t, q⟩ <;> rw [q] <;> rfl
theorem abFs_get {base : Nat} {ex : Nat → Nat} {c a k : Nat} {M : abMem} (h : k < abN c) : (abFs base ex c a M)[k]? = some (if abFt c k = 2 then va_rf ((gR M a k).map (abAd base ex)) else .int (Int32.ofInt (gI M a k))) := by
  unfold abFs
  rw [List.getElem?_map, List.getElem?_range h]
  rfl
theorem abFs_len {base : Nat} {ex : Nat → Nat} {c a : Nat} {M : abMem} : (abFs base ex c a M).length = abN c := by simp [abFs]
theorem abFs_set {base : Nat} {ex : Nat → Nat} {c a k : Nat} {M M2 : abMem} {v : Value} (h : k < abN c) (hv : (if abFt c k = 2 then va_rf ((gR M2 a k).map (abAd base ex)) else .int (Int32.ofInt (gI M2 a k))) = v) (ho : ∀ j : Nat, j ≠ k → gI M2 a j = gI M a j ∧ gR M2 a j = gR M a j) : (abFs base ex c a M).set k v = abFs base ex c a M2 := by
  apply List.ext_getElem?
  intro j
  by_cases e : k = j
  · subst e
    rw [List.getElem?_set_self (by rw [abFs_len]; exact h), abFs_get h, hv]
  · rw [List.getElem?_set_ne e]
    by_cases hj : j < abN c
    · obtain ⟨e1, e2⟩ := ho j (Ne.symm e)
      rw [abFs_get hj, abFs_get hj, e1, e2]
    · rw [List.getElem?_eq_none (by rw [abFs_len]; omega), List.getElem?_eq_none (by rw [abFs_len]; omega)]
-- memory
theorem gI_wI (M : abMem) (a b : Nat) (f : Int → Int) (j : Int) : gI (wI M a f) b j = if b = a then f j else gI M b j := by
  unfold gI wI
  by_cases h : b = a <;> simp [h]
theorem gL_wI (M : abMem) (a b : Nat) (f : Int → Int) (j : Int) : gL (wI M a f) b j = gL M b j := rfl
theorem gR_wI (M : abMem) (a b : Nat) (f : Int → Int) (j : Int) : gR (wI M a f) b j = gR M b j := rfl
theorem gL_wL (M : abMem) (a b : Nat) (f : Int → Int64) (j : Int) : gL (wL M a f) b j = if b = a then f j else gL M b j := by
  unfold gL wL
  by_cases h : b = a <;> simp [h]
theorem gI_wL (M : abMem) (a b : Nat) (f : Int → Int64) (j : Int) : gI (wL M a f) b j = gI M b j := rfl
theorem gR_wL (M : abMem) (a b : Nat) (f : Int → Int64) (j : Int) : gR (wL M a f) b j = gR M b j := rfl
theorem gR_wR (M : abMem) (a b : Nat) (f : Int → Option Nat) (j : Int) : gR (wR M a f) b j = if b = a then f j else gR M b j := by
  unfold gR wR
  by_cases h : b = a <;> simp [h]
theorem gI_wR (M : abMem) (a b : Nat) (f : Int → Option Nat) (j : Int) : gI (wR M a f) b j = gI M b j := rfl
theorem gL_wR (M : abMem) (a b : Nat) (f : Int → Option Nat) (j : Int) : gL (wR M a f) b j = gL M b j := rfl
theorem gI_sI (M : abMem) (a b : Nat) (j k x : Int) : gI (sI M a j x) b k = if b = a ∧ k = j then x else gI M b k := by
  unfold sI
  rw [gI_wI]
  unfold up
  by_cases h : b = a
  · subst h; by_cases h2 : k = j <;> simp [h2]
  · simp [h]
theorem gL_sL (M : abMem) (a b : Nat) (j k : Int) (x : Int64) : gL (sL M a j x) b k = if b = a ∧ k = j then x else gL M b k := by
  unfold sL
  rw [gL_wL]
  unfold up
  by_cases h : b = a
  · subst h; by_cases h2 : k = j <;> simp [h2]
  · simp [h]
theorem gR_sR (M : abMem) (a b : Nat) (j k : Int) (x : Option Nat) : gR (sR M a j x) b k = if b = a ∧ k = j then x else gR M b k := by
  unfold sR
  rw [gR_wR]
  unfold up
  by_cases h : b = a
  · subst h; by_cases h2 : k = j <;> simp [h2]
  · simp [h]
/-- a write of one object: M2 is M but for o -/
def abSame (o : Nat) (M M2 : abMem) : Prop := ∀ b, b ≠ o → ∀ j, gI M2 b j = gI M b j ∧ gL M2 b j = gL M b j ∧ gR M2 b j = gR M b j
theorem abSame_wI {M : abMem} {o : Nat} {f : Int → Int} : abSame o M (wI M o f) := fun b hb j => ⟨by rw [gI_wI, if_neg hb], rfl, rfl⟩
theorem abSame_wL {M : abMem} {o : Nat} {f : Int → Int64} : abSame o M (wL M o f) := fun b hb j => ⟨rfl, by rw [gL_wL, if_neg hb], rfl⟩
theorem abSame_wR {M : abMem} {o : Nat} {f : Int → Option Nat} : abSame o M (wR M o f) := fun b hb j => ⟨rfl, rfl, by rw [gR_wR, if_neg hb]⟩
theorem abOb_same {base : Nat} {ex : Nat → Nat} {cA cA2 : Nat → ClassId} {K K2 : Nat → Nat × Int} {M M2 : abMem} {b : Nat} (h1 : cA2 b = cA b) (h2 : K2 b = K b) (h3 : ∀ j, gI M2 b j = gI M b j ∧ gL M2 b j = gL M b j ∧ gR M2 b j = gR M b j) : abOb base ex cA2 K2 M2 b = abOb base ex cA K M b := by
  unfold abOb abFs
  rw [h1, h2]
  simp only [fun j => (h3 j).1, fun j => (h3 j).2.1, fun j => (h3 j).2.2]
theorem abOkA.lt {A : abAl} (h : abOkA A) {o : Nat} (h1 : (A.2 o).1 ≠ 99) (h2 : (A.2 o).1 ≠ 52) : o < A.1 := by
  rcases Nat.lt_or_ge o A.1 with q | q
  · exact q
  · rcases h.2.2 o q with z | ⟨-, z⟩
    · exact absurd z h1
    · exact absurd z h2
theorem abAd_lt {base : Nat} {ex : Nat → Nat} {A : abAl} (h : abOkA A) {o : Nat} (ho : o < A.1) : abAd base ex o = base + o := if_pos (Nat.lt_trans ho h.1)
theorem abHp.upd {D : va_G} {base : Nat} {ex : Nat → Nat} {cA : Nat → ClassId} {A : abAl} {M M2 : abMem} {H H1 : Heap} {o : Nat} (h : abHp D base ex cA A M H) (hs : abSame o M M2) (ho : va_at D abCl (base + o, abOb base ex cA A.2 M2 o) H1) (hz : H1.size = H.size) (hq : ∀ q : Nat, q ≠ base + o → H1[q]? = H[q]?) : abHp D base ex cA A M2 H1 := by
  refine ⟨hz.trans h.1, fun b hb => ?_⟩
  by_cases e : b = o
  · subst e; exact ho
  · have h1 := h.2 b hb
    rw [← abOb_same (M2 := M2) (K2 := A.2) (cA2 := cA) rfl rfl (hs b e)] at h1
    exact va_at.kept h1 (hq _ (by show base + b ≠ base + o; omega))
/-- after a write -/
theorem abSs.write {D : va_G} {base : Nat} {ex : Nat → Nat} {i : Nat} {s : State} {ls : List (Option abV)} {st st2 : List abV} {A : abAl} {M M2 : abMem} {cA : Nat → ClassId} {H H1 : Heap} {locs locs2 : List Loc} {lsM : Array Slot} {o : Nat} (h : abSs D base ex i s ls st A M cA H locs lsM) (ho1 : o < A.1) (hs : abSame o M M2) (ho : va_at D abCl (base + o, abOb base ex cA A.2 M2 o) H1) (hz : H1.size = H.size) (hq : ∀ q : Nat, q ≠ base + o → H1[q]? = H[q]?) (hok : abOkM A.1 M2) (hst : ∀ v ∈ st2, abVv A.1 v) (hlocs : ∀ q ∈ locs2, q.base = base + o) : abSs D base ex i s ls st2 A M2 cA H1 (locs ++ locs2) lsM := by
  obtain ⟨⟨h1, h2, h3, h4, h5⟩, h6, h7, h8⟩ := h
  refine ⟨⟨h1.upd hs ho hz hq, h2, hok, h4, fun hk => ?_⟩, h6, hst, ⟨by rw [hz]; exact h8.1, fun q g1 g2 => ?_, fun q hq2 => ?_⟩⟩
  · obtain ⟨L, e1, e2, e3, e4⟩ := h5 hk
    have hne : (1000042 : Nat) ≠ o := by have := h2.1; omega
    have e5 : (fun j : Nat => Int32.ofInt (gI M2 1000042 j)) = fun j : Nat => Int32.ofInt (gI M 1000042 j) := funext fun j => by rw [(hs _ hne j).1]
    exact ⟨L, e1, e2, by rw [e5]; exact e3, e4⟩
  · have hne : q ≠ base + o := fun e => g2 (by show base ≤ q; omega)
    rw [hq q hne]
    exact h8.2.1 q g1 g2
  · rcases List.mem_append.mp hq2 with z | z
    · exact h8.2.2 q z
    · rw [hlocs q z]
      exact Nat.le_add_right _ _
theorem abOkM_sI {n : Nat} {M : abMem} {o : Nat} {j x : Int} (h : abOkM n M) (hx : In32 x) : abOkM n (sI M o j x) := ⟨fun a k => by
  rw [gI_sI]
  split
  · exact hx
  · exact h.1 a k, h.2⟩
theorem abOkM_sL {n : Nat} {M : abMem} {o : Nat} {j : Int} {x : Int64} (h : abOkM n M) : abOkM n (sL M o j x) := h
theorem abOkM_sR {n : Nat} {M : abMem} {o : Nat} {j : Int} {x : Option Nat} (h : abOkM n M) (hx : ∀ b, x = some b → abRv n b) : abOkM n (sR M o j x) := ⟨h.1, fun a k b => by
  rw [gR_sR]
  split
  · exact hx b
  · exact h.2 a k b⟩
section ABW
variable {p : Program} {l : Launch} {e : Env} {R : Room} {s : State} {m : MethodId} {args : Array Value} {below : List Frame} {meth : Method} {c : Code} {H : Heap} {locs : List Loc} {cells slots : Nat} {Q : State → Prop} {cc : ByteArray} {pc : Nat} {ls : Array Slot} {rest : List Value} {D : va_G} {a : Nat}
theorem ab_put (hexec : p.tables.exec = Jvm.exec) (hb : c.code = cc) {own : String} {index ci : Nat} {r : vw_C} (hts : ∀ w ∈ abTb, w.before args s = true) (hcl : abClP ci r) (hc : abCl[ci]? = some r) (hown : s.vm.findClass own = some m.cls) (hK : va_K D abCl [] s) {fs : List Value} (hP : va_at D abCl (a, .inr (ci, fs)) H) {k : Nat} (hk : k < r.2.2) (hlink : (Cond.fieldLink own index r.1 (r.2.1 k).2.1 (r.2.1 k).2.2.1).before args s = true) (hfin : (r.2.1 k).2.2.2 = false) {v : Value} (hn : narrow (abTy ci k) v = v) (hfit : fits (abTy ci k) v = true) (hl : k < fs.length) (hdg : decode cc pc = .ok (.putfield index, 3))
    (kk : ∀ (H1 : Heap) (z : Nat), va_at D abCl (a, .inr (ci, fs.set k v)) H1 → H1.size = H.size → (∀ q : Nat, q ≠ a → H1[q]? = H[q]?) → W p l e R s m args below meth c H1 (locs ++ [⟨a, z⟩]) cells slots Q (F0 m (pc + 3) ls rest)) : W p l e R s m args below meth c H locs cells slots Q (F0 m pc ls (v :: .ref a :: rest)) := by
  obtain ⟨hin, hty, hnm, hdc, -⟩ := hcl
  have hd := hty k hk
  have hap := va_apart (own := own) hts hin (abTy ci) hty hnm hK (show abCl[ci]? = some (r.1, r.2.1, r.2.2) from hc)
  obtain ⟨r', h1, cell, q1, q2, q3, q4⟩ := hP
  have hr : r' = r := Option.some.inj (h1.symm.trans hc)
  subst hr
  obtain ⟨hS, hfc, kC, hkC, hkind⟩ := hK.1 ci _ hc
  obtain ⟨cf, kf, fi, f, hi, hsl⟩ := hS k hk
  have hi2 : s.fieldFound? r'.1 (r'.2.1 k).2.1 (r'.2.1 k).2.2.1 = some (cf, kf, fi, f) := by rw [← hdc k hk]; exact hi
  have hlay := hts _ (hin _ (u_in_lay hk))
  unfold u_lay at hlay
  rw [if_neg (by rw [hfin]; decide)] at hlay
  have hst := (u_facts hfc hkC (u_lays hts hin hk) hi).1
  have h6 := u_store hfc hkC hkind hlay hi hd hn hfit
  refine W.putK hexec hb (f := f) ⟨hown, hlink, ⟨_, _, _, hi2⟩, hst⟩ (by rw [q2]; exact h6) q1 q3 (by rw [hsl]; exact k2_hasslot (q4 k hk)) rfl rfl hdg fun H' e1 e2 e3 => ?_
  rw [hsl] at e1 ⊢
  exact kk H' _ ⟨_, hc, t_OB.to (V := updV (vp_V fs) k v) ⟨_, e1, q2, q3, t_set q4 hap hk v⟩ (fun j _ => vp_updV_set hl v j)⟩ e2 e3
theorem ab_putN (hexec : p.tables.exec = Jvm.exec) (hb : c.code = cc) {own : String} {index ci : Nat} {r : vw_C} (hts : ∀ w ∈ abTb, w.before args s = true) (hcl : abClP ci r) (hc : abCl[ci]? = some r) (hown : s.vm.findClass own = some m.cls) (hK : va_K D abCl [] s) {fs : List Value} (hP : va_at D abCl (a, .inr (ci, fs)) H) {k : Nat} (hk : k < r.2.2) {host : String} (hlink : (Cond.fieldLinkNest own index r.1 (r.2.1 k).2.1 (r.2.1 k).2.2.1 host).before args s = true) (hfin : (r.2.1 k).2.2.2 = false) {v : Value} (hn : narrow (abTy ci k) v = v) (hfit : fits (abTy ci k) v = true) (hl : k < fs.length) (hdg : decode cc pc = .ok (.putfield index, 3))
    (kk : ∀ (H1 : Heap) (z : Nat), va_at D abCl (a, .inr (ci, fs.set k v)) H1 → H1.size = H.size → (∀ q : Nat, q ≠ a → H1[q]? = H[q]?) → W p l e R s m args below meth c H1 (locs ++ [⟨a, z⟩]) cells slots Q (F0 m (pc + 3) ls rest)) : W p l e R s m args below meth c H locs cells slots Q (F0 m pc ls (v :: .ref a :: rest)) := by
  obtain ⟨hin, hty, hnm, hdc, -⟩ := hcl
  have hd := hty k hk
  have hap := va_apart (own := own) hts hin (abTy ci) hty hnm hK (show abCl[ci]? = some (r.1, r.2.1, r.2.2) from hc)
  obtain ⟨r', h1, cell, q1, q2, q3, q4⟩ := hP
  have hr : r' = r := Option.some.inj (h1.symm.trans hc)
  subst hr
  obtain ⟨hS, hfc, kC, hkC, hkind⟩ := hK.1 ci _ hc
  obtain ⟨cf, kf, fi, f, hi, hsl⟩ := hS k hk
  have hi2 : s.fieldFound? r'.1 (r'.2.1 k).2.1 (r'.2.1 k).2.2.1 = some (cf, kf, fi, f) := by rw [← hdc k hk]; exact hi
  have hlay := hts _ (hin _ (u_in_lay hk))
  unfold u_lay at hlay
  rw [if_neg (by rw [hfin]; decide)] at hlay
  have hst := (u_facts hfc hkC (u_lays hts hin hk) hi).1
  have h6 := u_store hfc hkC hkind hlay hi hd hn hfit
  refine va_WputK hexec hb (f := f) hown hlink hi2 hst (by rw [q2]; exact h6) q1 q3 (by rw [hsl]; exact k2_hasslot (q4 k hk)) rfl rfl hdg fun H' e1 e2 e3 => ?_
  rw [hsl] at e1 ⊢
  exact kk H' _ ⟨_, hc, t_OB.to (V := updV (vp_V fs) k v) ⟨_, e1, q2, q3, t_set q4 hap hk v⟩ (fun j _ => vp_updV_set hl v j)⟩ e2 e3
theorem ab_putF (hexec : p.tables.exec = Jvm.exec) (hb : c.code = cc) {own : String} {index ci : Nat} {r : vw_C} (hts : ∀ w ∈ abTb, w.before args s = true) (hcl : abClP ci r) (hc : abCl[ci]? = some r) (hown : s.vm.findClass own = some m.cls) (hK : va_K D abCl [] s) {fs : List Value} (hP : va_at D abCl (a, .inr (ci, fs)) H) {k : Nat} (hk : k < r.2.2) (hlink : (Cond.fieldLink own index r.1 (r.2.1 k).2.1 (r.2.1 k).2.2.1).before args s = true) (hfin : (r.2.1 k).2.2.2 = true) (hin2 : meth.name = "<init>") (hdecl : r.1 = own) {v : Value} (hn : narrow (abTy ci k) v = v) (hfit : fits (abTy ci k) v = true) (hl : k < fs.length) (hdg : decode cc pc = .ok (.putfield index, 3))
    (kk : ∀ (H1 : Heap) (z : Nat), va_at D abCl (a, .inr (ci, fs.set k v)) H1 → H1.size = H.size → (∀ q : Nat, q ≠ a → H1[q]? = H[q]?) → W p l e R s m args below meth c H1 (locs ++ [⟨a, z⟩]) cells slots Q (F0 m (pc + 3) ls rest)) : W p l e R s m args below meth c H locs cells slots Q (F0 m pc ls (v :: .ref a :: rest)) := by
  obtain ⟨hin, hty, hnm, hdc, -⟩ := hcl
  have hd := hty k hk
  have hap := va_apart (own := own) hts hin (abTy ci) hty hnm hK (show abCl[ci]? = some (r.1, r.2.1, r.2.2) from hc)
  obtain ⟨r', h1, cell, q1, q2, q3, q4⟩ := hP
  have hr : r' = r := Option.some.inj (h1.symm.trans hc)
  subst hr
  obtain ⟨hS, hfc, kC, hkC, hkind⟩ := hK.1 ci _ hc
  obtain ⟨cf, kf, fi, f, hi, hsl⟩ := hS k hk
  have hi2 : s.fieldFound? r'.1 (r'.2.1 k).2.1 (r'.2.1 k).2.2.1 = some (cf, kf, fi, f) := by rw [← hdc k hk]; exact hi
  have hlay := hts _ (hin _ (u_in_lay hk))
  unfold u_lay at hlay
  rw [if_pos hfin] at hlay
  have hst := (u_facts hfc hkC (u_lays hts hin hk) hi).1
  have hcf : m.cls = cf := by
    obtain ⟨_, _, c', _, _, _, -, -, hf', -, -, -, hown2, -⟩ := Cond.laysFinal_spec hlay
    have e1 : c' = cf := by have := hi.symm.trans hf'; simp at this; exact this.1.symm
    rw [hdc k hk, hdecl] at hown2
    rw [← e1]; exact Option.some.inj (hown.symm.trans hown2)
  have h6 := u_fits hfc hkC hkind (Or.inr hlay) hi hd hn hfit
  refine W.putFinK hexec hb hown hlink hi2 hst hcf hin2 (by rw [q2]; exact h6) q1 q3 (by rw [hsl]; exact k2_hasslot (q4 k hk)) rfl rfl hdg fun H' e1 e2 e3 => ?_
  rw [hsl] at e1 ⊢
  exact kk H' _ ⟨_, hc, t_OB.to (V := updV (vp_V fs) k v) ⟨_, e1, q2, q3, t_set q4 hap hk v⟩ (fun j _ => vp_updV_set hl v j)⟩ e2 e3
end ABW
theorem abFin_of {ci : Nat} {r : vw_C} {k : Nat} (hc : abCl[ci]? = some r) : abFin ci k = (r.2.1 k).2.2.2 := by unfold abFin; rw [hc]; rfl
theorem ab_flink {i b a c : Nat} (h : abFlL.any (fun q => q.1 == abOwn i && (q.2.1 == c && (q.2.2.1 == b && q.2.2.2.1 == a))) = true) : ∃ (r : vw_C) (nest : Bool), abCl[b]? = some r ∧ a < r.2.2 ∧ (nest = true → ∃ host : String, Cond.fieldLinkNest (abR (abOwn i)) c r.1 (r.2.1 a).2.1 (r.2.1 a).2.2.1 host ∈ lw_tbl) ∧ (nest = false → Cond.fieldLink (abR (abOwn i)) c r.1 (r.2.1 a).2.1 (r.2.1 a).2.2.1 ∈ lw_tbl) := by
  obtain ⟨⟨q1, q2, q3, q4, q5⟩, hq1, hq2⟩ := abOkMem abFlL_ok h
  simp only [Bool.and_eq_true, beq_iff_eq] at hq2
  obtain ⟨rfl, rfl, rfl, rfl⟩ := hq2
  obtain ⟨r, e1, e2, e3, e4⟩ := hq1
  exact ⟨r, q5, e1, e2, e3, e4⟩
theorem fits_rf {base : Nat} {ex : Nat → Nat} {ty : FieldType} (h : (∃ t, ty = .array t) ∨ ∃ t, ty = .object t) (r : Option Nat) : narrow ty (va_rf (r.map (abAd base ex))) = va_rf (r.map (abAd base ex)) ∧ fits ty (va_rf (r.map (abAd base ex))) = true := by
  rcases h with ⟨t, rfl⟩ | ⟨t, rfl⟩ <;> cases r <;> exact ⟨rfl, rfl⟩
theorem fits_bool {x : Int} (h : x = 0 ∨ x = 1) : narrow .boolean (.int (Int32.ofInt x)) = .int (Int32.ofInt x) ∧ fits .boolean (.int (Int32.ofInt x)) = true := by
  rcases h with rfl | rfl <;> exact ⟨by decide, by decide⟩
theorem toNat_cast {a : Int} (h : 0 ≤ a) : ((a.toNat : Nat) : Int) = a := Int.toNat_of_nonneg h
set_option maxRecDepth 20000 in
theorem abs_getI {l : Launch} {D : va_G} {base : Nat} {ex : Nat → Nat} : abR_getI (abMach l D base ex) := by
  intro d lim i pc ls st cnt A M Q a b c n o hc h1 k1
  intro p e Rm s m args below meth cd cA H locs lsM Qm hX hR hs hF
  obtain ⟨hd, hn, hsd⟩ := abDec hc (by decide)
  have hs0 := hs
  obtain ⟨hr, hl, hv, hS⟩ := hs
  unfold abSide at hsd
  simp only [Bool.and_eq_true] at hsd
  obtain ⟨r, nest, hc1, hc2, hn1, hn2⟩ := ab_flink hsd.1
  have hy := of_decide_eq_true hsd.2
  obtain rfl : n = pc + 3 := by omega
  rw [hy.2.2.2] at hd
  obtain ⟨hin, hty, hnm, hdc, hN, -, -, -, hci⟩ := abCl_ok _ _ hc1
  have ho : o < A.1 := hr.2.1.lt (by rw [h1]; omega) (by rw [h1]; omega)
  have had : abAd base ex o = base + o := abAd_lt hr.2.1 ho
  have hat := hr.1.2 o ho
  have hob : abOb base ex cA A.2 M o = .inr (b.toNat, abFs base ex b.toNat o M) := by unfold abOb; rw [if_pos (by rw [h1]; omega), h1]
  rw [hob] at hat
  have hP : va_P D abCl [(base + o, .inr (b.toNat, abFs base ex b.toNat o M))] H := fun k q hq => by
    have hk0 : k = 0 := by have := (List.getElem?_eq_some_iff.mp hq).1; simpa using this
    subst hk0
    cases hq
    exact hat
  have hst := hX.2.2.2.2.2.2.2.2.1
  have hts := hX.2.2.2.2.2.2.1
  have hcast := toNat_cast hy.2.1
  have v1 := abTail hv
  have K := k1 p e Rm s m args below meth cd cA H locs lsM Qm hX hR ⟨hr, hl, abCons (hr.2.2.1.1 o a) v1.2, hS⟩ hF
  have hfs : (abFs base ex b.toNat o M)[a.toNat]? = some (.int (Int32.ofInt (gI M o (a.toNat : Int)))) := by rw [abFs_get (by rw [hN]; exact hc2), if_neg hy.1]
  refine abWeq (st2 := .ref (base + o) :: st.map (abCv base ex)) ?_ (by show _ = abCv base ex (vr (some o)) :: _; simp only [abCv, Option.map_some, va_rf, had]) rfl
  have K2 := abWeq (st := (.int (Int32.ofInt (gI M o (a.toNat : Int)))) :: st.map (abCv base ex)) K (by rw [hcast]; rfl) rfl
  cases nest with
  | true =>
    obtain ⟨host, hw⟩ := hn1 rfl
    exact va_getN (D := D) (cl := abCl) (C := r.1) (T := r.2.1) (N := r.2.2) hX.1 hX.2.1 hts hin hX.2.2.2.2.2.1 hst.1 hP 0 rfl hc1 a.toNat hc2 (va_Nw.use rfl (hst.2.1 _ hw rfl)) (fun x hx => by rw [← hdc _ hc2]; exact hx) hfs hd K2
  | false =>
    exact va_get (D := D) (cl := abCl) (C := r.1) (T := r.2.1) (N := r.2.2) hX.1 hX.2.1 hts hin hX.2.2.2.2.2.1 hst.1 hP 0 rfl hc1 a.toNat hc2 (hts _ (abTb_mem (hn2 rfl) rfl)) (fun x hx => by rw [← hdc _ hc2]; exact hx) hfs hd K2
set_option maxRecDepth 20000 in
theorem abs_getR {l : Launch} {D : va_G} {base : Nat} {ex : Nat → Nat} : abR_getR (abMach l D base ex) := by
  intro d lim i pc ls st cnt A M Q a b c n o hc h1 k1
  intro p e Rm s m args below meth cd cA H locs lsM Qm hX hR hs hF
  obtain ⟨hd, hn, hsd⟩ := abDec hc (by decide)
  have hs0 := hs
  obtain ⟨hr, hl, hv, hS⟩ := hs
  unfold abSide at hsd
  simp only [Bool.and_eq_true] at hsd
  obtain ⟨r, nest, hc1, hc2, hn1, hn2⟩ := ab_flink hsd.1
  have hy := of_decide_eq_true hsd.2
  obtain rfl : n = pc + 3 := by omega
  rw [hy.2.2.2] at hd
  obtain ⟨hin, hty, hnm, hdc, hN, -, -, -, hci⟩ := abCl_ok _ _ hc1
  have ho : o < A.1 := hr.2.1.lt (by rw [h1]; omega) (by rw [h1]; omega)
  have had : abAd base ex o = base + o := abAd_lt hr.2.1 ho
  have hat := hr.1.2 o ho
  have hob : abOb base ex cA A.2 M o = .inr (b.toNat, abFs base ex b.toNat o M) := by unfold abOb; rw [if_pos (by rw [h1]; omega), h1]
  rw [hob] at hat
  have hP : va_P D abCl [(base + o, .inr (b.toNat, abFs base ex b.toNat o M))] H := fun k q hq => by
    have hk0 : k = 0 := by have := (List.getElem?_eq_some_iff.mp hq).1; simpa using this
    subst hk0
    cases hq
    exact hat
  have hst := hX.2.2.2.2.2.2.2.2.1
  have hts := hX.2.2.2.2.2.2.1
  have hcast := toNat_cast hy.2.1
  have v1 := abTail hv
  have K := k1 p e Rm s m args below meth cd cA H locs lsM Qm hX hR ⟨hr, hl, abCons (fun z hz => hr.2.2.1.2 o a z hz) v1.2, hS⟩ hF
  have hfs : (abFs base ex b.toNat o M)[a.toNat]? = some (va_rf ((gR M o (a.toNat : Int)).map (abAd base ex))) := by rw [abFs_get (by rw [hN]; exact hc2), if_pos hy.1]
  refine abWeq (st2 := .ref (base + o) :: st.map (abCv base ex)) ?_ (by show _ = abCv base ex (vr (some o)) :: _; simp only [abCv, Option.map_some, va_rf, had]) rfl
  have K2 := abWeq (st := (va_rf ((gR M o (a.toNat : Int)).map (abAd base ex))) :: st.map (abCv base ex)) K (by rw [hcast]; rfl) rfl
  cases nest with
  | true =>
    obtain ⟨host, hw⟩ := hn1 rfl
    exact va_getN (D := D) (cl := abCl) (C := r.1) (T := r.2.1) (N := r.2.2) hX.1 hX.2.1 hts hin hX.2.2.2.2.2.1 hst.1 hP 0 rfl hc1 a.toNat hc2 (va_Nw.use rfl (hst.2.1 _ hw rfl)) (fun x hx => by rw [← hdc _ hc2]; exact hx) hfs hd K2
  | false =>
    exact va_get (D := D) (cl := abCl) (C := r.1) (T := r.2.1) (N := r.2.2) hX.1 hX.2.1 hts hin hX.2.2.2.2.2.1 hst.1 hP 0 rfl hc1 a.toNat hc2 (hts _ (abTb_mem (hn2 rfl) rfl)) (fun x hx => by rw [← hdc _ hc2]; exact hx) hfs hd K2
theorem abKd_big {i : Nat} (h : 297 ≤ i) : abKd i = 0 := by
  have hb : ∀ k, k ≤ 297 → Nat.blt i k = false := fun k hk => ab_nb (Nat.le_trans hk h)
  unfold abKd abM
  simp only [hb 149 (by decide), hb 223 (by decide), hb 260 (by decide), hb 279 (by decide), hb 288 (by decide), hb 293 (by decide), hb 295 (by decide), hb 296 (by decide), hb 297 (by decide), cond_false]
  rfl
set_option maxRecDepth 20000 in
theorem abs_putI {l : Launch} {D : va_G} {base : Nat} {ex : Nat → Nat} : abR_putI (abMach l D base ex) := by
  intro d lim i pc ls st cnt A M Q a b c n o x hc h1 k1
  intro p e Rm s m args below meth cd cA H locs lsM Qm hX hR hs hF
  obtain ⟨hd, hn, hsd⟩ := abDec hc (by decide)
  have hs0 := hs
  obtain ⟨hr, hl, hv, hS⟩ := hs
  unfold abSide at hsd
  simp only [Bool.and_eq_true] at hsd
  have hy := of_decide_eq_true hsd.1
  have hfl : abFlL.any (fun q => q.1 == abOwn i && (q.2.1 == c && (q.2.2.1 == b.toNat && q.2.2.2.1 == a.toNat))) = true := by
    have h9 := hsd.2
    split at h9
    · simp only [Bool.and_eq_true] at h9
      obtain ⟨q, z1, z2⟩ := List.any_eq_true.mp h9.2.2
      rw [eq_of_beq z2] at z1
      exact List.any_eq_true.mpr ⟨_, z1, by simp⟩
    · exact h9
  obtain ⟨r, nest, hc1, hc2, hn1, hn2⟩ := ab_flink hfl
  obtain rfl : n = pc + 3 := by omega
  rw [hy.2.2.2] at hd
  have hcl := abCl_ok _ _ hc1
  have hN := hcl.2.2.2.2.1
  have ho : o < A.1 := hr.2.1.lt (by rw [h1]; have := hcl.2.2.2.2.2.2.2.2; omega) (by rw [h1]; have := hcl.2.2.2.2.2.2.2.2; omega)
  have had : abAd base ex o = base + o := abAd_lt hr.2.1 ho
  have hat := hr.1.2 o ho
  have hci : b.toNat < 20 := by have := hcl.2.2.2.2.2.2.2.2; omega
  have hob : ∀ M2 : abMem, abOb base ex cA A.2 M2 o = .inr (b.toNat, abFs base ex b.toNat o M2) := fun M2 => by unfold abOb; rw [if_pos (by rw [h1]; exact hci), h1]
  rw [hob] at hat
  have hst := hX.2.2.2.2.2.2.2.2.1
  have hts := hX.2.2.2.2.2.2.1
  have hcast := toNat_cast hy.2.1
  have v1 := abTail hv
  have v2 := abTail v1.2
  have hfty := abFt_0 (c := b.toNat) (k := a.toNat) (by have hft : abFt b.toNat a.toNat + 56 = 56 := hy.1; omega)
  have hft : abFt b.toNat a.toNat + 56 = 56 := hy.1
  have hnf : narrow (abTy b.toNat a.toNat) (.int (Int32.ofInt x)) = .int (Int32.ofInt x) ∧ fits (abTy b.toNat a.toNat) (.int (Int32.ofInt x)) = true := by rw [hfty]; exact ⟨rfl, rfl⟩
  have hset : (abFs base ex b.toNat o M).set a.toNat (.int (Int32.ofInt x)) = abFs base ex b.toNat o (sI M o a x) := abFs_set (by rw [hN]; exact hc2) (by rw [if_neg (by omega), gI_sI, if_pos ⟨rfl, hcast⟩]) (fun j hj => ⟨by rw [gI_sI, if_neg (fun z => hj (by have := z.2; omega))], rfl⟩)
  have fin : ∀ (H1 : Heap) (z : Nat), va_at D abCl (base + o, .inr (b.toNat, (abFs base ex b.toNat o M).set a.toNat (.int (Int32.ofInt x)))) H1 → H1.size = H.size → (∀ q : Nat, q ≠ base + o → H1[q]? = H[q]?) → W p l e Rm s m args below meth cd H1 (locs ++ [⟨base + o, z⟩]) cnt.1 cnt.2 Qm (F0 m (pc + 3) lsM (st.map (abCv base ex))) := by
    intro H1 z g1 g2 g3
    rw [hset, ← hob] at g1
    exact k1 p e Rm s m args below meth cd cA H1 _ lsM Qm hX hR (hs0.write ho abSame_wI g1 g2 g3 (abOkM_sI hr.2.2.1 v1.1) v2.2 (fun q hq => by rw [List.mem_singleton.mp hq])) hF
  refine abWeq (st2 := (.int (Int32.ofInt x)) :: .ref (base + o) :: st.map (abCv base ex)) ?_ (by show _ = _ :: abCv base ex (vr (some o)) :: _; simp only [abCv, Option.map_some, va_rf, had]) rfl
  by_cases hfi : abFin b.toNat a.toNat = true
  · have h9 := hsd.2
    rw [if_pos hfi] at h9
    simp only [Bool.and_eq_true] at h9
    have hini : abKd i = 2 := Nat.eq_of_beq_eq_true h9.1
    have hown : abOwn i = b.toNat := eq_of_beq h9.2.1
    obtain ⟨q, z1, z2⟩ := abOkMem abFlL_ok h9.2.2
    rw [eq_of_beq z2] at z1
    obtain ⟨r2, y1, y2, -, y4⟩ := z1
    have er : r2 = r := Option.some.inj (y1.symm.trans hc1)
    subst er
    have hiL : i < 297 := by
      rcases Nat.lt_or_ge i 297 with q | q
      · exact q
      · exact absurd hini (by rw [abKd_big q]; decide)
    have hnm : meth.name = "<init>" := (hX.2.2.2.2.2.2.2.1 hiL).trans ((abM_ok hiL).2.2.2.2.2.2.2.2.2.1 hini)
    exact ab_putF hX.1 hX.2.1 hts hcl hc1 hX.2.2.2.2.2.1 hst.1 hat hc2 (hts _ (abTb_mem (y4 rfl) rfl)) ((abFin_of hc1).symm.trans hfi) hnm (by rw [hown]; exact hcl.2.2.2.2.2.2.2.1.symm) hnf.1 hnf.2 (by rw [abFs_len, hN]; exact hc2) hd fin
  · have hff : (r.2.1 a.toNat).2.2.2 = false := by rw [← abFin_of hc1]; simpa using hfi
    cases nest with
    | true =>
      obtain ⟨host, hw⟩ := hn1 rfl
      exact ab_putN hX.1 hX.2.1 hts hcl hc1 hX.2.2.2.2.2.1 hst.1 hat hc2 (va_Nw.use rfl (hst.2.1 _ hw rfl)) hff hnf.1 hnf.2 (by rw [abFs_len, hN]; exact hc2) hd fin
    | false =>
      exact ab_put hX.1 hX.2.1 hts hcl hc1 hX.2.2.2.2.2.1 hst.1 hat hc2 (hts _ (abTb_mem (hn2 rfl) rfl)) hff hnf.1 hnf.2 (by rw [abFs_len, hN]; exact hc2) hd fin
set_option maxRecDepth 20000 in
theorem abs_putZ {l : Launch} {D : va_G} {base : Nat} {ex : Nat → Nat} : abR_putZ (abMach l D base ex) := by
  intro d lim i pc ls st cnt A M Q a b c n o x hc h1 h2 k1
  intro p e Rm s m args below meth cd cA H locs lsM Qm hX hR hs hF
  obtain ⟨hd, hn, hsd⟩ := abDec hc (by decide)
  have hs0 := hs
  obtain ⟨hr, hl, hv, hS⟩ := hs
  unfold abSide at hsd
  simp only [Bool.and_eq_true] at hsd
  have hy := of_decide_eq_true hsd.1
  have hfl : abFlL.any (fun q => q.1 == abOwn i && (q.2.1 == c && (q.2.2.1 == b.toNat && q.2.2.2.1 == a.toNat))) = true := by
    have h9 := hsd.2
    split at h9
    · simp only [Bool.and_eq_true] at h9
      obtain ⟨q, z1, z2⟩ := List.any_eq_true.mp h9.2.2
      rw [eq_of_beq z2] at z1
      exact List.any_eq_true.mpr ⟨_, z1, by simp⟩
    · exact h9
  obtain ⟨r, nest, hc1, hc2, hn1, hn2⟩ := ab_flink hfl
  obtain rfl : n = pc + 3 := by omega
  rw [hy.2.2.2] at hd
  have hcl := abCl_ok _ _ hc1
  have hN := hcl.2.2.2.2.1
  have ho : o < A.1 := hr.2.1.lt (by rw [h1]; have := hcl.2.2.2.2.2.2.2.2; omega) (by rw [h1]; have := hcl.2.2.2.2.2.2.2.2; omega)
  have had : abAd base ex o = base + o := abAd_lt hr.2.1 ho
  have hat := hr.1.2 o ho
  have hci : b.toNat < 20 := by have := hcl.2.2.2.2.2.2.2.2; omega
  have hob : ∀ M2 : abMem, abOb base ex cA A.2 M2 o = .inr (b.toNat, abFs base ex b.toNat o M2) := fun M2 => by unfold abOb; rw [if_pos (by rw [h1]; exact hci), h1]
  rw [hob] at hat
  have hst := hX.2.2.2.2.2.2.2.2.1
  have hts := hX.2.2.2.2.2.2.1
  have hcast := toNat_cast hy.2.1
  have v1 := abTail hv
  have v2 := abTail v1.2
  have hfty := abFt_1 (c := b.toNat) (k := a.toNat) (by have hft : abFt b.toNat a.toNat + 56 = 57 := hy.1; omega)
  have hft : abFt b.toNat a.toNat + 56 = 57 := hy.1
  have hnf : narrow (abTy b.toNat a.toNat) (.int (Int32.ofInt x)) = .int (Int32.ofInt x) ∧ fits (abTy b.toNat a.toNat) (.int (Int32.ofInt x)) = true := by rw [hfty]; exact fits_bool h2
  have hset : (abFs base ex b.toNat o M).set a.toNat (.int (Int32.ofInt x)) = abFs base ex b.toNat o (sI M o a x) := abFs_set (by rw [hN]; exact hc2) (by rw [if_neg (by omega), gI_sI, if_pos ⟨rfl, hcast⟩]) (fun j hj => ⟨by rw [gI_sI, if_neg (fun z => hj (by have := z.2; omega))], rfl⟩)
  have fin : ∀ (H1 : Heap) (z : Nat), va_at D abCl (base + o, .inr (b.toNat, (abFs base ex b.toNat o M).set a.toNat (.int (Int32.ofInt x)))) H1 → H1.size = H.size → (∀ q : Nat, q ≠ base + o → H1[q]? = H[q]?) → W p l e Rm s m args below meth cd H1 (locs ++ [⟨base + o, z⟩]) cnt.1 cnt.2 Qm (F0 m (pc + 3) lsM (st.map (abCv base ex))) := by
    intro H1 z g1 g2 g3
    rw [hset, ← hob] at g1
    exact k1 p e Rm s m args below meth cd cA H1 _ lsM Qm hX hR (hs0.write ho abSame_wI g1 g2 g3 (abOkM_sI hr.2.2.1 v1.1) v2.2 (fun q hq => by rw [List.mem_singleton.mp hq])) hF
  refine abWeq (st2 := (.int (Int32.ofInt x)) :: .ref (base + o) :: st.map (abCv base ex)) ?_ (by show _ = _ :: abCv base ex (vr (some o)) :: _; simp only [abCv, Option.map_some, va_rf, had]) rfl
  by_cases hfi : abFin b.toNat a.toNat = true
  · have h9 := hsd.2
    rw [if_pos hfi] at h9
    simp only [Bool.and_eq_true] at h9
    have hini : abKd i = 2 := Nat.eq_of_beq_eq_true h9.1
    have hown : abOwn i = b.toNat := eq_of_beq h9.2.1
    obtain ⟨q, z1, z2⟩ := abOkMem abFlL_ok h9.2.2
    rw [eq_of_beq z2] at z1
    obtain ⟨r2, y1, y2, -, y4⟩ := z1
    have er : r2 = r := Option.some.inj (y1.symm.trans hc1)
    subst er
    have hiL : i < 297 := by
      rcases Nat.lt_or_ge i 297 with q | q
      · exact q
      · exact absurd hini (by rw [abKd_big q]; decide)
    have hnm : meth.name = "<init>" := (hX.2.2.2.2.2.2.2.1 hiL).trans ((abM_ok hiL).2.2.2.2.2.2.2.2.2.1 hini)
    exact ab_putF hX.1 hX.2.1 hts hcl hc1 hX.2.2.2.2.2.1 hst.1 hat hc2 (hts _ (abTb_mem (y4 rfl) rfl)) ((abFin_of hc1).symm.trans hfi) hnm (by rw [hown]; exact hcl.2.2.2.2.2.2.2.1.symm) hnf.1 hnf.2 (by rw [abFs_len, hN]; exact hc2) hd fin
  · have hff : (r.2.1 a.toNat).2.2.2 = false := by rw [← abFin_of hc1]; simpa using hfi
    cases nest with
    | true =>
      obtain ⟨host, hw⟩ := hn1 rfl
      exact ab_putN hX.1 hX.2.1 hts hcl hc1 hX.2.2.2.2.2.1 hst.1 hat hc2 (va_Nw.use rfl (hst.2.1 _ hw rfl)) hff hnf.1 hnf.2 (by rw [abFs_len, hN]; exact hc2) hd fin
    | false =>
      exact ab_put hX.1 hX.2.1 hts hcl hc1 hX.2.2.2.2.2.1 hst.1 hat hc2 (hts _ (abTb_mem (hn2 rfl) rfl)) hff hnf.1 hnf.2 (by rw [abFs_len, hN]; exact hc2) hd fin
set_option maxRecDepth 20000 in
theorem abs_putR {l : Launch} {D : va_G} {base : Nat} {ex : Nat → Nat} : abR_putR (abMach l D base ex) := by
  intro d lim i pc ls st cnt A M Q a b c n o r hc h1 k1
  intro p e Rm s m args below meth cd cA H locs lsM Qm hX hR hs hF
  obtain ⟨hd, hn, hsd⟩ := abDec hc (by decide)
  have hs0 := hs
  obtain ⟨hr, hl, hv, hS⟩ := hs
  unfold abSide at hsd
  simp only [Bool.and_eq_true] at hsd
  have hy := of_decide_eq_true hsd.1
  have hfl : abFlL.any (fun q => q.1 == abOwn i && (q.2.1 == c && (q.2.2.1 == b.toNat && q.2.2.2.1 == a.toNat))) = true := by
    have h9 := hsd.2
    split at h9
    · simp only [Bool.and_eq_true] at h9
      obtain ⟨q, z1, z2⟩ := List.any_eq_true.mp h9.2.2
      rw [eq_of_beq z2] at z1
      exact List.any_eq_true.mpr ⟨_, z1, by simp⟩
    · exact h9
  obtain ⟨rc, nest, hc1, hc2, hn1, hn2⟩ := ab_flink hfl
  obtain rfl : n = pc + 3 := by omega
  rw [hy.2.2.2] at hd
  have hcl := abCl_ok _ _ hc1
  have hN := hcl.2.2.2.2.1
  have ho : o < A.1 := hr.2.1.lt (by rw [h1]; have := hcl.2.2.2.2.2.2.2.2; omega) (by rw [h1]; have := hcl.2.2.2.2.2.2.2.2; omega)
  have had : abAd base ex o = base + o := abAd_lt hr.2.1 ho
  have hat := hr.1.2 o ho
  have hci : b.toNat < 20 := by have := hcl.2.2.2.2.2.2.2.2; omega
  have hob : ∀ M2 : abMem, abOb base ex cA A.2 M2 o = .inr (b.toNat, abFs base ex b.toNat o M2) := fun M2 => by unfold abOb; rw [if_pos (by rw [h1]; exact hci), h1]
  rw [hob] at hat
  have hst := hX.2.2.2.2.2.2.2.2.1
  have hts := hX.2.2.2.2.2.2.1
  have hcast := toNat_cast hy.2.1
  have v1 := abTail hv
  have v2 := abTail v1.2
  have hfty := abFt_2 (c := b.toNat) (k := a.toNat) (by have hft : abFt b.toNat a.toNat + 56 = 58 := hy.1; omega)
  have hft : abFt b.toNat a.toNat + 56 = 58 := hy.1
  have hnf : narrow (abTy b.toNat a.toNat) (va_rf (r.map (abAd base ex))) = va_rf (r.map (abAd base ex)) ∧ fits (abTy b.toNat a.toNat) (va_rf (r.map (abAd base ex))) = true := fits_rf hfty r
  have hset : (abFs base ex b.toNat o M).set a.toNat (va_rf (r.map (abAd base ex))) = abFs base ex b.toNat o (sR M o a r) := abFs_set (by rw [hN]; exact hc2) (by rw [if_pos (by omega), gR_sR, if_pos ⟨rfl, hcast⟩]) (fun j hj => ⟨rfl, by rw [gR_sR, if_neg (fun z => hj (by have := z.2; omega))]⟩)
  have fin : ∀ (H1 : Heap) (z : Nat), va_at D abCl (base + o, .inr (b.toNat, (abFs base ex b.toNat o M).set a.toNat (va_rf (r.map (abAd base ex))))) H1 → H1.size = H.size → (∀ q : Nat, q ≠ base + o → H1[q]? = H[q]?) → W p l e Rm s m args below meth cd H1 (locs ++ [⟨base + o, z⟩]) cnt.1 cnt.2 Qm (F0 m (pc + 3) lsM (st.map (abCv base ex))) := by
    intro H1 z g1 g2 g3
    rw [hset, ← hob] at g1
    exact k1 p e Rm s m args below meth cd cA H1 _ lsM Qm hX hR (hs0.write ho abSame_wR g1 g2 g3 (abOkM_sR hr.2.2.1 (fun z hz => v1.1 z hz)) v2.2 (fun q hq => by rw [List.mem_singleton.mp hq])) hF
  refine abWeq (st2 := (va_rf (r.map (abAd base ex))) :: .ref (base + o) :: st.map (abCv base ex)) ?_ (by show _ = _ :: abCv base ex (vr (some o)) :: _; simp only [abCv, Option.map_some, va_rf, had]) rfl
  by_cases hfi : abFin b.toNat a.toNat = true
  · have h9 := hsd.2
    rw [if_pos hfi] at h9
    simp only [Bool.and_eq_true] at h9
    have hini : abKd i = 2 := Nat.eq_of_beq_eq_true h9.1
    have hown : abOwn i = b.toNat := eq_of_beq h9.2.1
    obtain ⟨q, z1, z2⟩ := abOkMem abFlL_ok h9.2.2
    rw [eq_of_beq z2] at z1
    obtain ⟨r2, y1, y2, -, y4⟩ := z1
    have er : r2 = rc := Option.some.inj (y1.symm.trans hc1)
    subst er
    have hiL : i < 297 := by
      rcases Nat.lt_or_ge i 297 with q | q
      · exact q
      · exact absurd hini (by rw [abKd_big q]; decide)
    have hnm : meth.name = "<init>" := (hX.2.2.2.2.2.2.2.1 hiL).trans ((abM_ok hiL).2.2.2.2.2.2.2.2.2.1 hini)
    exact ab_putF hX.1 hX.2.1 hts hcl hc1 hX.2.2.2.2.2.1 hst.1 hat hc2 (hts _ (abTb_mem (y4 rfl) rfl)) ((abFin_of hc1).symm.trans hfi) hnm (by rw [hown]; exact hcl.2.2.2.2.2.2.2.1.symm) hnf.1 hnf.2 (by rw [abFs_len, hN]; exact hc2) hd fin
  · have hff : (rc.2.1 a.toNat).2.2.2 = false := by rw [← abFin_of hc1]; simpa using hfi
    cases nest with
    | true =>
      obtain ⟨host, hw⟩ := hn1 rfl
      exact ab_putN hX.1 hX.2.1 hts hcl hc1 hX.2.2.2.2.2.1 hst.1 hat hc2 (va_Nw.use rfl (hst.2.1 _ hw rfl)) hff hnf.1 hnf.2 (by rw [abFs_len, hN]; exact hc2) hd fin
    | false =>
      exact ab_put hX.1 hX.2.1 hts hcl hc1 hX.2.2.2.2.2.1 hst.1 hat hc2 (hts _ (abTb_mem (hn2 rfl) rfl)) hff hnf.1 hnf.2 (by rw [abFs_len, hN]; exact hc2) hd fin
