/-- which own word string i is -/
def swI (i : Nat) : Int := ([0, 1, 5, 9, 16, 0, 2, 17, 19, 18, 3, 4, 6, 7, 8, 10, 11, 12, 13, 14, 15] : List Int).getD i 0
theorem abSB_in0 : ∀ i : Nat, i < 21 → abSL i ≤ 94 ∧ ∀ k : Nat, k < (abStrB.getD i []).length → 32 ≤ abSB i k ∧ abSB i k ≤ 122 := by decide
theorem abSB_in {i : Nat} {j : Int} (hi : i < 21) (h : 0 ≤ j ∧ j < abSL i) : 32 ≤ abSB i j ∧ abSB i j ≤ 122 := by
  obtain ⟨k, rfl⟩ := Int.eq_ofNat_of_zero_le h.1
  exact (abSB_in0 i hi).2 k (by have := h.2; unfold abSL at this; omega)
theorem abSL_in {i : Nat} (hi : i < 21) : 0 ≤ abSL i ∧ abSL i ≤ 94 := ⟨by unfold abSL; omega, (abSB_in0 i hi).1⟩
theorem sw_ok0 : ∀ i : Nat, i < 21 → i ≠ 5 → (0 ≤ swI i ∧ swI i < 20) ∧ abSL i = olT (swI i) ∧ ∀ j : Nat, j < (abStrB.getD i []).length → abSB i j = ownT (osT (swI i) + j) + 96 := by decide
theorem sw_ok {i : Nat} (hi : i < 21) (h5 : i ≠ 5) : (0 ≤ swI i ∧ swI i < 20) ∧ abSL i = olT (swI i) ∧ ∀ j : Int, 0 ≤ j → j < abSL i → abSB i j = ownT (osT (swI i) + j) + 96 := by
  obtain ⟨h1, h2, h3⟩ := sw_ok0 i hi h5
  refine ⟨h1, h2, fun j j1 j2 => ?_⟩
  obtain ⟨k, rfl⟩ := Int.eq_ofNat_of_zero_le j1
  exact h3 k (by unfold abSL at j2; omega)
theorem lg_ok0 : abSL 5 = 94 ∧ ∀ j : Nat, j < 94 → abSB 5 j = if ownT j = 0 then 32 else ownT j + 96 := by decide
theorem lg_ok : abSL 5 = 94 ∧ ∀ j : Int, 0 ≤ j → j < 94 → abSB 5 j = if ownT j = 0 then 32 else ownT j + 96 := ⟨lg_ok0.1, fun j j1 j2 => by
  obtain ⟨k, rfl⟩ := Int.eq_ofNat_of_zero_le j1
  exact lg_ok0.2 k (by omega)⟩
theorem xshr_0 {x : Int} (h : 0 ≤ x ∧ x ≤ 94) : xshr x 0 = x := by
  obtain ⟨k, rfl⟩ := Int.eq_ofNat_of_zero_le h.1
  have : ∀ k : Nat, k < 95 → xshr (k : Int) 0 = (k : Int) := by decide
  exact this k (by omega)
theorem xi2c_s {x : Int} (h : 0 ≤ x ∧ x ≤ 127) : xi2c (xand x 255) = x := by
  obtain ⟨k, rfl⟩ := Int.eq_ofNat_of_zero_le h.1
  have : ∀ k : Nat, k < 128 → xi2c (xand (k : Int) 255) = (k : Int) := by decide
  exact this k (by omega)
set_option maxRecDepth 20000 in
set_option maxHeartbeats 4000000 in
theorem j_coder {d L : Nat} {M : abMem} {r : abRf} (hR : RF r M) {i : Nat} (hi : i < 21) : abW d (0, 0) 286 0 (abEnt (abL 286) [vr (some (1000000 + i))]) [] (0, 0) (A0 L) M (qE (some (vi (0))) (A0 L) M) := by
  show abW d (0, 0) 286 0 [some (vr (some (1000000 + i)))] [] (0, 0) (A0 L) M (qE (some (vi (0))) (A0 L) M)
  refine bw_compact rfl ?_
  refine bw_ifeq rfl (fun c3 => ?_) (fun c3 => ?_)
  · skip
    refine bw_push rfl ?_
    refine bw_ireturn (st := []) rfl (Nat.le_refl _) (Nat.le_refl _) (Or.inr (Or.inr (Or.inr ⟨rfl, by omega, by omega⟩))) ?_
    first
    | exact ⟨rfl, rfl, rfl⟩
    | (exfalso; omega)
  · skip
    refine bw_aload rfl rfl ?_
    refine bw_strc rfl (by omega) ?_
    refine bw_goto rfl ?_
    refine bw_ireturn (st := []) rfl (Nat.le_refl _) (Nat.le_refl _) (Or.inr (Or.inr (Or.inr ⟨rfl, by omega, by omega⟩))) ?_
    first
    | exact ⟨rfl, rfl, rfl⟩
    | (exfalso; omega)
set_option maxRecDepth 20000 in
set_option maxHeartbeats 4000000 in
theorem j_latin {d L : Nat} {M : abMem} {r : abRf} (hR : RF r M) {i : Nat} (hi : i < 21) : abW d (0, 0) 287 0 (abEnt (abL 287) [vr (some (1000000 + i))]) [] (0, 0) (A0 L) M (qE (some (vi (1))) (A0 L) M) := by
  show abW d (0, 0) 287 0 [some (vr (some (1000000 + i)))] [] (0, 0) (A0 L) M (qE (some (vi (1))) (A0 L) M)
  refine bw_compact rfl ?_
  refine bw_ifeq rfl (fun c3 => ?_) (fun c3 => ?_)
  · skip
    refine bw_push rfl ?_
    refine bw_retz rfl rfl (by omega) ?_
    first
    | exact ⟨rfl, rfl, rfl⟩
    | (exfalso; omega)
  · skip
    refine bw_aload rfl rfl ?_
    refine bw_strc rfl (by omega) ?_
    refine bw_ifne rfl (fun c10 => ?_) (fun c10 => ?_)
    · skip
      refine bw_push rfl ?_
      refine bw_retz rfl rfl (by omega) ?_
      first
      | exact ⟨rfl, rfl, rfl⟩
      | (exfalso; omega)
    · skip
      refine bw_push rfl ?_
      refine bw_goto rfl ?_
      refine bw_retz rfl rfl (by omega) ?_
      first
      | exact ⟨rfl, rfl, rfl⟩
      | (exfalso; omega)
set_option maxRecDepth 20000 in
set_option maxHeartbeats 4000000 in
theorem j_length {d L : Nat} {M : abMem} {r : abRf} (hR : RF r M) {i : Nat} (hi : i < 21) (hd : 1 ≤ d) : abW d (0, 0) 284 0 (abEnt (abL 284) [vr (some (1000000 + i))]) [] (0, 0) (A0 L) M (qE (some (vi (abSL i))) (A0 L) M) := by
  show abW d (0, 0) 284 0 [some (vr (some (1000000 + i)))] [] (0, 0) (A0 L) M (qE (some (vi (abSL i))) (A0 L) M)
  refine bw_aload rfl rfl ?_
  refine bw_strv rfl (by omega) ?_
  refine bw_alenB rfl (by omega) ?_
  refine bw_aload rfl rfl ?_
  refine bw_callTe (e := d - 1) (as := []) rfl (by omega) rfl rfl (Nat.le_of_ble_eq_true rfl) (Nat.le_of_ble_eq_true rfl) (by omega) (by omega) (j_coder hR (by omega)) ?_
  refine bw_ishr rfl ?_
  refine bw_ret rfl rfl ?_
  exact ⟨by rw [xshr_0 (abSL_in hi)], rfl, rfl⟩
set_option maxRecDepth 20000 in
set_option maxHeartbeats 4000000 in
theorem j_check3 {d L : Nat} {M : abMem} {r : abRf} (hR : RF r M) {j z : Int} {o : Option Nat} (h : 0 ≤ j ∧ j < z) : abW d (0, 0) 296 0 (abEnt (abL 296) [vi j, vi z, vr o]) [] (0, 0) (A0 L) M (qE (some (vi (j))) (A0 L) M) := by
  show abW d (0, 0) 296 0 [some (vi j), some (vi z), some (vr o)] [] (0, 0) (A0 L) M (qE (some (vi (j))) (A0 L) M)
  refine bw_iload rfl rfl ?_
  refine bw_iflt rfl (fun c1 => ?_) (fun c1 => ?_)
  · skip
    exfalso; omega
  · skip
    refine bw_iload rfl rfl ?_
    refine bw_iload rfl rfl ?_
    refine bw_iclt rfl (fun c6 => ?_) (fun c6 => ?_)
    · skip
      refine bw_iload rfl rfl ?_
      refine bw_ret rfl rfl ?_
      exact ⟨rfl, rfl, rfl⟩
    · skip
      exfalso; omega
set_option maxRecDepth 20000 in
set_option maxHeartbeats 4000000 in
theorem j_check {d L : Nat} {M : abMem} {r : abRf} (hR : RF r M) {j z : Int} (h : 0 ≤ j ∧ j < z) (hd : 1 ≤ d) : abW d (0, 0) 288 0 (abEnt (abL 288) [vi j, vi z]) [] (0, 0) (A0 L) M (qE none (A0 L) M) := by
  show abW d (0, 0) 288 0 [some (vi j), some (vi z)] [] (0, 0) (A0 L) M (qE none (A0 L) M)
  refine bw_iload rfl rfl ?_
  refine bw_iload rfl rfl ?_
  refine bw_sioobe rfl (fun r2 hr2 => ?_)
  refine bw_callSe (e := d - 1) (as := [_, _, _]) rfl (by omega) rfl rfl (Nat.le_of_ble_eq_true rfl) (Nat.le_of_ble_eq_true rfl) (j_check3 hR (by omega)) ?_
  refine bw_pop rfl ?_
  refine bw_retv rfl rfl ?_
  exact ⟨rfl, rfl, rfl⟩
set_option maxRecDepth 20000 in
set_option maxHeartbeats 4000000 in
theorem j_charAt1 {d L : Nat} {M : abMem} {r : abRf} (hR : RF r M) {i : Nat} (hi : i < 21) {j : Int} (h : 0 ≤ j ∧ j < abSL i) (hd : 2 ≤ d) : abW d (0, 0) 289 0 (abEnt (abL 289) [vr (some (1000021 + i)), vi j]) [] (0, 0) (A0 L) M (qE (some (vi (abSB i j))) (A0 L) M) := by
  show abW d (0, 0) 289 0 [some (vr (some (1000021 + i))), some (vi j)] [] (0, 0) (A0 L) M (qE (some (vi (abSB i j))) (A0 L) M)
  refine bw_iload rfl rfl ?_
  refine bw_aload rfl rfl ?_
  refine bw_alenB rfl (by omega) ?_
  refine bw_callSn (e := d - 1) (as := [_, _]) rfl (by omega) rfl rfl (Nat.le_of_ble_eq_true rfl) (Nat.le_of_ble_eq_true rfl) (j_check hR (by omega) (by omega)) ?_
  refine bw_aload rfl rfl ?_
  refine bw_iload rfl rfl ?_
  refine bw_baldS rfl (by omega) (by omega) (by omega) ?_
  refine bw_push rfl ?_
  refine bw_iand rfl ?_
  have b := abSB_in hi h
  refine bw_i2c rfl ?_
  rw [xi2c_s (by omega)]
  refine bw_ireturn (st := []) rfl (Nat.le_refl _) (Nat.le_refl _) (Or.inr (Or.inr (Or.inl ⟨rfl, by omega, by omega⟩))) ?_
  exact ⟨rfl, rfl, rfl⟩
set_option maxRecDepth 20000 in
set_option maxHeartbeats 4000000 in
theorem j_charAt {d L : Nat} {M : abMem} {r : abRf} (hR : RF r M) {i : Nat} (hi : i < 21) {j : Int} (h : 0 ≤ j ∧ j < abSL i) (hd : 3 ≤ d) : abW d (0, 0) 285 0 (abEnt (abL 285) [vr (some (1000000 + i)), vi j]) [] (0, 0) (A0 L) M (qE (some (vi (abSB i j))) (A0 L) M) := by
  have b := abSB_in hi h
  show abW d (0, 0) 285 0 [some (vr (some (1000000 + i))), some (vi j)] [] (0, 0) (A0 L) M (qE (some (vi (abSB i j))) (A0 L) M)
  refine bw_aload rfl rfl ?_
  refine bw_callTe (e := d - 1) (as := []) rfl (by omega) rfl rfl (Nat.le_of_ble_eq_true rfl) (Nat.le_of_ble_eq_true rfl) (by omega) (by omega) (j_latin hR (by omega)) ?_
  refine bw_ifeq rfl (fun c4 => ?_) (fun c4 => ?_)
  · skip
    exfalso; omega
  · skip
    refine bw_aload rfl rfl ?_
    refine bw_strv rfl (by omega) ?_
    refine bw_iload rfl rfl ?_
    refine bw_callSe (e := d - 1) (as := [_, _]) rfl (by omega) rfl rfl (Nat.le_of_ble_eq_true rfl) (Nat.le_of_ble_eq_true rfl) (j_charAt1 hR (by omega) (by omega) (by omega)) ?_
    refine bw_ireturn (st := []) rfl (Nat.le_refl _) (Nat.le_refl _) (Or.inr (Or.inr (Or.inl ⟨rfl, by omega, by omega⟩))) ?_
    exact ⟨rfl, rfl, rfl⟩
/-- v in the first n places -/
def flF (f : Int → Int) (n v : Int) : Int → Int := fun j => if 0 ≤ j ∧ j < n then v else f j
theorem flF_0 {f : Int → Int} {v : Int} : flF f 0 v = f := by
  funext j
  unfold flF
  rw [if_neg (by omega)]
theorem flF_s {f : Int → Int} {k v : Int} (hk : 0 ≤ k) : up (flF f k v) k v = flF f (k + 1) v := by
  funext j
  unfold up flF
  by_cases q : j = k
  · rw [if_pos q, if_pos (by omega)]
  · rw [if_neg q]
    by_cases q2 : 0 ≤ j ∧ j < k
    · rw [if_pos q2, if_pos (by omega)]
    · rw [if_neg q2, if_neg (by omega)]
def flL (f : Int → Int64) (n : Int) (v : Int64) : Int → Int64 := fun j => if 0 ≤ j ∧ j < n then v else f j
theorem flL_0 {f : Int → Int64} {v : Int64} : flL f 0 v = f := by
  funext j
  unfold flL
  rw [if_neg (by omega)]
theorem flL_s {f : Int → Int64} {k : Int} {v : Int64} (hk : 0 ≤ k) : up (flL f k v) k v = flL f (k + 1) v := by
  funext j
  unfold up flL
  by_cases q : j = k
  · rw [if_pos q, if_pos (by omega)]
  · rw [if_neg q]
    by_cases q2 : 0 ≤ j ∧ j < k
    · rw [if_pos q2, if_pos (by omega)]
    · rw [if_neg q2, if_neg (by omega)]
theorem gL_wL_eq {M : abMem} {a : Nat} {f : Int → Int64} : gL (wL M a f) a = f := by
  funext j
  show (if a = a then f else M.2.1 a) j = f j
  rw [if_pos rfl]
theorem gL_wL_ne {M : abMem} {a b : Nat} {f : Int → Int64} (h : b ≠ a) : gL (wL M a f) b = gL M b := by
  funext j
  show (if b = a then f else M.2.1 b) j = M.2.1 b j
  rw [if_neg h]
theorem wL_wL {M : abMem} {a : Nat} {f g : Int → Int64} : wL (wL M a f) a g = wL M a g := by
  have e : ∀ b : Nat, (if b = a then g else if b = a then f else M.2.1 b) = (if b = a then g else M.2.1 b) := fun b => by by_cases q : b = a <;> simp [q]
  show (M.1, ((fun b => if b = a then g else if b = a then f else M.2.1 b), M.2.2)) = _
  rw [funext e]; rfl
theorem sL_wL {M : abMem} {a : Nat} {f : Int → Int64} {j : Int} {x : Int64} : sL (wL M a f) a j x = wL M a (up f j x) := by
  unfold sL
  rw [gL_wL_eq, wL_wL]
theorem wL_self {M : abMem} {a : Nat} : wL M a (gL M a) = M := by
  have e : ∀ b : Nat, (if b = a then gL M a else M.2.1 b) = M.2.1 b := fun b => by
    by_cases q : b = a
    · subst q; rw [if_pos rfl]; rfl
    · rw [if_neg q]
  show (M.1, ((fun b => if b = a then gL M a else M.2.1 b), M.2.2)) = M
  rw [funext e]
set_option maxRecDepth 20000 in
set_option maxHeartbeats 4000000 in
theorem j_fill {d L : Nat} {M : abMem} {r : abRf} (hR : RF r M) {o : Nat} {z v : Int} (hk : (A0 L).2 o = (20, z)) (hz : 0 ≤ z ∧ z < 100000) : abW d (0, 0) 295 0 (abEnt (abL 295) [vr (some o), vi v]) [] (0, 0) (A0 L) M (qE none (A0 L) (wI M o (flF (gI M o) z v))) := by
  have L5 : ∀ (kf : Nat) (k : Int), (0 ≤ k ∧ k ≤ z) → ((z - k).toNat) < kf → abW d (0, 0) 295 5 [some (vr (some o)), some (vi v), some (vi k), some (vi z)] [] (0, 0) (A0 L) ((wI M o (flF (gI M o) k v))) (qE none (A0 L) (wI M o (flF (gI M o) z v))) := by
    intro kf
    induction kf with
    | zero => intro k  g1 hm9; exact absurd hm9 (Nat.not_lt_zero _)
    | succ kf ih5 =>
      intro k  g1 hm5
      have ih := ih5
      refine bw_iload rfl rfl ?_
      refine bw_iload rfl rfl ?_
      refine bw_icge rfl (fun c7 => ?_) (fun c7 => ?_)
      · skip
        refine bw_retv rfl rfl ?_
        obtain rfl : k = z := by omega
        exact ⟨rfl, rfl, rfl⟩
      · skip
        refine bw_aload rfl rfl ?_
        refine bw_iload rfl rfl ?_
        refine bw_iload rfl rfl ?_
        refine bw_asti rfl (by first | rfl | assumption) (by omega) (by omega) ?_
        refine bw_iinc (ls2 := [_, _, _, _]) rfl rfl rfl ⟨by omega, by omega⟩ rfl ?_
        refine bw_goto rfl ?_
        refine bw_cast (M2 := wI M o (flF (gI M o) (k + 1) v)) (ih _ (by omega) (by omega)) rfl rfl (by rw [sI_wI, flF_s (by omega)])
  show abW d (0, 0) 295 0 [some (vr (some o)), some (vi v), none, none] [] (0, 0) (A0 L) M (qE none (A0 L) (wI M o (flF (gI M o) z v)))
  refine bw_push rfl ?_
  refine bw_istore (ls2 := [_, _, _, _]) rfl rfl (Nat.le_of_ble_eq_true rfl) rfl ?_
  refine bw_aload rfl rfl ?_
  refine bw_len rfl hk (by decide) ?_
  refine bw_istore (ls2 := [_, _, _, _]) rfl rfl (Nat.le_of_ble_eq_true rfl) rfl ?_
  refine bw_cast (M2 := wI M o (flF (gI M o) 0 v)) (L5 (z.toNat + 1) 0 (by omega) (by omega)) rfl rfl (by rw [flF_0, wI_self])
set_option maxRecDepth 20000 in
set_option maxHeartbeats 4000000 in
theorem j_fillL {d L : Nat} {M : abMem} {r : abRf} (hR : RF r M) {o : Nat} {z : Int} {v : Int64} (hk : (A0 L).2 o = (23, z)) (hz : 0 ≤ z ∧ z < 100000) : abW d (0, 0) 294 0 (abEnt (abL 294) [vr (some o), vl v]) [] (0, 0) (A0 L) M (qE none (A0 L) (wL M o (flL (gL M o) z v))) := by
  have L6 : ∀ (kf : Nat) (k : Int), (0 ≤ k ∧ k ≤ z) → ((z - k).toNat) < kf → abW d (0, 0) 294 6 [some (vr (some o)), some (vl v), none, some (vi k), some (vi z)] [] (0, 0) (A0 L) ((wL M o (flL (gL M o) k v))) (qE none (A0 L) (wL M o (flL (gL M o) z v))) := by
    intro kf
    induction kf with
    | zero => intro k  g1 hm9; exact absurd hm9 (Nat.not_lt_zero _)
    | succ kf ih6 =>
      intro k  g1 hm6
      have ih := ih6
      refine bw_iload rfl rfl ?_
      refine bw_iload rfl rfl ?_
      refine bw_icge rfl (fun c9 => ?_) (fun c9 => ?_)
      · skip
        refine bw_retv rfl rfl ?_
        obtain rfl : k = z := by omega
        exact ⟨rfl, rfl, rfl⟩
      · skip
        refine bw_aload rfl rfl ?_
        refine bw_iload rfl rfl ?_
        refine bw_lload rfl rfl ?_
        refine bw_astl rfl (by first | rfl | assumption) (by omega) (by omega) ?_
        refine bw_iinc (ls2 := [_, _, _, _, _]) rfl rfl rfl ⟨by omega, by omega⟩ rfl ?_
        refine bw_goto rfl ?_
        refine bw_cast (M2 := wL M o (flL (gL M o) (k + 1) v)) (ih _ (by omega) (by omega)) rfl rfl (by rw [sL_wL, flL_s (by omega)])
  show abW d (0, 0) 294 0 [some (vr (some o)), some (vl v), none, none, none] [] (0, 0) (A0 L) M (qE none (A0 L) (wL M o (flL (gL M o) z v)))
  refine bw_push rfl ?_
  refine bw_istore (ls2 := [_, _, _, _, _]) rfl rfl (Nat.le_of_ble_eq_true rfl) rfl ?_
  refine bw_aload rfl rfl ?_
  refine bw_len rfl hk (by decide) ?_
  refine bw_istore (ls2 := [_, _, _, _, _]) rfl rfl (Nat.le_of_ble_eq_true rfl) rfl ?_
  refine bw_cast (M2 := wL M o (flL (gL M o) 0 v)) (L6 (z.toNat + 1) 0 (by omega) (by omega)) rfl rfl (by rw [flL_0, wL_self])
