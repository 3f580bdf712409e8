def pE (f : Int → Int) (i : Int) : Bool := decide (i = 0 ∨ f i ≠ f (i - 1))
set_option maxRecDepth 20000 in
set_option maxHeartbeats 4000000 in
theorem c_exposures {d : Nat} {A : abAl} {M : abMem} {o : Nat} {n : Int} {z : Int} (hz : z < 100000) (hk : A.2 o = (20, z)) (hn : 0 ≤ n ∧ n ≤ z) : abW d (0, 0) 271 0 (abEnt (abL 271) [vr (some o), vi n]) [] (0, 0) A M (qE (some (vi (cN (pE (gI M o)) n.toNat))) A M) := by
  have L4 : ∀ (kf : Nat) (c i : Int), (c = cN (pE (gI M o)) i.toNat) → (0 ≤ i ∧ i ≤ n) → ((n - i).toNat) < kf → abW d (0, 0) 271 4 [some (vr (some o)), some (vi n), some (vi c), some (vi i)] [] (0, 0) A (M) (qE (some (vi (cN (pE (gI M o)) n.toNat))) A M) := by
    intro kf
    induction kf with
    | zero => intro c i  g1 g2 hm9; exact absurd hm9 (Nat.not_lt_zero _)
    | succ kf ih =>
      intro c i  g1 g2 hm9
      have b9 := cN_in (pE (gI M o)) i.toNat
      refine bw_iload rfl rfl ?_
      refine bw_iload rfl rfl ?_
      refine bw_icge rfl (fun c6 => ?_) (fun c6 => ?_)
      · skip
        refine bw_iload rfl rfl ?_
        refine bw_ret rfl rfl ?_
        obtain rfl : i = n := by omega
        exact ⟨by rw [g1], rfl, rfl⟩
      · skip
        refine bw_iload rfl rfl ?_
        refine bw_ifeq rfl (fun c10 => ?_) (fun c10 => ?_)
        · skip
          refine bw_iinc (ls2 := [_, _, _, _]) rfl rfl rfl ⟨by omega, by omega⟩ rfl ?_
          refine bw_iinc (ls2 := [_, _, _, _]) rfl rfl rfl ⟨by omega, by omega⟩ rfl ?_
          refine bw_goto rfl ?_
          exact ih _ _ (by first | exact cN_t (by omega) g1 (by simp [pE]; omega) | exact cN_f (by omega) g1 (by simp [pE]; omega) | exact cN_t (by omega) g1 (by simp [pE, *]) | exact cN_f (by omega) g1 (by simp [pE, *])) (by omega) (by omega)
        · skip
          refine bw_aload rfl rfl ?_
          refine bw_iload rfl rfl ?_
          refine bw_aldi rfl hk (by omega) (by omega) ?_
          refine bw_aload rfl rfl ?_
          refine bw_iload rfl rfl ?_
          refine bw_push rfl ?_
          refine bw_isub rfl ⟨by omega, by omega⟩ ?_
          refine bw_aldi rfl hk (by omega) (by omega) ?_
          refine bw_iceq rfl (fun c21 => ?_) (fun c21 => ?_)
          · skip
            refine bw_iinc (ls2 := [_, _, _, _]) rfl rfl rfl ⟨by omega, by omega⟩ rfl ?_
            refine bw_goto rfl ?_
            exact ih _ _ (by first | exact cN_t (by omega) g1 (by simp [pE]; omega) | exact cN_f (by omega) g1 (by simp [pE]; omega) | exact cN_t (by omega) g1 (by simp [pE, *]) | exact cN_f (by omega) g1 (by simp [pE, *])) (by omega) (by omega)
          · skip
            refine bw_iinc (ls2 := [_, _, _, _]) rfl rfl rfl ⟨by omega, by omega⟩ rfl ?_
            refine bw_iinc (ls2 := [_, _, _, _]) rfl rfl rfl ⟨by omega, by omega⟩ rfl ?_
            refine bw_goto rfl ?_
            exact ih _ _ (by first | exact cN_t (by omega) g1 (by simp [pE]; omega) | exact cN_f (by omega) g1 (by simp [pE]; omega) | exact cN_t (by omega) g1 (by simp [pE, *]) | exact cN_f (by omega) g1 (by simp [pE, *])) (by omega) (by omega)
  show abW d (0, 0) 271 0 [some (vr (some o)), some (vi n), none, none] [] (0, 0) A M (qE (some (vi (cN (pE (gI M o)) n.toNat))) A M)
  refine bw_push rfl ?_
  refine bw_istore (ls2 := [_, _, _, _]) rfl rfl (Nat.le_of_ble_eq_true rfl) rfl ?_
  refine bw_push rfl ?_
  refine bw_istore (ls2 := [_, _, _, _]) rfl rfl (Nat.le_of_ble_eq_true rfl) rfl ?_
  exact L4 (n.toNat + 1) 0 0 (by first | rfl | decide) (by omega) (by omega)
def pFE (f : Int → Int) (i : Int) : Bool := decide (f i ≠ 0 ∧ (i = 0 ∨ f i ≠ f (i - 1)))
set_option maxRecDepth 20000 in
set_option maxHeartbeats 4000000 in
theorem c_filledExposures {d : Nat} {A : abAl} {M : abMem} {o : Nat} {n : Int} {z : Int} (hz : z < 100000) (hk : A.2 o = (20, z)) (hn : 0 ≤ n ∧ n ≤ z) : abW d (0, 0) 272 0 (abEnt (abL 272) [vr (some o), vi n]) [] (0, 0) A M (qE (some (vi (cN (pFE (gI M o)) n.toNat))) A M) := by
  have L4 : ∀ (kf : Nat) (c i : Int), (c = cN (pFE (gI M o)) i.toNat) → (0 ≤ i ∧ i ≤ n) → ((n - i).toNat) < kf → abW d (0, 0) 272 4 [some (vr (some o)), some (vi n), some (vi c), some (vi i)] [] (0, 0) A (M) (qE (some (vi (cN (pFE (gI M o)) n.toNat))) A M) := by
    intro kf
    induction kf with
    | zero => intro c i  g1 g2 hm9; exact absurd hm9 (Nat.not_lt_zero _)
    | succ kf ih =>
      intro c i  g1 g2 hm9
      have b9 := cN_in (pFE (gI M o)) i.toNat
      refine bw_iload rfl rfl ?_
      refine bw_iload rfl rfl ?_
      refine bw_icge rfl (fun c6 => ?_) (fun c6 => ?_)
      · skip
        refine bw_iload rfl rfl ?_
        refine bw_ret rfl rfl ?_
        obtain rfl : i = n := by omega
        exact ⟨by rw [g1], rfl, rfl⟩
      · skip
        refine bw_aload rfl rfl ?_
        refine bw_iload rfl rfl ?_
        refine bw_aldi rfl hk (by omega) (by omega) ?_
        refine bw_ifeq rfl (fun c12 => ?_) (fun c12 => ?_)
        · skip
          refine bw_iinc (ls2 := [_, _, _, _]) rfl rfl rfl ⟨by omega, by omega⟩ rfl ?_
          refine bw_goto rfl ?_
          exact ih _ _ (by first | exact cN_t (by omega) g1 (by simp [pFE]; omega) | exact cN_f (by omega) g1 (by simp [pFE]; omega) | exact cN_t (by omega) g1 (by simp [pFE, *]) | exact cN_f (by omega) g1 (by simp [pFE, *])) (by omega) (by omega)
        · skip
          refine bw_iload rfl rfl ?_
          refine bw_ifeq rfl (fun c16 => ?_) (fun c16 => ?_)
          · skip
            refine bw_iinc (ls2 := [_, _, _, _]) rfl rfl rfl ⟨by omega, by omega⟩ rfl ?_
            refine bw_iinc (ls2 := [_, _, _, _]) rfl rfl rfl ⟨by omega, by omega⟩ rfl ?_
            refine bw_goto rfl ?_
            exact ih _ _ (by first | exact cN_t (by omega) g1 (by simp [pFE]; omega) | exact cN_f (by omega) g1 (by simp [pFE]; omega) | exact cN_t (by omega) g1 (by simp [pFE, *]) | exact cN_f (by omega) g1 (by simp [pFE, *])) (by omega) (by omega)
          · skip
            refine bw_aload rfl rfl ?_
            refine bw_iload rfl rfl ?_
            refine bw_aldi rfl hk (by omega) (by omega) ?_
            refine bw_aload rfl rfl ?_
            refine bw_iload rfl rfl ?_
            refine bw_push rfl ?_
            refine bw_isub rfl ⟨by omega, by omega⟩ ?_
            refine bw_aldi rfl hk (by omega) (by omega) ?_
            refine bw_iceq rfl (fun c27 => ?_) (fun c27 => ?_)
            · skip
              refine bw_iinc (ls2 := [_, _, _, _]) rfl rfl rfl ⟨by omega, by omega⟩ rfl ?_
              refine bw_goto rfl ?_
              exact ih _ _ (by first | exact cN_t (by omega) g1 (by simp [pFE]; omega) | exact cN_f (by omega) g1 (by simp [pFE]; omega) | exact cN_t (by omega) g1 (by simp [pFE, *]) | exact cN_f (by omega) g1 (by simp [pFE, *])) (by omega) (by omega)
            · skip
              refine bw_iinc (ls2 := [_, _, _, _]) rfl rfl rfl ⟨by omega, by omega⟩ rfl ?_
              refine bw_iinc (ls2 := [_, _, _, _]) rfl rfl rfl ⟨by omega, by omega⟩ rfl ?_
              refine bw_goto rfl ?_
              exact ih _ _ (by first | exact cN_t (by omega) g1 (by simp [pFE]; omega) | exact cN_f (by omega) g1 (by simp [pFE]; omega) | exact cN_t (by omega) g1 (by simp [pFE, *]) | exact cN_f (by omega) g1 (by simp [pFE, *])) (by omega) (by omega)
  show abW d (0, 0) 272 0 [some (vr (some o)), some (vi n), none, none] [] (0, 0) A M (qE (some (vi (cN (pFE (gI M o)) n.toNat))) A M)
  refine bw_push rfl ?_
  refine bw_istore (ls2 := [_, _, _, _]) rfl rfl (Nat.le_of_ble_eq_true rfl) rfl ?_
  refine bw_push rfl ?_
  refine bw_istore (ls2 := [_, _, _, _]) rfl rfl (Nat.le_of_ble_eq_true rfl) rfl ?_
  exact L4 (n.toNat + 1) 0 0 (by first | rfl | decide) (by omega) (by omega)
def pF (f : Int → Int) (i : Int) : Bool := decide (f i ≠ 0)
set_option maxRecDepth 20000 in
set_option maxHeartbeats 4000000 in
theorem c_filled {d : Nat} {A : abAl} {M : abMem} {o : Nat} {n : Int} {z : Int} (hz : z < 100000) (hk : A.2 o = (20, z)) (hn : 0 ≤ n ∧ n ≤ z) : abW d (0, 0) 273 0 (abEnt (abL 273) [vr (some o), vi n]) [] (0, 0) A M (qE (some (vi (cN (pF (gI M o)) n.toNat))) A M) := by
  have L4 : ∀ (kf : Nat) (c i : Int), (c = cN (pF (gI M o)) i.toNat) → (0 ≤ i ∧ i ≤ n) → ((n - i).toNat) < kf → abW d (0, 0) 273 4 [some (vr (some o)), some (vi n), some (vi c), some (vi i)] [] (0, 0) A (M) (qE (some (vi (cN (pF (gI M o)) n.toNat))) A M) := by
    intro kf
    induction kf with
    | zero => intro c i  g1 g2 hm9; exact absurd hm9 (Nat.not_lt_zero _)
    | succ kf ih =>
      intro c i  g1 g2 hm9
      have b9 := cN_in (pF (gI M o)) i.toNat
      refine bw_iload rfl rfl ?_
      refine bw_iload rfl rfl ?_
      refine bw_icge rfl (fun c6 => ?_) (fun c6 => ?_)
      · skip
        refine bw_iload rfl rfl ?_
        refine bw_ret rfl rfl ?_
        obtain rfl : i = n := by omega
        exact ⟨by rw [g1], rfl, rfl⟩
      · skip
        refine bw_aload rfl rfl ?_
        refine bw_iload rfl rfl ?_
        refine bw_aldi rfl hk (by omega) (by omega) ?_
        refine bw_ifeq rfl (fun c12 => ?_) (fun c12 => ?_)
        · skip
          refine bw_iinc (ls2 := [_, _, _, _]) rfl rfl rfl ⟨by omega, by omega⟩ rfl ?_
          refine bw_goto rfl ?_
          exact ih _ _ (by first | exact cN_t (by omega) g1 (by simp [pF]; omega) | exact cN_f (by omega) g1 (by simp [pF]; omega) | exact cN_t (by omega) g1 (by simp [pF, *]) | exact cN_f (by omega) g1 (by simp [pF, *])) (by omega) (by omega)
        · skip
          refine bw_iinc (ls2 := [_, _, _, _]) rfl rfl rfl ⟨by omega, by omega⟩ rfl ?_
          refine bw_iinc (ls2 := [_, _, _, _]) rfl rfl rfl ⟨by omega, by omega⟩ rfl ?_
          refine bw_goto rfl ?_
          exact ih _ _ (by first | exact cN_t (by omega) g1 (by simp [pF]; omega) | exact cN_f (by omega) g1 (by simp [pF]; omega) | exact cN_t (by omega) g1 (by simp [pF, *]) | exact cN_f (by omega) g1 (by simp [pF, *])) (by omega) (by omega)
  show abW d (0, 0) 273 0 [some (vr (some o)), some (vi n), none, none] [] (0, 0) A M (qE (some (vi (cN (pF (gI M o)) n.toNat))) A M)
  refine bw_push rfl ?_
  refine bw_istore (ls2 := [_, _, _, _]) rfl rfl (Nat.le_of_ble_eq_true rfl) rfl ?_
  refine bw_push rfl ?_
  refine bw_istore (ls2 := [_, _, _, _]) rfl rfl (Nat.le_of_ble_eq_true rfl) rfl ?_
  exact L4 (n.toNat + 1) 0 0 (by first | rfl | decide) (by omega) (by omega)
def pJ (f : Int → Int) (i : Int) : Bool := decide (1 ≤ i ∧ f i ≠ 0 ∧ f (i - 1) ≠ 0 ∧ 1 < ab1 (f i - f (i - 1)))
set_option maxRecDepth 20000 in
set_option maxHeartbeats 4000000 in
theorem c_jumps {d : Nat} {A : abAl} {M : abMem} {o : Nat} {n : Int} {z : Int} (hz : z < 100000) (hk : A.2 o = (20, z)) (hn : 0 ≤ n ∧ n ≤ z) (hv : ∀ j : Int, 0 ≤ j → j < n → 0 ≤ gI M o j ∧ gI M o j ≤ 99) (hd : 1 ≤ d) : abW d (0, 0) 275 0 (abEnt (abL 275) [vr (some o), vi n]) [] (0, 0) A M (qE (some (vi (cN (pJ (gI M o)) n.toNat))) A M) := by
  have L4 : ∀ (kf : Nat) (c i : Int), (c = cN (pJ (gI M o)) i.toNat) → (1 ≤ i ∧ (i ≤ n ∨ n < 1 ∧ i = 1)) → ((n - i).toNat) < kf → abW d (0, 0) 275 4 [some (vr (some o)), some (vi n), some (vi c), some (vi i)] [] (0, 0) A (M) (qE (some (vi (cN (pJ (gI M o)) n.toNat))) A M) := by
    intro kf
    induction kf with
    | zero => intro c i  g1 g2 hm9; exact absurd hm9 (Nat.not_lt_zero _)
    | succ kf ih =>
      intro c i  g1 g2 hm9
      have b9 := cN_in (pJ (gI M o)) i.toNat
      refine bw_iload rfl rfl ?_
      refine bw_iload rfl rfl ?_
      refine bw_icge rfl (fun c6 => ?_) (fun c6 => ?_)
      · skip
        refine bw_iload rfl rfl ?_
        refine bw_ret rfl rfl ?_
        refine ⟨?_, rfl, rfl⟩
        rw [g1]
        by_cases hi : i = n
        · rw [hi]
        · have h0 : n = 0 := by omega
          have h1 : i = 1 := by omega
          subst h0; subst h1
          rfl
      · skip
        have v1 := hv i (by omega) (by omega)
        have v2 := hv (i - 1) (by omega) (by omega)
        refine bw_aload rfl rfl ?_
        refine bw_iload rfl rfl ?_
        refine bw_aldi rfl hk (by omega) (by omega) ?_
        refine bw_ifeq rfl (fun c12 => ?_) (fun c12 => ?_)
        · skip
          refine bw_iinc (ls2 := [_, _, _, _]) rfl rfl rfl ⟨by omega, by omega⟩ rfl ?_
          refine bw_goto rfl ?_
          exact ih _ _ (by first | exact cN_t (by omega) g1 (decide_eq_true ⟨by omega, by omega, by omega, by omega⟩) | exact cN_f (by omega) g1 (decide_eq_false (fun hh => by omega))) (by omega) (by omega)
        · skip
          refine bw_aload rfl rfl ?_
          refine bw_iload rfl rfl ?_
          refine bw_push rfl ?_
          refine bw_isub rfl ⟨by omega, by omega⟩ ?_
          refine bw_aldi rfl hk (by omega) (by omega) ?_
          refine bw_ifeq rfl (fun c20 => ?_) (fun c20 => ?_)
          · skip
            refine bw_iinc (ls2 := [_, _, _, _]) rfl rfl rfl ⟨by omega, by omega⟩ rfl ?_
            refine bw_goto rfl ?_
            exact ih _ _ (by first | exact cN_t (by omega) g1 (decide_eq_true ⟨by omega, by omega, by omega, by omega⟩) | exact cN_f (by omega) g1 (decide_eq_false (fun hh => by omega))) (by omega) (by omega)
          · skip
            refine bw_aload rfl rfl ?_
            refine bw_iload rfl rfl ?_
            refine bw_aldi rfl hk (by omega) (by omega) ?_
            refine bw_aload rfl rfl ?_
            refine bw_iload rfl rfl ?_
            refine bw_push rfl ?_
            refine bw_isub rfl ⟨by omega, by omega⟩ ?_
            refine bw_aldi rfl hk (by omega) (by omega) ?_
            refine bw_isub rfl ⟨by omega, by omega⟩ ?_
            refine bw_absa rfl (by omega) (by decide) (by omega) (fun a32 => ?_)
            refine bw_push rfl ?_
            refine bw_icle rfl (fun c36 => ?_) (fun c36 => ?_)
            · skip
              refine bw_iinc (ls2 := [_, _, _, _]) rfl rfl rfl ⟨by omega, by omega⟩ rfl ?_
              refine bw_goto rfl ?_
              exact ih _ _ (by first | exact cN_t (by omega) g1 (decide_eq_true ⟨by omega, by omega, by omega, by omega⟩) | exact cN_f (by omega) g1 (decide_eq_false (fun hh => by omega))) (by omega) (by omega)
            · skip
              refine bw_iinc (ls2 := [_, _, _, _]) rfl rfl rfl ⟨by omega, by omega⟩ rfl ?_
              refine bw_iinc (ls2 := [_, _, _, _]) rfl rfl rfl ⟨by omega, by omega⟩ rfl ?_
              refine bw_goto rfl ?_
              exact ih _ _ (by first | exact cN_t (by omega) g1 (decide_eq_true ⟨by omega, by omega, by omega, by omega⟩) | exact cN_f (by omega) g1 (decide_eq_false (fun hh => by omega))) (by omega) (by omega)
  show abW d (0, 0) 275 0 [some (vr (some o)), some (vi n), none, none] [] (0, 0) A M (qE (some (vi (cN (pJ (gI M o)) n.toNat))) A M)
  refine bw_push rfl ?_
  refine bw_istore (ls2 := [_, _, _, _]) rfl rfl (Nat.le_of_ble_eq_true rfl) rfl ?_
  refine bw_push rfl ?_
  refine bw_istore (ls2 := [_, _, _, _]) rfl rfl (Nat.le_of_ble_eq_true rfl) rfl ?_
  exact L4 (n.toNat + 1) 0 1 (by simp [cN, pJ]) (by omega) (by omega)
def mX (f : Int → Int) : Nat → Int
  | 0 => 0
  | n + 1 => max (mX f n) (f n)
theorem mX_s (f : Int → Int) {i : Int} (h : 0 ≤ i) : mX f (i + 1).toNat = max (mX f i.toNat) (f i) := by
  have e : (i + 1).toNat = i.toNat + 1 := by omega
  rw [e]
  show max (mX f i.toNat) (f (i.toNat : Int)) = _
  rw [Int.toNat_of_nonneg h]
set_option maxRecDepth 20000 in
set_option maxHeartbeats 4000000 in
theorem c_greatest {d : Nat} {A : abAl} {M : abMem} {o : Nat} {n : Int} {z : Int} (hz : z < 100000) (hk : A.2 o = (20, z)) (hn : 0 ≤ n ∧ n ≤ z) (hd : 1 ≤ d) : abW d (0, 0) 276 0 (abEnt (abL 276) [vr (some o), vi n]) [] (0, 0) A M (qE (some (vi (mX (gI M o) n.toNat))) A M) := by
  have L4 : ∀ (kf : Nat) (c i : Int), (c = mX (gI M o) i.toNat) → (0 ≤ i ∧ i ≤ n) → ((n - i).toNat) < kf → abW d (0, 0) 276 4 [some (vr (some o)), some (vi n), some (vi c), some (vi i)] [] (0, 0) A (M) (qE (some (vi (mX (gI M o) n.toNat))) A M) := by
    intro kf
    induction kf with
    | zero => intro c i  g1 g2 hm9; exact absurd hm9 (Nat.not_lt_zero _)
    | succ kf ih =>
      intro c i  g1 g2 hm9
      refine bw_iload rfl rfl ?_
      refine bw_iload rfl rfl ?_
      refine bw_icge rfl (fun c6 => ?_) (fun c6 => ?_)
      · skip
        refine bw_iload rfl rfl ?_
        refine bw_ret rfl rfl ?_
        obtain rfl : i = n := by omega
        exact ⟨by rw [g1], rfl, rfl⟩
      · skip
        refine bw_iload rfl rfl ?_
        refine bw_aload rfl rfl ?_
        refine bw_iload rfl rfl ?_
        refine bw_aldi rfl hk (by omega) (by omega) ?_
        refine bw_max rfl (by omega) (by decide) (by decide) (by decide) ?_
        refine bw_istore (ls2 := [_, _, _, _]) rfl rfl (Nat.le_of_ble_eq_true rfl) rfl ?_
        refine bw_iinc (ls2 := [_, _, _, _]) rfl rfl rfl ⟨by omega, by omega⟩ rfl ?_
        refine bw_goto rfl ?_
        exact ih _ _ (by rw [mX_s _ (by omega), g1]) (by omega) (by omega)
  show abW d (0, 0) 276 0 [some (vr (some o)), some (vi n), none, none] [] (0, 0) A M (qE (some (vi (mX (gI M o) n.toNat))) A M)
  refine bw_push rfl ?_
  refine bw_istore (ls2 := [_, _, _, _]) rfl rfl (Nat.le_of_ble_eq_true rfl) rfl ?_
  refine bw_push rfl ?_
  refine bw_istore (ls2 := [_, _, _, _]) rfl rfl (Nat.le_of_ble_eq_true rfl) rfl ?_
  exact L4 (n.toNat + 1) 0 0 rfl (by omega) (by omega)
def pD (f g : Int → Int) (i : Int) : Bool := decide (f i ≠ g i)
set_option maxRecDepth 20000 in
set_option maxHeartbeats 4000000 in
theorem c_differences {d : Nat} {A : abAl} {M : abMem} {o u : Nat} {n : Int} {z y : Int} (hz : z < 100000) (hk : A.2 o = (20, z)) (hk2 : A.2 u = (20, y)) (hn : 0 ≤ n ∧ n ≤ z ∧ n ≤ y) : abW d (0, 0) 277 0 (abEnt (abL 277) [vr (some o), vr (some u), vi n]) [] (0, 0) A M (qE (some (vi (cN (pD (gI M o) (gI M u)) n.toNat))) A M) := by
  have L5 : ∀ (kf : Nat) (c i : Int), (c = cN (pD (gI M o) (gI M u)) i.toNat) → (0 ≤ i ∧ i ≤ n) → ((n - i).toNat) < kf → abW d (0, 0) 277 5 [some (vr (some o)), some (vr (some u)), some (vi n), some (vi c), some (vi i)] [] (0, 0) A (M) (qE (some (vi (cN (pD (gI M o) (gI M u)) n.toNat))) A M) := by
    intro kf
    induction kf with
    | zero => intro c i  g1 g2 hm9; exact absurd hm9 (Nat.not_lt_zero _)
    | succ kf ih =>
      intro c i  g1 g2 hm9
      have b9 := cN_in (pD (gI M o) (gI M u)) i.toNat
      refine bw_iload rfl rfl ?_
      refine bw_iload rfl rfl ?_
      refine bw_icge rfl (fun c8 => ?_) (fun c8 => ?_)
      · skip
        refine bw_iload rfl rfl ?_
        refine bw_ret rfl rfl ?_
        obtain rfl : i = n := by omega
        exact ⟨by rw [g1], rfl, rfl⟩
      · skip
        refine bw_aload rfl rfl ?_
        refine bw_iload rfl rfl ?_
        refine bw_aldi rfl hk (by omega) (by omega) ?_
        refine bw_aload rfl rfl ?_
        refine bw_iload rfl rfl ?_
        refine bw_aldi rfl hk2 (by omega) (by omega) ?_
        refine bw_iceq rfl (fun c19 => ?_) (fun c19 => ?_)
        · skip
          refine bw_iinc (ls2 := [_, _, _, _, _]) rfl rfl rfl ⟨by omega, by omega⟩ rfl ?_
          refine bw_goto rfl ?_
          exact ih _ _ (by first | exact cN_t (by omega) g1 (by simp [pD]; omega) | exact cN_f (by omega) g1 (by simp [pD]; omega)) (by omega) (by omega)
        · skip
          refine bw_iinc (ls2 := [_, _, _, _, _]) rfl rfl rfl ⟨by omega, by omega⟩ rfl ?_
          refine bw_iinc (ls2 := [_, _, _, _, _]) rfl rfl rfl ⟨by omega, by omega⟩ rfl ?_
          refine bw_goto rfl ?_
          exact ih _ _ (by first | exact cN_t (by omega) g1 (by simp [pD]; omega) | exact cN_f (by omega) g1 (by simp [pD]; omega)) (by omega) (by omega)
  show abW d (0, 0) 277 0 [some (vr (some o)), some (vr (some u)), some (vi n), none, none] [] (0, 0) A M (qE (some (vi (cN (pD (gI M o) (gI M u)) n.toNat))) A M)
  refine bw_push rfl ?_
  refine bw_istore (ls2 := [_, _, _, _, _]) rfl rfl (Nat.le_of_ble_eq_true rfl) rfl ?_
  refine bw_push rfl ?_
  refine bw_istore (ls2 := [_, _, _, _, _]) rfl rfl (Nat.le_of_ble_eq_true rfl) rfl ?_
  exact L5 (n.toNat + 1) 0 0 rfl (by omega) (by omega)
/-- r is the first frame of the exposure that has e -/
def isFst (f : Int → Int) (e r : Int) : Prop := 0 ≤ r ∧ r ≤ e ∧ (∀ j : Int, r ≤ j → j ≤ e → f j = f e) ∧ (r = 0 ∨ f (r - 1) ≠ f e)
/-- r is behind the frames from e on that are as e, n at most -/
def isStp (f : Int → Int) (e n r : Int) : Prop := e ≤ r ∧ r ≤ n ∧ (∀ j : Int, e ≤ j → j < r → f j = f e) ∧ (r = n ∨ f r ≠ f e)
set_option maxRecDepth 20000 in
set_option maxHeartbeats 4000000 in
theorem c_first {d : Nat} {A : abAl} {M : abMem} {o : Nat} {e z : Int} (hz : z < 100000) (hk : A.2 o = (20, z)) (he : 0 ≤ e ∧ e < z) : abW d (0, 0) 278 0 (abEnt (abL 278) [vr (some o), vi e]) [] (0, 0) A M (qI A (fun r M2 => isFst (gI M o) e r ∧ M2 = M)) := by
  have L2 : ∀ (kf : Nat) (i : Int), (0 ≤ i ∧ i ≤ e) → (∀ j : Int, i ≤ j → j ≤ e → gI M o j = gI M o e) → (i.toNat) < kf → abW d (0, 0) 278 2 [some (vr (some o)), some (vi e), some (vi i)] [] (0, 0) A (M) (qI A (fun r M2 => isFst (gI M o) e r ∧ M2 = M)) := by
    intro kf
    induction kf with
    | zero => intro i  g1 g2 hm9; exact absurd hm9 (Nat.not_lt_zero _)
    | succ kf ih =>
      intro i  g1 g2 hm9
      refine bw_iload rfl rfl ?_
      refine bw_ifle rfl (fun c3 => ?_) (fun c3 => ?_)
      · skip
        refine bw_iload rfl rfl ?_
        refine bw_ret rfl rfl ?_
        exact ⟨rfl, _, rfl, ⟨by omega, by omega, g2, by omega⟩, rfl⟩
      · skip
        refine bw_aload rfl rfl ?_
        refine bw_iload rfl rfl ?_
        refine bw_push rfl ?_
        refine bw_isub rfl ⟨by omega, by omega⟩ ?_
        refine bw_aldi rfl hk (by omega) (by omega) ?_
        refine bw_aload rfl rfl ?_
        refine bw_iload rfl rfl ?_
        refine bw_aldi rfl hk (by omega) (by omega) ?_
        refine bw_icne rfl (fun c14 => ?_) (fun c14 => ?_)
        · skip
          refine bw_iload rfl rfl ?_
          refine bw_ret rfl rfl ?_
          exact ⟨rfl, _, rfl, ⟨by omega, by omega, g2, by omega⟩, rfl⟩
        · skip
          refine bw_iinc (ls2 := [_, _, _]) rfl rfl rfl ⟨by omega, by omega⟩ rfl ?_
          refine bw_goto rfl ?_
          refine ih _ (by omega) (fun j h1 h2 => ?_) (by omega)
          by_cases q : j = i - 1
          · rw [q]; omega
          · exact g2 j (by omega) h2
  show abW d (0, 0) 278 0 [some (vr (some o)), some (vi e), none] [] (0, 0) A M (qI A (fun r M2 => isFst (gI M o) e r ∧ M2 = M))
  refine bw_iload rfl rfl ?_
  refine bw_istore (ls2 := [_, _, _]) rfl rfl (Nat.le_of_ble_eq_true rfl) rfl ?_
  exact L2 (e.toNat + 1) e (by omega) (fun j h1 h2 => by rw [show j = e by omega]) (by omega)
set_option maxRecDepth 20000 in
set_option maxHeartbeats 4000000 in
theorem c_stop {d : Nat} {A : abAl} {M : abMem} {o : Nat} {e n z : Int} (hz : z < 100000) (hk : A.2 o = (20, z)) (he : 0 ≤ e ∧ e < z ∧ e ≤ n ∧ n ≤ z) : abW d (0, 0) 279 0 (abEnt (abL 279) [vr (some o), vi e, vi n]) [] (0, 0) A M (qI A (fun r M2 => isStp (gI M o) e n r ∧ M2 = M)) := by
  have L2 : ∀ (kf : Nat) (i : Int), (e ≤ i ∧ i ≤ n) → (∀ j : Int, e ≤ j → j < i → gI M o j = gI M o e) → ((n - i).toNat) < kf → abW d (0, 0) 279 2 [some (vr (some o)), some (vi e), some (vi n), some (vi i)] [] (0, 0) A (M) (qI A (fun r M2 => isStp (gI M o) e n r ∧ M2 = M)) := by
    intro kf
    induction kf with
    | zero => intro i  g1 g2 hm9; exact absurd hm9 (Nat.not_lt_zero _)
    | succ kf ih =>
      intro i  g1 g2 hm9
      refine bw_iload rfl rfl ?_
      refine bw_iload rfl rfl ?_
      refine bw_icge rfl (fun c4 => ?_) (fun c4 => ?_)
      · skip
        refine bw_iload rfl rfl ?_
        refine bw_ret rfl rfl ?_
        exact ⟨rfl, _, rfl, ⟨by omega, by omega, g2, by omega⟩, rfl⟩
      · skip
        refine bw_aload rfl rfl ?_
        refine bw_iload rfl rfl ?_
        refine bw_aldi rfl hk (by omega) (by omega) ?_
        refine bw_aload rfl rfl ?_
        refine bw_iload rfl rfl ?_
        refine bw_aldi rfl hk (by omega) (by omega) ?_
        refine bw_icne rfl (fun c13 => ?_) (fun c13 => ?_)
        · skip
          refine bw_iload rfl rfl ?_
          refine bw_ret rfl rfl ?_
          exact ⟨rfl, _, rfl, ⟨by omega, by omega, g2, by omega⟩, rfl⟩
        · skip
          refine bw_iinc (ls2 := [_, _, _, _]) rfl rfl rfl ⟨by omega, by omega⟩ rfl ?_
          refine bw_goto rfl ?_
          refine ih _ (by omega) (fun j h1 h2 => ?_) (by omega)
          by_cases q : j = i
          · rw [q]; omega
          · exact g2 j h1 (by omega)
  show abW d (0, 0) 279 0 [some (vr (some o)), some (vi e), some (vi n), none] [] (0, 0) A M (qI A (fun r M2 => isStp (gI M o) e n r ∧ M2 = M))
  refine bw_iload rfl rfl ?_
  refine bw_istore (ls2 := [_, _, _, _]) rfl rfl (Nat.le_of_ble_eq_true rfl) rfl ?_
  exact L2 ((n - e).toNat + 1) e (by omega) (fun j h1 h2 => by omega) (by omega)
/-- the least begin from which on the row repeats what it had p frames ahead -/
def isBeg (f : Int → Int) (n p r : Int) : Prop := 0 ≤ r ∧ r ≤ n - p ∧ (∀ j : Int, r ≤ j → j + p < n → f j = f (j + p)) ∧ (r ≤ 0 ∨ f (r - 1) ≠ f (r - 1 + p))
set_option maxRecDepth 20000 in
set_option maxHeartbeats 4000000 in
theorem c_cycleBegin {d : Nat} {A : abAl} {M : abMem} {o : Nat} {n p z : Int} (hz : z < 100000) (hk : A.2 o = (20, z)) (hn : 0 ≤ n ∧ n ≤ z) (hp : 0 ≤ p ∧ p ≤ n) (hd : 1 ≤ d) : abW d (0, 0) 280 0 (abEnt (abL 280) [vr (some o), vi n, vi p]) [] (0, 0) A M (qI A (fun r M2 => isBeg (gI M o) n p r ∧ M2 = M)) := by
  have L8 : ∀ (kf : Nat) (i : Int), (0 ≤ i ∧ i ≤ n - p) → (∀ j : Int, i ≤ j → j + p < n → gI M o j = gI M o (j + p)) → (i.toNat) < kf → abW d (0, 0) 280 8 [some (vr (some o)), some (vi n), some (vi p), some (vi i)] [] (0, 0) A (M) (qI A (fun r M2 => isBeg (gI M o) n p r ∧ M2 = M)) := by
    intro kf
    induction kf with
    | zero => intro i  g1 g2 hm9; exact absurd hm9 (Nat.not_lt_zero _)
    | succ kf ih =>
      intro i  g1 g2 hm9
      refine bw_iload rfl rfl ?_
      refine bw_ifle rfl (fun c9 => ?_) (fun c9 => ?_)
      · skip
        refine bw_iload rfl rfl ?_
        refine bw_ret rfl rfl ?_
        exact ⟨rfl, _, rfl, ⟨by omega, by omega, g2, by omega⟩, rfl⟩
      · skip
        refine bw_aload rfl rfl ?_
        refine bw_iload rfl rfl ?_
        refine bw_push rfl ?_
        refine bw_isub rfl ⟨by omega, by omega⟩ ?_
        refine bw_aldi rfl hk (by omega) (by omega) ?_
        refine bw_aload rfl rfl ?_
        refine bw_iload rfl rfl ?_
        refine bw_push rfl ?_
        refine bw_isub rfl ⟨by omega, by omega⟩ ?_
        refine bw_iload rfl rfl ?_
        refine bw_iadd rfl ⟨by omega, by omega⟩ ?_
        refine bw_aldi rfl hk (by omega) (by omega) ?_
        refine bw_icne rfl (fun c24 => ?_) (fun c24 => ?_)
        · skip
          refine bw_iload rfl rfl ?_
          refine bw_ret rfl rfl ?_
          exact ⟨rfl, _, rfl, ⟨by omega, by omega, g2, by omega⟩, rfl⟩
        · skip
          refine bw_iinc (ls2 := [_, _, _, _]) rfl rfl rfl ⟨by omega, by omega⟩ rfl ?_
          refine bw_goto rfl ?_
          refine ih _ (by omega) (fun j h1 h2 => ?_) (by omega)
          by_cases q : j = i - 1
          · rw [q]; omega
          · exact g2 j (by omega) h2
  show abW d (0, 0) 280 0 [some (vr (some o)), some (vi n), some (vi p), none] [] (0, 0) A M (qI A (fun r M2 => isBeg (gI M o) n p r ∧ M2 = M))
  refine bw_iload rfl rfl ?_
  refine bw_iload rfl rfl ?_
  refine bw_isub rfl ⟨by omega, by omega⟩ ?_
  refine bw_push rfl ?_
  refine bw_max rfl (by omega) (by decide) (by decide) (by decide) ?_
  refine bw_istore (ls2 := [_, _, _, _]) rfl rfl (Nat.le_of_ble_eq_true rfl) rfl ?_
  rw [show max (n - p) 0 = n - p by omega]
  exact L8 (n.toNat + 1) (n - p) (by omega) (fun j h1 h2 => by omega) (by omega)
def clo (f : Int → Int) (b p : Int) : Int := if f b ≠ 0 ∧ f (b + p - 1) ≠ 0 ∧ ab1 (f b - f (b + p - 1)) ≤ 1 then 1 else 0
set_option maxRecDepth 20000 in
set_option maxHeartbeats 4000000 in
theorem c_closes {d : Nat} {A : abAl} {M : abMem} {o : Nat} {b p z n : Int} (hz : z < 100000) (hk : A.2 o = (20, z)) (hb : 0 ≤ b ∧ 1 ≤ p ∧ b + p ≤ n ∧ n ≤ z) (hv : ∀ j : Int, 0 ≤ j → j < n → 0 ≤ gI M o j ∧ gI M o j ≤ 99) (hd : 1 ≤ d) : abW d (0, 0) 282 0 (abEnt (abL 282) [vr (some o), vi b, vi p]) [] (0, 0) A M (qE (some (vi (clo (gI M o) b p))) A M) := by
  show abW d (0, 0) 282 0 [some (vr (some o)), some (vi b), some (vi p), none, none] [] (0, 0) A M (qE (some (vi (clo (gI M o) b p))) A M)
  have v1 := hv b (by omega) (by omega)
  have v2 := hv (b + p - 1) (by omega) (by omega)
  refine bw_aload rfl rfl ?_
  refine bw_iload rfl rfl ?_
  refine bw_aldi rfl hk (by omega) (by omega) ?_
  refine bw_istore (ls2 := [_, _, _, _, _]) rfl rfl (Nat.le_of_ble_eq_true rfl) rfl ?_
  refine bw_aload rfl rfl ?_
  refine bw_iload rfl rfl ?_
  refine bw_iload rfl rfl ?_
  refine bw_iadd rfl ⟨by omega, by omega⟩ ?_
  refine bw_push rfl ?_
  refine bw_isub rfl ⟨by omega, by omega⟩ ?_
  refine bw_aldi rfl hk (by omega) (by omega) ?_
  refine bw_istore (ls2 := [_, _, _, _, _]) rfl rfl (Nat.le_of_ble_eq_true rfl) rfl ?_
  refine bw_iload rfl rfl ?_
  refine bw_ifeq rfl (fun c14 => ?_) (fun c14 => ?_)
  · skip
    refine bw_push rfl ?_
    refine bw_retz rfl rfl (by omega) ?_
    refine ⟨?_, rfl, rfl⟩
    unfold clo
    first | rw [if_pos ⟨by omega, by omega, by omega⟩] | rw [if_neg (fun hh => by omega)]
  · skip
    refine bw_iload rfl rfl ?_
    refine bw_ifeq rfl (fun c19 => ?_) (fun c19 => ?_)
    · skip
      refine bw_push rfl ?_
      refine bw_retz rfl rfl (by omega) ?_
      refine ⟨?_, rfl, rfl⟩
      unfold clo
      first | rw [if_pos ⟨by omega, by omega, by omega⟩] | rw [if_neg (fun hh => by omega)]
    · skip
      refine bw_iload rfl rfl ?_
      refine bw_iload rfl rfl ?_
      refine bw_isub rfl ⟨by omega, by omega⟩ ?_
      refine bw_absa rfl (by omega) (by decide) (by omega) (fun a26 => ?_)
      refine bw_push rfl ?_
      refine bw_icgt rfl (fun c30 => ?_) (fun c30 => ?_)
      · skip
        refine bw_push rfl ?_
        refine bw_retz rfl rfl (by omega) ?_
        refine ⟨?_, rfl, rfl⟩
        unfold clo
        first | rw [if_pos ⟨by omega, by omega, by omega⟩] | rw [if_neg (fun hh => by omega)]
      · skip
        refine bw_push rfl ?_
        refine bw_goto rfl ?_
        refine bw_retz rfl rfl (by omega) ?_
        refine ⟨?_, rfl, rfl⟩
        unfold clo
        first | rw [if_pos ⟨by omega, by omega, by omega⟩] | rw [if_neg (fun hh => by omega)]
/-- a cycle of p frames from b on -/
def isCy (f : Int → Int) (n b p : Int) : Prop := 0 ≤ b ∧ b + 2 * p ≤ n ∧ (∃ j : Int, b ≤ j ∧ j < b + p ∧ f j ≠ f b) ∧ (∀ j : Int, b ≤ j → j + p < n → f j = f (j + p))
theorem cy_const {f : Int → Int} {n b p : Int} (hp : 1 ≤ p) (h : ∀ j : Int, b ≤ j → j < b + p → f j = f b) (h2 : ∀ j : Int, b ≤ j → j + p < n → f j = f (j + p)) : ∀ k : Nat, b + k < n → f (b + k) = f b := by
  intro k
  induction k using Nat.strongRecOn with
  | _ k ih =>
    intro hk
    by_cases q : (k : Int) < p
    · exact h _ (by omega) (by omega)
    · have e := ih (k - p.toNat) (by omega) (by omega)
      have e2 := h2 (b + ((k - p.toNat : Nat) : Int)) (by omega) (by omega)
      rw [show b + (k : Int) = b + ((k - p.toNat : Nat) : Int) + p by omega, ← e2, e]
theorem cy_beg {f : Int → Int} {n b c p : Int} (hp : 1 ≤ p) (hb : isBeg f n p b) (hc : isCy f n c p) : b ≤ c ∧ isCy f n b p := by
  obtain ⟨b1, b2, b3, b4⟩ := hb
  obtain ⟨c1, c2, ⟨j, c3, c4, c5⟩, c6⟩ := hc
  have hbc : b ≤ c := by
    rcases b4 with h | h
    · omega
    · by_cases q : b ≤ c
      · exact q
      · exact absurd (c6 (b - 1) (by omega) (by omega)) h
  refine ⟨hbc, b1, by omega, Classical.byContradiction fun hn => ?_, b3⟩
  have h : ∀ j : Int, b ≤ j → j < b + p → f j = f b := fun j h1 h2 => Classical.byContradiction fun h3 => hn ⟨j, h1, h2, h3⟩
  have e1 := cy_const hp h b3 (j - b).toNat (by omega)
  have e2 := cy_const hp h b3 (c - b).toNat (by omega)
  rw [show b + ((j - b).toNat : Int) = j by omega] at e1
  rw [show b + ((c - b).toNat : Int) = c by omega] at e2
  exact c5 (by rw [e1, e2])
theorem cy_no {f : Int → Int} {n b c p s : Int} (hp : 1 ≤ p) (hb : isBeg f n p b) (hs : isStp f b (b + p) s) (h : b + p ≤ s) (hc : isCy f n c p) : False := by
  obtain ⟨_, _, _, ⟨j, h1, h2, h3⟩, _⟩ := cy_beg hp hb hc
  exact h3 (hs.2.2.1 j h1 (by omega))
theorem cy_is {f : Int → Int} {n b p s : Int} (hb : isBeg f n p b) (hl : b + 2 * p ≤ n) (hs : isStp f b (b + p) s) (h : s < b + p) : isCy f n b p := by
  obtain ⟨s1, s2, s3, s4⟩ := hs
  refine ⟨hb.1, hl, ⟨s, s1, h, ?_⟩, hb.2.2.1⟩
  rcases s4 with q | q
  · omega
  · exact q
/-- r is the period of the first cycle by the periods less than m, its begin is b -/
def isPer (f : Int → Int) (n m r b : Int) : Prop := (r = -1 ∧ b = n ∨ 2 ≤ r ∧ r < m ∧ isCy f n b r) ∧ (∀ p c : Int, 2 ≤ p → p < m → isCy f n c p → b ≤ c ∧ (b = c → r ≤ p))
theorem per_skip {f : Int → Int} {n m r b : Int} (h : isPer f n m r b) (h2 : ∀ c : Int, isCy f n c m → b ≤ c) (hm : 2 ≤ m) : isPer f n (m + 1) r b := by
  refine ⟨?_, fun p c h3 h4 h5 => ?_⟩
  · rcases h.1 with q | q
    · exact Or.inl q
    · exact Or.inr ⟨q.1, by omega, q.2.2⟩
  · by_cases q : p = m
    · subst q
      refine ⟨h2 c h5, fun _ => ?_⟩
      rcases h.1 with q | q
      · omega
      · omega
    · exact h.2 p c h3 (by omega) h5
theorem per_take {f : Int → Int} {n m r b b2 : Int} (h : isPer f n m r b) (hm : 2 ≤ m) (hb : isBeg f n m b2) (hl : b2 < b) (hc : isCy f n b2 m) : isPer f n (m + 1) m b2 := by
  refine ⟨Or.inr ⟨hm, by omega, hc⟩, fun p c h3 h4 h5 => ?_⟩
  by_cases q : p = m
  · subst q
    exact ⟨(cy_beg (by omega) hb h5).1, fun _ => by omega⟩
  · have := (h.2 p c h3 (by omega) h5).1
    exact ⟨by omega, fun _ => by omega⟩
set_option maxRecDepth 20000 in
set_option maxHeartbeats 4000000 in
theorem c_cyclePeriod {d : Nat} {A : abAl} {M : abMem} {o : Nat} {n z : Int} (hz : z < 100000) (hk : A.2 o = (20, z)) (hn : 0 ≤ n ∧ n ≤ z) (hd : 2 ≤ d) : abW d (0, 0) 281 0 (abEnt (abL 281) [vr (some o), vi n]) [] (0, 0) A M (qI A (fun r M2 => (∃ m b : Int, n < 2 * m ∧ isPer (gI M o) n m r b) ∧ M2 = M)) := by
  have L7 : ∀ (kf : Nat) (r b p : Int), (2 ≤ p ∧ p ≤ n + 2) → (isPer (gI M o) n p r b) → ((n + 2 - p).toNat) < kf → abW d (0, 0) 281 7 [some (vr (some o)), some (vi n), some (vi r), some (vi b), some (vi p), none] [] (0, 0) A (M) (qI A (fun r M2 => (∃ m b : Int, n < 2 * m ∧ isPer (gI M o) n m r b) ∧ M2 = M)) := by
    intro kf
    induction kf with
    | zero => intro r b p  g1 g2 hm9; exact absurd hm9 (Nat.not_lt_zero _)
    | succ kf ih =>
      intro r b p  g1 g2 hm9
      refine bw_push rfl ?_
      refine bw_iload rfl rfl ?_
      refine bw_imul rfl ⟨by omega, by omega⟩ ?_
      refine bw_iload rfl rfl ?_
      refine bw_icgt rfl (fun c12 => ?_) (fun c12 => ?_)
      · skip
        refine bw_iload rfl rfl ?_
        refine bw_ret rfl rfl ?_
        exact ⟨rfl, _, rfl, ⟨p, b, by omega, g2⟩, rfl⟩
      · skip
        refine bw_aload rfl rfl ?_
        refine bw_iload rfl rfl ?_
        refine bw_iload rfl rfl ?_
        refine bw_callSi (e := d - 1) (as := [_, _, _]) rfl (by omega) rfl rfl (Nat.le_of_ble_eq_true rfl) (Nat.le_of_ble_eq_true rfl) (c_cycleBegin hz hk hn (by omega) (by omega)) (fun r19 M19 hM19 => ?_)
        obtain ⟨hM19a, rfl⟩ := hM19
        have v1 := hM19a.1
        have v2 := hM19a.2.1
        refine bw_istore (ls2 := [_, _, _, _, _, _]) rfl rfl (Nat.le_of_ble_eq_true rfl) rfl ?_
        refine bw_iload rfl rfl ?_
        refine bw_iload rfl rfl ?_
        refine bw_icge rfl (fun c27 => ?_) (fun c27 => ?_)
        · skip
          refine bw_iinc (ls2 := [_, _, _, _, _, _]) rfl rfl rfl ⟨by omega, by omega⟩ rfl ?_
          refine bw_goto rfl ?_
          first
          | (refine bw_forget (ls2 := [some (vr (some o)), some (vi n), some (vi r), some (vi b), some (vi (p + 1)), none]) (by simp [abLe]) ?_
             exact ih _ _ _ ⟨by omega, by omega⟩ (per_skip g2 (fun c hc => by have := (cy_beg (by omega) hM19a hc).1; omega) (by omega)) (by omega))
          | (refine bw_forget (ls2 := [some (vr (some o)), some (vi n), some (vi r), some (vi b), some (vi (p + 1)), none]) (by simp [abLe]) ?_
             exact ih _ _ _ ⟨by omega, by omega⟩ (per_skip g2 (fun c hc => by have := (cy_beg (by omega) hM19a hc).1; have := hc.2.1; omega) (by omega)) (by omega))
          | (refine bw_forget (ls2 := [some (vr (some o)), some (vi n), some (vi r), some (vi b), some (vi (p + 1)), none]) (by simp [abLe]) ?_
             exact ih _ _ _ ⟨by omega, by omega⟩ (per_skip g2 (fun c hc => (cy_no (by omega) hM19a hM49a (by omega) hc).elim) (by omega)) (by omega))
          | (refine bw_forget (ls2 := [some (vr (some o)), some (vi n), some (vi p), some (vi r19), some (vi (p + 1)), none]) (by simp [abLe]) ?_
             exact ih _ _ _ ⟨by omega, by omega⟩ (per_take g2 (by omega) hM19a (by omega) (cy_is hM19a (by omega) hM49a (by omega))) (by omega))
        · skip
          refine bw_iload rfl rfl ?_
          refine bw_push rfl ?_
          refine bw_iload rfl rfl ?_
          refine bw_imul rfl ⟨by omega, by omega⟩ ?_
          refine bw_iadd rfl ⟨by omega, by omega⟩ ?_
          refine bw_iload rfl rfl ?_
          refine bw_icgt rfl (fun c38 => ?_) (fun c38 => ?_)
          · skip
            refine bw_iinc (ls2 := [_, _, _, _, _, _]) rfl rfl rfl ⟨by omega, by omega⟩ rfl ?_
            refine bw_goto rfl ?_
            first
            | (refine bw_forget (ls2 := [some (vr (some o)), some (vi n), some (vi r), some (vi b), some (vi (p + 1)), none]) (by simp [abLe]) ?_
               exact ih _ _ _ ⟨by omega, by omega⟩ (per_skip g2 (fun c hc => by have := (cy_beg (by omega) hM19a hc).1; omega) (by omega)) (by omega))
            | (refine bw_forget (ls2 := [some (vr (some o)), some (vi n), some (vi r), some (vi b), some (vi (p + 1)), none]) (by simp [abLe]) ?_
               exact ih _ _ _ ⟨by omega, by omega⟩ (per_skip g2 (fun c hc => by have := (cy_beg (by omega) hM19a hc).1; have := hc.2.1; omega) (by omega)) (by omega))
            | (refine bw_forget (ls2 := [some (vr (some o)), some (vi n), some (vi r), some (vi b), some (vi (p + 1)), none]) (by simp [abLe]) ?_
               exact ih _ _ _ ⟨by omega, by omega⟩ (per_skip g2 (fun c hc => (cy_no (by omega) hM19a hM49a (by omega) hc).elim) (by omega)) (by omega))
            | (refine bw_forget (ls2 := [some (vr (some o)), some (vi n), some (vi p), some (vi r19), some (vi (p + 1)), none]) (by simp [abLe]) ?_
               exact ih _ _ _ ⟨by omega, by omega⟩ (per_take g2 (by omega) hM19a (by omega) (cy_is hM19a (by omega) hM49a (by omega))) (by omega))
          · skip
            refine bw_aload rfl rfl ?_
            refine bw_iload rfl rfl ?_
            refine bw_iload rfl rfl ?_
            refine bw_iload rfl rfl ?_
            refine bw_iadd rfl ⟨by omega, by omega⟩ ?_
            refine bw_callSi (e := d - 1) (as := [_, _, _]) rfl (by omega) rfl rfl (Nat.le_of_ble_eq_true rfl) (Nat.le_of_ble_eq_true rfl) (c_stop hz hk (by omega)) (fun r49 M49 hM49 => ?_)
            obtain ⟨hM49a, rfl⟩ := hM49
            refine bw_iload rfl rfl ?_
            refine bw_iload rfl rfl ?_
            refine bw_iadd rfl ⟨by omega, by omega⟩ ?_
            refine bw_icge rfl (fun c57 => ?_) (fun c57 => ?_)
            · skip
              refine bw_iinc (ls2 := [_, _, _, _, _, _]) rfl rfl rfl ⟨by omega, by omega⟩ rfl ?_
              refine bw_goto rfl ?_
              first
              | (refine bw_forget (ls2 := [some (vr (some o)), some (vi n), some (vi r), some (vi b), some (vi (p + 1)), none]) (by simp [abLe]) ?_
                 exact ih _ _ _ ⟨by omega, by omega⟩ (per_skip g2 (fun c hc => by have := (cy_beg (by omega) hM19a hc).1; omega) (by omega)) (by omega))
              | (refine bw_forget (ls2 := [some (vr (some o)), some (vi n), some (vi r), some (vi b), some (vi (p + 1)), none]) (by simp [abLe]) ?_
                 exact ih _ _ _ ⟨by omega, by omega⟩ (per_skip g2 (fun c hc => by have := (cy_beg (by omega) hM19a hc).1; have := hc.2.1; omega) (by omega)) (by omega))
              | (refine bw_forget (ls2 := [some (vr (some o)), some (vi n), some (vi r), some (vi b), some (vi (p + 1)), none]) (by simp [abLe]) ?_
                 exact ih _ _ _ ⟨by omega, by omega⟩ (per_skip g2 (fun c hc => (cy_no (by omega) hM19a hM49a (by omega) hc).elim) (by omega)) (by omega))
              | (refine bw_forget (ls2 := [some (vr (some o)), some (vi n), some (vi p), some (vi r19), some (vi (p + 1)), none]) (by simp [abLe]) ?_
                 exact ih _ _ _ ⟨by omega, by omega⟩ (per_take g2 (by omega) hM19a (by omega) (cy_is hM19a (by omega) hM49a (by omega))) (by omega))
            · skip
              refine bw_iload rfl rfl ?_
              refine bw_istore (ls2 := [_, _, _, _, _, _]) rfl rfl (Nat.le_of_ble_eq_true rfl) rfl ?_
              refine bw_iload rfl rfl ?_
              refine bw_istore (ls2 := [_, _, _, _, _, _]) rfl rfl (Nat.le_of_ble_eq_true rfl) rfl ?_
              refine bw_iinc (ls2 := [_, _, _, _, _, _]) rfl rfl rfl ⟨by omega, by omega⟩ rfl ?_
              refine bw_goto rfl ?_
              first
              | (refine bw_forget (ls2 := [some (vr (some o)), some (vi n), some (vi r), some (vi b), some (vi (p + 1)), none]) (by simp [abLe]) ?_
                 exact ih _ _ _ ⟨by omega, by omega⟩ (per_skip g2 (fun c hc => by have := (cy_beg (by omega) hM19a hc).1; omega) (by omega)) (by omega))
              | (refine bw_forget (ls2 := [some (vr (some o)), some (vi n), some (vi r), some (vi b), some (vi (p + 1)), none]) (by simp [abLe]) ?_
                 exact ih _ _ _ ⟨by omega, by omega⟩ (per_skip g2 (fun c hc => by have := (cy_beg (by omega) hM19a hc).1; have := hc.2.1; omega) (by omega)) (by omega))
              | (refine bw_forget (ls2 := [some (vr (some o)), some (vi n), some (vi r), some (vi b), some (vi (p + 1)), none]) (by simp [abLe]) ?_
                 exact ih _ _ _ ⟨by omega, by omega⟩ (per_skip g2 (fun c hc => (cy_no (by omega) hM19a hM49a (by omega) hc).elim) (by omega)) (by omega))
              | (refine bw_forget (ls2 := [some (vr (some o)), some (vi n), some (vi p), some (vi r19), some (vi (p + 1)), none]) (by simp [abLe]) ?_
                 exact ih _ _ _ ⟨by omega, by omega⟩ (per_take g2 (by omega) hM19a (by omega) (cy_is hM19a (by omega) hM49a (by omega))) (by omega))
  show abW d (0, 0) 281 0 [some (vr (some o)), some (vi n), none, none, none, none] [] (0, 0) A M (qI A (fun r M2 => (∃ m b : Int, n < 2 * m ∧ isPer (gI M o) n m r b) ∧ M2 = M))
  refine bw_push rfl ?_
  refine bw_istore (ls2 := [_, _, _, _, _, _]) rfl rfl (Nat.le_of_ble_eq_true rfl) rfl ?_
  refine bw_iload rfl rfl ?_
  refine bw_istore (ls2 := [_, _, _, _, _, _]) rfl rfl (Nat.le_of_ble_eq_true rfl) rfl ?_
  refine bw_push rfl ?_
  refine bw_istore (ls2 := [_, _, _, _, _, _]) rfl rfl (Nat.le_of_ble_eq_true rfl) rfl ?_
  exact L7 (n.toNat + 3) (-1) n 2 ⟨by omega, by omega⟩ ⟨Or.inl ⟨rfl, rfl⟩, fun p c h1 h2 _ => by omega⟩ (by omega)
