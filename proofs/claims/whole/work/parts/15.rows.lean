def pE (f : Int → Int) (i : Int) : Bool := decide (i = 0 ∨ f i ≠ f (i - 1))
set_option maxRecDepth 20000 in
set_option maxHeartbeats 4000000 in
theorem c_exposures {d : Nat} {A : abAl} {M : abMem} {o : Nat} {n : Int} {z : Int} (hz : z < 100000) (hk : A.2 o = (20, z)) (hn : 0 ≤ n ∧ n ≤ z) : abW d (0, 0) 271 0 (abEnt (abL 271) [vr (some o), vi n]) [] (0, 0) A M (qE (some (vi (cN (pE (gI M o)) n.toNat))) A M) := by
  have L4 : ∀ (kf : Nat) (c i : Int), (c = cN (pE (gI M o)) i.toNat) → (0 ≤ i ∧ i ≤ n) → ((n - i).toNat) < kf → abW d (0, 0) 271 4 [some (vr (some o)), some (vi n), some (vi c), some (vi i)] [] (0, 0) A (M) (qE (some (vi (cN (pE (gI M o)) n.toNat))) A M) := by
    intro kf
    induction kf with
    | zero => intro c i  g1 g2 hm9; exact absurd hm9 (Nat.not_lt_zero _)
    | succ kf ih =>
      intro c i  g1 g2 hm9
      have b9 := cN_in (pE (gI M o)) i.toNat
      refine bw_iload rfl rfl ?_
      refine bw_iload rfl rfl ?_
      refine bw_icge rfl (fun c6 => ?_) (fun c6 => ?_)
      · skip
        refine bw_iload rfl rfl ?_
        refine bw_ret rfl rfl ?_
        obtain rfl : i = n := by omega
        exact ⟨by rw [g1], rfl, rfl⟩
      · skip
        refine bw_iload rfl rfl ?_
        refine bw_ifeq rfl (fun c10 => ?_) (fun c10 => ?_)
        · skip
          refine bw_iinc (ls2 := [_, _, _, _]) rfl rfl rfl ⟨by omega, by omega⟩ rfl ?_
          refine bw_iinc (ls2 := [_, _, _, _]) rfl rfl rfl ⟨by omega, by omega⟩ rfl ?_
          refine bw_goto rfl ?_
          exact ih _ _ (by first | exact cN_t (by omega) g1 (by simp [pE]; omega) | exact cN_f (by omega) g1 (by simp [pE]; omega) | exact cN_t (by omega) g1 (by simp [pE, *]) | exact cN_f (by omega) g1 (by simp [pE, *])) (by omega) (by omega)
        · skip
          refine bw_aload rfl rfl ?_
          refine bw_iload rfl rfl ?_
          refine bw_aldi rfl hk (by omega) (by omega) ?_
          refine bw_aload rfl rfl ?_
          refine bw_iload rfl rfl ?_
          refine bw_push rfl ?_
          refine bw_isub rfl ⟨by omega, by omega⟩ ?_
          refine bw_aldi rfl hk (by omega) (by omega) ?_
          refine bw_iceq rfl (fun c21 => ?_) (fun c21 => ?_)
          · skip
            refine bw_iinc (ls2 := [_, _, _, _]) rfl rfl rfl ⟨by omega, by omega⟩ rfl ?_
            refine bw_goto rfl ?_
            exact ih _ _ (by first | exact cN_t (by omega) g1 (by simp [pE]; omega) | exact cN_f (by omega) g1 (by simp [pE]; omega) | exact cN_t (by omega) g1 (by simp [pE, *]) | exact cN_f (by omega) g1 (by simp [pE, *])) (by omega) (by omega)
          · skip
            refine bw_iinc (ls2 := [_, _, _, _]) rfl rfl rfl ⟨by omega, by omega⟩ rfl ?_
            refine bw_iinc (ls2 := [_, _, _, _]) rfl rfl rfl ⟨by omega, by omega⟩ rfl ?_
            refine bw_goto rfl ?_
            exact ih _ _ (by first | exact cN_t (by omega) g1 (by simp [pE]; omega) | exact cN_f (by omega) g1 (by simp [pE]; omega) | exact cN_t (by omega) g1 (by simp [pE, *]) | exact cN_f (by omega) g1 (by simp [pE, *])) (by omega) (by omega)
  show abW d (0, 0) 271 0 [some (vr (some o)), some (vi n), none, none] [] (0, 0) A M (qE (some (vi (cN (pE (gI M o)) n.toNat))) A M)
  refine bw_push rfl ?_
  refine bw_istore (ls2 := [_, _, _, _]) rfl rfl (Nat.le_of_ble_eq_true rfl) rfl ?_
  refine bw_push rfl ?_
  refine bw_istore (ls2 := [_, _, _, _]) rfl rfl (Nat.le_of_ble_eq_true rfl) rfl ?_
  exact L4 (n.toNat + 1) 0 0 (by first | rfl | decide) (by omega) (by omega)
def pFE (f : Int → Int) (i : Int) : Bool := decide (f i ≠ 0 ∧ (i = 0 ∨ f i ≠ f (i - 1)))
set_option maxRecDepth 20000 in
set_option maxHeartbeats 4000000 in
theorem c_filledExposures {d : Nat} {A : abAl} {M : abMem} {o : Nat} {n : Int} {z : Int} (hz : z < 100000) (hk : A.2 o = (20, z)) (hn : 0 ≤ n ∧ n ≤ z) : abW d (0, 0) 272 0 (abEnt (abL 272) [vr (some o), vi n]) [] (0, 0) A M (qE (some (vi (cN (pFE (gI M o)) n.toNat))) A M) := by
  have L4 : ∀ (kf : Nat) (c i : Int), (c = cN (pFE (gI M o)) i.toNat) → (0 ≤ i ∧ i ≤ n) → ((n - i).toNat) < kf → abW d (0, 0) 272 4 [some (vr (some o)), some (vi n), some (vi c), some (vi i)] [] (0, 0) A (M) (qE (some (vi (cN (pFE (gI M o)) n.toNat))) A M) := by
    intro kf
    induction kf with
    | zero => intro c i  g1 g2 hm9; exact absurd hm9 (Nat.not_lt_zero _)
    | succ kf ih =>
      intro c i  g1 g2 hm9
      have b9 := cN_in (pFE (gI M o)) i.toNat
      refine bw_iload rfl rfl ?_
      refine bw_iload rfl rfl ?_
      refine bw_icge rfl (fun c6 => ?_) (fun c6 => ?_)
      · skip
        refine bw_iload rfl rfl ?_
        refine bw_ret rfl rfl ?_
        obtain rfl : i = n := by omega
        exact ⟨by rw [g1], rfl, rfl⟩
      · skip
        refine bw_aload rfl rfl ?_
        refine bw_iload rfl rfl ?_
        refine bw_aldi rfl hk (by omega) (by omega) ?_
        refine bw_ifeq rfl (fun c12 => ?_) (fun c12 => ?_)
        · skip
          refine bw_iinc (ls2 := [_, _, _, _]) rfl rfl rfl ⟨by omega, by omega⟩ rfl ?_
          refine bw_goto rfl ?_
          exact ih _ _ (by first | exact cN_t (by omega) g1 (by simp [pFE]; omega) | exact cN_f (by omega) g1 (by simp [pFE]; omega) | exact cN_t (by omega) g1 (by simp [pFE, *]) | exact cN_f (by omega) g1 (by simp [pFE, *])) (by omega) (by omega)
        · skip
          refine bw_iload rfl rfl ?_
          refine bw_ifeq rfl (fun c16 => ?_) (fun c16 => ?_)
          · skip
            refine bw_iinc (ls2 := [_, _, _, _]) rfl rfl rfl ⟨by omega, by omega⟩ rfl ?_
            refine bw_iinc (ls2 := [_, _, _, _]) rfl rfl rfl ⟨by omega, by omega⟩ rfl ?_
            refine bw_goto rfl ?_
            exact ih _ _ (by first | exact cN_t (by omega) g1 (by simp [pFE]; omega) | exact cN_f (by omega) g1 (by simp [pFE]; omega) | exact cN_t (by omega) g1 (by simp [pFE, *]) | exact cN_f (by omega) g1 (by simp [pFE, *])) (by omega) (by omega)
          · skip
            refine bw_aload rfl rfl ?_
            refine bw_iload rfl rfl ?_
            refine bw_aldi rfl hk (by omega) (by omega) ?_
            refine bw_aload rfl rfl ?_
            refine bw_iload rfl rfl ?_
            refine bw_push rfl ?_
            refine bw_isub rfl ⟨by omega, by omega⟩ ?_
            refine bw_aldi rfl hk (by omega) (by omega) ?_
            refine bw_iceq rfl (fun c27 => ?_) (fun c27 => ?_)
            · skip
              refine bw_iinc (ls2 := [_, _, _, _]) rfl rfl rfl ⟨by omega, by omega⟩ rfl ?_
              refine bw_goto rfl ?_
              exact ih _ _ (by first | exact cN_t (by omega) g1 (by simp [pFE]; omega) | exact cN_f (by omega) g1 (by simp [pFE]; omega) | exact cN_t (by omega) g1 (by simp [pFE, *]) | exact cN_f (by omega) g1 (by simp [pFE, *])) (by omega) (by omega)
            · skip
              refine bw_iinc (ls2 := [_, _, _, _]) rfl rfl rfl ⟨by omega, by omega⟩ rfl ?_
              refine bw_iinc (ls2 := [_, _, _, _]) rfl rfl rfl ⟨by omega, by omega⟩ rfl ?_
              refine bw_goto rfl ?_
              exact ih _ _ (by first | exact cN_t (by omega) g1 (by simp [pFE]; omega) | exact cN_f (by omega) g1 (by simp [pFE]; omega) | exact cN_t (by omega) g1 (by simp [pFE, *]) | exact cN_f (by omega) g1 (by simp [pFE, *])) (by omega) (by omega)
  show abW d (0, 0) 272 0 [some (vr (some o)), some (vi n), none, none] [] (0, 0) A M (qE (some (vi (cN (pFE (gI M o)) n.toNat))) A M)
  refine bw_push rfl ?_
  refine bw_istore (ls2 := [_, _, _, _]) rfl rfl (Nat.le_of_ble_eq_true rfl) rfl ?_
  refine bw_push rfl ?_
  refine bw_istore (ls2 := [_, _, _, _]) rfl rfl (Nat.le_of_ble_eq_true rfl) rfl ?_
  exact L4 (n.toNat + 1) 0 0 (by first | rfl | decide) (by omega) (by omega)
def pF (f : Int → Int) (i : Int) : Bool := decide (f i ≠ 0)
set_option maxRecDepth 20000 in
set_option maxHeartbeats 4000000 in
theorem c_filled {d : Nat} {A : abAl} {M : abMem} {o : Nat} {n : Int} {z : Int} (hz : z < 100000) (hk : A.2 o = (20, z)) (hn : 0 ≤ n ∧ n ≤ z) : abW d (0, 0) 273 0 (abEnt (abL 273) [vr (some o), vi n]) [] (0, 0) A M (qE (some (vi (cN (pF (gI M o)) n.toNat))) A M) := by
  have L4 : ∀ (kf : Nat) (c i : Int), (c = cN (pF (gI M o)) i.toNat) → (0 ≤ i ∧ i ≤ n) → ((n - i).toNat) < kf → abW d (0, 0) 273 4 [some (vr (some o)), some (vi n), some (vi c), some (vi i)] [] (0, 0) A (M) (qE (some (vi (cN (pF (gI M o)) n.toNat))) A M) := by
    intro kf
    induction kf with
    | zero => intro c i  g1 g2 hm9; exact absurd hm9 (Nat.not_lt_zero _)
    | succ kf ih =>
      intro c i  g1 g2 hm9
      have b9 := cN_in (pF (gI M o)) i.toNat
      refine bw_iload rfl rfl ?_
      refine bw_iload rfl rfl ?_
      refine bw_icge rfl (fun c6 => ?_) (fun c6 => ?_)
      · skip
        refine bw_iload rfl rfl ?_
        refine bw_ret rfl rfl ?_
        obtain rfl : i = n := by omega
        exact ⟨by rw [g1], rfl, rfl⟩
      · skip
        refine bw_aload rfl rfl ?_
        refine bw_iload rfl rfl ?_
        refine bw_aldi rfl hk (by omega) (by omega) ?_
        refine bw_ifeq rfl (fun c12 => ?_) (fun c12 => ?_)
        · skip
          refine bw_iinc (ls2 := [_, _, _, _]) rfl rfl rfl ⟨by omega, by omega⟩ rfl ?_
          refine bw_goto rfl ?_
          exact ih _ _ (by first | exact cN_t (by omega) g1 (by simp [pF]; omega) | exact cN_f (by omega) g1 (by simp [pF]; omega) | exact cN_t (by omega) g1 (by simp [pF, *]) | exact cN_f (by omega) g1 (by simp [pF, *])) (by omega) (by omega)
        · skip
          refine bw_iinc (ls2 := [_, _, _, _]) rfl rfl rfl ⟨by omega, by omega⟩ rfl ?_
          refine bw_iinc (ls2 := [_, _, _, _]) rfl rfl rfl ⟨by omega, by omega⟩ rfl ?_
          refine bw_goto rfl ?_
          exact ih _ _ (by first | exact cN_t (by omega) g1 (by simp [pF]; omega) | exact cN_f (by omega) g1 (by simp [pF]; omega) | exact cN_t (by omega) g1 (by simp [pF, *]) | exact cN_f (by omega) g1 (by simp [pF, *])) (by omega) (by omega)
  show abW d (0, 0) 273 0 [some (vr (some o)), some (vi n), none, none] [] (0, 0) A M (qE (some (vi (cN (pF (gI M o)) n.toNat))) A M)
  refine bw_push rfl ?_
  refine bw_istore (ls2 := [_, _, _, _]) rfl rfl (Nat.le_of_ble_eq_true rfl) rfl ?_
  refine bw_push rfl ?_
  refine bw_istore (ls2 := [_, _, _, _]) rfl rfl (Nat.le_of_ble_eq_true rfl) rfl ?_
  exact L4 (n.toNat + 1) 0 0 (by first | rfl | decide) (by omega) (by omega)
