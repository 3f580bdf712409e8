theorem fal_ne {M N : abMem} {k p : Int} (h : fal M k p N) (hk : k ≠ 0) : gI N 567 11 ≠ 0 := by
  rcases h with ⟨e, q⟩ | ⟨_, q⟩
  · rw [q]; exact e
  · rw [q, gI_sI_nj (by decide), gI_sI_eq]; exact hk
/-- the line's state in the reference, but for the parts -/
abbrev LQ (M : abMem) (s : LnS) : Prop := HR M (lsH s) ∧ gI M 567 19 = lsK s ∧ (∀ j : Int, 0 ≤ j → j < lsK s → gI M 575 j = min (lsF s j) 600 ∧ gI M 576 j = lsW s j)
abbrev LR (M : abMem) (s : LnS) : Prop := LQ M s ∧ gI M 567 20 = lsN s
theorem LQ.f5 {q : Int → Prop} {M N : abMem} {s : LnS} (H : LQ M s) (u : s5 pNo q M N) (h1 : ¬ q 16) (h2 : ¬ q 19) : LQ N s := by
  refine ⟨H.1.f5 u h1, by rw [u.sl 19 h2]; exact H.2.1, fun j j1 j2 => ?_⟩
  rw [u.at 575 (fun k => k) (by decide), u.at 576 (fun k => k) (by decide)]
  exact H.2.2 j j1 j2
theorem LQ.P {M N : abMem} {s : LnS} (H : LQ M s) (u : s5 pNo qP M N) : LQ N s := H.f5 u (qP_no (by omega)) (qP_no (by omega))
abbrev q20 (j : Int) : Prop := j = 11 ∨ j = 12 ∨ j = 20
theorem q20_no {j : Int} (h : j ≠ 11 ∧ j ≠ 12 ∧ j ≠ 20) : ¬ q20 j := fun k => by rcases k with k | k | k <;> omega
theorem s5.to20 {M N : abMem} (g : s5 pNo q20 M N) : s5 pL qR M N := g.mono (fun _ k => k.elim) (fun j k => by show _ ∨ _; rcases k with k | k | k <;> simp [k])
theorem pt_n {a : Int → Int} {n on : Int} {s : LnS} (h : ¬ prP a n (lsP s)) : ptS a n on s = .inl (1, lsP s) := if_pos h
theorem pt_p {a : Int → Int} {n on : Int} {s : LnS} (h : prP a n (lsP s)) : ptS a n on s = (if 48 ≤ a (lsP s) ∧ a (lsP s) ≤ 57 then (match (dr1 a n s).1 with
        | .inl e => .inl e
        | .inr _ => if lsN s = 40 then .inl (4, lsP s) else drS a n on s)
      else if lsN s = 40 then .inl (4, lsP s) else if wo a n (lsP s) = 17 then bkS a n on s else opS a n s) := if_neg (fun k => k h)
theorem pt_d {a : Int → Int} {n on : Int} {s : LnS} {e : Int × Int} (h : prP a n (lsP s)) (g : 48 ≤ a (lsP s) ∧ a (lsP s) ≤ 57) (he : (dr1 a n s).1 = .inl e) : ptS a n on s = .inl e := by
  rw [pt_p h, if_pos g, he]
theorem pt_d4 {a : Int → Int} {n on q : Int} {s : LnS} (h : prP a n (lsP s)) (g : 48 ≤ a (lsP s) ∧ a (lsP s) ≤ 57) (he : (dr1 a n s).1 = .inr q) (h4 : lsN s = 40) : ptS a n on s = .inl (4, lsP s) := by
  rw [pt_p h, if_pos g, he]
  exact if_pos h4
theorem pt_dr {a : Int → Int} {n on q : Int} {s : LnS} (h : prP a n (lsP s)) (g : 48 ≤ a (lsP s) ∧ a (lsP s) ≤ 57) (he : (dr1 a n s).1 = .inr q) (h4 : lsN s ≠ 40) : ptS a n on s = drS a n on s := by
  rw [pt_p h, if_pos g, he]
  exact if_neg h4
theorem pt_4 {a : Int → Int} {n on : Int} {s : LnS} (h : prP a n (lsP s)) (g : ¬ (48 ≤ a (lsP s) ∧ a (lsP s) ≤ 57)) (h4 : lsN s = 40) : ptS a n on s = .inl (4, lsP s) := by
  rw [pt_p h, if_neg g, if_pos h4]
theorem pt_b {a : Int → Int} {n on : Int} {s : LnS} (h : prP a n (lsP s)) (g : ¬ (48 ≤ a (lsP s) ∧ a (lsP s) ≤ 57)) (h4 : lsN s ≠ 40) (hw : wo a n (lsP s) = 17) : ptS a n on s = bkS a n on s := by
  rw [pt_p h, if_neg g, if_neg h4, if_pos hw]
theorem pt_o {a : Int → Int} {n on : Int} {s : LnS} (h : prP a n (lsP s)) (g : ¬ (48 ≤ a (lsP s) ∧ a (lsP s) ≤ 57)) (h4 : lsN s ≠ 40) (hw : wo a n (lsP s) ≠ 17) : ptS a n on s = opS a n s := by
  rw [pt_p h, if_neg g, if_neg h4, if_neg hw]
theorem bk_f {a : Int → Int} {n on : Int} {s : LnS} {e : Int × Int} (h : (tmS a n on (.inr (sk a n (we a n (lsP s))))).1 = .inl e) : bkS a n on s = .inl e := by
  unfold bkS; rw [h]
theorem bk_g {a : Int → Int} {n on q : Int} {s : LnS} (h : (tmS a n on (.inr (sk a n (we a n (lsP s))))).1 = .inr q) : bkS a n on s = .inr (lsM q (hRunTo (lsH s) 0 0 (tmS a n on (.inr (sk a n (we a n (lsP s))))).2) (lsK s) (lsF s) (lsW s) (lsN s + 1) 1, 1) := by
  unfold bkS; rw [h]
theorem dr_f {a : Int → Int} {n on : Int} {s : LnS} {e : Int × Int} (h : (dr3 a n on s).1 = .inl e) : drS a n on s = .inl e := by
  unfold drS; rw [h]
theorem dr_g {a : Int → Int} {n on q : Int} {s : LnS} (h : (dr3 a n on s).1 = .inr q) : drS a n on s = .inr (lsM q (hRunTo (lsH s) (dr1 a n s).2 (dr2 a n s).2 (dr3 a n on s).2) (lsK s) (lsF s) (lsW s) (lsN s + 1) 1, 1) := by
  unfold drS; rw [h]
theorem op_1 {a : Int → Int} {n : Int} {s : LnS} (h : a (opQ a n s) ≠ 40) : opS a n s = .inl (1, opQ a n s) := if_pos h
theorem op_4 {a : Int → Int} {n : Int} {s : LnS} (h : a (opQ a n s) = 40) (h5 : lsK s = 5) : opS a n s = .inl (4, opQ a n s) := (if_neg (fun k => k h)).trans (if_pos h5)
theorem op_g {a : Int → Int} {n : Int} {s : LnS} (h : a (opQ a n s) = 40) (h5 : lsK s ≠ 5) : opS a n s = .inr (lsM (sk a n (opQ a n s + 1)) (lsH s) (lsK s + 1) (up (lsF s) (lsK s) (lsH s).1) (up (lsW s) (lsK s) (if wo a n (lsP s) = 18 then 1 else 0)) (lsN s + 1) 0, 0) := (if_neg (fun k => k h)).trans (if_neg h5)
theorem hRunTo_0 {h : HH} {m : Int} : hRunTo h 0 0 m = hAdd h 0 m := rfl
set_option maxRecDepth 20000 in
set_option maxHeartbeats 4000000 in
theorem m_isPart {d L : Nat} {M : abMem} {r : abRf} (hR : RF r M) {a : Int → Int} {n : Int} (hP : PS M a n) (hd : 4 ≤ d) : abW d (0, 0) 170 0 (abEnt (abL 170) [vr (some 567)]) [] (0, 0) (A0 L) M (qI (A0 L) (fun x N => s5 pNo q9 M N ∧ gI N 567 9 = skM M a n ∧ (prP a n (skM M a n) ∧ x = 1 ∨ ¬ prP a n (skM M a n) ∧ x = 0))) := by
  have p1 := hP.sz
  have p2 := hP.ok.1
  have p3 := hP.he
  show abW d (0, 0) 170 0 [some (vr (some 567)), none] [] (0, 0) (A0 L) M (qI (A0 L) (fun x N => s5 pNo q9 M N ∧ gI N 567 9 = skM M a n ∧ (prP a n (skM M a n) ∧ x = 1 ∨ ¬ prP a n (skM M a n) ∧ x = 0)))
  refine bw_aload rfl rfl ?_
  refine bw_callVi (e := d - 1) (as := []) rfl (by omega) rfl rfl (Nat.le_of_ble_eq_true rfl) (Nat.le_of_ble_eq_true rfl) rfl (m_comes hR hP (by omega)) (fun r1 M1 hM1 => ?_)
  obtain ⟨u1, v1, w1⟩ := hM1
  have hR := u1.RF hR
  have s8 := skM_in hP
  have hPo := hP
  have hP := hP.to9 u1 (by rw [v1]; exact ⟨s8.1, s8.2.1⟩)
  have p4 := hP.he
  refine bw_istore (ls2 := [_, _]) rfl rfl (Nat.le_of_ble_eq_true rfl) rfl ?_
  refine bw_aload rfl rfl ?_
  refine bw_aload rfl rfl ?_
  refine bw_getI rfl rfl ?_
  refine bw_callVj (e := d - 1) (as := [_]) rfl (by omega) rfl rfl (Nat.le_of_ble_eq_true rfl) (Nat.le_of_ble_eq_true rfl) rfl (m_isDigit hR hP (by omega) (by omega)) (fun r10 hr10 => ?_)
  rw [v1] at hr10
  refine bw_ifne rfl (fun c13 => ?_) (fun c13 => ?_)
  · skip
    refine bw_push rfl ?_
    refine bw_goto rfl ?_
    refine bw_retz rfl rfl (by omega) ?_
    first
    | exact ⟨rfl, _, rfl, u1, v1, Or.inl ⟨by unfold prP; omega, rfl⟩⟩
    | exact ⟨rfl, _, rfl, u1.trans u17, v17, Or.inl ⟨by unfold prP; omega, rfl⟩⟩
    | exact ⟨rfl, _, rfl, u1.trans u17, v17, Or.inr ⟨by unfold prP; omega, rfl⟩⟩
  · skip
    refine bw_aload rfl rfl ?_
    refine bw_callVi (e := d - 1) (as := []) rfl (by omega) rfl rfl (Nat.le_of_ble_eq_true rfl) (Nat.le_of_ble_eq_true rfl) rfl (m_sees hR hP (by omega)) (fun r17 M17 hM17 => ?_)
    obtain ⟨u17, v17, w17⟩ := hM17
    have e17 : skM M1 a n = skM M a n := skM_eq hPo v1
    rw [show sk a n (gI M1 567 9) = skM M a n from e17] at v17 w17
    refine bw_push rfl ?_
    refine bw_iceq rfl (fun c22 => ?_) (fun c22 => ?_)
    · skip
      refine bw_push rfl ?_
      refine bw_goto rfl ?_
      refine bw_retz rfl rfl (by omega) ?_
      first
      | exact ⟨rfl, _, rfl, u1, v1, Or.inl ⟨by unfold prP; omega, rfl⟩⟩
      | exact ⟨rfl, _, rfl, u1.trans u17, v17, Or.inl ⟨by unfold prP; omega, rfl⟩⟩
      | exact ⟨rfl, _, rfl, u1.trans u17, v17, Or.inr ⟨by unfold prP; omega, rfl⟩⟩
    · skip
      refine bw_iload rfl rfl ?_
      refine bw_push rfl ?_
      refine bw_iceq rfl (fun c28 => ?_) (fun c28 => ?_)
      · skip
        refine bw_push rfl ?_
        refine bw_goto rfl ?_
        refine bw_retz rfl rfl (by omega) ?_
        first
        | exact ⟨rfl, _, rfl, u1, v1, Or.inl ⟨by unfold prP; omega, rfl⟩⟩
        | exact ⟨rfl, _, rfl, u1.trans u17, v17, Or.inl ⟨by unfold prP; omega, rfl⟩⟩
        | exact ⟨rfl, _, rfl, u1.trans u17, v17, Or.inr ⟨by unfold prP; omega, rfl⟩⟩
      · skip
        refine bw_iload rfl rfl ?_
        refine bw_push rfl ?_
        refine bw_icne rfl (fun c34 => ?_) (fun c34 => ?_)
        · skip
          refine bw_push rfl ?_
          refine bw_retz rfl rfl (by omega) ?_
          first
          | exact ⟨rfl, _, rfl, u1, v1, Or.inl ⟨by unfold prP; omega, rfl⟩⟩
          | exact ⟨rfl, _, rfl, u1.trans u17, v17, Or.inl ⟨by unfold prP; omega, rfl⟩⟩
          | exact ⟨rfl, _, rfl, u1.trans u17, v17, Or.inr ⟨by unfold prP; omega, rfl⟩⟩
        · skip
          refine bw_push rfl ?_
          refine bw_goto rfl ?_
          refine bw_retz rfl rfl (by omega) ?_
          first
          | exact ⟨rfl, _, rfl, u1, v1, Or.inl ⟨by unfold prP; omega, rfl⟩⟩
          | exact ⟨rfl, _, rfl, u1.trans u17, v17, Or.inl ⟨by unfold prP; omega, rfl⟩⟩
          | exact ⟨rfl, _, rfl, u1.trans u17, v17, Or.inr ⟨by unfold prP; omega, rfl⟩⟩
set_option maxRecDepth 20000 in
set_option maxHeartbeats 4000000 in
theorem m_looksAt {d L : Nat} {M : abMem} {r : abRf} (hR : RF r M) {a : Int → Int} {n : Int} (hP : PS M a n) {p : Int} (hp : gI M 567 9 = p) (h0 : gI M 567 11 = 0) (hg : 48 ≤ a p ∧ a p ≤ 57) (hd : 2 ≤ d) : abW d (0, 0) 172 0 (abEnt (abL 172) [vr (some 567)]) [] (0, 0) (A0 L) M (qV (A0 L) (fun N => s5 pNo qP M N ∧ PS N a n ∧ gI N 567 9 = p ∧ (∀ e : Int × Int, (nuS a n 1 99 (.inr p)).1 = .inl e → rs N a n (.inl e)) ∧ (∀ q : Int, (nuS a n 1 99 (.inr p)).1 = .inr q → gI N 567 11 = 0))) := by
  have p1 := hP.sz
  have p2 := hP.ok.1
  have p3 := hP.he
  have d0 := de_in hP.ok (k := p) (by omega)
  have d1 : de a n p ≠ p := fun e => by rw [e] at d0; omega
  have L7 : ∀ (kf : Nat) (v k : Int), (v = dvF a p (min 3 (k - p)).toNat) → (p ≤ k ∧ k ≤ n) → (de a n k = de a n p) → (∀ j : Int, p ≤ j → j < k → 48 ≤ a j ∧ a j ≤ 57) → ((n - k).toNat) < kf → abW d (0, 0) 172 7 [some (vr (some 567)), some (vi v), some (vi k)] [] (0, 0) (A0 L) (M) (qV (A0 L) (fun N => s5 pNo qP M N ∧ PS N a n ∧ gI N 567 9 = p ∧ (∀ e : Int × Int, (nuS a n 1 99 (.inr p)).1 = .inl e → rs N a n (.inl e)) ∧ (∀ q : Int, (nuS a n 1 99 (.inr p)).1 = .inr q → gI N 567 11 = 0))) := by
    intro kf
    induction kf with
    | zero => intro v k  g1 g2 g3 g4 hm9; exact absurd hm9 (Nat.not_lt_zero _)
    | succ kf ih7 =>
      intro v k  g1 g2 g3 g4 hm7
      have ih := ih7
      have dv := dv_in (k := p) (e := k) g4 (by omega)
      refine bw_aload rfl rfl ?_
      refine bw_iload rfl rfl ?_
      refine bw_callVj (e := d - 1) (as := [_]) rfl (by omega) rfl rfl (Nat.le_of_ble_eq_true rfl) (Nat.le_of_ble_eq_true rfl) rfl (m_isDigit hR hP (by omega) (by omega)) (fun r9 hr9 => ?_)
      refine bw_ifeq rfl (fun c12 => ?_) (fun c12 => ?_)
      · skip
        refine bw_iload rfl rfl ?_
        refine bw_aload rfl rfl ?_
        refine bw_getI rfl rfl ?_
        refine bw_isub rfl ⟨by omega, by omega⟩ ?_
        refine bw_push rfl ?_
        refine bw_icle rfl (fun c56 => ?_) (fun c56 => ?_)
        · skip
          refine bw_iload rfl rfl ?_
          refine bw_push rfl ?_
          refine bw_push rfl ?_
          refine bw_callSj (e := d - 1) (as := [_, _, _]) rfl (by omega) rfl rfl (Nat.le_of_ble_eq_true rfl) (Nat.le_of_ble_eq_true rfl) (m_isIn hR) (fun r72 hr72 => ?_)
          refine bw_ifne rfl (fun c75 => ?_) (fun c75 => ?_)
          · skip
            refine bw_retv rfl rfl ?_
            have ed : de a n p = k := by rw [← g3]; exact rn_f (pDg_f.mpr (by omega))
            have en : nv a n p = v := by unfold nv; rw [ed, ← g1]
            first
            | (refine ⟨rfl, rfl, s5_refl _ _ _, hP, hp, fun e he => ?_, fun q hq => h0⟩
               rw [nu_d (by omega) (by omega)] at he
               cases he)
            | (refine ⟨rfl, rfl, hM84.f5, hM84.ps hP, by rw [hM84.he.1]; exact hp, fun e he => ?_, fun q hq => ?_⟩
               · rw [nu_c (by omega) (by omega)] at he
                 cases he
                 have := hM84.RSn hP h0 (by decide)
                 rw [hp] at this
                 exact this.2
               · rw [nu_c (by omega) (by omega)] at hq
                 cases hq)
            | (refine ⟨rfl, rfl, hM65.f5.trans hM84.f5, hM84.ps f65.1, by rw [hM84.he.1, hM65.he.1]; exact hp, fun e he => ?_, fun q hq => ?_⟩
               · rw [nu_a (by omega)] at he
                 cases he
                 rw [hp] at f65
                 exact hM84.old f65.2
               · rw [nu_a (by omega)] at hq
                 cases hq)
            | (refine ⟨rfl, rfl, hM65.f5, f65.1, by rw [hM65.he.1]; exact hp, fun e he => ?_, fun q hq => ?_⟩
               · rw [nu_a (by omega)] at he
                 cases he
                 rw [hp] at f65
                 exact f65.2
               · rw [nu_a (by omega)] at hq
                 cases hq)
          · skip
            refine bw_aload rfl rfl ?_
            refine bw_push rfl ?_
            refine bw_aload rfl rfl ?_
            refine bw_getI rfl rfl ?_
            refine bw_callVv (e := d - 1) (as := [_, _]) rfl (by omega) rfl rfl (Nat.le_of_ble_eq_true rfl) (Nat.le_of_ble_eq_true rfl) rfl (m_faults (by assumption)) (fun M84 hM84 => ?_)
            refine bw_retv rfl rfl ?_
            have ed : de a n p = k := by rw [← g3]; exact rn_f (pDg_f.mpr (by omega))
            have en : nv a n p = v := by unfold nv; rw [ed, ← g1]
            first
            | (refine ⟨rfl, rfl, s5_refl _ _ _, hP, hp, fun e he => ?_, fun q hq => h0⟩
               rw [nu_d (by omega) (by omega)] at he
               cases he)
            | (refine ⟨rfl, rfl, hM84.f5, hM84.ps hP, by rw [hM84.he.1]; exact hp, fun e he => ?_, fun q hq => ?_⟩
               · rw [nu_c (by omega) (by omega)] at he
                 cases he
                 have := hM84.RSn hP h0 (by decide)
                 rw [hp] at this
                 exact this.2
               · rw [nu_c (by omega) (by omega)] at hq
                 cases hq)
            | (refine ⟨rfl, rfl, hM65.f5.trans hM84.f5, hM84.ps f65.1, by rw [hM84.he.1, hM65.he.1]; exact hp, fun e he => ?_, fun q hq => ?_⟩
               · rw [nu_a (by omega)] at he
                 cases he
                 rw [hp] at f65
                 exact hM84.old f65.2
               · rw [nu_a (by omega)] at hq
                 cases hq)
            | (refine ⟨rfl, rfl, hM65.f5, f65.1, by rw [hM65.he.1]; exact hp, fun e he => ?_, fun q hq => ?_⟩
               · rw [nu_a (by omega)] at he
                 cases he
                 rw [hp] at f65
                 exact f65.2
               · rw [nu_a (by omega)] at hq
                 cases hq)
        · skip
          refine bw_aload rfl rfl ?_
          refine bw_push rfl ?_
          refine bw_aload rfl rfl ?_
          refine bw_getI rfl rfl ?_
          refine bw_callVv (e := d - 1) (as := [_, _]) rfl (by omega) rfl rfl (Nat.le_of_ble_eq_true rfl) (Nat.le_of_ble_eq_true rfl) rfl (m_faults hR) (fun M65 hM65 => ?_)
          have hR := hM65.f5.RF hR
          have f65 := hM65.RSn hP h0 (by decide)
          have g65 := f65.2.1
          refine bw_iload rfl rfl ?_
          refine bw_push rfl ?_
          refine bw_push rfl ?_
          refine bw_callSj (e := d - 1) (as := [_, _, _]) rfl (by omega) rfl rfl (Nat.le_of_ble_eq_true rfl) (Nat.le_of_ble_eq_true rfl) (m_isIn hR) (fun r72 hr72 => ?_)
          refine bw_ifne rfl (fun c75 => ?_) (fun c75 => ?_)
          · skip
            refine bw_retv rfl rfl ?_
            have ed : de a n p = k := by rw [← g3]; exact rn_f (pDg_f.mpr (by omega))
            have en : nv a n p = v := by unfold nv; rw [ed, ← g1]
            first
            | (refine ⟨rfl, rfl, s5_refl _ _ _, hP, hp, fun e he => ?_, fun q hq => h0⟩
               rw [nu_d (by omega) (by omega)] at he
               cases he)
            | (refine ⟨rfl, rfl, hM84.f5, hM84.ps hP, by rw [hM84.he.1]; exact hp, fun e he => ?_, fun q hq => ?_⟩
               · rw [nu_c (by omega) (by omega)] at he
                 cases he
                 have := hM84.RSn hP h0 (by decide)
                 rw [hp] at this
                 exact this.2
               · rw [nu_c (by omega) (by omega)] at hq
                 cases hq)
            | (refine ⟨rfl, rfl, hM65.f5.trans hM84.f5, hM84.ps f65.1, by rw [hM84.he.1, hM65.he.1]; exact hp, fun e he => ?_, fun q hq => ?_⟩
               · rw [nu_a (by omega)] at he
                 cases he
                 rw [hp] at f65
                 exact hM84.old f65.2
               · rw [nu_a (by omega)] at hq
                 cases hq)
            | (refine ⟨rfl, rfl, hM65.f5, f65.1, by rw [hM65.he.1]; exact hp, fun e he => ?_, fun q hq => ?_⟩
               · rw [nu_a (by omega)] at he
                 cases he
                 rw [hp] at f65
                 exact f65.2
               · rw [nu_a (by omega)] at hq
                 cases hq)
          · skip
            refine bw_aload rfl rfl ?_
            refine bw_push rfl ?_
            refine bw_aload rfl rfl ?_
            refine bw_getI rfl rfl ?_
            refine bw_callVv (e := d - 1) (as := [_, _]) rfl (by omega) rfl rfl (Nat.le_of_ble_eq_true rfl) (Nat.le_of_ble_eq_true rfl) rfl (m_faults (by assumption)) (fun M84 hM84 => ?_)
            refine bw_retv rfl rfl ?_
            have ed : de a n p = k := by rw [← g3]; exact rn_f (pDg_f.mpr (by omega))
            have en : nv a n p = v := by unfold nv; rw [ed, ← g1]
            first
            | (refine ⟨rfl, rfl, s5_refl _ _ _, hP, hp, fun e he => ?_, fun q hq => h0⟩
               rw [nu_d (by omega) (by omega)] at he
               cases he)
            | (refine ⟨rfl, rfl, hM84.f5, hM84.ps hP, by rw [hM84.he.1]; exact hp, fun e he => ?_, fun q hq => ?_⟩
               · rw [nu_c (by omega) (by omega)] at he
                 cases he
                 have := hM84.RSn hP h0 (by decide)
                 rw [hp] at this
                 exact this.2
               · rw [nu_c (by omega) (by omega)] at hq
                 cases hq)
            | (refine ⟨rfl, rfl, hM65.f5.trans hM84.f5, hM84.ps f65.1, by rw [hM84.he.1, hM65.he.1]; exact hp, fun e he => ?_, fun q hq => ?_⟩
               · rw [nu_a (by omega)] at he
                 cases he
                 rw [hp] at f65
                 exact hM84.old f65.2
               · rw [nu_a (by omega)] at hq
                 cases hq)
            | (refine ⟨rfl, rfl, hM65.f5, f65.1, by rw [hM65.he.1]; exact hp, fun e he => ?_, fun q hq => ?_⟩
               · rw [nu_a (by omega)] at he
                 cases he
                 rw [hp] at f65
                 exact f65.2
               · rw [nu_a (by omega)] at hq
                 cases hq)
      · skip
        refine bw_iload rfl rfl ?_
        refine bw_aload rfl rfl ?_
        refine bw_getI rfl rfl ?_
        refine bw_isub rfl ⟨by omega, by omega⟩ ?_
        refine bw_push rfl ?_
        refine bw_icge rfl (fun c22 => ?_) (fun c22 => ?_)
        · skip
          refine bw_iload rfl rfl ?_
          refine bw_istore (ls2 := [_, _, _]) rfl rfl (Nat.le_of_ble_eq_true rfl) rfl ?_
          refine bw_iinc (ls2 := [_, _, _]) rfl rfl rfl ⟨by omega, by omega⟩ rfl ?_
          refine bw_goto rfl ?_
          have hb : pDg (a k) = true := pDg_t.mpr (by omega)
          have hk := in_of hP.ok (k := k) (by omega)
          refine ih _ (k + 1) ?_ (by omega) ((rn_t hP.ok (by decide) hb).symm.trans g3) (fun j h1 h2 => ?_) (by omega)
          · first
            | (have q : k - p < 3 := by omega
               rw [show min 3 (k + 1 - p) = (k - p) + 1 by omega, dvF_s (by omega), show p + (k - p) = k by omega, show (k - p).toNat = (min 3 (k - p)).toNat by omega, ← g1])
            | (have q : ¬ k - p < 3 := by omega
               rw [g1]; congr 2; omega)
          · by_cases q : j = k
            · rw [q]; omega
            · exact g4 j h1 (by omega)
        · skip
          refine bw_push rfl ?_
          refine bw_iload rfl rfl ?_
          refine bw_imul rfl ⟨by omega, by omega⟩ ?_
          refine bw_aload rfl rfl ?_
          refine bw_iload rfl rfl ?_
          refine bw_callVe (e := d - 1) (as := [_]) rfl (by omega) rfl rfl (Nat.le_of_ble_eq_true rfl) (Nat.le_of_ble_eq_true rfl) rfl (m_byteAt hR hP (by omega)) ?_
          have bn := hP.ok.2.2 k
          refine bw_iadd rfl ⟨by omega, by omega⟩ ?_
          refine bw_push rfl ?_
          refine bw_isub rfl ⟨by omega, by omega⟩ ?_
          refine bw_goto rfl ?_
          refine bw_istore (ls2 := [_, _, _]) rfl rfl (Nat.le_of_ble_eq_true rfl) rfl ?_
          refine bw_iinc (ls2 := [_, _, _]) rfl rfl rfl ⟨by omega, by omega⟩ rfl ?_
          refine bw_goto rfl ?_
          have hb : pDg (a k) = true := pDg_t.mpr (by omega)
          have hk := in_of hP.ok (k := k) (by omega)
          refine ih _ (k + 1) ?_ (by omega) ((rn_t hP.ok (by decide) hb).symm.trans g3) (fun j h1 h2 => ?_) (by omega)
          · first
            | (have q : k - p < 3 := by omega
               rw [show min 3 (k + 1 - p) = (k - p) + 1 by omega, dvF_s (by omega), show p + (k - p) = k by omega, show (k - p).toNat = (min 3 (k - p)).toNat by omega, ← g1])
            | (have q : ¬ k - p < 3 := by omega
               rw [g1]; congr 2; omega)
          · by_cases q : j = k
            · rw [q]; omega
            · exact g4 j h1 (by omega)
  show abW d (0, 0) 172 0 [some (vr (some 567)), none, none] [] (0, 0) (A0 L) M (qV (A0 L) (fun N => s5 pNo qP M N ∧ PS N a n ∧ gI N 567 9 = p ∧ (∀ e : Int × Int, (nuS a n 1 99 (.inr p)).1 = .inl e → rs N a n (.inl e)) ∧ (∀ q : Int, (nuS a n 1 99 (.inr p)).1 = .inr q → gI N 567 11 = 0)))
  refine bw_push rfl ?_
  refine bw_istore (ls2 := [_, _, _]) rfl rfl (Nat.le_of_ble_eq_true rfl) rfl ?_
  refine bw_aload rfl rfl ?_
  refine bw_getI rfl rfl ?_
  refine bw_istore (ls2 := [_, _, _]) rfl rfl (Nat.le_of_ble_eq_true rfl) rfl ?_
  rw [hp]
  exact L7 ((n - p).toNat + 1) 0 p (by rw [Int.sub_self]; rfl) (by omega) rfl (fun j h1 h2 => by omega) (by omega)
set_option maxRecDepth 20000 in
set_option maxHeartbeats 4000000 in
theorem m_counts {d L : Nat} {M : abMem} {r : abRf} (hR : RF r M) (hn : 0 ≤ gI M 567 20 ∧ gI M 567 20 ≤ 40) (h0 : gI M 567 11 = 0) (hd : 1 ≤ d) : abW d (0, 0) 169 0 (abEnt (abL 169) [vr (some 567)]) [] (0, 0) (A0 L) M (qV (A0 L) (fun N => s5 pNo q20 M N ∧ gI N 567 20 = gI M 567 20 + 1 ∧ gI N 567 9 = gI M 567 9 ∧ ((gI M 567 20 = 40 ∧ gI N 567 11 = 4 ∧ gI N 567 12 = gI M 567 9) ∨ (gI M 567 20 ≠ 40 ∧ gI N 567 11 = 0)))) := by
  show abW d (0, 0) 169 0 [some (vr (some 567))] [] (0, 0) (A0 L) M (qV (A0 L) (fun N => s5 pNo q20 M N ∧ gI N 567 20 = gI M 567 20 + 1 ∧ gI N 567 9 = gI M 567 9 ∧ ((gI M 567 20 = 40 ∧ gI N 567 11 = 4 ∧ gI N 567 12 = gI M 567 9) ∨ (gI M 567 20 ≠ 40 ∧ gI N 567 11 = 0))))
  refine bw_aload rfl rfl ?_
  refine bw_getI rfl rfl ?_
  refine bw_push rfl ?_
  refine bw_icne rfl (fun c6 => ?_) (fun c6 => ?_)
  · skip
    refine bw_aload rfl rfl ?_
    first | refine bw_dup rfl ?_ | refine bw_dupi rfl ?_
    refine bw_getI rfl rfl ?_
    try rw [gI_sI_nj (show (20 : Int) ≠ 12 by decide), gI_sI_nj (show (20 : Int) ≠ 11 by decide)]
    refine bw_push rfl ?_
    refine bw_iadd rfl ⟨by omega, by omega⟩ ?_
    refine bw_putI rfl rfl ?_
    refine bw_retv rfl rfl ?_
    first
    | exact ⟨rfl, rfl, ((s5_refl _ _ _).fl 4 _ (by decide) (Or.inl rfl) (Or.inr (Or.inl rfl))).sI7 20 _ (Or.inr (Or.inr rfl)), by rw [gI_sI_eq], by rw [gI_sI_nj (by decide), gI_sI_nj (by decide), gI_sI_nj (by decide)], Or.inl ⟨by omega, by rw [gI_sI_nj (by decide), gI_sI_nj (by decide), gI_sI_eq], by rw [gI_sI_nj (by decide), gI_sI_eq]⟩⟩
    | exact ⟨rfl, rfl, (s5_refl _ _ _).sI7 20 _ (Or.inr (Or.inr rfl)), by rw [gI_sI_eq], by rw [gI_sI_nj (by decide)], Or.inr ⟨by omega, by rw [gI_sI_nj (by decide)]; exact h0⟩⟩
  · skip
    refine bw_aload rfl rfl ?_
    refine bw_push rfl ?_
    refine bw_aload rfl rfl ?_
    refine bw_getI rfl rfl ?_
    refine bw_callVv (e := d - 1) (as := [_, _]) rfl (by omega) rfl rfl (Nat.le_of_ble_eq_true rfl) (Nat.le_of_ble_eq_true rfl) rfl (m_faults hR) (fun M15 hM15 => ?_)
    have q15 : M15 = sI (sI M 567 11 4) 567 12 (gI M 567 9) := hM15.elim (fun k => absurd h0 k.1) (fun k => k.2)
    have hR := hM15.f5.RF hR
    subst q15
    refine bw_aload rfl rfl ?_
    first | refine bw_dup rfl ?_ | refine bw_dupi rfl ?_
    refine bw_getI rfl rfl ?_
    try rw [gI_sI_nj (show (20 : Int) ≠ 12 by decide), gI_sI_nj (show (20 : Int) ≠ 11 by decide)]
    refine bw_push rfl ?_
    refine bw_iadd rfl ⟨by omega, by omega⟩ ?_
    refine bw_putI rfl rfl ?_
    refine bw_retv rfl rfl ?_
    first
    | exact ⟨rfl, rfl, ((s5_refl _ _ _).fl 4 _ (by decide) (Or.inl rfl) (Or.inr (Or.inl rfl))).sI7 20 _ (Or.inr (Or.inr rfl)), by rw [gI_sI_eq], by rw [gI_sI_nj (by decide), gI_sI_nj (by decide), gI_sI_nj (by decide)], Or.inl ⟨by omega, by rw [gI_sI_nj (by decide), gI_sI_nj (by decide), gI_sI_eq], by rw [gI_sI_nj (by decide), gI_sI_eq]⟩⟩
    | exact ⟨rfl, rfl, (s5_refl _ _ _).sI7 20 _ (Or.inr (Or.inr rfl)), by rw [gI_sI_eq], by rw [gI_sI_nj (by decide)], Or.inr ⟨by omega, by rw [gI_sI_nj (by decide)]; exact h0⟩⟩
