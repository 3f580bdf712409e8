/-- a byte as the class has it -/
def sg (u : Int) : Int := if u < 128 then u else u - 256
theorem sg_c (u : Int) : (u < 128 ∧ sg u = u) ∨ (128 ≤ u ∧ sg u = u - 256) := by
  unfold sg
  by_cases h : u < 128
  · exact Or.inl ⟨h, if_pos h⟩
  · exact Or.inr ⟨by omega, if_neg h⟩
/-- the text on the class's tape -/
abbrev TP (M : abMem) (a : Int → Int) (n : Int) : Prop := (okA a n) ∧ (gI M 1 1 = n) ∧ (∀ k : Int, 0 ≤ k → k < n → gI M 2 k = sg (a k))
theorem TP.ok {M : abMem} {a : Int → Int} {n : Int} (h : TP M a n) : okA a n := h.1
theorem TP.le {M : abMem} {a : Int → Int} {n : Int} (h : TP M a n) : gI M 1 1 = n := h.2.1
theorem TP.by {M : abMem} {a : Int → Int} {n : Int} (h : TP M a n) : ∀ k : Int, 0 ≤ k → k < n → gI M 2 k = sg (a k) := h.2.2
/-- what is read next: its kind, its end -/
def tkK (a : Int → Int) (n p : Int) : Int := if 97 ≤ a p ∧ a p ≤ 122 then 1 else if 48 ≤ a p ∧ a p ≤ 57 then 2 else if p < n then 3 else 0
def tkE (a : Int → Int) (n p : Int) : Int := if 97 ≤ a p ∧ a p ≤ 122 then we a n p else if 48 ≤ a p ∧ a p ≤ 57 then de a n p else if p < n then p + 1 else p
abbrev TA (M : abMem) (a : Int → Int) (n p : Int) : Prop := (gI M 1 3 = p ∧ gI M 1 2 = tkK a n p ∧ gI M 1 4 = tkE a n p) ∧ (0 ≤ p ∧ p ≤ n ∧ sk a n p = p)
abbrev pT (a : Nat) : Prop := a = 1
theorem tk_c {a : Int → Int} {n p : Int} (hA : okA a n) (hp : 0 ≤ p ∧ p ≤ n) : ((97 ≤ a p ∧ a p ≤ 122) ∧ tkK a n p = 1 ∧ tkE a n p = we a n p ∧ p < we a n p ∧ we a n p ≤ n) ∨ ((48 ≤ a p ∧ a p ≤ 57) ∧ tkK a n p = 2 ∧ tkE a n p = de a n p ∧ p < de a n p ∧ de a n p ≤ n ∧ we a n p = p) ∨ ((¬ (97 ≤ a p ∧ a p ≤ 122) ∧ ¬ (48 ≤ a p ∧ a p ≤ 57)) ∧ p < n ∧ 0 ≤ a p ∧ tkK a n p = 3 ∧ tkE a n p = p + 1 ∧ we a n p = p ∧ de a n p = p) ∨ (p = n ∧ a p = -1 ∧ tkK a n p = 0 ∧ tkE a n p = p ∧ we a n p = p ∧ de a n p = p) := by
  have w := we_in hA hp
  have e := de_in hA hp
  unfold tkK tkE
  by_cases c1 : 97 ≤ a p ∧ a p ≤ 122
  · rw [if_pos c1, if_pos c1]
    have : we a n p ≠ p := fun h => by rw [h] at w; omega
    exact Or.inl ⟨c1, rfl, rfl, by omega, by omega⟩
  · have w0 : we a n p = p := rn_f (pSm_f.mpr c1)
    rw [if_neg c1, if_neg c1]
    by_cases c2 : 48 ≤ a p ∧ a p ≤ 57
    · rw [if_pos c2, if_pos c2]
      have : de a n p ≠ p := fun h => by rw [h] at e; omega
      exact Or.inr (Or.inl ⟨c2, rfl, rfl, by omega, by omega, w0⟩)
    · have d0 : de a n p = p := rn_f (pDg_f.mpr c2)
      rw [if_neg c2, if_neg c2]
      by_cases c3 : p < n
      · rw [if_pos c3, if_pos c3]
        have := hA.2.2 p hp.1 c3
        exact Or.inr (Or.inr (Or.inl ⟨⟨c1, c2⟩, c3, by omega, rfl, rfl, w0, d0⟩))
      · rw [if_neg c3, if_neg c3]
        exact Or.inr (Or.inr (Or.inr ⟨by omega, hA.2.1 p (by omega), rfl, rfl, w0, d0⟩))
theorem TP.sm {M N : abMem} {p : Nat → Prop} {a : Int → Int} {n : Int} (h : TP M a n) (g : sm p M N) (h2 : ¬ p 2) (e : gI N 1 1 = gI M 1 1) : TP N a n := ⟨h.ok, e.trans h.le, by rw [g.at 2 h2]; exact h.by⟩
theorem pT_no {a : Nat} (h : a ≠ 1) : ¬ pT a := h
set_option maxRecDepth 20000 in
set_option maxHeartbeats 4000000 in
theorem c_advance {d L : Nat} {M : abMem} {r : abRf} (hR : RF r M) {a : Int → Int} {n : Int} (hT : TP M a n) {s : Int} (hs : gI M 1 4 = s ∧ 0 ≤ s ∧ s ≤ n) : abW d (0, 0) 75 0 (abEnt (abL 75) [vr (some 1)]) [] (0, 0) (A0 L) M (qV (A0 L) (fun N => sm pT M N ∧ TP N a n ∧ TA N a n (sk a n s))) := by
  have hRM := hR
  have t1 := hT.le
  have t2 := hT.ok.1
  have s9 := sk_in hT.ok (k := s) (by omega)
  have s8 := sk_sk hT.ok (k := s) (by omega)
  have L141 : ∀ (kf : Nat) (N : abMem) (p : Int), (sm pT M N) → (gI N 1 1 = n ∧ gI N 1 2 = 2 ∧ gI N 1 3 = p ∧ p = sk a n s ∧ we a n p = p) → (de a n (gI N 1 4) = de a n p) → (p ≤ gI N 1 4 ∧ gI N 1 4 ≤ n) → ((n - gI N 1 4).toNat) < kf → abW d (0, 0) 75 141 [some (vr (some 1))] [] (0, 0) (A0 L) (N) (qV (A0 L) (fun N => sm pT M N ∧ TP N a n ∧ TA N a n (sk a n s))) := by
    intro kf
    induction kf with
    | zero => intro N  p  g1 g2 g3 g4 hm9; exact absurd hm9 (Nat.not_lt_zero _)
    | succ kf ih141 =>
      intro N  p  g1 g2 g3 g4 hm141
      have ih := ih141
      have hR := g1.RF hRM
      have tc := tk_c hT.ok (p := p) (by omega)
      refine bw_aload rfl rfl ?_
      refine bw_getI rfl rfl ?_
      refine bw_aload rfl rfl ?_
      refine bw_getI rfl rfl ?_
      refine bw_icge rfl (fun c149 => ?_) (fun c149 => ?_)
      · skip
        refine bw_aload rfl rfl ?_
        refine bw_getI rfl rfl ?_
        refine bw_aload rfl rfl ?_
        refine bw_getI rfl rfl ?_
        refine bw_icne rfl (fun c201 => ?_) (fun c201 => ?_)
        · first
          | (exfalso; omega)
          | (refine bw_aload rfl rfl ?_
             refine bw_getI rfl rfl ?_
             refine bw_aload rfl rfl ?_
             refine bw_getI rfl rfl ?_
             refine bw_icne rfl (fun c241 => ?_) (fun c241 => ?_)
             · first
               | (exfalso; omega)
               | (refine bw_retv rfl rfl ?_
                  first
                  | (have ew : we a n (gI N 1 4) = gI N 1 4 := rn_f (pSm_f.mpr (fun k => by have i := in_of hT.ok (k := gI N 1 4) (by omega); omega))
                     rw [← g2.2.2.2]
                     exact ⟨rfl, rfl, g1, hT.sm g1 (pT_no (by decide)) (by omega), ⟨by omega, by omega, by omega⟩, by omega, by omega, by rw [g2.2.2.2]; exact s8⟩)
                  | (have ew : de a n (gI N 1 4) = gI N 1 4 := rn_f (pDg_f.mpr (fun k => by have i := in_of hT.ok (k := gI N 1 4) (by omega); omega))
                     rw [← g2.2.2.2.1]
                     have g9 : 0 ≤ p ∧ p ≤ n ∧ sk a n p = p := ⟨by omega, by omega, by rw [g2.2.2.2.1]; exact s8⟩
                     first
                     | exact ⟨rfl, rfl, g1, hT.sm g1 (pT_no (by decide)) (by omega), ⟨by omega, by omega, by omega⟩, g9⟩
                     | exact ⟨rfl, rfl, (g1.sI 2 _ rfl).sI 4 _ rfl, hT.sm ((g1.sI 2 _ rfl).sI 4 _ rfl) (pT_no (by decide)) (by rw [gI_sI_nj (by decide), gI_sI_nj (by decide)]; omega), ⟨by rw [gI_sI_nj (by decide), gI_sI_nj (by decide)]; omega, by rw [gI_sI_nj (by decide), gI_sI_eq]; omega, by rw [gI_sI_eq]; omega⟩, g9⟩
                     | exact ⟨rfl, rfl, g1.sI 2 _ rfl, hT.sm (g1.sI 2 _ rfl) (pT_no (by decide)) (by rw [gI_sI_nj (by decide)]; omega), ⟨by rw [gI_sI_nj (by decide)]; omega, by rw [gI_sI_eq]; omega, by rw [gI_sI_nj (by decide)]; omega⟩, g9⟩))
             · first
               | (exfalso; omega)
               | (refine bw_aload rfl rfl ?_
                  refine bw_push rfl ?_
                  refine bw_putI rfl rfl ?_
                  refine bw_retv rfl rfl ?_
                  first
                  | (have ew : we a n (gI N 1 4) = gI N 1 4 := rn_f (pSm_f.mpr (fun k => by have i := in_of hT.ok (k := gI N 1 4) (by omega); omega))
                     rw [← g2.2.2.2]
                     exact ⟨rfl, rfl, g1, hT.sm g1 (pT_no (by decide)) (by omega), ⟨by omega, by omega, by omega⟩, by omega, by omega, by rw [g2.2.2.2]; exact s8⟩)
                  | (have ew : de a n (gI N 1 4) = gI N 1 4 := rn_f (pDg_f.mpr (fun k => by have i := in_of hT.ok (k := gI N 1 4) (by omega); omega))
                     rw [← g2.2.2.2.1]
                     have g9 : 0 ≤ p ∧ p ≤ n ∧ sk a n p = p := ⟨by omega, by omega, by rw [g2.2.2.2.1]; exact s8⟩
                     first
                     | exact ⟨rfl, rfl, g1, hT.sm g1 (pT_no (by decide)) (by omega), ⟨by omega, by omega, by omega⟩, g9⟩
                     | exact ⟨rfl, rfl, (g1.sI 2 _ rfl).sI 4 _ rfl, hT.sm ((g1.sI 2 _ rfl).sI 4 _ rfl) (pT_no (by decide)) (by rw [gI_sI_nj (by decide), gI_sI_nj (by decide)]; omega), ⟨by rw [gI_sI_nj (by decide), gI_sI_nj (by decide)]; omega, by rw [gI_sI_nj (by decide), gI_sI_eq]; omega, by rw [gI_sI_eq]; omega⟩, g9⟩
                     | exact ⟨rfl, rfl, g1.sI 2 _ rfl, hT.sm (g1.sI 2 _ rfl) (pT_no (by decide)) (by rw [gI_sI_nj (by decide)]; omega), ⟨by rw [gI_sI_nj (by decide)]; omega, by rw [gI_sI_eq]; omega, by rw [gI_sI_nj (by decide)]; omega⟩, g9⟩)))
        · first
          | (exfalso; omega)
          | (refine bw_aload rfl rfl ?_
             refine bw_getI rfl rfl ?_
             refine bw_aload rfl rfl ?_
             refine bw_getI rfl rfl ?_
             refine bw_icge rfl (fun c212 => ?_) (fun c212 => ?_)
             · skip
               refine bw_aload rfl rfl ?_
               refine bw_getI rfl rfl ?_
               refine bw_aload rfl rfl ?_
               refine bw_getI rfl rfl ?_
               refine bw_icne rfl (fun c241 => ?_) (fun c241 => ?_)
               · first
                 | (exfalso; omega)
                 | (refine bw_retv rfl rfl ?_
                    first
                    | (have ew : we a n (gI N 1 4) = gI N 1 4 := rn_f (pSm_f.mpr (fun k => by have i := in_of hT.ok (k := gI N 1 4) (by omega); omega))
                       rw [← g2.2.2.2]
                       exact ⟨rfl, rfl, g1, hT.sm g1 (pT_no (by decide)) (by omega), ⟨by omega, by omega, by omega⟩, by omega, by omega, by rw [g2.2.2.2]; exact s8⟩)
                    | (have ew : de a n (gI N 1 4) = gI N 1 4 := rn_f (pDg_f.mpr (fun k => by have i := in_of hT.ok (k := gI N 1 4) (by omega); omega))
                       rw [← g2.2.2.2.1]
                       have g9 : 0 ≤ p ∧ p ≤ n ∧ sk a n p = p := ⟨by omega, by omega, by rw [g2.2.2.2.1]; exact s8⟩
                       first
                       | exact ⟨rfl, rfl, g1, hT.sm g1 (pT_no (by decide)) (by omega), ⟨by omega, by omega, by omega⟩, g9⟩
                       | exact ⟨rfl, rfl, (g1.sI 2 _ rfl).sI 4 _ rfl, hT.sm ((g1.sI 2 _ rfl).sI 4 _ rfl) (pT_no (by decide)) (by rw [gI_sI_nj (by decide), gI_sI_nj (by decide)]; omega), ⟨by rw [gI_sI_nj (by decide), gI_sI_nj (by decide)]; omega, by rw [gI_sI_nj (by decide), gI_sI_eq]; omega, by rw [gI_sI_eq]; omega⟩, g9⟩
                       | exact ⟨rfl, rfl, g1.sI 2 _ rfl, hT.sm (g1.sI 2 _ rfl) (pT_no (by decide)) (by rw [gI_sI_nj (by decide)]; omega), ⟨by rw [gI_sI_nj (by decide)]; omega, by rw [gI_sI_eq]; omega, by rw [gI_sI_nj (by decide)]; omega⟩, g9⟩))
               · first
                 | (exfalso; omega)
                 | (refine bw_aload rfl rfl ?_
                    refine bw_push rfl ?_
                    refine bw_putI rfl rfl ?_
                    refine bw_retv rfl rfl ?_
                    first
                    | (have ew : we a n (gI N 1 4) = gI N 1 4 := rn_f (pSm_f.mpr (fun k => by have i := in_of hT.ok (k := gI N 1 4) (by omega); omega))
                       rw [← g2.2.2.2]
                       exact ⟨rfl, rfl, g1, hT.sm g1 (pT_no (by decide)) (by omega), ⟨by omega, by omega, by omega⟩, by omega, by omega, by rw [g2.2.2.2]; exact s8⟩)
                    | (have ew : de a n (gI N 1 4) = gI N 1 4 := rn_f (pDg_f.mpr (fun k => by have i := in_of hT.ok (k := gI N 1 4) (by omega); omega))
                       rw [← g2.2.2.2.1]
                       have g9 : 0 ≤ p ∧ p ≤ n ∧ sk a n p = p := ⟨by omega, by omega, by rw [g2.2.2.2.1]; exact s8⟩
                       first
                       | exact ⟨rfl, rfl, g1, hT.sm g1 (pT_no (by decide)) (by omega), ⟨by omega, by omega, by omega⟩, g9⟩
                       | exact ⟨rfl, rfl, (g1.sI 2 _ rfl).sI 4 _ rfl, hT.sm ((g1.sI 2 _ rfl).sI 4 _ rfl) (pT_no (by decide)) (by rw [gI_sI_nj (by decide), gI_sI_nj (by decide)]; omega), ⟨by rw [gI_sI_nj (by decide), gI_sI_nj (by decide)]; omega, by rw [gI_sI_nj (by decide), gI_sI_eq]; omega, by rw [gI_sI_eq]; omega⟩, g9⟩
                       | exact ⟨rfl, rfl, g1.sI 2 _ rfl, hT.sm (g1.sI 2 _ rfl) (pT_no (by decide)) (by rw [gI_sI_nj (by decide)]; omega), ⟨by rw [gI_sI_nj (by decide)]; omega, by rw [gI_sI_eq]; omega, by rw [gI_sI_nj (by decide)]; omega⟩, g9⟩))
             · skip
               refine bw_aload rfl rfl ?_
               refine bw_push rfl ?_
               refine bw_putI rfl rfl ?_
               refine bw_aload rfl rfl ?_
               first | refine bw_dup rfl ?_ | refine bw_dupi rfl ?_
               refine bw_getI rfl rfl ?_
               rw [gI_sI_nj (show (4 : Int) ≠ 2 by decide)]
               refine bw_push rfl ?_
               refine bw_iadd rfl ⟨by omega, by omega⟩ ?_
               refine bw_putI rfl rfl ?_
               refine bw_goto rfl ?_
               refine bw_retv rfl rfl ?_
               first
               | (have ew : we a n (gI N 1 4) = gI N 1 4 := rn_f (pSm_f.mpr (fun k => by have i := in_of hT.ok (k := gI N 1 4) (by omega); omega))
                  rw [← g2.2.2.2]
                  exact ⟨rfl, rfl, g1, hT.sm g1 (pT_no (by decide)) (by omega), ⟨by omega, by omega, by omega⟩, by omega, by omega, by rw [g2.2.2.2]; exact s8⟩)
               | (have ew : de a n (gI N 1 4) = gI N 1 4 := rn_f (pDg_f.mpr (fun k => by have i := in_of hT.ok (k := gI N 1 4) (by omega); omega))
                  rw [← g2.2.2.2.1]
                  have g9 : 0 ≤ p ∧ p ≤ n ∧ sk a n p = p := ⟨by omega, by omega, by rw [g2.2.2.2.1]; exact s8⟩
                  first
                  | exact ⟨rfl, rfl, g1, hT.sm g1 (pT_no (by decide)) (by omega), ⟨by omega, by omega, by omega⟩, g9⟩
                  | exact ⟨rfl, rfl, (g1.sI 2 _ rfl).sI 4 _ rfl, hT.sm ((g1.sI 2 _ rfl).sI 4 _ rfl) (pT_no (by decide)) (by rw [gI_sI_nj (by decide), gI_sI_nj (by decide)]; omega), ⟨by rw [gI_sI_nj (by decide), gI_sI_nj (by decide)]; omega, by rw [gI_sI_nj (by decide), gI_sI_eq]; omega, by rw [gI_sI_eq]; omega⟩, g9⟩
                  | exact ⟨rfl, rfl, g1.sI 2 _ rfl, hT.sm (g1.sI 2 _ rfl) (pT_no (by decide)) (by rw [gI_sI_nj (by decide)]; omega), ⟨by rw [gI_sI_nj (by decide)]; omega, by rw [gI_sI_eq]; omega, by rw [gI_sI_nj (by decide)]; omega⟩, g9⟩))
      · skip
        refine bw_aload rfl rfl ?_
        refine bw_getr rfl rfl (hR _ _) ?_
        refine bw_aload rfl rfl ?_
        refine bw_getI rfl rfl ?_
        refine bw_aldb rfl (by first | rfl | assumption) (by decide) (by omega) (by omega) ?_
        rw [show gI N 2 = gI M 2 from g1.at 2 (pT_no (by decide)), hT.by _ (by omega) (by omega)]
        have sx := sg_c (a (gI N 1 4))
        have sy := hT.ok.2.2 (gI N 1 4) (by omega) (by omega)
        refine bw_push rfl ?_
        refine bw_iclt rfl (fun c163 => ?_) (fun c163 => ?_)
        · skip
          refine bw_aload rfl rfl ?_
          refine bw_getI rfl rfl ?_
          refine bw_aload rfl rfl ?_
          refine bw_getI rfl rfl ?_
          refine bw_icne rfl (fun c201 => ?_) (fun c201 => ?_)
          · first
            | (exfalso; omega)
            | (refine bw_aload rfl rfl ?_
               refine bw_getI rfl rfl ?_
               refine bw_aload rfl rfl ?_
               refine bw_getI rfl rfl ?_
               refine bw_icne rfl (fun c241 => ?_) (fun c241 => ?_)
               · first
                 | (exfalso; omega)
                 | (refine bw_retv rfl rfl ?_
                    first
                    | (have ew : we a n (gI N 1 4) = gI N 1 4 := rn_f (pSm_f.mpr (fun k => by have i := in_of hT.ok (k := gI N 1 4) (by omega); omega))
                       rw [← g2.2.2.2]
                       exact ⟨rfl, rfl, g1, hT.sm g1 (pT_no (by decide)) (by omega), ⟨by omega, by omega, by omega⟩, by omega, by omega, by rw [g2.2.2.2]; exact s8⟩)
                    | (have ew : de a n (gI N 1 4) = gI N 1 4 := rn_f (pDg_f.mpr (fun k => by have i := in_of hT.ok (k := gI N 1 4) (by omega); omega))
                       rw [← g2.2.2.2.1]
                       have g9 : 0 ≤ p ∧ p ≤ n ∧ sk a n p = p := ⟨by omega, by omega, by rw [g2.2.2.2.1]; exact s8⟩
                       first
                       | exact ⟨rfl, rfl, g1, hT.sm g1 (pT_no (by decide)) (by omega), ⟨by omega, by omega, by omega⟩, g9⟩
                       | exact ⟨rfl, rfl, (g1.sI 2 _ rfl).sI 4 _ rfl, hT.sm ((g1.sI 2 _ rfl).sI 4 _ rfl) (pT_no (by decide)) (by rw [gI_sI_nj (by decide), gI_sI_nj (by decide)]; omega), ⟨by rw [gI_sI_nj (by decide), gI_sI_nj (by decide)]; omega, by rw [gI_sI_nj (by decide), gI_sI_eq]; omega, by rw [gI_sI_eq]; omega⟩, g9⟩
                       | exact ⟨rfl, rfl, g1.sI 2 _ rfl, hT.sm (g1.sI 2 _ rfl) (pT_no (by decide)) (by rw [gI_sI_nj (by decide)]; omega), ⟨by rw [gI_sI_nj (by decide)]; omega, by rw [gI_sI_eq]; omega, by rw [gI_sI_nj (by decide)]; omega⟩, g9⟩))
               · first
                 | (exfalso; omega)
                 | (refine bw_aload rfl rfl ?_
                    refine bw_push rfl ?_
                    refine bw_putI rfl rfl ?_
                    refine bw_retv rfl rfl ?_
                    first
                    | (have ew : we a n (gI N 1 4) = gI N 1 4 := rn_f (pSm_f.mpr (fun k => by have i := in_of hT.ok (k := gI N 1 4) (by omega); omega))
                       rw [← g2.2.2.2]
                       exact ⟨rfl, rfl, g1, hT.sm g1 (pT_no (by decide)) (by omega), ⟨by omega, by omega, by omega⟩, by omega, by omega, by rw [g2.2.2.2]; exact s8⟩)
                    | (have ew : de a n (gI N 1 4) = gI N 1 4 := rn_f (pDg_f.mpr (fun k => by have i := in_of hT.ok (k := gI N 1 4) (by omega); omega))
                       rw [← g2.2.2.2.1]
                       have g9 : 0 ≤ p ∧ p ≤ n ∧ sk a n p = p := ⟨by omega, by omega, by rw [g2.2.2.2.1]; exact s8⟩
                       first
                       | exact ⟨rfl, rfl, g1, hT.sm g1 (pT_no (by decide)) (by omega), ⟨by omega, by omega, by omega⟩, g9⟩
                       | exact ⟨rfl, rfl, (g1.sI 2 _ rfl).sI 4 _ rfl, hT.sm ((g1.sI 2 _ rfl).sI 4 _ rfl) (pT_no (by decide)) (by rw [gI_sI_nj (by decide), gI_sI_nj (by decide)]; omega), ⟨by rw [gI_sI_nj (by decide), gI_sI_nj (by decide)]; omega, by rw [gI_sI_nj (by decide), gI_sI_eq]; omega, by rw [gI_sI_eq]; omega⟩, g9⟩
                       | exact ⟨rfl, rfl, g1.sI 2 _ rfl, hT.sm (g1.sI 2 _ rfl) (pT_no (by decide)) (by rw [gI_sI_nj (by decide)]; omega), ⟨by rw [gI_sI_nj (by decide)]; omega, by rw [gI_sI_eq]; omega, by rw [gI_sI_nj (by decide)]; omega⟩, g9⟩)))
          · first
            | (exfalso; omega)
            | (refine bw_aload rfl rfl ?_
               refine bw_getI rfl rfl ?_
               refine bw_aload rfl rfl ?_
               refine bw_getI rfl rfl ?_
               refine bw_icge rfl (fun c212 => ?_) (fun c212 => ?_)
               · skip
                 refine bw_aload rfl rfl ?_
                 refine bw_getI rfl rfl ?_
                 refine bw_aload rfl rfl ?_
                 refine bw_getI rfl rfl ?_
                 refine bw_icne rfl (fun c241 => ?_) (fun c241 => ?_)
                 · first
                   | (exfalso; omega)
                   | (refine bw_retv rfl rfl ?_
                      first
                      | (have ew : we a n (gI N 1 4) = gI N 1 4 := rn_f (pSm_f.mpr (fun k => by have i := in_of hT.ok (k := gI N 1 4) (by omega); omega))
                         rw [← g2.2.2.2]
                         exact ⟨rfl, rfl, g1, hT.sm g1 (pT_no (by decide)) (by omega), ⟨by omega, by omega, by omega⟩, by omega, by omega, by rw [g2.2.2.2]; exact s8⟩)
                      | (have ew : de a n (gI N 1 4) = gI N 1 4 := rn_f (pDg_f.mpr (fun k => by have i := in_of hT.ok (k := gI N 1 4) (by omega); omega))
                         rw [← g2.2.2.2.1]
                         have g9 : 0 ≤ p ∧ p ≤ n ∧ sk a n p = p := ⟨by omega, by omega, by rw [g2.2.2.2.1]; exact s8⟩
                         first
                         | exact ⟨rfl, rfl, g1, hT.sm g1 (pT_no (by decide)) (by omega), ⟨by omega, by omega, by omega⟩, g9⟩
                         | exact ⟨rfl, rfl, (g1.sI 2 _ rfl).sI 4 _ rfl, hT.sm ((g1.sI 2 _ rfl).sI 4 _ rfl) (pT_no (by decide)) (by rw [gI_sI_nj (by decide), gI_sI_nj (by decide)]; omega), ⟨by rw [gI_sI_nj (by decide), gI_sI_nj (by decide)]; omega, by rw [gI_sI_nj (by decide), gI_sI_eq]; omega, by rw [gI_sI_eq]; omega⟩, g9⟩
                         | exact ⟨rfl, rfl, g1.sI 2 _ rfl, hT.sm (g1.sI 2 _ rfl) (pT_no (by decide)) (by rw [gI_sI_nj (by decide)]; omega), ⟨by rw [gI_sI_nj (by decide)]; omega, by rw [gI_sI_eq]; omega, by rw [gI_sI_nj (by decide)]; omega⟩, g9⟩))
                 · first
                   | (exfalso; omega)
                   | (refine bw_aload rfl rfl ?_
                      refine bw_push rfl ?_
                      refine bw_putI rfl rfl ?_
                      refine bw_retv rfl rfl ?_
                      first
                      | (have ew : we a n (gI N 1 4) = gI N 1 4 := rn_f (pSm_f.mpr (fun k => by have i := in_of hT.ok (k := gI N 1 4) (by omega); omega))
                         rw [← g2.2.2.2]
                         exact ⟨rfl, rfl, g1, hT.sm g1 (pT_no (by decide)) (by omega), ⟨by omega, by omega, by omega⟩, by omega, by omega, by rw [g2.2.2.2]; exact s8⟩)
                      | (have ew : de a n (gI N 1 4) = gI N 1 4 := rn_f (pDg_f.mpr (fun k => by have i := in_of hT.ok (k := gI N 1 4) (by omega); omega))
                         rw [← g2.2.2.2.1]
                         have g9 : 0 ≤ p ∧ p ≤ n ∧ sk a n p = p := ⟨by omega, by omega, by rw [g2.2.2.2.1]; exact s8⟩
                         first
                         | exact ⟨rfl, rfl, g1, hT.sm g1 (pT_no (by decide)) (by omega), ⟨by omega, by omega, by omega⟩, g9⟩
                         | exact ⟨rfl, rfl, (g1.sI 2 _ rfl).sI 4 _ rfl, hT.sm ((g1.sI 2 _ rfl).sI 4 _ rfl) (pT_no (by decide)) (by rw [gI_sI_nj (by decide), gI_sI_nj (by decide)]; omega), ⟨by rw [gI_sI_nj (by decide), gI_sI_nj (by decide)]; omega, by rw [gI_sI_nj (by decide), gI_sI_eq]; omega, by rw [gI_sI_eq]; omega⟩, g9⟩
                         | exact ⟨rfl, rfl, g1.sI 2 _ rfl, hT.sm (g1.sI 2 _ rfl) (pT_no (by decide)) (by rw [gI_sI_nj (by decide)]; omega), ⟨by rw [gI_sI_nj (by decide)]; omega, by rw [gI_sI_eq]; omega, by rw [gI_sI_nj (by decide)]; omega⟩, g9⟩))
               · skip
                 refine bw_aload rfl rfl ?_
                 refine bw_push rfl ?_
                 refine bw_putI rfl rfl ?_
                 refine bw_aload rfl rfl ?_
                 first | refine bw_dup rfl ?_ | refine bw_dupi rfl ?_
                 refine bw_getI rfl rfl ?_
                 rw [gI_sI_nj (show (4 : Int) ≠ 2 by decide)]
                 refine bw_push rfl ?_
                 refine bw_iadd rfl ⟨by omega, by omega⟩ ?_
                 refine bw_putI rfl rfl ?_
                 refine bw_goto rfl ?_
                 refine bw_retv rfl rfl ?_
                 first
                 | (have ew : we a n (gI N 1 4) = gI N 1 4 := rn_f (pSm_f.mpr (fun k => by have i := in_of hT.ok (k := gI N 1 4) (by omega); omega))
                    rw [← g2.2.2.2]
                    exact ⟨rfl, rfl, g1, hT.sm g1 (pT_no (by decide)) (by omega), ⟨by omega, by omega, by omega⟩, by omega, by omega, by rw [g2.2.2.2]; exact s8⟩)
                 | (have ew : de a n (gI N 1 4) = gI N 1 4 := rn_f (pDg_f.mpr (fun k => by have i := in_of hT.ok (k := gI N 1 4) (by omega); omega))
                    rw [← g2.2.2.2.1]
                    have g9 : 0 ≤ p ∧ p ≤ n ∧ sk a n p = p := ⟨by omega, by omega, by rw [g2.2.2.2.1]; exact s8⟩
                    first
                    | exact ⟨rfl, rfl, g1, hT.sm g1 (pT_no (by decide)) (by omega), ⟨by omega, by omega, by omega⟩, g9⟩
                    | exact ⟨rfl, rfl, (g1.sI 2 _ rfl).sI 4 _ rfl, hT.sm ((g1.sI 2 _ rfl).sI 4 _ rfl) (pT_no (by decide)) (by rw [gI_sI_nj (by decide), gI_sI_nj (by decide)]; omega), ⟨by rw [gI_sI_nj (by decide), gI_sI_nj (by decide)]; omega, by rw [gI_sI_nj (by decide), gI_sI_eq]; omega, by rw [gI_sI_eq]; omega⟩, g9⟩
                    | exact ⟨rfl, rfl, g1.sI 2 _ rfl, hT.sm (g1.sI 2 _ rfl) (pT_no (by decide)) (by rw [gI_sI_nj (by decide)]; omega), ⟨by rw [gI_sI_nj (by decide)]; omega, by rw [gI_sI_eq]; omega, by rw [gI_sI_nj (by decide)]; omega⟩, g9⟩))
        · skip
          refine bw_aload rfl rfl ?_
          refine bw_getr rfl rfl (hR _ _) ?_
          refine bw_aload rfl rfl ?_
          refine bw_getI rfl rfl ?_
          refine bw_aldb rfl (by first | rfl | assumption) (by decide) (by omega) (by omega) ?_
          rw [show gI N 2 = gI M 2 from g1.at 2 (pT_no (by decide)), hT.by _ (by omega) (by omega)]
          have sx := sg_c (a (gI N 1 4))
          have sy := hT.ok.2.2 (gI N 1 4) (by omega) (by omega)
          refine bw_push rfl ?_
          refine bw_icgt rfl (fun c177 => ?_) (fun c177 => ?_)
          · skip
            refine bw_aload rfl rfl ?_
            refine bw_getI rfl rfl ?_
            refine bw_aload rfl rfl ?_
            refine bw_getI rfl rfl ?_
            refine bw_icne rfl (fun c201 => ?_) (fun c201 => ?_)
            · first
              | (exfalso; omega)
              | (refine bw_aload rfl rfl ?_
                 refine bw_getI rfl rfl ?_
                 refine bw_aload rfl rfl ?_
                 refine bw_getI rfl rfl ?_
                 refine bw_icne rfl (fun c241 => ?_) (fun c241 => ?_)
                 · first
                   | (exfalso; omega)
                   | (refine bw_retv rfl rfl ?_
                      first
                      | (have ew : we a n (gI N 1 4) = gI N 1 4 := rn_f (pSm_f.mpr (fun k => by have i := in_of hT.ok (k := gI N 1 4) (by omega); omega))
                         rw [← g2.2.2.2]
                         exact ⟨rfl, rfl, g1, hT.sm g1 (pT_no (by decide)) (by omega), ⟨by omega, by omega, by omega⟩, by omega, by omega, by rw [g2.2.2.2]; exact s8⟩)
                      | (have ew : de a n (gI N 1 4) = gI N 1 4 := rn_f (pDg_f.mpr (fun k => by have i := in_of hT.ok (k := gI N 1 4) (by omega); omega))
                         rw [← g2.2.2.2.1]
                         have g9 : 0 ≤ p ∧ p ≤ n ∧ sk a n p = p := ⟨by omega, by omega, by rw [g2.2.2.2.1]; exact s8⟩
                         first
                         | exact ⟨rfl, rfl, g1, hT.sm g1 (pT_no (by decide)) (by omega), ⟨by omega, by omega, by omega⟩, g9⟩
                         | exact ⟨rfl, rfl, (g1.sI 2 _ rfl).sI 4 _ rfl, hT.sm ((g1.sI 2 _ rfl).sI 4 _ rfl) (pT_no (by decide)) (by rw [gI_sI_nj (by decide), gI_sI_nj (by decide)]; omega), ⟨by rw [gI_sI_nj (by decide), gI_sI_nj (by decide)]; omega, by rw [gI_sI_nj (by decide), gI_sI_eq]; omega, by rw [gI_sI_eq]; omega⟩, g9⟩
                         | exact ⟨rfl, rfl, g1.sI 2 _ rfl, hT.sm (g1.sI 2 _ rfl) (pT_no (by decide)) (by rw [gI_sI_nj (by decide)]; omega), ⟨by rw [gI_sI_nj (by decide)]; omega, by rw [gI_sI_eq]; omega, by rw [gI_sI_nj (by decide)]; omega⟩, g9⟩))
                 · first
                   | (exfalso; omega)
                   | (refine bw_aload rfl rfl ?_
                      refine bw_push rfl ?_
                      refine bw_putI rfl rfl ?_
                      refine bw_retv rfl rfl ?_
                      first
                      | (have ew : we a n (gI N 1 4) = gI N 1 4 := rn_f (pSm_f.mpr (fun k => by have i := in_of hT.ok (k := gI N 1 4) (by omega); omega))
                         rw [← g2.2.2.2]
                         exact ⟨rfl, rfl, g1, hT.sm g1 (pT_no (by decide)) (by omega), ⟨by omega, by omega, by omega⟩, by omega, by omega, by rw [g2.2.2.2]; exact s8⟩)
                      | (have ew : de a n (gI N 1 4) = gI N 1 4 := rn_f (pDg_f.mpr (fun k => by have i := in_of hT.ok (k := gI N 1 4) (by omega); omega))
                         rw [← g2.2.2.2.1]
                         have g9 : 0 ≤ p ∧ p ≤ n ∧ sk a n p = p := ⟨by omega, by omega, by rw [g2.2.2.2.1]; exact s8⟩
                         first
                         | exact ⟨rfl, rfl, g1, hT.sm g1 (pT_no (by decide)) (by omega), ⟨by omega, by omega, by omega⟩, g9⟩
                         | exact ⟨rfl, rfl, (g1.sI 2 _ rfl).sI 4 _ rfl, hT.sm ((g1.sI 2 _ rfl).sI 4 _ rfl) (pT_no (by decide)) (by rw [gI_sI_nj (by decide), gI_sI_nj (by decide)]; omega), ⟨by rw [gI_sI_nj (by decide), gI_sI_nj (by decide)]; omega, by rw [gI_sI_nj (by decide), gI_sI_eq]; omega, by rw [gI_sI_eq]; omega⟩, g9⟩
                         | exact ⟨rfl, rfl, g1.sI 2 _ rfl, hT.sm (g1.sI 2 _ rfl) (pT_no (by decide)) (by rw [gI_sI_nj (by decide)]; omega), ⟨by rw [gI_sI_nj (by decide)]; omega, by rw [gI_sI_eq]; omega, by rw [gI_sI_nj (by decide)]; omega⟩, g9⟩)))
            · first
              | (exfalso; omega)
              | (refine bw_aload rfl rfl ?_
                 refine bw_getI rfl rfl ?_
                 refine bw_aload rfl rfl ?_
                 refine bw_getI rfl rfl ?_
                 refine bw_icge rfl (fun c212 => ?_) (fun c212 => ?_)
                 · skip
                   refine bw_aload rfl rfl ?_
                   refine bw_getI rfl rfl ?_
                   refine bw_aload rfl rfl ?_
                   refine bw_getI rfl rfl ?_
                   refine bw_icne rfl (fun c241 => ?_) (fun c241 => ?_)
                   · first
                     | (exfalso; omega)
                     | (refine bw_retv rfl rfl ?_
                        first
                        | (have ew : we a n (gI N 1 4) = gI N 1 4 := rn_f (pSm_f.mpr (fun k => by have i := in_of hT.ok (k := gI N 1 4) (by omega); omega))
                           rw [← g2.2.2.2]
                           exact ⟨rfl, rfl, g1, hT.sm g1 (pT_no (by decide)) (by omega), ⟨by omega, by omega, by omega⟩, by omega, by omega, by rw [g2.2.2.2]; exact s8⟩)
                        | (have ew : de a n (gI N 1 4) = gI N 1 4 := rn_f (pDg_f.mpr (fun k => by have i := in_of hT.ok (k := gI N 1 4) (by omega); omega))
                           rw [← g2.2.2.2.1]
                           have g9 : 0 ≤ p ∧ p ≤ n ∧ sk a n p = p := ⟨by omega, by omega, by rw [g2.2.2.2.1]; exact s8⟩
                           first
                           | exact ⟨rfl, rfl, g1, hT.sm g1 (pT_no (by decide)) (by omega), ⟨by omega, by omega, by omega⟩, g9⟩
                           | exact ⟨rfl, rfl, (g1.sI 2 _ rfl).sI 4 _ rfl, hT.sm ((g1.sI 2 _ rfl).sI 4 _ rfl) (pT_no (by decide)) (by rw [gI_sI_nj (by decide), gI_sI_nj (by decide)]; omega), ⟨by rw [gI_sI_nj (by decide), gI_sI_nj (by decide)]; omega, by rw [gI_sI_nj (by decide), gI_sI_eq]; omega, by rw [gI_sI_eq]; omega⟩, g9⟩
                           | exact ⟨rfl, rfl, g1.sI 2 _ rfl, hT.sm (g1.sI 2 _ rfl) (pT_no (by decide)) (by rw [gI_sI_nj (by decide)]; omega), ⟨by rw [gI_sI_nj (by decide)]; omega, by rw [gI_sI_eq]; omega, by rw [gI_sI_nj (by decide)]; omega⟩, g9⟩))
                   · first
                     | (exfalso; omega)
                     | (refine bw_aload rfl rfl ?_
                        refine bw_push rfl ?_
                        refine bw_putI rfl rfl ?_
                        refine bw_retv rfl rfl ?_
                        first
                        | (have ew : we a n (gI N 1 4) = gI N 1 4 := rn_f (pSm_f.mpr (fun k => by have i := in_of hT.ok (k := gI N 1 4) (by omega); omega))
                           rw [← g2.2.2.2]
                           exact ⟨rfl, rfl, g1, hT.sm g1 (pT_no (by decide)) (by omega), ⟨by omega, by omega, by omega⟩, by omega, by omega, by rw [g2.2.2.2]; exact s8⟩)
                        | (have ew : de a n (gI N 1 4) = gI N 1 4 := rn_f (pDg_f.mpr (fun k => by have i := in_of hT.ok (k := gI N 1 4) (by omega); omega))
                           rw [← g2.2.2.2.1]
                           have g9 : 0 ≤ p ∧ p ≤ n ∧ sk a n p = p := ⟨by omega, by omega, by rw [g2.2.2.2.1]; exact s8⟩
                           first
                           | exact ⟨rfl, rfl, g1, hT.sm g1 (pT_no (by decide)) (by omega), ⟨by omega, by omega, by omega⟩, g9⟩
                           | exact ⟨rfl, rfl, (g1.sI 2 _ rfl).sI 4 _ rfl, hT.sm ((g1.sI 2 _ rfl).sI 4 _ rfl) (pT_no (by decide)) (by rw [gI_sI_nj (by decide), gI_sI_nj (by decide)]; omega), ⟨by rw [gI_sI_nj (by decide), gI_sI_nj (by decide)]; omega, by rw [gI_sI_nj (by decide), gI_sI_eq]; omega, by rw [gI_sI_eq]; omega⟩, g9⟩
                           | exact ⟨rfl, rfl, g1.sI 2 _ rfl, hT.sm (g1.sI 2 _ rfl) (pT_no (by decide)) (by rw [gI_sI_nj (by decide)]; omega), ⟨by rw [gI_sI_nj (by decide)]; omega, by rw [gI_sI_eq]; omega, by rw [gI_sI_nj (by decide)]; omega⟩, g9⟩))
                 · skip
                   refine bw_aload rfl rfl ?_
                   refine bw_push rfl ?_
                   refine bw_putI rfl rfl ?_
                   refine bw_aload rfl rfl ?_
                   first | refine bw_dup rfl ?_ | refine bw_dupi rfl ?_
                   refine bw_getI rfl rfl ?_
                   rw [gI_sI_nj (show (4 : Int) ≠ 2 by decide)]
                   refine bw_push rfl ?_
                   refine bw_iadd rfl ⟨by omega, by omega⟩ ?_
                   refine bw_putI rfl rfl ?_
                   refine bw_goto rfl ?_
                   refine bw_retv rfl rfl ?_
                   first
                   | (have ew : we a n (gI N 1 4) = gI N 1 4 := rn_f (pSm_f.mpr (fun k => by have i := in_of hT.ok (k := gI N 1 4) (by omega); omega))
                      rw [← g2.2.2.2]
                      exact ⟨rfl, rfl, g1, hT.sm g1 (pT_no (by decide)) (by omega), ⟨by omega, by omega, by omega⟩, by omega, by omega, by rw [g2.2.2.2]; exact s8⟩)
                   | (have ew : de a n (gI N 1 4) = gI N 1 4 := rn_f (pDg_f.mpr (fun k => by have i := in_of hT.ok (k := gI N 1 4) (by omega); omega))
                      rw [← g2.2.2.2.1]
                      have g9 : 0 ≤ p ∧ p ≤ n ∧ sk a n p = p := ⟨by omega, by omega, by rw [g2.2.2.2.1]; exact s8⟩
                      first
                      | exact ⟨rfl, rfl, g1, hT.sm g1 (pT_no (by decide)) (by omega), ⟨by omega, by omega, by omega⟩, g9⟩
                      | exact ⟨rfl, rfl, (g1.sI 2 _ rfl).sI 4 _ rfl, hT.sm ((g1.sI 2 _ rfl).sI 4 _ rfl) (pT_no (by decide)) (by rw [gI_sI_nj (by decide), gI_sI_nj (by decide)]; omega), ⟨by rw [gI_sI_nj (by decide), gI_sI_nj (by decide)]; omega, by rw [gI_sI_nj (by decide), gI_sI_eq]; omega, by rw [gI_sI_eq]; omega⟩, g9⟩
                      | exact ⟨rfl, rfl, g1.sI 2 _ rfl, hT.sm (g1.sI 2 _ rfl) (pT_no (by decide)) (by rw [gI_sI_nj (by decide)]; omega), ⟨by rw [gI_sI_nj (by decide)]; omega, by rw [gI_sI_eq]; omega, by rw [gI_sI_nj (by decide)]; omega⟩, g9⟩))
          · skip
            refine bw_aload rfl rfl ?_
            first | refine bw_dup rfl ?_ | refine bw_dupi rfl ?_
            refine bw_getI rfl rfl ?_
            refine bw_push rfl ?_
            refine bw_iadd rfl ⟨by omega, by omega⟩ ?_
            refine bw_putI rfl rfl ?_
            refine bw_goto rfl ?_
            have hb : pDg (a (gI N 1 4)) = true := pDg_t.mpr (by omega)
            exact ih _ p (g1.sI 4 _ rfl) ⟨by rw [gI_sI_nj (by decide)]; exact g2.1, by rw [gI_sI_nj (by decide)]; exact g2.2.1, by rw [gI_sI_nj (by decide)]; exact g2.2.2.1, g2.2.2.2⟩ (by rw [gI_sI_eq, ← g3]; exact (rn_t hT.ok (by decide) hb).symm) (by rw [gI_sI_eq]; omega) (by rw [gI_sI_eq]; omega)
  have L73 : ∀ (kf : Nat) (N : abMem) (p : Int), (sm pT M N) → (gI N 1 1 = n ∧ gI N 1 2 = 1 ∧ gI N 1 3 = p ∧ p = sk a n s) → (we a n (gI N 1 4) = we a n p) → (p ≤ gI N 1 4 ∧ gI N 1 4 ≤ n) → ((n - gI N 1 4).toNat) < kf → abW d (0, 0) 75 73 [some (vr (some 1))] [] (0, 0) (A0 L) (N) (qV (A0 L) (fun N => sm pT M N ∧ TP N a n ∧ TA N a n (sk a n s))) := by
    intro kf
    induction kf with
    | zero => intro N  p  g1 g2 g3 g4 hm9; exact absurd hm9 (Nat.not_lt_zero _)
    | succ kf ih73 =>
      intro N  p  g1 g2 g3 g4 hm73
      have ih := ih73
      have hR := g1.RF hRM
      have tc := tk_c hT.ok (p := p) (by omega)
      refine bw_aload rfl rfl ?_
      refine bw_getI rfl rfl ?_
      refine bw_aload rfl rfl ?_
      refine bw_getI rfl rfl ?_
      refine bw_icge rfl (fun c81 => ?_) (fun c81 => ?_)
      · skip
        refine bw_aload rfl rfl ?_
        refine bw_getI rfl rfl ?_
        refine bw_aload rfl rfl ?_
        refine bw_getI rfl rfl ?_
        refine bw_icne rfl (fun c133 => ?_) (fun c133 => ?_)
        · skip
          refine bw_aload rfl rfl ?_
          refine bw_getI rfl rfl ?_
          refine bw_aload rfl rfl ?_
          refine bw_getI rfl rfl ?_
          refine bw_icne rfl (fun c201 => ?_) (fun c201 => ?_)
          · first
            | (exfalso; omega)
            | (refine bw_aload rfl rfl ?_
               refine bw_getI rfl rfl ?_
               refine bw_aload rfl rfl ?_
               refine bw_getI rfl rfl ?_
               refine bw_icne rfl (fun c241 => ?_) (fun c241 => ?_)
               · first
                 | (exfalso; omega)
                 | (refine bw_retv rfl rfl ?_
                    first
                    | (have ew : we a n (gI N 1 4) = gI N 1 4 := rn_f (pSm_f.mpr (fun k => by have i := in_of hT.ok (k := gI N 1 4) (by omega); omega))
                       rw [← g2.2.2.2]
                       exact ⟨rfl, rfl, g1, hT.sm g1 (pT_no (by decide)) (by omega), ⟨by omega, by omega, by omega⟩, by omega, by omega, by rw [g2.2.2.2]; exact s8⟩)
                    | (have ew : de a n (gI N 1 4) = gI N 1 4 := rn_f (pDg_f.mpr (fun k => by have i := in_of hT.ok (k := gI N 1 4) (by omega); omega))
                       rw [← g2.2.2.2.1]
                       have g9 : 0 ≤ p ∧ p ≤ n ∧ sk a n p = p := ⟨by omega, by omega, by rw [g2.2.2.2.1]; exact s8⟩
                       first
                       | exact ⟨rfl, rfl, g1, hT.sm g1 (pT_no (by decide)) (by omega), ⟨by omega, by omega, by omega⟩, g9⟩
                       | exact ⟨rfl, rfl, (g1.sI 2 _ rfl).sI 4 _ rfl, hT.sm ((g1.sI 2 _ rfl).sI 4 _ rfl) (pT_no (by decide)) (by rw [gI_sI_nj (by decide), gI_sI_nj (by decide)]; omega), ⟨by rw [gI_sI_nj (by decide), gI_sI_nj (by decide)]; omega, by rw [gI_sI_nj (by decide), gI_sI_eq]; omega, by rw [gI_sI_eq]; omega⟩, g9⟩
                       | exact ⟨rfl, rfl, g1.sI 2 _ rfl, hT.sm (g1.sI 2 _ rfl) (pT_no (by decide)) (by rw [gI_sI_nj (by decide)]; omega), ⟨by rw [gI_sI_nj (by decide)]; omega, by rw [gI_sI_eq]; omega, by rw [gI_sI_nj (by decide)]; omega⟩, g9⟩))
               · first
                 | (exfalso; omega)
                 | (refine bw_aload rfl rfl ?_
                    refine bw_push rfl ?_
                    refine bw_putI rfl rfl ?_
                    refine bw_retv rfl rfl ?_
                    first
                    | (have ew : we a n (gI N 1 4) = gI N 1 4 := rn_f (pSm_f.mpr (fun k => by have i := in_of hT.ok (k := gI N 1 4) (by omega); omega))
                       rw [← g2.2.2.2]
                       exact ⟨rfl, rfl, g1, hT.sm g1 (pT_no (by decide)) (by omega), ⟨by omega, by omega, by omega⟩, by omega, by omega, by rw [g2.2.2.2]; exact s8⟩)
                    | (have ew : de a n (gI N 1 4) = gI N 1 4 := rn_f (pDg_f.mpr (fun k => by have i := in_of hT.ok (k := gI N 1 4) (by omega); omega))
                       rw [← g2.2.2.2.1]
                       have g9 : 0 ≤ p ∧ p ≤ n ∧ sk a n p = p := ⟨by omega, by omega, by rw [g2.2.2.2.1]; exact s8⟩
                       first
                       | exact ⟨rfl, rfl, g1, hT.sm g1 (pT_no (by decide)) (by omega), ⟨by omega, by omega, by omega⟩, g9⟩
                       | exact ⟨rfl, rfl, (g1.sI 2 _ rfl).sI 4 _ rfl, hT.sm ((g1.sI 2 _ rfl).sI 4 _ rfl) (pT_no (by decide)) (by rw [gI_sI_nj (by decide), gI_sI_nj (by decide)]; omega), ⟨by rw [gI_sI_nj (by decide), gI_sI_nj (by decide)]; omega, by rw [gI_sI_nj (by decide), gI_sI_eq]; omega, by rw [gI_sI_eq]; omega⟩, g9⟩
                       | exact ⟨rfl, rfl, g1.sI 2 _ rfl, hT.sm (g1.sI 2 _ rfl) (pT_no (by decide)) (by rw [gI_sI_nj (by decide)]; omega), ⟨by rw [gI_sI_nj (by decide)]; omega, by rw [gI_sI_eq]; omega, by rw [gI_sI_nj (by decide)]; omega⟩, g9⟩)))
          · first
            | (exfalso; omega)
            | (refine bw_aload rfl rfl ?_
               refine bw_getI rfl rfl ?_
               refine bw_aload rfl rfl ?_
               refine bw_getI rfl rfl ?_
               refine bw_icge rfl (fun c212 => ?_) (fun c212 => ?_)
               · skip
                 refine bw_aload rfl rfl ?_
                 refine bw_getI rfl rfl ?_
                 refine bw_aload rfl rfl ?_
                 refine bw_getI rfl rfl ?_
                 refine bw_icne rfl (fun c241 => ?_) (fun c241 => ?_)
                 · first
                   | (exfalso; omega)
                   | (refine bw_retv rfl rfl ?_
                      first
                      | (have ew : we a n (gI N 1 4) = gI N 1 4 := rn_f (pSm_f.mpr (fun k => by have i := in_of hT.ok (k := gI N 1 4) (by omega); omega))
                         rw [← g2.2.2.2]
                         exact ⟨rfl, rfl, g1, hT.sm g1 (pT_no (by decide)) (by omega), ⟨by omega, by omega, by omega⟩, by omega, by omega, by rw [g2.2.2.2]; exact s8⟩)
                      | (have ew : de a n (gI N 1 4) = gI N 1 4 := rn_f (pDg_f.mpr (fun k => by have i := in_of hT.ok (k := gI N 1 4) (by omega); omega))
                         rw [← g2.2.2.2.1]
                         have g9 : 0 ≤ p ∧ p ≤ n ∧ sk a n p = p := ⟨by omega, by omega, by rw [g2.2.2.2.1]; exact s8⟩
                         first
                         | exact ⟨rfl, rfl, g1, hT.sm g1 (pT_no (by decide)) (by omega), ⟨by omega, by omega, by omega⟩, g9⟩
                         | exact ⟨rfl, rfl, (g1.sI 2 _ rfl).sI 4 _ rfl, hT.sm ((g1.sI 2 _ rfl).sI 4 _ rfl) (pT_no (by decide)) (by rw [gI_sI_nj (by decide), gI_sI_nj (by decide)]; omega), ⟨by rw [gI_sI_nj (by decide), gI_sI_nj (by decide)]; omega, by rw [gI_sI_nj (by decide), gI_sI_eq]; omega, by rw [gI_sI_eq]; omega⟩, g9⟩
                         | exact ⟨rfl, rfl, g1.sI 2 _ rfl, hT.sm (g1.sI 2 _ rfl) (pT_no (by decide)) (by rw [gI_sI_nj (by decide)]; omega), ⟨by rw [gI_sI_nj (by decide)]; omega, by rw [gI_sI_eq]; omega, by rw [gI_sI_nj (by decide)]; omega⟩, g9⟩))
                 · first
                   | (exfalso; omega)
                   | (refine bw_aload rfl rfl ?_
                      refine bw_push rfl ?_
                      refine bw_putI rfl rfl ?_
                      refine bw_retv rfl rfl ?_
                      first
                      | (have ew : we a n (gI N 1 4) = gI N 1 4 := rn_f (pSm_f.mpr (fun k => by have i := in_of hT.ok (k := gI N 1 4) (by omega); omega))
                         rw [← g2.2.2.2]
                         exact ⟨rfl, rfl, g1, hT.sm g1 (pT_no (by decide)) (by omega), ⟨by omega, by omega, by omega⟩, by omega, by omega, by rw [g2.2.2.2]; exact s8⟩)
                      | (have ew : de a n (gI N 1 4) = gI N 1 4 := rn_f (pDg_f.mpr (fun k => by have i := in_of hT.ok (k := gI N 1 4) (by omega); omega))
                         rw [← g2.2.2.2.1]
                         have g9 : 0 ≤ p ∧ p ≤ n ∧ sk a n p = p := ⟨by omega, by omega, by rw [g2.2.2.2.1]; exact s8⟩
                         first
                         | exact ⟨rfl, rfl, g1, hT.sm g1 (pT_no (by decide)) (by omega), ⟨by omega, by omega, by omega⟩, g9⟩
                         | exact ⟨rfl, rfl, (g1.sI 2 _ rfl).sI 4 _ rfl, hT.sm ((g1.sI 2 _ rfl).sI 4 _ rfl) (pT_no (by decide)) (by rw [gI_sI_nj (by decide), gI_sI_nj (by decide)]; omega), ⟨by rw [gI_sI_nj (by decide), gI_sI_nj (by decide)]; omega, by rw [gI_sI_nj (by decide), gI_sI_eq]; omega, by rw [gI_sI_eq]; omega⟩, g9⟩
                         | exact ⟨rfl, rfl, g1.sI 2 _ rfl, hT.sm (g1.sI 2 _ rfl) (pT_no (by decide)) (by rw [gI_sI_nj (by decide)]; omega), ⟨by rw [gI_sI_nj (by decide)]; omega, by rw [gI_sI_eq]; omega, by rw [gI_sI_nj (by decide)]; omega⟩, g9⟩))
               · skip
                 refine bw_aload rfl rfl ?_
                 refine bw_push rfl ?_
                 refine bw_putI rfl rfl ?_
                 refine bw_aload rfl rfl ?_
                 first | refine bw_dup rfl ?_ | refine bw_dupi rfl ?_
                 refine bw_getI rfl rfl ?_
                 rw [gI_sI_nj (show (4 : Int) ≠ 2 by decide)]
                 refine bw_push rfl ?_
                 refine bw_iadd rfl ⟨by omega, by omega⟩ ?_
                 refine bw_putI rfl rfl ?_
                 refine bw_goto rfl ?_
                 refine bw_retv rfl rfl ?_
                 first
                 | (have ew : we a n (gI N 1 4) = gI N 1 4 := rn_f (pSm_f.mpr (fun k => by have i := in_of hT.ok (k := gI N 1 4) (by omega); omega))
                    rw [← g2.2.2.2]
                    exact ⟨rfl, rfl, g1, hT.sm g1 (pT_no (by decide)) (by omega), ⟨by omega, by omega, by omega⟩, by omega, by omega, by rw [g2.2.2.2]; exact s8⟩)
                 | (have ew : de a n (gI N 1 4) = gI N 1 4 := rn_f (pDg_f.mpr (fun k => by have i := in_of hT.ok (k := gI N 1 4) (by omega); omega))
                    rw [← g2.2.2.2.1]
                    have g9 : 0 ≤ p ∧ p ≤ n ∧ sk a n p = p := ⟨by omega, by omega, by rw [g2.2.2.2.1]; exact s8⟩
                    first
                    | exact ⟨rfl, rfl, g1, hT.sm g1 (pT_no (by decide)) (by omega), ⟨by omega, by omega, by omega⟩, g9⟩
                    | exact ⟨rfl, rfl, (g1.sI 2 _ rfl).sI 4 _ rfl, hT.sm ((g1.sI 2 _ rfl).sI 4 _ rfl) (pT_no (by decide)) (by rw [gI_sI_nj (by decide), gI_sI_nj (by decide)]; omega), ⟨by rw [gI_sI_nj (by decide), gI_sI_nj (by decide)]; omega, by rw [gI_sI_nj (by decide), gI_sI_eq]; omega, by rw [gI_sI_eq]; omega⟩, g9⟩
                    | exact ⟨rfl, rfl, g1.sI 2 _ rfl, hT.sm (g1.sI 2 _ rfl) (pT_no (by decide)) (by rw [gI_sI_nj (by decide)]; omega), ⟨by rw [gI_sI_nj (by decide)]; omega, by rw [gI_sI_eq]; omega, by rw [gI_sI_nj (by decide)]; omega⟩, g9⟩))
        · skip
          refine bw_aload rfl rfl ?_
          refine bw_push rfl ?_
          refine bw_putI rfl rfl ?_
          have ew : we a n (gI N 1 4) = gI N 1 4 := rn_f (pSm_f.mpr (fun k => by have i := in_of hT.ok (k := gI N 1 4) (by omega); omega))
          refine L141 ((n - gI N 1 4).toNat + 1) _ p (g1.sI 2 _ rfl) ⟨by rw [gI_sI_nj (by decide)]; exact g2.1, by rw [gI_sI_eq], by rw [gI_sI_nj (by decide)]; exact g2.2.2.1, g2.2.2.2, by omega⟩ (by rw [gI_sI_nj (by decide), show gI N 1 4 = p by omega]) (by rw [gI_sI_nj (by decide)]; omega) (by rw [gI_sI_nj (by decide)]; omega)
      · skip
        refine bw_aload rfl rfl ?_
        refine bw_getr rfl rfl (hR _ _) ?_
        refine bw_aload rfl rfl ?_
        refine bw_getI rfl rfl ?_
        refine bw_aldb rfl (by first | rfl | assumption) (by decide) (by omega) (by omega) ?_
        rw [show gI N 2 = gI M 2 from g1.at 2 (pT_no (by decide)), hT.by _ (by omega) (by omega)]
        have sx := sg_c (a (gI N 1 4))
        have sy := hT.ok.2.2 (gI N 1 4) (by omega) (by omega)
        refine bw_push rfl ?_
        refine bw_iclt rfl (fun c95 => ?_) (fun c95 => ?_)
        · skip
          refine bw_aload rfl rfl ?_
          refine bw_getI rfl rfl ?_
          refine bw_aload rfl rfl ?_
          refine bw_getI rfl rfl ?_
          refine bw_icne rfl (fun c133 => ?_) (fun c133 => ?_)
          · skip
            refine bw_aload rfl rfl ?_
            refine bw_getI rfl rfl ?_
            refine bw_aload rfl rfl ?_
            refine bw_getI rfl rfl ?_
            refine bw_icne rfl (fun c201 => ?_) (fun c201 => ?_)
            · first
              | (exfalso; omega)
              | (refine bw_aload rfl rfl ?_
                 refine bw_getI rfl rfl ?_
                 refine bw_aload rfl rfl ?_
                 refine bw_getI rfl rfl ?_
                 refine bw_icne rfl (fun c241 => ?_) (fun c241 => ?_)
                 · first
                   | (exfalso; omega)
                   | (refine bw_retv rfl rfl ?_
                      first
                      | (have ew : we a n (gI N 1 4) = gI N 1 4 := rn_f (pSm_f.mpr (fun k => by have i := in_of hT.ok (k := gI N 1 4) (by omega); omega))
                         rw [← g2.2.2.2]
                         exact ⟨rfl, rfl, g1, hT.sm g1 (pT_no (by decide)) (by omega), ⟨by omega, by omega, by omega⟩, by omega, by omega, by rw [g2.2.2.2]; exact s8⟩)
                      | (have ew : de a n (gI N 1 4) = gI N 1 4 := rn_f (pDg_f.mpr (fun k => by have i := in_of hT.ok (k := gI N 1 4) (by omega); omega))
                         rw [← g2.2.2.2.1]
                         have g9 : 0 ≤ p ∧ p ≤ n ∧ sk a n p = p := ⟨by omega, by omega, by rw [g2.2.2.2.1]; exact s8⟩
                         first
                         | exact ⟨rfl, rfl, g1, hT.sm g1 (pT_no (by decide)) (by omega), ⟨by omega, by omega, by omega⟩, g9⟩
                         | exact ⟨rfl, rfl, (g1.sI 2 _ rfl).sI 4 _ rfl, hT.sm ((g1.sI 2 _ rfl).sI 4 _ rfl) (pT_no (by decide)) (by rw [gI_sI_nj (by decide), gI_sI_nj (by decide)]; omega), ⟨by rw [gI_sI_nj (by decide), gI_sI_nj (by decide)]; omega, by rw [gI_sI_nj (by decide), gI_sI_eq]; omega, by rw [gI_sI_eq]; omega⟩, g9⟩
                         | exact ⟨rfl, rfl, g1.sI 2 _ rfl, hT.sm (g1.sI 2 _ rfl) (pT_no (by decide)) (by rw [gI_sI_nj (by decide)]; omega), ⟨by rw [gI_sI_nj (by decide)]; omega, by rw [gI_sI_eq]; omega, by rw [gI_sI_nj (by decide)]; omega⟩, g9⟩))
                 · first
                   | (exfalso; omega)
                   | (refine bw_aload rfl rfl ?_
                      refine bw_push rfl ?_
                      refine bw_putI rfl rfl ?_
                      refine bw_retv rfl rfl ?_
                      first
                      | (have ew : we a n (gI N 1 4) = gI N 1 4 := rn_f (pSm_f.mpr (fun k => by have i := in_of hT.ok (k := gI N 1 4) (by omega); omega))
                         rw [← g2.2.2.2]
                         exact ⟨rfl, rfl, g1, hT.sm g1 (pT_no (by decide)) (by omega), ⟨by omega, by omega, by omega⟩, by omega, by omega, by rw [g2.2.2.2]; exact s8⟩)
                      | (have ew : de a n (gI N 1 4) = gI N 1 4 := rn_f (pDg_f.mpr (fun k => by have i := in_of hT.ok (k := gI N 1 4) (by omega); omega))
                         rw [← g2.2.2.2.1]
                         have g9 : 0 ≤ p ∧ p ≤ n ∧ sk a n p = p := ⟨by omega, by omega, by rw [g2.2.2.2.1]; exact s8⟩
                         first
                         | exact ⟨rfl, rfl, g1, hT.sm g1 (pT_no (by decide)) (by omega), ⟨by omega, by omega, by omega⟩, g9⟩
                         | exact ⟨rfl, rfl, (g1.sI 2 _ rfl).sI 4 _ rfl, hT.sm ((g1.sI 2 _ rfl).sI 4 _ rfl) (pT_no (by decide)) (by rw [gI_sI_nj (by decide), gI_sI_nj (by decide)]; omega), ⟨by rw [gI_sI_nj (by decide), gI_sI_nj (by decide)]; omega, by rw [gI_sI_nj (by decide), gI_sI_eq]; omega, by rw [gI_sI_eq]; omega⟩, g9⟩
                         | exact ⟨rfl, rfl, g1.sI 2 _ rfl, hT.sm (g1.sI 2 _ rfl) (pT_no (by decide)) (by rw [gI_sI_nj (by decide)]; omega), ⟨by rw [gI_sI_nj (by decide)]; omega, by rw [gI_sI_eq]; omega, by rw [gI_sI_nj (by decide)]; omega⟩, g9⟩)))
            · first
              | (exfalso; omega)
              | (refine bw_aload rfl rfl ?_
                 refine bw_getI rfl rfl ?_
                 refine bw_aload rfl rfl ?_
                 refine bw_getI rfl rfl ?_
                 refine bw_icge rfl (fun c212 => ?_) (fun c212 => ?_)
                 · skip
                   refine bw_aload rfl rfl ?_
                   refine bw_getI rfl rfl ?_
                   refine bw_aload rfl rfl ?_
                   refine bw_getI rfl rfl ?_
                   refine bw_icne rfl (fun c241 => ?_) (fun c241 => ?_)
                   · first
                     | (exfalso; omega)
                     | (refine bw_retv rfl rfl ?_
                        first
                        | (have ew : we a n (gI N 1 4) = gI N 1 4 := rn_f (pSm_f.mpr (fun k => by have i := in_of hT.ok (k := gI N 1 4) (by omega); omega))
                           rw [← g2.2.2.2]
                           exact ⟨rfl, rfl, g1, hT.sm g1 (pT_no (by decide)) (by omega), ⟨by omega, by omega, by omega⟩, by omega, by omega, by rw [g2.2.2.2]; exact s8⟩)
                        | (have ew : de a n (gI N 1 4) = gI N 1 4 := rn_f (pDg_f.mpr (fun k => by have i := in_of hT.ok (k := gI N 1 4) (by omega); omega))
                           rw [← g2.2.2.2.1]
                           have g9 : 0 ≤ p ∧ p ≤ n ∧ sk a n p = p := ⟨by omega, by omega, by rw [g2.2.2.2.1]; exact s8⟩
                           first
                           | exact ⟨rfl, rfl, g1, hT.sm g1 (pT_no (by decide)) (by omega), ⟨by omega, by omega, by omega⟩, g9⟩
                           | exact ⟨rfl, rfl, (g1.sI 2 _ rfl).sI 4 _ rfl, hT.sm ((g1.sI 2 _ rfl).sI 4 _ rfl) (pT_no (by decide)) (by rw [gI_sI_nj (by decide), gI_sI_nj (by decide)]; omega), ⟨by rw [gI_sI_nj (by decide), gI_sI_nj (by decide)]; omega, by rw [gI_sI_nj (by decide), gI_sI_eq]; omega, by rw [gI_sI_eq]; omega⟩, g9⟩
                           | exact ⟨rfl, rfl, g1.sI 2 _ rfl, hT.sm (g1.sI 2 _ rfl) (pT_no (by decide)) (by rw [gI_sI_nj (by decide)]; omega), ⟨by rw [gI_sI_nj (by decide)]; omega, by rw [gI_sI_eq]; omega, by rw [gI_sI_nj (by decide)]; omega⟩, g9⟩))
                   · first
                     | (exfalso; omega)
                     | (refine bw_aload rfl rfl ?_
                        refine bw_push rfl ?_
                        refine bw_putI rfl rfl ?_
                        refine bw_retv rfl rfl ?_
                        first
                        | (have ew : we a n (gI N 1 4) = gI N 1 4 := rn_f (pSm_f.mpr (fun k => by have i := in_of hT.ok (k := gI N 1 4) (by omega); omega))
                           rw [← g2.2.2.2]
                           exact ⟨rfl, rfl, g1, hT.sm g1 (pT_no (by decide)) (by omega), ⟨by omega, by omega, by omega⟩, by omega, by omega, by rw [g2.2.2.2]; exact s8⟩)
                        | (have ew : de a n (gI N 1 4) = gI N 1 4 := rn_f (pDg_f.mpr (fun k => by have i := in_of hT.ok (k := gI N 1 4) (by omega); omega))
                           rw [← g2.2.2.2.1]
                           have g9 : 0 ≤ p ∧ p ≤ n ∧ sk a n p = p := ⟨by omega, by omega, by rw [g2.2.2.2.1]; exact s8⟩
                           first
                           | exact ⟨rfl, rfl, g1, hT.sm g1 (pT_no (by decide)) (by omega), ⟨by omega, by omega, by omega⟩, g9⟩
                           | exact ⟨rfl, rfl, (g1.sI 2 _ rfl).sI 4 _ rfl, hT.sm ((g1.sI 2 _ rfl).sI 4 _ rfl) (pT_no (by decide)) (by rw [gI_sI_nj (by decide), gI_sI_nj (by decide)]; omega), ⟨by rw [gI_sI_nj (by decide), gI_sI_nj (by decide)]; omega, by rw [gI_sI_nj (by decide), gI_sI_eq]; omega, by rw [gI_sI_eq]; omega⟩, g9⟩
                           | exact ⟨rfl, rfl, g1.sI 2 _ rfl, hT.sm (g1.sI 2 _ rfl) (pT_no (by decide)) (by rw [gI_sI_nj (by decide)]; omega), ⟨by rw [gI_sI_nj (by decide)]; omega, by rw [gI_sI_eq]; omega, by rw [gI_sI_nj (by decide)]; omega⟩, g9⟩))
                 · skip
                   refine bw_aload rfl rfl ?_
                   refine bw_push rfl ?_
                   refine bw_putI rfl rfl ?_
                   refine bw_aload rfl rfl ?_
                   first | refine bw_dup rfl ?_ | refine bw_dupi rfl ?_
                   refine bw_getI rfl rfl ?_
                   rw [gI_sI_nj (show (4 : Int) ≠ 2 by decide)]
                   refine bw_push rfl ?_
                   refine bw_iadd rfl ⟨by omega, by omega⟩ ?_
                   refine bw_putI rfl rfl ?_
                   refine bw_goto rfl ?_
                   refine bw_retv rfl rfl ?_
                   first
                   | (have ew : we a n (gI N 1 4) = gI N 1 4 := rn_f (pSm_f.mpr (fun k => by have i := in_of hT.ok (k := gI N 1 4) (by omega); omega))
                      rw [← g2.2.2.2]
                      exact ⟨rfl, rfl, g1, hT.sm g1 (pT_no (by decide)) (by omega), ⟨by omega, by omega, by omega⟩, by omega, by omega, by rw [g2.2.2.2]; exact s8⟩)
                   | (have ew : de a n (gI N 1 4) = gI N 1 4 := rn_f (pDg_f.mpr (fun k => by have i := in_of hT.ok (k := gI N 1 4) (by omega); omega))
                      rw [← g2.2.2.2.1]
                      have g9 : 0 ≤ p ∧ p ≤ n ∧ sk a n p = p := ⟨by omega, by omega, by rw [g2.2.2.2.1]; exact s8⟩
                      first
                      | exact ⟨rfl, rfl, g1, hT.sm g1 (pT_no (by decide)) (by omega), ⟨by omega, by omega, by omega⟩, g9⟩
                      | exact ⟨rfl, rfl, (g1.sI 2 _ rfl).sI 4 _ rfl, hT.sm ((g1.sI 2 _ rfl).sI 4 _ rfl) (pT_no (by decide)) (by rw [gI_sI_nj (by decide), gI_sI_nj (by decide)]; omega), ⟨by rw [gI_sI_nj (by decide), gI_sI_nj (by decide)]; omega, by rw [gI_sI_nj (by decide), gI_sI_eq]; omega, by rw [gI_sI_eq]; omega⟩, g9⟩
                      | exact ⟨rfl, rfl, g1.sI 2 _ rfl, hT.sm (g1.sI 2 _ rfl) (pT_no (by decide)) (by rw [gI_sI_nj (by decide)]; omega), ⟨by rw [gI_sI_nj (by decide)]; omega, by rw [gI_sI_eq]; omega, by rw [gI_sI_nj (by decide)]; omega⟩, g9⟩))
          · skip
            refine bw_aload rfl rfl ?_
            refine bw_push rfl ?_
            refine bw_putI rfl rfl ?_
            have ew : we a n (gI N 1 4) = gI N 1 4 := rn_f (pSm_f.mpr (fun k => by have i := in_of hT.ok (k := gI N 1 4) (by omega); omega))
            refine L141 ((n - gI N 1 4).toNat + 1) _ p (g1.sI 2 _ rfl) ⟨by rw [gI_sI_nj (by decide)]; exact g2.1, by rw [gI_sI_eq], by rw [gI_sI_nj (by decide)]; exact g2.2.2.1, g2.2.2.2, by omega⟩ (by rw [gI_sI_nj (by decide), show gI N 1 4 = p by omega]) (by rw [gI_sI_nj (by decide)]; omega) (by rw [gI_sI_nj (by decide)]; omega)
        · skip
          refine bw_aload rfl rfl ?_
          refine bw_getr rfl rfl (hR _ _) ?_
          refine bw_aload rfl rfl ?_
          refine bw_getI rfl rfl ?_
          refine bw_aldb rfl (by first | rfl | assumption) (by decide) (by omega) (by omega) ?_
          rw [show gI N 2 = gI M 2 from g1.at 2 (pT_no (by decide)), hT.by _ (by omega) (by omega)]
          have sx := sg_c (a (gI N 1 4))
          have sy := hT.ok.2.2 (gI N 1 4) (by omega) (by omega)
          refine bw_push rfl ?_
          refine bw_icgt rfl (fun c109 => ?_) (fun c109 => ?_)
          · skip
            refine bw_aload rfl rfl ?_
            refine bw_getI rfl rfl ?_
            refine bw_aload rfl rfl ?_
            refine bw_getI rfl rfl ?_
            refine bw_icne rfl (fun c133 => ?_) (fun c133 => ?_)
            · skip
              refine bw_aload rfl rfl ?_
              refine bw_getI rfl rfl ?_
              refine bw_aload rfl rfl ?_
              refine bw_getI rfl rfl ?_
              refine bw_icne rfl (fun c201 => ?_) (fun c201 => ?_)
              · first
                | (exfalso; omega)
                | (refine bw_aload rfl rfl ?_
                   refine bw_getI rfl rfl ?_
                   refine bw_aload rfl rfl ?_
                   refine bw_getI rfl rfl ?_
                   refine bw_icne rfl (fun c241 => ?_) (fun c241 => ?_)
                   · first
                     | (exfalso; omega)
                     | (refine bw_retv rfl rfl ?_
                        first
                        | (have ew : we a n (gI N 1 4) = gI N 1 4 := rn_f (pSm_f.mpr (fun k => by have i := in_of hT.ok (k := gI N 1 4) (by omega); omega))
                           rw [← g2.2.2.2]
                           exact ⟨rfl, rfl, g1, hT.sm g1 (pT_no (by decide)) (by omega), ⟨by omega, by omega, by omega⟩, by omega, by omega, by rw [g2.2.2.2]; exact s8⟩)
                        | (have ew : de a n (gI N 1 4) = gI N 1 4 := rn_f (pDg_f.mpr (fun k => by have i := in_of hT.ok (k := gI N 1 4) (by omega); omega))
                           rw [← g2.2.2.2.1]
                           have g9 : 0 ≤ p ∧ p ≤ n ∧ sk a n p = p := ⟨by omega, by omega, by rw [g2.2.2.2.1]; exact s8⟩
                           first
                           | exact ⟨rfl, rfl, g1, hT.sm g1 (pT_no (by decide)) (by omega), ⟨by omega, by omega, by omega⟩, g9⟩
                           | exact ⟨rfl, rfl, (g1.sI 2 _ rfl).sI 4 _ rfl, hT.sm ((g1.sI 2 _ rfl).sI 4 _ rfl) (pT_no (by decide)) (by rw [gI_sI_nj (by decide), gI_sI_nj (by decide)]; omega), ⟨by rw [gI_sI_nj (by decide), gI_sI_nj (by decide)]; omega, by rw [gI_sI_nj (by decide), gI_sI_eq]; omega, by rw [gI_sI_eq]; omega⟩, g9⟩
                           | exact ⟨rfl, rfl, g1.sI 2 _ rfl, hT.sm (g1.sI 2 _ rfl) (pT_no (by decide)) (by rw [gI_sI_nj (by decide)]; omega), ⟨by rw [gI_sI_nj (by decide)]; omega, by rw [gI_sI_eq]; omega, by rw [gI_sI_nj (by decide)]; omega⟩, g9⟩))
                   · first
                     | (exfalso; omega)
                     | (refine bw_aload rfl rfl ?_
                        refine bw_push rfl ?_
                        refine bw_putI rfl rfl ?_
                        refine bw_retv rfl rfl ?_
                        first
                        | (have ew : we a n (gI N 1 4) = gI N 1 4 := rn_f (pSm_f.mpr (fun k => by have i := in_of hT.ok (k := gI N 1 4) (by omega); omega))
                           rw [← g2.2.2.2]
                           exact ⟨rfl, rfl, g1, hT.sm g1 (pT_no (by decide)) (by omega), ⟨by omega, by omega, by omega⟩, by omega, by omega, by rw [g2.2.2.2]; exact s8⟩)
                        | (have ew : de a n (gI N 1 4) = gI N 1 4 := rn_f (pDg_f.mpr (fun k => by have i := in_of hT.ok (k := gI N 1 4) (by omega); omega))
                           rw [← g2.2.2.2.1]
                           have g9 : 0 ≤ p ∧ p ≤ n ∧ sk a n p = p := ⟨by omega, by omega, by rw [g2.2.2.2.1]; exact s8⟩
                           first
                           | exact ⟨rfl, rfl, g1, hT.sm g1 (pT_no (by decide)) (by omega), ⟨by omega, by omega, by omega⟩, g9⟩
                           | exact ⟨rfl, rfl, (g1.sI 2 _ rfl).sI 4 _ rfl, hT.sm ((g1.sI 2 _ rfl).sI 4 _ rfl) (pT_no (by decide)) (by rw [gI_sI_nj (by decide), gI_sI_nj (by decide)]; omega), ⟨by rw [gI_sI_nj (by decide), gI_sI_nj (by decide)]; omega, by rw [gI_sI_nj (by decide), gI_sI_eq]; omega, by rw [gI_sI_eq]; omega⟩, g9⟩
                           | exact ⟨rfl, rfl, g1.sI 2 _ rfl, hT.sm (g1.sI 2 _ rfl) (pT_no (by decide)) (by rw [gI_sI_nj (by decide)]; omega), ⟨by rw [gI_sI_nj (by decide)]; omega, by rw [gI_sI_eq]; omega, by rw [gI_sI_nj (by decide)]; omega⟩, g9⟩)))
              · first
                | (exfalso; omega)
                | (refine bw_aload rfl rfl ?_
                   refine bw_getI rfl rfl ?_
                   refine bw_aload rfl rfl ?_
                   refine bw_getI rfl rfl ?_
                   refine bw_icge rfl (fun c212 => ?_) (fun c212 => ?_)
                   · skip
                     refine bw_aload rfl rfl ?_
                     refine bw_getI rfl rfl ?_
                     refine bw_aload rfl rfl ?_
                     refine bw_getI rfl rfl ?_
                     refine bw_icne rfl (fun c241 => ?_) (fun c241 => ?_)
                     · first
                       | (exfalso; omega)
                       | (refine bw_retv rfl rfl ?_
                          first
                          | (have ew : we a n (gI N 1 4) = gI N 1 4 := rn_f (pSm_f.mpr (fun k => by have i := in_of hT.ok (k := gI N 1 4) (by omega); omega))
                             rw [← g2.2.2.2]
                             exact ⟨rfl, rfl, g1, hT.sm g1 (pT_no (by decide)) (by omega), ⟨by omega, by omega, by omega⟩, by omega, by omega, by rw [g2.2.2.2]; exact s8⟩)
                          | (have ew : de a n (gI N 1 4) = gI N 1 4 := rn_f (pDg_f.mpr (fun k => by have i := in_of hT.ok (k := gI N 1 4) (by omega); omega))
                             rw [← g2.2.2.2.1]
                             have g9 : 0 ≤ p ∧ p ≤ n ∧ sk a n p = p := ⟨by omega, by omega, by rw [g2.2.2.2.1]; exact s8⟩
                             first
                             | exact ⟨rfl, rfl, g1, hT.sm g1 (pT_no (by decide)) (by omega), ⟨by omega, by omega, by omega⟩, g9⟩
                             | exact ⟨rfl, rfl, (g1.sI 2 _ rfl).sI 4 _ rfl, hT.sm ((g1.sI 2 _ rfl).sI 4 _ rfl) (pT_no (by decide)) (by rw [gI_sI_nj (by decide), gI_sI_nj (by decide)]; omega), ⟨by rw [gI_sI_nj (by decide), gI_sI_nj (by decide)]; omega, by rw [gI_sI_nj (by decide), gI_sI_eq]; omega, by rw [gI_sI_eq]; omega⟩, g9⟩
                             | exact ⟨rfl, rfl, g1.sI 2 _ rfl, hT.sm (g1.sI 2 _ rfl) (pT_no (by decide)) (by rw [gI_sI_nj (by decide)]; omega), ⟨by rw [gI_sI_nj (by decide)]; omega, by rw [gI_sI_eq]; omega, by rw [gI_sI_nj (by decide)]; omega⟩, g9⟩))
                     · first
                       | (exfalso; omega)
                       | (refine bw_aload rfl rfl ?_
                          refine bw_push rfl ?_
                          refine bw_putI rfl rfl ?_
                          refine bw_retv rfl rfl ?_
                          first
                          | (have ew : we a n (gI N 1 4) = gI N 1 4 := rn_f (pSm_f.mpr (fun k => by have i := in_of hT.ok (k := gI N 1 4) (by omega); omega))
                             rw [← g2.2.2.2]
                             exact ⟨rfl, rfl, g1, hT.sm g1 (pT_no (by decide)) (by omega), ⟨by omega, by omega, by omega⟩, by omega, by omega, by rw [g2.2.2.2]; exact s8⟩)
                          | (have ew : de a n (gI N 1 4) = gI N 1 4 := rn_f (pDg_f.mpr (fun k => by have i := in_of hT.ok (k := gI N 1 4) (by omega); omega))
                             rw [← g2.2.2.2.1]
                             have g9 : 0 ≤ p ∧ p ≤ n ∧ sk a n p = p := ⟨by omega, by omega, by rw [g2.2.2.2.1]; exact s8⟩
                             first
                             | exact ⟨rfl, rfl, g1, hT.sm g1 (pT_no (by decide)) (by omega), ⟨by omega, by omega, by omega⟩, g9⟩
                             | exact ⟨rfl, rfl, (g1.sI 2 _ rfl).sI 4 _ rfl, hT.sm ((g1.sI 2 _ rfl).sI 4 _ rfl) (pT_no (by decide)) (by rw [gI_sI_nj (by decide), gI_sI_nj (by decide)]; omega), ⟨by rw [gI_sI_nj (by decide), gI_sI_nj (by decide)]; omega, by rw [gI_sI_nj (by decide), gI_sI_eq]; omega, by rw [gI_sI_eq]; omega⟩, g9⟩
                             | exact ⟨rfl, rfl, g1.sI 2 _ rfl, hT.sm (g1.sI 2 _ rfl) (pT_no (by decide)) (by rw [gI_sI_nj (by decide)]; omega), ⟨by rw [gI_sI_nj (by decide)]; omega, by rw [gI_sI_eq]; omega, by rw [gI_sI_nj (by decide)]; omega⟩, g9⟩))
                   · skip
                     refine bw_aload rfl rfl ?_
                     refine bw_push rfl ?_
                     refine bw_putI rfl rfl ?_
                     refine bw_aload rfl rfl ?_
                     first | refine bw_dup rfl ?_ | refine bw_dupi rfl ?_
                     refine bw_getI rfl rfl ?_
                     rw [gI_sI_nj (show (4 : Int) ≠ 2 by decide)]
                     refine bw_push rfl ?_
                     refine bw_iadd rfl ⟨by omega, by omega⟩ ?_
                     refine bw_putI rfl rfl ?_
                     refine bw_goto rfl ?_
                     refine bw_retv rfl rfl ?_
                     first
                     | (have ew : we a n (gI N 1 4) = gI N 1 4 := rn_f (pSm_f.mpr (fun k => by have i := in_of hT.ok (k := gI N 1 4) (by omega); omega))
                        rw [← g2.2.2.2]
                        exact ⟨rfl, rfl, g1, hT.sm g1 (pT_no (by decide)) (by omega), ⟨by omega, by omega, by omega⟩, by omega, by omega, by rw [g2.2.2.2]; exact s8⟩)
                     | (have ew : de a n (gI N 1 4) = gI N 1 4 := rn_f (pDg_f.mpr (fun k => by have i := in_of hT.ok (k := gI N 1 4) (by omega); omega))
                        rw [← g2.2.2.2.1]
                        have g9 : 0 ≤ p ∧ p ≤ n ∧ sk a n p = p := ⟨by omega, by omega, by rw [g2.2.2.2.1]; exact s8⟩
                        first
                        | exact ⟨rfl, rfl, g1, hT.sm g1 (pT_no (by decide)) (by omega), ⟨by omega, by omega, by omega⟩, g9⟩
                        | exact ⟨rfl, rfl, (g1.sI 2 _ rfl).sI 4 _ rfl, hT.sm ((g1.sI 2 _ rfl).sI 4 _ rfl) (pT_no (by decide)) (by rw [gI_sI_nj (by decide), gI_sI_nj (by decide)]; omega), ⟨by rw [gI_sI_nj (by decide), gI_sI_nj (by decide)]; omega, by rw [gI_sI_nj (by decide), gI_sI_eq]; omega, by rw [gI_sI_eq]; omega⟩, g9⟩
                        | exact ⟨rfl, rfl, g1.sI 2 _ rfl, hT.sm (g1.sI 2 _ rfl) (pT_no (by decide)) (by rw [gI_sI_nj (by decide)]; omega), ⟨by rw [gI_sI_nj (by decide)]; omega, by rw [gI_sI_eq]; omega, by rw [gI_sI_nj (by decide)]; omega⟩, g9⟩))
            · skip
              refine bw_aload rfl rfl ?_
              refine bw_push rfl ?_
              refine bw_putI rfl rfl ?_
              have ew : we a n (gI N 1 4) = gI N 1 4 := rn_f (pSm_f.mpr (fun k => by have i := in_of hT.ok (k := gI N 1 4) (by omega); omega))
              refine L141 ((n - gI N 1 4).toNat + 1) _ p (g1.sI 2 _ rfl) ⟨by rw [gI_sI_nj (by decide)]; exact g2.1, by rw [gI_sI_eq], by rw [gI_sI_nj (by decide)]; exact g2.2.2.1, g2.2.2.2, by omega⟩ (by rw [gI_sI_nj (by decide), show gI N 1 4 = p by omega]) (by rw [gI_sI_nj (by decide)]; omega) (by rw [gI_sI_nj (by decide)]; omega)
          · skip
            refine bw_aload rfl rfl ?_
            first | refine bw_dup rfl ?_ | refine bw_dupi rfl ?_
            refine bw_getI rfl rfl ?_
            refine bw_push rfl ?_
            refine bw_iadd rfl ⟨by omega, by omega⟩ ?_
            refine bw_putI rfl rfl ?_
            refine bw_goto rfl ?_
            have hb : pSm (a (gI N 1 4)) = true := pSm_t.mpr (by omega)
            exact ih _ p (g1.sI 4 _ rfl) ⟨by rw [gI_sI_nj (by decide)]; exact g2.1, by rw [gI_sI_nj (by decide)]; exact g2.2.1, by rw [gI_sI_nj (by decide)]; exact g2.2.2.1, g2.2.2.2⟩ (by rw [gI_sI_eq, ← g3]; exact (rn_t hT.ok (by decide) hb).symm) (by rw [gI_sI_eq]; omega) (by rw [gI_sI_eq]; omega)
  have L8 : ∀ (kf : Nat) (N : abMem), (sm pT M N) → (gI N 1 1 = n) → (sk a n (gI N 1 3) = sk a n s) → (s ≤ gI N 1 3 ∧ gI N 1 3 ≤ n) → ((n - gI N 1 3).toNat) < kf → abW d (0, 0) 75 8 [some (vr (some 1))] [] (0, 0) (A0 L) (N) (qV (A0 L) (fun N => sm pT M N ∧ TP N a n ∧ TA N a n (sk a n s))) := by
    intro kf
    induction kf with
    | zero => intro N  g1 g2 g3 g4 hm9; exact absurd hm9 (Nat.not_lt_zero _)
    | succ kf ih8 =>
      intro N  g1 g2 g3 g4 hm8
      have ih := ih8
      have hR := g1.RF hRM
      refine bw_aload rfl rfl ?_
      refine bw_getI rfl rfl ?_
      refine bw_aload rfl rfl ?_
      refine bw_getI rfl rfl ?_
      refine bw_icge rfl (fun c16 => ?_) (fun c16 => ?_)
      · skip
        refine bw_aload rfl rfl ?_
        refine bw_aload rfl rfl ?_
        refine bw_getI rfl rfl ?_
        refine bw_putI rfl rfl ?_
        refine bw_aload rfl rfl ?_
        refine bw_push rfl ?_
        refine bw_putI rfl rfl ?_
        have eb : sk a n (gI N 1 3) = gI N 1 3 := rn_f (pBl_f.mpr (fun k => by have i := in_of hT.ok (k := gI N 1 3) (by omega); omega))
        refine L73 ((n - gI N 1 3).toNat + 1) _ (gI N 1 3) ((g1.sI 4 _ rfl).sI 2 _ rfl) ⟨by rw [gI_sI_nj (by decide), gI_sI_nj (by decide)]; exact g2, by rw [gI_sI_eq], by rw [gI_sI_nj (by decide), gI_sI_nj (by decide)], by rw [← g3, eb]⟩ (by rw [gI_sI_nj (by decide), gI_sI_eq]) (by rw [gI_sI_nj (by decide), gI_sI_eq]; omega) (by rw [gI_sI_nj (by decide), gI_sI_eq]; omega)
      · skip
        refine bw_aload rfl rfl ?_
        refine bw_getr rfl rfl (hR _ _) ?_
        refine bw_aload rfl rfl ?_
        refine bw_getI rfl rfl ?_
        refine bw_aldb rfl (by first | rfl | assumption) (by decide) (by omega) (by omega) ?_
        rw [show gI N 2 = gI M 2 from g1.at 2 (pT_no (by decide)), hT.by _ (by omega) (by omega)]
        have sx := sg_c (a (gI N 1 3))
        have sy := hT.ok.2.2 (gI N 1 3) (by omega) (by omega)
        refine bw_push rfl ?_
        refine bw_iceq rfl (fun c30 => ?_) (fun c30 => ?_)
        · skip
          refine bw_aload rfl rfl ?_
          first | refine bw_dup rfl ?_ | refine bw_dupi rfl ?_
          refine bw_getI rfl rfl ?_
          refine bw_push rfl ?_
          refine bw_iadd rfl ⟨by omega, by omega⟩ ?_
          refine bw_putI rfl rfl ?_
          refine bw_goto rfl ?_
          have hb : pBl (a (gI N 1 3)) = true := pBl_t.mpr (by omega)
          exact ih _ (g1.sI 3 _ rfl) (by rw [gI_sI_nj (by decide)]; exact g2) (by rw [gI_sI_eq, ← g3]; exact (rn_t hT.ok (by decide) hb).symm) (by rw [gI_sI_eq]; omega) (by rw [gI_sI_eq]; omega)
        · skip
          refine bw_aload rfl rfl ?_
          refine bw_getr rfl rfl (hR _ _) ?_
          refine bw_aload rfl rfl ?_
          refine bw_getI rfl rfl ?_
          refine bw_aldb rfl (by first | rfl | assumption) (by decide) (by omega) (by omega) ?_
          rw [show gI N 2 = gI M 2 from g1.at 2 (pT_no (by decide)), hT.by _ (by omega) (by omega)]
          have sx := sg_c (a (gI N 1 3))
          have sy := hT.ok.2.2 (gI N 1 3) (by omega) (by omega)
          refine bw_push rfl ?_
          refine bw_icne rfl (fun c44 => ?_) (fun c44 => ?_)
          · skip
            refine bw_aload rfl rfl ?_
            refine bw_aload rfl rfl ?_
            refine bw_getI rfl rfl ?_
            refine bw_putI rfl rfl ?_
            refine bw_aload rfl rfl ?_
            refine bw_push rfl ?_
            refine bw_putI rfl rfl ?_
            have eb : sk a n (gI N 1 3) = gI N 1 3 := rn_f (pBl_f.mpr (fun k => by have i := in_of hT.ok (k := gI N 1 3) (by omega); omega))
            refine L73 ((n - gI N 1 3).toNat + 1) _ (gI N 1 3) ((g1.sI 4 _ rfl).sI 2 _ rfl) ⟨by rw [gI_sI_nj (by decide), gI_sI_nj (by decide)]; exact g2, by rw [gI_sI_eq], by rw [gI_sI_nj (by decide), gI_sI_nj (by decide)], by rw [← g3, eb]⟩ (by rw [gI_sI_nj (by decide), gI_sI_eq]) (by rw [gI_sI_nj (by decide), gI_sI_eq]; omega) (by rw [gI_sI_nj (by decide), gI_sI_eq]; omega)
          · skip
            refine bw_aload rfl rfl ?_
            first | refine bw_dup rfl ?_ | refine bw_dupi rfl ?_
            refine bw_getI rfl rfl ?_
            refine bw_push rfl ?_
            refine bw_iadd rfl ⟨by omega, by omega⟩ ?_
            refine bw_putI rfl rfl ?_
            refine bw_goto rfl ?_
            have hb : pBl (a (gI N 1 3)) = true := pBl_t.mpr (by omega)
            exact ih _ (g1.sI 3 _ rfl) (by rw [gI_sI_nj (by decide)]; exact g2) (by rw [gI_sI_eq, ← g3]; exact (rn_t hT.ok (by decide) hb).symm) (by rw [gI_sI_eq]; omega) (by rw [gI_sI_eq]; omega)
  show abW d (0, 0) 75 0 [some (vr (some 1))] [] (0, 0) (A0 L) M (qV (A0 L) (fun N => sm pT M N ∧ TP N a n ∧ TA N a n (sk a n s)))
  refine bw_aload rfl rfl ?_
  refine bw_aload rfl rfl ?_
  refine bw_getI rfl rfl ?_
  refine bw_putI rfl rfl ?_
  exact L8 ((n - s).toNat + 1) _ ((sm_refl _ _).sI 3 _ rfl) (by rw [gI_sI_nj (by decide)]; exact t1) (by rw [gI_sI_eq, hs.1]) (by rw [gI_sI_eq]; omega) (by rw [gI_sI_eq]; omega)
set_option maxRecDepth 20000 in
set_option maxHeartbeats 4000000 in
theorem c_start {d L : Nat} {M : abMem} {r : abRf} (hR : RF r M) {a : Int → Int} {n : Int} (hT : TP M a n) (hd : 1 ≤ d) : abW d (0, 0) 74 0 (abEnt (abL 74) [vr (some 1)]) [] (0, 0) (A0 L) M (qV (A0 L) (fun N => sm pT M N ∧ TP N a n ∧ TA N a n (sk a n 0))) := by
  have t1 := hT.le
  have t2 := hT.ok.1
  show abW d (0, 0) 74 0 [some (vr (some 1))] [] (0, 0) (A0 L) M (qV (A0 L) (fun N => sm pT M N ∧ TP N a n ∧ TA N a n (sk a n 0)))
  refine bw_aload rfl rfl ?_
  refine bw_push rfl ?_
  refine bw_putI rfl rfl ?_
  refine bw_aload rfl rfl ?_
  refine bw_callVv (e := d - 1) (as := []) rfl (by omega) rfl rfl (Nat.le_of_ble_eq_true rfl) (Nat.le_of_ble_eq_true rfl) rfl (c_advance (M := sI M 1 4 0) (s := 0) hR (hT.sm ((sm_refl pT _).sI 4 0 rfl) (show ¬ (2 : Nat) = 1 by decide) (by rw [gI_sI_nj (by decide)])) ⟨by rw [gI_sI_eq], by omega, by omega⟩) (fun M6 hM6 => ?_)
  refine bw_retv rfl rfl ?_
  exact ⟨rfl, rfl, ((sm_refl pT _).sI 4 0 rfl).trans hM6.1, hM6.2⟩
set_option maxRecDepth 20000 in
set_option maxHeartbeats 4000000 in
theorem c_isSign {d L : Nat} {M : abMem} {r : abRf} (hR : RF r M) {a : Int → Int} {n : Int} (hT : TP M a n) {p : Int} (hA : TA M a n p) {c : Int} (hc : (0 ≤ c ∧ c < 128) ∧ ¬ (97 ≤ c ∧ c ≤ 122) ∧ ¬ (48 ≤ c ∧ c ≤ 57)) : abW d (0, 0) 76 0 (abEnt (abL 76) [vr (some 1), vi c]) [] (0, 0) (A0 L) M (qJ (A0 L) M (fun x => (a p = c) ∧ x = 1 ∨ ¬ (a p = c) ∧ x = 0)) := by
  have t1 := hT.le
  have t2 := hT.ok.1
  have a1 := hA.1.1
  have a2 := hA.1.2.1
  have a3 := hA.1.2.2
  have a4 := hA.2
  have tc := tk_c hT.ok (p := p) (by omega)
  show abW d (0, 0) 76 0 [some (vr (some 1)), some (vi c)] [] (0, 0) (A0 L) M (qJ (A0 L) M (fun x => (a p = c) ∧ x = 1 ∨ ¬ (a p = c) ∧ x = 0))
  refine bw_aload rfl rfl ?_
  refine bw_getI rfl rfl ?_
  refine bw_push rfl ?_
  refine bw_icne rfl (fun c5 => ?_) (fun c5 => ?_)
  · skip
    refine bw_push rfl ?_
    refine bw_retz rfl rfl (by omega) ?_
    exact ⟨rfl, rfl, _, rfl, by omega⟩
  · skip
    refine bw_aload rfl rfl ?_
    refine bw_getr rfl rfl (hR _ _) ?_
    refine bw_aload rfl rfl ?_
    refine bw_getI rfl rfl ?_
    refine bw_aldb rfl (by first | rfl | assumption) (by decide) (by omega) (by omega) ?_
    rw [hT.by _ (by omega) (by omega), a1]
    have sx := sg_c (a p)
    have sy := hT.ok.2.2 p (by omega) (by omega)
    refine bw_iload rfl rfl ?_
    refine bw_icne rfl (fun c18 => ?_) (fun c18 => ?_)
    · skip
      refine bw_push rfl ?_
      refine bw_retz rfl rfl (by omega) ?_
      exact ⟨rfl, rfl, _, rfl, by omega⟩
    · skip
      refine bw_push rfl ?_
      refine bw_goto rfl ?_
      refine bw_retz rfl rfl (by omega) ?_
      exact ⟨rfl, rfl, _, rfl, by omega⟩
set_option maxRecDepth 20000 in
set_option maxHeartbeats 4000000 in
theorem c_takeSign {d L : Nat} {M : abMem} {r : abRf} (hR : RF r M) {a : Int → Int} {n : Int} (hT : TP M a n) {p : Int} (hA : TA M a n p) {c : Int} (hc : (0 ≤ c ∧ c < 128) ∧ ¬ (97 ≤ c ∧ c ≤ 122) ∧ ¬ (48 ≤ c ∧ c ≤ 57)) (hd : 1 ≤ d) : abW d (0, 0) 78 0 (abEnt (abL 78) [vr (some 1), vi c]) [] (0, 0) (A0 L) M (qI (A0 L) (fun x N => (a p = c ∧ x = 1 ∧ sm pT M N ∧ TP N a n ∧ TA N a n (sk a n (p + 1))) ∨ (a p ≠ c ∧ x = 0 ∧ N = M))) := by
  have t1 := hT.le
  have t2 := hT.ok.1
  have a1 := hA.1.1
  have a2 := hA.1.2.1
  have a3 := hA.1.2.2
  have a4 := hA.2
  have tc := tk_c hT.ok (p := p) (by omega)
  show abW d (0, 0) 78 0 [some (vr (some 1)), some (vi c)] [] (0, 0) (A0 L) M (qI (A0 L) (fun x N => (a p = c ∧ x = 1 ∧ sm pT M N ∧ TP N a n ∧ TA N a n (sk a n (p + 1))) ∨ (a p ≠ c ∧ x = 0 ∧ N = M)))
  refine bw_aload rfl rfl ?_
  refine bw_iload rfl rfl ?_
  refine bw_callVj (e := d - 1) (as := [_]) rfl (by omega) rfl rfl (Nat.le_of_ble_eq_true rfl) (Nat.le_of_ble_eq_true rfl) rfl (c_isSign hR hT hA hc) (fun r2 hr2 => ?_)
  refine bw_ifne rfl (fun c5 => ?_) (fun c5 => ?_)
  · skip
    refine bw_aload rfl rfl ?_
    refine bw_callVv (e := d - 1) (as := []) rfl (by omega) rfl rfl (Nat.le_of_ble_eq_true rfl) (Nat.le_of_ble_eq_true rfl) rfl (c_advance hR hT (s := p + 1) ⟨by omega, by omega, by omega⟩) (fun M11 hM11 => ?_)
    refine bw_push rfl ?_
    refine bw_retz rfl rfl (by omega) ?_
    exact ⟨rfl, _, rfl, Or.inl ⟨by omega, rfl, hM11⟩⟩
  · skip
    refine bw_push rfl ?_
    refine bw_retz rfl rfl (by omega) ?_
    exact ⟨rfl, _, rfl, Or.inr ⟨by omega, rfl, rfl⟩⟩
set_option maxRecDepth 20000 in
set_option maxHeartbeats 4000000 in
theorem c_isWord {d L : Nat} {M : abMem} {r : abRf} (hR : RF r M) {a : Int → Int} {n : Int} (hT : TP M a n) {p : Int} (hA : TA M a n p) {i : Nat} (hi : i < 21 ∧ i ≠ 5) (hd : 4 ≤ d) : abW d (0, 0) 77 0 (abEnt (abL 77) [vr (some 1), vr (some (1000000 + i))]) [] (0, 0) (A0 L) M (qJ (A0 L) M (fun x => (wo a n p = swI i) ∧ x = 1 ∨ ¬ (wo a n p = swI i) ∧ x = 0)) := by
  have t1 := hT.le
  have t2 := hT.ok.1
  have a1 := hA.1.1
  have a2 := hA.1.2.1
  have a3 := hA.1.2.2
  have a4 := hA.2
  have tc := tk_c hT.ok (p := p) (by omega)
  obtain ⟨w1, w2, w3⟩ := sw_ok hi.1 hi.2
  have wl := abSL_in hi.1
  have w0 := own_lenI w1
  have wi := ow_iff (a := a) (k := p) (m := we a n p - p) w1
  have ww := we_in hT.ok (k := p) (by omega)
  have L28 : ∀ (kf : Nat) (k : Int), (0 ≤ k ∧ k ≤ abSL i) → (∀ j : Int, 0 ≤ j → j < k → a (p + j) - 96 = ownT (osT (swI i) + j)) → (we a n p - p = olT (swI i)) → ((abSL i - k).toNat) < kf → abW d (0, 0) 77 28 [some (vr (some 1)), some (vr (some (1000000 + i))), some (vi k)] [] (0, 0) (A0 L) (M) (qJ (A0 L) M (fun x => (wo a n p = swI i) ∧ x = 1 ∨ ¬ (wo a n p = swI i) ∧ x = 0)) := by
    intro kf
    induction kf with
    | zero => intro k  g1 g2 g3 hm9; exact absurd hm9 (Nat.not_lt_zero _)
    | succ kf ih28 =>
      intro k  g1 g2 g3 hm28
      have ih := ih28
      refine bw_iload rfl rfl ?_
      refine bw_aload rfl rfl ?_
      refine bw_callTe (e := d - 1) (as := []) rfl (by omega) rfl rfl (Nat.le_of_ble_eq_true rfl) (Nat.le_of_ble_eq_true rfl) (by omega) (by omega) (j_length hR (by omega) (by omega)) ?_
      refine bw_icge rfl (fun c33 => ?_) (fun c33 => ?_)
      · skip
        refine bw_push rfl ?_
        refine bw_retz rfl rfl (by omega) ?_
        exact ⟨rfl, rfl, _, rfl, Or.inl ⟨wi.mpr ⟨g3, fun j h1 h2 => g2 j h1 (by omega)⟩, rfl⟩⟩
      · skip
        refine bw_aload rfl rfl ?_
        refine bw_getI rfl rfl ?_
        refine bw_iload rfl rfl ?_
        refine bw_iadd rfl ⟨by omega, by omega⟩ ?_
        refine bw_aload rfl rfl ?_
        refine bw_getI rfl rfl ?_
        refine bw_icge rfl (fun c46 => ?_) (fun c46 => ?_)
        · skip
          refine bw_push rfl ?_
          refine bw_retz rfl rfl (by omega) ?_
          exact ⟨rfl, rfl, _, rfl, Or.inl ⟨wi.mpr ⟨g3, fun j h1 h2 => g2 j h1 (by omega)⟩, rfl⟩⟩
        · skip
          refine bw_aload rfl rfl ?_
          refine bw_getr rfl rfl (hR _ _) ?_
          refine bw_aload rfl rfl ?_
          refine bw_getI rfl rfl ?_
          refine bw_iload rfl rfl ?_
          refine bw_iadd rfl ⟨by omega, by omega⟩ ?_
          refine bw_aldb rfl (by first | rfl | assumption) (by decide) (by omega) (by omega) ?_
          rw [a1, hT.by _ (by omega) (by omega)]
          have sx := sg_c (a (p + k))
          have sy := hT.ok.2.2 (p + k) (by omega) (by omega)
          have sz := ww.2.2.2 (p + k) (by omega) (by omega)
          refine bw_aload rfl rfl ?_
          refine bw_iload rfl rfl ?_
          refine bw_callTe (e := d - 1) (as := [_]) rfl (by omega) rfl rfl (Nat.le_of_ble_eq_true rfl) (Nat.le_of_ble_eq_true rfl) (by omega) (by omega) (j_charAt hR (by omega) (by omega) (by omega)) ?_
          have w9 := w3 k (by omega) (by omega)
          refine bw_iceq rfl (fun c65 => ?_) (fun c65 => ?_)
          · skip
            refine bw_iinc (ls2 := [_, _, _]) rfl rfl rfl ⟨by omega, by omega⟩ rfl ?_
            refine bw_goto rfl ?_
            refine ih _ (by omega) (fun j h1 h2 => ?_) g3 (by omega)
            by_cases q : j = k
            · rw [q]; omega
            · exact g2 j h1 (by omega)
          · skip
            refine bw_push rfl ?_
            refine bw_retz rfl rfl (by omega) ?_
            have nw : ¬ wo a n p = swI i := fun e => by
              have := (wi.mp e).2 k (by omega) (by omega)
              omega
            exact ⟨rfl, rfl, _, rfl, Or.inr ⟨nw, rfl⟩⟩
  show abW d (0, 0) 77 0 [some (vr (some 1)), some (vr (some (1000000 + i))), none] [] (0, 0) (A0 L) M (qJ (A0 L) M (fun x => (wo a n p = swI i) ∧ x = 1 ∨ ¬ (wo a n p = swI i) ∧ x = 0))
  refine bw_aload rfl rfl ?_
  refine bw_getI rfl rfl ?_
  refine bw_push rfl ?_
  refine bw_icne rfl (fun c5 => ?_) (fun c5 => ?_)
  · skip
    refine bw_push rfl ?_
    refine bw_retz rfl rfl (by omega) ?_
    have nw : ¬ wo a n p = swI i := fun e => by
      have := (wi.mp e).1
      omega
    exact ⟨rfl, rfl, _, rfl, Or.inr ⟨nw, rfl⟩⟩
  · skip
    refine bw_aload rfl rfl ?_
    refine bw_getI rfl rfl ?_
    refine bw_aload rfl rfl ?_
    refine bw_getI rfl rfl ?_
    refine bw_isub rfl ⟨by omega, by omega⟩ ?_
    refine bw_aload rfl rfl ?_
    refine bw_callTe (e := d - 1) (as := []) rfl (by omega) rfl rfl (Nat.le_of_ble_eq_true rfl) (Nat.le_of_ble_eq_true rfl) (by omega) (by omega) (j_length hR (by omega) (by omega)) ?_
    refine bw_iceq rfl (fun c21 => ?_) (fun c21 => ?_)
    · skip
      refine bw_push rfl ?_
      refine bw_istore (ls2 := [_, _, _]) rfl rfl (Nat.le_of_ble_eq_true rfl) rfl ?_
      exact L28 ((abSL i).toNat + 1) 0 (by omega) (fun j h1 h2 => by omega) (by omega) (by omega)
    · skip
      refine bw_push rfl ?_
      refine bw_retz rfl rfl (by omega) ?_
      have nw : ¬ wo a n p = swI i := fun e => by
        have := (wi.mp e).1
        omega
      exact ⟨rfl, rfl, _, rfl, Or.inr ⟨nw, rfl⟩⟩
set_option maxRecDepth 20000 in
set_option maxHeartbeats 4000000 in
theorem c_takeWord {d L : Nat} {M : abMem} {r : abRf} (hR : RF r M) {a : Int → Int} {n : Int} (hT : TP M a n) {p : Int} (hA : TA M a n p) {i : Nat} (hi : i < 21 ∧ i ≠ 5) (hd : 5 ≤ d) : abW d (0, 0) 79 0 (abEnt (abL 79) [vr (some 1), vr (some (1000000 + i))]) [] (0, 0) (A0 L) M (qI (A0 L) (fun x N => (wo a n p = swI i ∧ x = 1 ∧ sm pT M N ∧ TP N a n ∧ TA N a n (sk a n (we a n p))) ∨ (wo a n p ≠ swI i ∧ x = 0 ∧ N = M))) := by
  have t1 := hT.le
  have t2 := hT.ok.1
  have a1 := hA.1.1
  have a2 := hA.1.2.1
  have a3 := hA.1.2.2
  have a4 := hA.2
  have tc := tk_c hT.ok (p := p) (by omega)
  obtain ⟨w1, w2, w3⟩ := sw_ok hi.1 hi.2
  show abW d (0, 0) 79 0 [some (vr (some 1)), some (vr (some (1000000 + i)))] [] (0, 0) (A0 L) M (qI (A0 L) (fun x N => (wo a n p = swI i ∧ x = 1 ∧ sm pT M N ∧ TP N a n ∧ TA N a n (sk a n (we a n p))) ∨ (wo a n p ≠ swI i ∧ x = 0 ∧ N = M)))
  refine bw_aload rfl rfl ?_
  refine bw_aload rfl rfl ?_
  refine bw_callVj (e := d - 1) (as := [_]) rfl (by omega) rfl rfl (Nat.le_of_ble_eq_true rfl) (Nat.le_of_ble_eq_true rfl) rfl (c_isWord hR hT hA hi (by omega)) (fun r2 hr2 => ?_)
  refine bw_ifne rfl (fun c5 => ?_) (fun c5 => ?_)
  · skip
    refine bw_aload rfl rfl ?_
    refine bw_callVv (e := d - 1) (as := []) rfl (by omega) rfl rfl (Nat.le_of_ble_eq_true rfl) (Nat.le_of_ble_eq_true rfl) rfl (c_advance hR hT (s := we a n p) ⟨by have := we_pos hT.ok (p := p) (by omega) (by omega); omega, by have := we_pos hT.ok (p := p) (by omega) (by omega); omega, by have := we_pos hT.ok (p := p) (by omega) (by omega); omega⟩) (fun M11 hM11 => ?_)
    refine bw_push rfl ?_
    refine bw_retz rfl rfl (by omega) ?_
    exact ⟨rfl, _, rfl, Or.inl ⟨by omega, rfl, hM11⟩⟩
  · skip
    refine bw_push rfl ?_
    refine bw_retz rfl rfl (by omega) ?_
    exact ⟨rfl, _, rfl, Or.inr ⟨by omega, rfl, rfl⟩⟩
