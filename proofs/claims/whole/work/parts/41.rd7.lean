abbrev qR (j : Int) : Prop := j = 9 ∨ j = 10 ∨ j = 11 ∨ j = 12 ∨ j = 16 ∨ j = 19 ∨ j = 20
theorem qR_no {j : Int} (h : j ≠ 9 ∧ j ≠ 10 ∧ j ≠ 11 ∧ j ≠ 12 ∧ j ≠ 16 ∧ j ≠ 19 ∧ j ≠ 20) : ¬ qR j := fun k => by rcases k with k | k | k | k | k | k | k <;> omega
abbrev pL (a : Nat) : Prop := a = 573 ∨ a = 574 ∨ a = 575 ∨ a = 576
theorem pL_no {a : Nat} (h : a ≠ 573 ∧ a ≠ 574 ∧ a ≠ 575 ∧ a ≠ 576) : ¬ pL a := fun k => by rcases k with k | k | k | k <;> omega
theorem s5.toL {M N : abMem} (g : s5 pNo qP M N) : s5 pL qR M N := g.mono (fun _ k => k.elim) (fun j k => by show _ ∨ _; rcases k with k | k | k | k <;> simp [k])
theorem s5.HtoL {M N : abMem} (g : s5 pH q16 M N) : s5 pL qR M N := g.mono (fun _ k => k.elim Or.inl (fun k => Or.inr (Or.inl k))) (fun j k => Or.inr (Or.inr (Or.inr (Or.inr (Or.inl k)))))
abbrev qD (j : Int) : Prop := j = 9 ∨ j = 10 ∨ j = 11 ∨ j = 12 ∨ j = 16
theorem qD_no {j : Int} (h : j ≠ 9 ∧ j ≠ 10 ∧ j ≠ 11 ∧ j ≠ 12 ∧ j ≠ 16) : ¬ qD j := fun k => by rcases k with k | k | k | k | k <;> omega
theorem s5.toD {M N : abMem} (g : s5 pNo qP M N) : s5 pH qD M N := g.mono (fun _ k => k.elim) (fun j k => by show _ ∨ _; rcases k with k | k | k | k <;> simp [k])
theorem s5.HtoD {M N : abMem} (g : s5 pH q16 M N) : s5 pH qD M N := g.mono (fun _ k => k) (fun j k => Or.inr (Or.inr (Or.inr (Or.inr k))))
theorem s5.DtoL {M N : abMem} (g : s5 pH qD M N) : s5 pL qR M N := g.mono (fun _ k => k.elim Or.inl (fun k => Or.inr (Or.inl k))) (fun j k => by show _ ∨ _; rcases k with k | k | k | k | k <;> simp [k])
theorem PS.toH {M N : abMem} {a : Int → Int} {n : Int} (h : PS M a n) (g : s5 pH q16 M N) : PS N a n := h.fr5 g (pH_no (by decide)) (pH_no (by decide)) (fun k => by have : (8 : Int) = 16 := k; omega) (by rw [g.sl 9 (fun k => by have : (9 : Int) = 16 := k; omega)]; exact h.he)
theorem rs_H {M N : abMem} {a : Int → Int} {n : Int} {z : Rp} (h : rs M a n z) (g : s5 pH q16 M N) : rs N a n z := by
  have e9 := g.sl 9 (fun k => by have : (9 : Int) = 16 := k; omega)
  have e11 := g.sl 11 (fun k => by have : (11 : Int) = 16 := k; omega)
  have e12 := g.sl 12 (fun k => by have : (12 : Int) = 16 := k; omega)
  rcases z with e | p
  · exact ⟨e11.trans h.1, e12.trans h.2.1, h.2.2⟩
  · exact ⟨e11.trans h.1, by rw [e9]; exact h.2⟩
theorem HR.P {M N : abMem} {h : HH} (H : HR M h) (u : s5 pNo qP M N) : HR N h := H.f5 u (qP_no (by omega))
theorem dsS_f {a : Int → Int} {n v : Int} {e : Int × Int} : dsS a n v (.inl e) = (.inl e, v) := rfl
theorem dsS_y {a : Int → Int} {n v q : Int} (h : a q = 45) : dsS a n v (.inr q) = nuS a n 1 99 (.inr (sk a n (q + 1))) := if_pos h
theorem dsS_n {a : Int → Int} {n v q : Int} (h : a q ≠ 45) : dsS a n v (.inr q) = (.inr q, v) := if_neg h
theorem tmS_in {a : Int → Int} {n u : Int} {z : Rp} (h : 1 ≤ u ∧ u ≤ 96) : 1 ≤ (tmS a n u z).2 ∧ (tmS a n u z).2 ≤ 96 := by
  unfold tmS
  by_cases q : (takS a n 19 z).2 = 1
  · rw [if_pos q]; exact nuS_in (by decide)
  · rw [if_neg q]; exact h
theorem dr2_in {a : Int → Int} {n : Int} {s : LnS} : (1 ≤ (dr1 a n s).2 ∧ (dr1 a n s).2 ≤ 99) ∧ (1 ≤ (dr2 a n s).2 ∧ (dr2 a n s).2 ≤ 99) := by
  have h1 : 1 ≤ (dr1 a n s).2 ∧ (dr1 a n s).2 ≤ 99 := nuS_in (by decide)
  refine ⟨h1, ?_⟩
  unfold dr2
  rcases (dr1 a n s).1 with e | q
  · exact h1
  · by_cases c : a q = 45
    · rw [dsS_y c]; exact nuS_in (by decide)
    · rw [dsS_n c]; exact h1
set_option maxRecDepth 20000 in
set_option maxHeartbeats 4000000 in
theorem m_readsDrawings {d L : Nat} {M : abMem} {r : abRf} (hR : RF r M) {a : Int → Int} {n : Int} {s : LnS} (hP : PS M a n) (hz : rs M a n (.inr (lsP s))) (H : HR M (lsH s)) {on : Int} (ho : 1 ≤ on ∧ on ≤ 96) (hd : 6 ≤ d) : abW d (0, 0) 168 0 (abEnt (abL 168) [vr (some 567), vi on]) [] (0, 0) (A0 L) M (qV (A0 L) (fun N => s5 pH qD M N ∧ RS N a n (dr3 a n on s).1 ∧ (∀ q : Int, (dr3 a n on s).1 = .inr q → HR N (hRunTo (lsH s) (dr1 a n s).2 (dr2 a n s).2 (dr3 a n on s).2)))) := by
  have p1 := hP.sz
  have p2 := hP.ok.1
  have p3 := hP.he
  have dv := dr2_in (a := a) (n := n) (s := s)
  have L74 : ∀ (kf : Nat) (N : abMem) (e k t : Int), (s5 pH qD M N) → (RS N a n (dr3 a n on s).1 ∧ gI N 567 11 = 0) → (HR N (hRun (lsH s) (dr1 a n s).2 t (dr3 a n on s).2 k.toNat)) → (((dr2 a n s).2 < (dr1 a n s).2 ∧ t = -1 ∧ e = (dr1 a n s).2 - k ∧ (dr2 a n s).2 ≤ e) ∨ (¬ (dr2 a n s).2 < (dr1 a n s).2 ∧ t = 1 ∧ e = (dr1 a n s).2 + k ∧ e ≤ (dr2 a n s).2)) → (0 ≤ k) → (1 ≤ (dr3 a n on s).2 ∧ (dr3 a n on s).2 ≤ 96) → ((ab1 ((dr2 a n s).2 - e)).toNat) < kf → abW d (0, 0) 168 74 [some (vr (some 567)), some (vi on), some (vi (dr1 a n s).2), some (vi (dr2 a n s).2), some (vi (dr3 a n on s).2), some (vi t), some (vi e)] [] (0, 0) (A0 L) (N) (qV (A0 L) (fun N => s5 pH qD M N ∧ RS N a n (dr3 a n on s).1 ∧ (∀ q : Int, (dr3 a n on s).1 = .inr q → HR N (hRunTo (lsH s) (dr1 a n s).2 (dr2 a n s).2 (dr3 a n on s).2)))) := by
    intro kf
    induction kf with
    | zero => intro N  e k t  g1 g2 g3 g4 g5 g6 hm9; exact absurd hm9 (Nat.not_lt_zero _)
    | succ kf ih74 =>
      intro N  e k t  g1 g2 g3 g4 g5 g6 hm74
      have ih := ih74
      have hR := g1.RF hR
      have x9 := ab1_c ((dr2 a n s).2 - e)
      refine bw_iload rfl rfl ?_
      refine bw_iload rfl rfl ?_
      refine bw_iceq rfl (fun c77 => ?_) (fun c77 => ?_)
      · skip
        refine bw_aload rfl rfl ?_
        refine bw_iload rfl rfl ?_
        refine bw_iload rfl rfl ?_
        refine bw_callVv (e := d - 1) (as := [_, _]) rfl (by omega) rfl rfl (Nat.le_of_ble_eq_true rfl) (Nat.le_of_ble_eq_true rfl) rfl (m_holdsOne hR g3) (fun M102 hM102 => ?_)
        refine bw_retv rfl rfl ?_
        refine ⟨rfl, rfl, g1.trans hM102.1.HtoD, ⟨g2.1.1.toH hM102.1, rs_H g2.1.2 hM102.1⟩, fun q hq => ?_⟩
        have x7 := ab1_c ((dr2 a n s).2 - (dr1 a n s).2)
        unfold hRunTo
        have ek : (ab1 ((dr2 a n s).2 - (dr1 a n s).2) + 1).toNat = (k + 1).toNat := by omega
        have et : (if (dr2 a n s).2 < (dr1 a n s).2 then (-1 : Int) else 1) = t := by
          rcases g4 with h | h
          · rw [if_pos h.1, h.2.1]
          · rw [if_neg h.1, h.2.1]
        rw [ek, et, hRun_s (by omega), show (dr1 a n s).2 + k * t = (dr2 a n s).2 by rcases g4 with h | h <;> rw [h.2.1] <;> omega]
        exact hM102.2
      · skip
        refine bw_aload rfl rfl ?_
        refine bw_iload rfl rfl ?_
        refine bw_iload rfl rfl ?_
        refine bw_callVv (e := d - 1) (as := [_, _]) rfl (by omega) rfl rfl (Nat.le_of_ble_eq_true rfl) (Nat.le_of_ble_eq_true rfl) rfl (m_holdsOne hR g3) (fun M85 hM85 => ?_)
        refine bw_iload rfl rfl ?_
        refine bw_iload rfl rfl ?_
        refine bw_iadd rfl ⟨by omega, by omega⟩ ?_
        refine bw_istore (ls2 := [_, _, _, _, _, _, _]) rfl rfl (Nat.le_of_ble_eq_true rfl) rfl ?_
        refine bw_goto rfl ?_
        have x8 := ab1_c ((dr2 a n s).2 - (e + t))
        refine ih _ _ (k + 1) _ (g1.trans hM85.1.HtoD) ⟨⟨g2.1.1.toH hM85.1, rs_H g2.1.2 hM85.1⟩, (hM85.1.sl 11 (fun k => by have : (11 : Int) = 16 := k; omega)).trans g2.2⟩ ?_ (by omega) (by omega) g6 (by omega)
        rw [hRun_s (by omega), show (dr1 a n s).2 + k * t = e by rcases g4 with h | h <;> rw [h.2.1] <;> omega]
        exact hM85.2
  have L44 : ∀ (kf : Nat) (N : abMem), (s5 pNo qP M N) → (RS N a n (dr2 a n s).1) → (0) < kf → abW d (0, 0) 168 44 [some (vr (some 567)), some (vi on), some (vi (dr1 a n s).2), some (vi (dr2 a n s).2), none, none, none] [] (0, 0) (A0 L) (N) (qV (A0 L) (fun N => s5 pH qD M N ∧ RS N a n (dr3 a n on s).1 ∧ (∀ q : Int, (dr3 a n on s).1 = .inr q → HR N (hRunTo (lsH s) (dr1 a n s).2 (dr2 a n s).2 (dr3 a n on s).2)))) := by
    intro kf
    induction kf with
    | zero => intro N  g1 g2 hm9; exact absurd hm9 (Nat.not_lt_zero _)
    | succ kf ih44 =>
      intro N  g1 g2 hm44
      have ih := ih44
      have hR := g1.RF hR
      refine bw_aload rfl rfl ?_
      refine bw_iload rfl rfl ?_
      refine bw_callVi (e := d - 1) (as := [_]) rfl (by omega) rfl rfl (Nat.le_of_ble_eq_true rfl) (Nat.le_of_ble_eq_true rfl) rfl (m_times hR g2.1 g2.2 (by omega)) (fun r46 M46 hM46 => ?_)
      obtain ⟨u46, v46, w46⟩ := hM46
      have w46 : r46 = (dr3 a n on s).2 := w46
      have v46 : RS M46 a n (dr3 a n on s).1 := v46
      subst w46
      have hR := u46.RF hR
      have b46 : 1 ≤ (dr3 a n on s).2 ∧ (dr3 a n on s).2 ≤ 96 := tmS_in (by omega)
      refine bw_istore (ls2 := [_, _, _, _, _, _, _]) rfl rfl (Nat.le_of_ble_eq_true rfl) rfl ?_
      refine bw_aload rfl rfl ?_
      refine bw_callVj (e := d - 1) (as := []) rfl (by omega) rfl rfl (Nat.le_of_ble_eq_true rfl) (Nat.le_of_ble_eq_true rfl) rfl (m_goesWell hR) (fun r52 hr52 => ?_)
      refine bw_ifne rfl (fun c55 => ?_) (fun c55 => ?_)
      · skip
        refine bw_iload rfl rfl ?_
        refine bw_iload rfl rfl ?_
        refine bw_icge rfl (fun c61 => ?_) (fun c61 => ?_)
        · skip
          refine bw_push rfl ?_
          refine bw_istore (ls2 := [_, _, _, _, _, _, _]) rfl rfl (Nat.le_of_ble_eq_true rfl) rfl ?_
          refine bw_iload rfl rfl ?_
          refine bw_istore (ls2 := [_, _, _, _, _, _, _]) rfl rfl (Nat.le_of_ble_eq_true rfl) rfl ?_
          first
          | exact L74 200 M46 (dr1 a n s).2 0 (-1) (g1.trans u46).toD ⟨v46, by omega⟩ ((H.P g1).P u46) (Or.inl ⟨by omega, rfl, by omega, by omega⟩) (by omega) b46 (by have := ab1_c ((dr2 a n s).2 - (dr1 a n s).2); omega)
          | exact L74 200 M46 (dr1 a n s).2 0 1 (g1.trans u46).toD ⟨v46, by omega⟩ ((H.P g1).P u46) (Or.inr ⟨by omega, rfl, by omega, by omega⟩) (by omega) b46 (by have := ab1_c ((dr2 a n s).2 - (dr1 a n s).2); omega)
        · skip
          refine bw_push rfl ?_
          refine bw_goto rfl ?_
          refine bw_istore (ls2 := [_, _, _, _, _, _, _]) rfl rfl (Nat.le_of_ble_eq_true rfl) rfl ?_
          refine bw_iload rfl rfl ?_
          refine bw_istore (ls2 := [_, _, _, _, _, _, _]) rfl rfl (Nat.le_of_ble_eq_true rfl) rfl ?_
          first
          | exact L74 200 M46 (dr1 a n s).2 0 (-1) (g1.trans u46).toD ⟨v46, by omega⟩ ((H.P g1).P u46) (Or.inl ⟨by omega, rfl, by omega, by omega⟩) (by omega) b46 (by have := ab1_c ((dr2 a n s).2 - (dr1 a n s).2); omega)
          | exact L74 200 M46 (dr1 a n s).2 0 1 (g1.trans u46).toD ⟨v46, by omega⟩ ((H.P g1).P u46) (Or.inr ⟨by omega, rfl, by omega, by omega⟩) (by omega) b46 (by have := ab1_c ((dr2 a n s).2 - (dr1 a n s).2); omega)
      · skip
        refine bw_retv rfl rfl ?_
        exact ⟨rfl, rfl, (g1.trans u46).toD, v46, fun q hq => by have := (rs_0 v46.2).mpr ⟨q, hq⟩; omega⟩
  show abW d (0, 0) 168 0 [some (vr (some 567)), some (vi on), none, none, none, none, none] [] (0, 0) (A0 L) M (qV (A0 L) (fun N => s5 pH qD M N ∧ RS N a n (dr3 a n on s).1 ∧ (∀ q : Int, (dr3 a n on s).1 = .inr q → HR N (hRunTo (lsH s) (dr1 a n s).2 (dr2 a n s).2 (dr3 a n on s).2))))
  refine bw_aload rfl rfl ?_
  refine bw_push rfl ?_
  refine bw_push rfl ?_
  refine bw_callVi (e := d - 1) (as := [_, _]) rfl (by omega) rfl rfl (Nat.le_of_ble_eq_true rfl) (Nat.le_of_ble_eq_true rfl) rfl (m_number hR hP hz (by omega)) (fun r4 M4 hM4 => ?_)
  obtain ⟨u4, v4, w4⟩ := hM4
  have v4 : RS M4 a n (dr1 a n s).1 := v4
  have w4 : r4 = (dr1 a n s).2 := w4
  subst w4
  have hR := u4.RF hR
  have p4 := v4.1.he
  refine bw_istore (ls2 := [_, _, _, _, _, _, _]) rfl rfl (Nat.le_of_ble_eq_true rfl) rfl ?_
  refine bw_iload rfl rfl ?_
  refine bw_istore (ls2 := [_, _, _, _, _, _, _]) rfl rfl (Nat.le_of_ble_eq_true rfl) rfl ?_
  refine bw_aload rfl rfl ?_
  refine bw_callVj (e := d - 1) (as := []) rfl (by omega) rfl rfl (Nat.le_of_ble_eq_true rfl) (Nat.le_of_ble_eq_true rfl) rfl (m_goesWell hR) (fun r11 hr11 => ?_)
  refine bw_ifeq rfl (fun c14 => ?_) (fun c14 => ?_)
  · skip
    first
    | (refine bw_forget (ls2 := [some (vr (some 567)), some (vi on), some (vi (dr1 a n s).2), some (vi (dr2 a n s).2), none, none, none]) ⟨rfl, rfl, rfl, rfl, trivial⟩ ?_
       exact L44 1 M40 (hF33.trans u40) v40 (by omega))
    | (have d4 : dr2 a n s = (.inr q, (dr1 a n s).2) := d2.trans (dsS_n (by omega))
       have e4 : (dr1 a n s).2 = (dr2 a n s).2 := by rw [d4]
       refine bw_forget (ls2 := [some (vr (some 567)), some (vi on), some (vi (dr1 a n s).2), some (vi (dr2 a n s).2), none, none, none]) ⟨rfl, rfl, rfl, by rw [← e4], trivial⟩ ?_
       exact L44 1 M18 (u4.trans u18.toP) ⟨hP18, by rw [d4]; exact ⟨by omega, by rw [v18]; exact ek⟩⟩ (by omega))
    | (obtain ⟨e, he, h5⟩ := rs_l v4.2 (by omega)
       have d4 : dr2 a n s = (.inl e, (dr1 a n s).2) := by unfold dr2; rw [he]; rfl
       have e4 : (dr1 a n s).2 = (dr2 a n s).2 := by rw [d4]
       refine bw_forget (ls2 := [some (vr (some 567)), some (vi on), some (vi (dr1 a n s).2), some (vi (dr2 a n s).2), none, none, none]) ⟨rfl, rfl, rfl, by rw [← e4], trivial⟩ ?_
       exact L44 1 M4 u4 ⟨v4.1, by rw [d4]; exact h5⟩ (by omega))
  · skip
    refine bw_aload rfl rfl ?_
    refine bw_callVi (e := d - 1) (as := []) rfl (by omega) rfl rfl (Nat.le_of_ble_eq_true rfl) (Nat.le_of_ble_eq_true rfl) rfl (m_sees hR v4.1 (by omega)) (fun r18 M18 hM18 => ?_)
    obtain ⟨u18, v18, w18⟩ := hM18
    have hR := u18.RF hR
    obtain ⟨q, hq, hs⟩ := rs_r v4.2 (by omega)
    have s8 := skM_in v4.1
    rw [hs] at v18 w18
    rw [show skM M4 a n = q from hs] at s8
    have t8 := s59_11 u18
    have hP18 := v4.1.to9 u18 (by omega)
    have d2 : dr2 a n s = dsS a n (dr1 a n s).2 (.inr q) := by unfold dr2; rw [hq]
    have ek : sk a n q = q := by rw [← hs]; exact sk_sk hP.ok v4.1.he
    refine bw_push rfl ?_
    refine bw_icne rfl (fun c23 => ?_) (fun c23 => ?_)
    · skip
      first
      | (refine bw_forget (ls2 := [some (vr (some 567)), some (vi on), some (vi (dr1 a n s).2), some (vi (dr2 a n s).2), none, none, none]) ⟨rfl, rfl, rfl, rfl, trivial⟩ ?_
         exact L44 1 M40 (hF33.trans u40) v40 (by omega))
      | (have d4 : dr2 a n s = (.inr q, (dr1 a n s).2) := d2.trans (dsS_n (by omega))
         have e4 : (dr1 a n s).2 = (dr2 a n s).2 := by rw [d4]
         refine bw_forget (ls2 := [some (vr (some 567)), some (vi on), some (vi (dr1 a n s).2), some (vi (dr2 a n s).2), none, none, none]) ⟨rfl, rfl, rfl, by rw [← e4], trivial⟩ ?_
         exact L44 1 M18 (u4.trans u18.toP) ⟨hP18, by rw [d4]; exact ⟨by omega, by rw [v18]; exact ek⟩⟩ (by omega))
      | (obtain ⟨e, he, h5⟩ := rs_l v4.2 (by omega)
         have d4 : dr2 a n s = (.inl e, (dr1 a n s).2) := by unfold dr2; rw [he]; rfl
         have e4 : (dr1 a n s).2 = (dr2 a n s).2 := by rw [d4]
         refine bw_forget (ls2 := [some (vr (some 567)), some (vi on), some (vi (dr1 a n s).2), some (vi (dr2 a n s).2), none, none, none]) ⟨rfl, rfl, rfl, by rw [← e4], trivial⟩ ?_
         exact L44 1 M4 u4 ⟨v4.1, by rw [d4]; exact h5⟩ (by omega))
    · skip
      refine bw_aload rfl rfl ?_
      first | refine bw_dup rfl ?_ | refine bw_dupi rfl ?_
      refine bw_getI rfl rfl ?_
      refine bw_push rfl ?_
      refine bw_iadd rfl ⟨by omega, by omega⟩ ?_
      have k33 := in_of hP.ok (k := q) (by omega)
      refine bw_putI rfl rfl ?_
      generalize hG33 : sI M18 567 9 (gI M18 567 9 + 1) = G33
      have hR33 : RF r G33 := by rw [← hG33]; exact hR
      have hF33 : s5 pNo qP M G33 := by rw [← hG33]; exact (u4.trans u18.toP).sI7 9 _ (Or.inl rfl)
      have e33 : gI G33 567 9 = q + 1 ∧ gI G33 567 11 = 0 := by rw [← hG33, gI_sI_eq, gI_sI_nj (by decide)]; omega
      have hP33 : PS G33 a n := hP.toP hF33 (by omega)
      have hz33 : rs G33 a n (.inr (sk a n (q + 1))) := ⟨e33.2, by rw [e33.1]⟩
      refine bw_aload rfl rfl ?_
      refine bw_push rfl ?_
      refine bw_push rfl ?_
      refine bw_callVi (e := d - 1) (as := [_, _]) rfl (by omega) rfl rfl (Nat.le_of_ble_eq_true rfl) (Nat.le_of_ble_eq_true rfl) rfl (m_number (M := G33) hR33 hP33 hz33 (by omega)) (fun r40 M40 hM40 => ?_)
      obtain ⟨u40, v40, w40⟩ := hM40
      have d3 := dsS_y (n := n) (v := (dr1 a n s).2) (show a q = 45 by omega)
      rw [← d3, ← d2] at v40 w40
      subst w40
      refine bw_istore (ls2 := [_, _, _, _, _, _, _]) rfl rfl (Nat.le_of_ble_eq_true rfl) rfl ?_
      first
      | (refine bw_forget (ls2 := [some (vr (some 567)), some (vi on), some (vi (dr1 a n s).2), some (vi (dr2 a n s).2), none, none, none]) ⟨rfl, rfl, rfl, rfl, trivial⟩ ?_
         exact L44 1 M40 (hF33.trans u40) v40 (by omega))
      | (have d4 : dr2 a n s = (.inr q, (dr1 a n s).2) := d2.trans (dsS_n (by omega))
         have e4 : (dr1 a n s).2 = (dr2 a n s).2 := by rw [d4]
         refine bw_forget (ls2 := [some (vr (some 567)), some (vi on), some (vi (dr1 a n s).2), some (vi (dr2 a n s).2), none, none, none]) ⟨rfl, rfl, rfl, by rw [← e4], trivial⟩ ?_
         exact L44 1 M18 (u4.trans u18.toP) ⟨hP18, by rw [d4]; exact ⟨by omega, by rw [v18]; exact ek⟩⟩ (by omega))
      | (obtain ⟨e, he, h5⟩ := rs_l v4.2 (by omega)
         have d4 : dr2 a n s = (.inl e, (dr1 a n s).2) := by unfold dr2; rw [he]; rfl
         have e4 : (dr1 a n s).2 = (dr2 a n s).2 := by rw [d4]
         refine bw_forget (ls2 := [some (vr (some 567)), some (vi on), some (vi (dr1 a n s).2), some (vi (dr2 a n s).2), none, none, none]) ⟨rfl, rfl, rfl, by rw [← e4], trivial⟩ ?_
         exact L44 1 M4 u4 ⟨v4.1, by rw [d4]; exact h5⟩ (by omega))
