/-- the scene that is read, or the one that is told: its numbers lie from i on -/
def SIm (f : Int → Int) (i : Int) (S : Int → Int) : Prop := ∀ j : Int, 0 ≤ j → j < 1006 → f (i + j) = S j
theorem SIm_up {f S : Int → Int} {i j k x : Int} (h : SIm f i S) (hk : k = i + j) : SIm (up f k x) i (up S j x) := fun m h1 h2 => by
  unfold up
  by_cases q : m = j
  · rw [if_pos (by omega), if_pos q]
  · rw [if_neg (by omega), if_neg q]; exact h m h1 h2
theorem SIm_lo {f S : Int → Int} {k x : Int} (h : SIm f 1006 S) (hk : k < 1006) : SIm (up f k x) 1006 S := fun m h1 h2 => by
  rw [up_ne (by omega)]; exact h m h1 h2
theorem SIm_0 {f S : Int → Int} {k x : Int} (h : SIm f 0 S) (hk : 1006 ≤ k) : SIm (up f k x) 0 S := fun m h1 h2 => by
  rw [up_ne (by omega)]; exact h m h1 h2
theorem nuS_in {a : Int → Int} {n lo hi : Int} {z : Rp} (h : lo ≤ hi) : lo ≤ (nuS a n lo hi z).2 ∧ (nuS a n lo hi z).2 ≤ hi := by
  rcases z with e | p
  · exact ⟨Int.le_refl _, h⟩
  · by_cases q : de a n p = p ∨ 3 < de a n p - p
    · rw [nu_a q]; exact ⟨Int.le_refl _, h⟩
    · by_cases q2 : lo ≤ nv a n p ∧ nv a n p ≤ hi
      · rw [nu_d q q2]; exact q2
      · rw [nu_c q q2]; exact ⟨Int.le_refl _, h⟩
theorem owS_in {S a : Int → Int} {n : Int} {z : Rp} (h : 0 ≤ S 1 ∧ S 1 ≤ 6) : 0 ≤ (owS S a n z).2 ∧ (owS S a n z).2 ≤ 5 := by
  rcases z with e | p
  · exact ⟨Int.le_refl _, by show (0 : Int) ≤ 5; decide⟩
  · show 0 ≤ (owR S a n p).2 ∧ (owR S a n p).2 ≤ 5
    unfold owR naR
    have f := fnL_in (S := S) (a := a) (z := S 1) (k := p) (m := we a n p - p) h.1
    by_cases q : (1 ≤ we a n p - p ∧ we a n p - p ≤ 6) ∧ wo a n p = -1
    · rw [if_pos q]
      show 0 ≤ (if fnL S a (S 1) p (we a n p - p) = -1 then ((.inl (3, p), 0) : Rp × Int) else (.inr (sk a n (we a n p)), fnL S a (S 1) p (we a n p - p))).2 ∧ (if fnL S a (S 1) p (we a n p - p) = -1 then ((.inl (3, p), 0) : Rp × Int) else (.inr (sk a n (we a n p)), fnL S a (S 1) p (we a n p - p))).2 ≤ 5
      by_cases q2 : fnL S a (S 1) p (we a n p - p) = -1
      · rw [if_pos q2]; exact ⟨Int.le_refl _, by show (0 : Int) ≤ 5; decide⟩
      · rw [if_neg q2]
        show 0 ≤ fnL S a (S 1) p (we a n p - p) ∧ fnL S a (S 1) p (we a n p - p) ≤ 5
        omega
    · rw [if_neg q]; exact ⟨Int.le_refl _, by show (0 : Int) ≤ 5; decide⟩
set_option maxRecDepth 20000 in
set_option maxHeartbeats 4000000 in
theorem m_isNamed {d L : Nat} {M : abMem} {r : abRf} (hR : RF r M) {a : Int → Int} {n : Int} (hP : PS M a n) {i0 : Int} (hi : i0 = 0 ∨ i0 = 1006) {S : Int → Int} (hS : SIm (gI M 568) i0 S) (hb : 0 ≤ gI M 567 10 ∧ gI M 567 10 ≤ gI M 567 9 ∧ gI M 567 9 - gI M 567 10 ≤ 6) {l : Int} (hl : 0 ≤ l ∧ l ≤ 5) : abW d (0, 0) 162 0 (abEnt (abL 162) [vr (some 567), vi (i0 + 12 + 7 * l)]) [] (0, 0) (A0 L) M (qJ (A0 L) M (fun x => (nmE S a (gI M 567 10) (gI M 567 9 - gI M 567 10)  l ∧ x = 1 ∨ ¬ nmE S a (gI M 567 10) (gI M 567 9 - gI M 567 10)  l ∧ x = 0))) := by
  have p1 := hP.sz
  have p2 := hP.ok.1
  have p3 := hP.he
  have L22 : ∀ (kf : Nat) (i : Int), (0 ≤ i ∧ i ≤ gI M 567 9 - gI M 567 10) → (∀ j : Int, 0 ≤ j → j < i → S (13 + 7 * l + j) = a (gI M 567 10 + j)) → (S (12 + 7 * l) = gI M 567 9 - gI M 567 10) → ((7 - i).toNat) < kf → abW d (0, 0) 162 22 [some (vr (some 567)), some (vi (i0 + 12 + 7 * l)), some (vi i)] [] (0, 0) (A0 L) (M) (qJ (A0 L) M (fun x => (nmE S a (gI M 567 10) (gI M 567 9 - gI M 567 10)  l ∧ x = 1 ∨ ¬ nmE S a (gI M 567 10) (gI M 567 9 - gI M 567 10)  l ∧ x = 0))) := by
    intro kf
    induction kf with
    | zero => intro i  g1 g2 g3 hm9; exact absurd hm9 (Nat.not_lt_zero _)
    | succ kf ih22 =>
      intro i  g1 g2 g3 hm22
      have ih := ih22
      refine bw_aload rfl rfl ?_
      refine bw_getI rfl rfl ?_
      refine bw_iload rfl rfl ?_
      refine bw_iadd rfl ⟨by omega, by omega⟩ ?_
      refine bw_aload rfl rfl ?_
      refine bw_getI rfl rfl ?_
      refine bw_icge rfl (fun c32 => ?_) (fun c32 => ?_)
      · skip
        refine bw_push rfl ?_
        refine bw_retz rfl rfl (by omega) ?_
        exact ⟨rfl, rfl, _, rfl, Or.inl ⟨⟨g3, fun j h1 h2 => g2 j h1 (by omega)⟩, rfl⟩⟩
      · skip
        refine bw_aload rfl rfl ?_
        refine bw_getr rfl rfl (hR _ _) ?_
        refine bw_iload rfl rfl ?_
        refine bw_push rfl ?_
        refine bw_iadd rfl ⟨by omega, by omega⟩ ?_
        refine bw_iload rfl rfl ?_
        refine bw_iadd rfl ⟨by omega, by omega⟩ ?_
        refine bw_aldi rfl (by first | rfl | assumption) (by omega) (by omega) ?_
        rw [show i0 + 12 + 7 * l + 1 + i = i0 + (13 + 7 * l + i) by omega, hS _ (by omega) (by omega)]
        refine bw_aload rfl rfl ?_
        refine bw_getr rfl rfl (hR _ _) ?_
        refine bw_aload rfl rfl ?_
        refine bw_getI rfl rfl ?_
        refine bw_iload rfl rfl ?_
        refine bw_iadd rfl ⟨by omega, by omega⟩ ?_
        refine bw_aldi rfl (by first | rfl | assumption) (by omega) (by omega) ?_
        rw [hP.by _ (by omega) (by omega)]
        refine bw_iceq rfl (fun c56 => ?_) (fun c56 => ?_)
        · skip
          refine bw_iinc (ls2 := [_, _, _]) rfl rfl rfl ⟨by omega, by omega⟩ rfl ?_
          refine bw_goto rfl ?_
          refine ih _ (by omega) (fun j h1 h2 => ?_) g3 (by omega)
          by_cases q : j = i
          · rw [q]; omega
          · exact g2 j h1 (by omega)
        · skip
          refine bw_push rfl ?_
          refine bw_retz rfl rfl (by omega) ?_
          exact ⟨rfl, rfl, _, rfl, Or.inr ⟨fun h => by have := h.2 i (by omega) (by omega); omega, rfl⟩⟩
  show abW d (0, 0) 162 0 [some (vr (some 567)), some (vi (i0 + 12 + 7 * l)), none] [] (0, 0) (A0 L) M (qJ (A0 L) M (fun x => (nmE S a (gI M 567 10) (gI M 567 9 - gI M 567 10)  l ∧ x = 1 ∨ ¬ nmE S a (gI M 567 10) (gI M 567 9 - gI M 567 10)  l ∧ x = 0)))
  refine bw_aload rfl rfl ?_
  refine bw_getr rfl rfl (hR _ _) ?_
  refine bw_iload rfl rfl ?_
  refine bw_aldi rfl (by first | rfl | assumption) (by omega) (by omega) ?_
  rw [show i0 + 12 + 7 * l = i0 + (12 + 7 * l) by omega, hS _ (by omega) (by omega), show i0 + (12 + 7 * l) = i0 + 12 + 7 * l by omega]
  refine bw_aload rfl rfl ?_
  refine bw_getI rfl rfl ?_
  refine bw_aload rfl rfl ?_
  refine bw_getI rfl rfl ?_
  refine bw_isub rfl ⟨by omega, by omega⟩ ?_
  refine bw_iceq rfl (fun c15 => ?_) (fun c15 => ?_)
  · skip
    refine bw_push rfl ?_
    refine bw_istore (ls2 := [_, _, _]) rfl rfl (Nat.le_of_ble_eq_true rfl) rfl ?_
    exact L22 8 0 (by omega) (fun j h1 h2 => by omega) (by omega) (by omega)
  · skip
    refine bw_push rfl ?_
    refine bw_retz rfl rfl (by omega) ?_
    exact ⟨rfl, rfl, _, rfl, Or.inr ⟨fun h => by have := h.1; omega, rfl⟩⟩
set_option maxRecDepth 20000 in
set_option maxHeartbeats 4000000 in
theorem m_layerNamed {d L : Nat} {M : abMem} {r : abRf} (hR : RF r M) {a : Int → Int} {n : Int} (hP : PS M a n) {i0 : Int} (hi : i0 = 0 ∨ i0 = 1006) {S : Int → Int} (hS : SIm (gI M 568) i0 S) (hb : 0 ≤ gI M 567 10 ∧ gI M 567 10 ≤ gI M 567 9 ∧ gI M 567 9 - gI M 567 10 ≤ 6) {z : Int} (hz : 0 ≤ z ∧ z ≤ 6) (hd : 1 ≤ d) : abW d (0, 0) 161 0 (abEnt (abL 161) [vr (some 567), vi i0, vi z]) [] (0, 0) (A0 L) M (qE (some (vi (fnL S a z (gI M 567 10) (gI M 567 9 - gI M 567 10)))) (A0 L) M) := by
  have p1 := hP.sz
  have p2 := hP.ok.1
  have p3 := hP.he
  have L2 : ∀ (kf : Nat) (l : Int), (0 ≤ l ∧ l ≤ z) → (∀ j : Int, 0 ≤ j → j < l → ¬ nmE S a (gI M 567 10) (gI M 567 9 - gI M 567 10)  j) → ((z - l).toNat) < kf → abW d (0, 0) 161 2 [some (vr (some 567)), some (vi i0), some (vi z), some (vi l)] [] (0, 0) (A0 L) (M) (qE (some (vi (fnL S a z (gI M 567 10) (gI M 567 9 - gI M 567 10)))) (A0 L) M) := by
    intro kf
    induction kf with
    | zero => intro l  g1 g2 hm9; exact absurd hm9 (Nat.not_lt_zero _)
    | succ kf ih2 =>
      intro l  g1 g2 hm2
      have ih := ih2
      refine bw_iload rfl rfl ?_
      refine bw_iload rfl rfl ?_
      refine bw_icge rfl (fun c4 => ?_) (fun c4 => ?_)
      · skip
        refine bw_push rfl ?_
        refine bw_ret rfl rfl ?_
        exact ⟨by rw [fnL_eq (x := -1) (Or.inl ⟨rfl, fun j h1 h2 => g2 j h1 (by omega)⟩)], rfl, rfl⟩
      · skip
        refine bw_aload rfl rfl ?_
        refine bw_iload rfl rfl ?_
        refine bw_push rfl ?_
        refine bw_iadd rfl ⟨by omega, by omega⟩ ?_
        refine bw_push rfl ?_
        refine bw_iload rfl rfl ?_
        refine bw_imul rfl ⟨by omega, by omega⟩ ?_
        refine bw_iadd rfl ⟨by omega, by omega⟩ ?_
        refine bw_callVj (e := d - 1) (as := [_]) rfl (by omega) rfl rfl (Nat.le_of_ble_eq_true rfl) (Nat.le_of_ble_eq_true rfl) rfl (m_isNamed hR hP hi hS hb (by omega)) (fun r17 hr17 => ?_)
        refine bw_ifeq rfl (fun c20 => ?_) (fun c20 => ?_)
        · skip
          refine bw_iinc (ls2 := [_, _, _, _]) rfl rfl rfl ⟨by omega, by omega⟩ rfl ?_
          refine bw_goto rfl ?_
          refine ih _ (by omega) (fun j h1 h2 => ?_) (by omega)
          by_cases q : j = l
          · rw [q]; rcases hr17 with h | h
            · omega
            · exact h.1
          · exact g2 j h1 (by omega)
        · skip
          refine bw_iload rfl rfl ?_
          refine bw_ret rfl rfl ?_
          rcases hr17 with h | h
          · exact ⟨by rw [fnL_eq (x := l) (Or.inr ⟨by omega, h.1, g2⟩)], rfl, rfl⟩
          · exfalso; omega
  show abW d (0, 0) 161 0 [some (vr (some 567)), some (vi i0), some (vi z), none] [] (0, 0) (A0 L) M (qE (some (vi (fnL S a z (gI M 567 10) (gI M 567 9 - gI M 567 10)))) (A0 L) M)
  refine bw_push rfl ?_
  refine bw_istore (ls2 := [_, _, _, _]) rfl rfl (Nat.le_of_ble_eq_true rfl) rfl ?_
  exact L2 (z.toNat + 1) 0 (by omega) (fun j h1 h2 => by omega) (by omega)
theorem naS_n {S a : Int → Int} {n p : Int} (h : ¬ ((1 ≤ we a n p - p ∧ we a n p - p ≤ 6) ∧ wo a n p = -1)) : naS S a n (.inr p) = (.inl (1, p), -1) := if_neg h
theorem naS_y {S a : Int → Int} {n p : Int} (h : (1 ≤ we a n p - p ∧ we a n p - p ≤ 6) ∧ wo a n p = -1) : naS S a n (.inr p) = (.inr (sk a n (we a n p)), fnL S a (S 1) p (we a n p - p)) := if_pos h
theorem s5_8 {q : Int → Prop} {M N : abMem} (g : s5 pNo q M N) : gI N 568 = gI M 568 := g.at 568 (fun k => k) (by decide)
set_option maxRecDepth 20000 in
set_option maxHeartbeats 4000000 in
theorem m_name {d L : Nat} {M : abMem} {r : abRf} (hR : RF r M) {a : Int → Int} {n : Int} (hP : PS M a n) {z : Rp} (hz : rs M a n z) {S : Int → Int} (hS : SIm (gI M 568) 1006 S) (hl6 : 0 ≤ S 1 ∧ S 1 ≤ 6) (hd : 4 ≤ d) : abW d (0, 0) 160 0 (abEnt (abL 160) [vr (some 567)]) [] (0, 0) (A0 L) M (qI (A0 L) (fun x N => s5 pNo qP M N ∧ RS N a n (naS S a n z).1 ∧ x = (naS S a n z).2 ∧ (∀ p : Int, z = .inr p → (∀ q : Int, (naS S a n z).1 = .inr q → gI N 567 9 = we a n p ∧ 1 ≤ we a n p - p ∧ we a n p - p ≤ 6 ∧ gI N 567 10 = p)))) := by
  have p1 := hP.sz
  have p2 := hP.ok.1
  have p3 := hP.he
  show abW d (0, 0) 160 0 [some (vr (some 567)), none] [] (0, 0) (A0 L) M (qI (A0 L) (fun x N => s5 pNo qP M N ∧ RS N a n (naS S a n z).1 ∧ x = (naS S a n z).2 ∧ (∀ p : Int, z = .inr p → (∀ q : Int, (naS S a n z).1 = .inr q → gI N 567 9 = we a n p ∧ 1 ≤ we a n p - p ∧ we a n p - p ≤ 6 ∧ gI N 567 10 = p))))
  refine bw_aload rfl rfl ?_
  refine bw_callVj (e := d - 1) (as := []) rfl (by omega) rfl rfl (Nat.le_of_ble_eq_true rfl) (Nat.le_of_ble_eq_true rfl) rfl (m_goesWell hR) (fun r1 hr1 => ?_)
  refine bw_ifne rfl (fun c4 => ?_) (fun c4 => ?_)
  · skip
    refine bw_aload rfl rfl ?_
    refine bw_callVi (e := d - 1) (as := []) rfl (by omega) rfl rfl (Nat.le_of_ble_eq_true rfl) (Nat.le_of_ble_eq_true rfl) rfl (m_wordEnd hR hP (by omega)) (fun r10 M10 hM10 => ?_)
    obtain ⟨u10, v10, w10⟩ := hM10
    have hR := u10.RF hR
    obtain ⟨p, rfl, hp⟩ := rs_r hz (by omega)
    have s8 := skM_in hP
    have hP8 := hP.to9 u10 (by rw [v10]; exact ⟨s8.1, s8.2.1⟩)
    have t8 := s59_11 u10
    have s9 : skM M a n = p := hp
    rw [s9] at v10 w10 s8
    have e10 := we_in hP.ok (k := p) (by omega)
    have ew : ow a p (we a n p - p) = wo a n p := rfl
    have ei := ow_in a p (we a n p - p)
    refine bw_istore (ls2 := [_, _]) rfl rfl (Nat.le_of_ble_eq_true rfl) rfl ?_
    refine bw_iload rfl rfl ?_
    refine bw_aload rfl rfl ?_
    refine bw_getI rfl rfl ?_
    refine bw_isub rfl ⟨by omega, by omega⟩ ?_
    refine bw_push rfl ?_
    refine bw_push rfl ?_
    refine bw_callSj (e := d - 1) (as := [_, _, _]) rfl (by omega) rfl rfl (Nat.le_of_ble_eq_true rfl) (Nat.le_of_ble_eq_true rfl) (m_isIn hR) (fun r23 hr23 => ?_)
    refine bw_ifeq rfl (fun c26 => ?_) (fun c26 => ?_)
    · skip
      refine bw_aload rfl rfl ?_
      refine bw_push rfl ?_
      refine bw_aload rfl rfl ?_
      refine bw_getI rfl rfl ?_
      refine bw_callVv (e := d - 1) (as := [_, _]) rfl (by omega) rfl rfl (Nat.le_of_ble_eq_true rfl) (Nat.le_of_ble_eq_true rfl) rfl (m_faults hR) (fun M44 hM44 => ?_)
      refine bw_push rfl ?_
      refine bw_ret rfl rfl ?_
      refine ⟨rfl, _, rfl, u10.toP.trans hM44.f5, ?_⟩
      have hn : ¬ ((1 ≤ we a n p - p ∧ we a n p - p ≤ 6) ∧ wo a n p = -1) := by omega
      rw [naS_n hn]
      rw [v10] at hM44
      exact ⟨hM44.RSn hP8 (by rw [t8.1]; omega) (by decide), rfl, fun _ _ q hq => by cases hq⟩
    · skip
      refine bw_aload rfl rfl ?_
      refine bw_iload rfl rfl ?_
      refine bw_callVe (e := d - 1) (as := [_]) rfl (by omega) rfl rfl (Nat.le_of_ble_eq_true rfl) (Nat.le_of_ble_eq_true rfl) rfl (m_ownTo hR hP8 (by omega)) ?_
      rw [v10, w10]
      refine bw_push rfl ?_
      refine bw_iceq rfl (fun c35 => ?_) (fun c35 => ?_)
      · skip
        refine bw_aload rfl rfl ?_
        refine bw_callVv (e := d - 1) (as := []) rfl (by omega) rfl rfl (Nat.le_of_ble_eq_true rfl) (Nat.le_of_ble_eq_true rfl) rfl (m_passes hR hP8 (by omega)) (fun M50 hM50 => ?_)
        obtain ⟨u50, v50, w50⟩ := hM50
        have hR := u50.RF hR
        have e50 : skM M10 a n = p := (skM_eq hP (by rw [v10, s9])).trans s9
        rw [e50] at v50 w50
        have hP9 := hP8.toP u50.P10 (by omega)
        have e8 : gI M50 568 = gI M 568 := (s5_8 u50).trans (s5_8 u10)
        refine bw_aload rfl rfl ?_
        refine bw_push rfl ?_
        refine bw_aload rfl rfl ?_
        refine bw_getr rfl rfl (hR _ _) ?_
        refine bw_push rfl ?_
        refine bw_aldi rfl (by first | rfl | assumption) (by omega) (by omega) ?_
        refine bw_callVe (e := d - 1) (as := [_, _]) rfl (by omega) rfl rfl (Nat.le_of_ble_eq_true rfl) (Nat.le_of_ble_eq_true rfl) rfl (m_layerNamed hR hP9 (Or.inr rfl) (by rw [e8]; exact hS) (by omega) (by rw [e8]; have := hS 1 (by decide) (by decide); rw [show (1006 : Int) + 1 = 1007 from rfl] at this; rw [this]; exact hl6) (by omega)) ?_
        refine bw_ret rfl rfl ?_
        refine ⟨rfl, _, rfl, u10.toP.trans u50.P10, ?_⟩
        have hy : (1 ≤ we a n p - p ∧ we a n p - p ≤ 6) ∧ wo a n p = -1 := by omega
        have q5 := s5P_11 u50
        rw [naS_y hy]
        refine ⟨⟨hP9, by rw [q5.1, t8.1]; omega, by rw [w50]⟩, ?_, fun q hq r hr => ?_⟩
        · show fnL S a _ _ _ = fnL S a _ _ _
          have e9 := hS 1 (by decide) (by decide)
          rw [show (1006 : Int) + 1 = 1007 from rfl] at e9
          rw [v50, w50, e8, e9]
        · cases hq
          exact ⟨w50, hy.1.1, hy.1.2, v50⟩
      · skip
        refine bw_aload rfl rfl ?_
        refine bw_push rfl ?_
        refine bw_aload rfl rfl ?_
        refine bw_getI rfl rfl ?_
        refine bw_callVv (e := d - 1) (as := [_, _]) rfl (by omega) rfl rfl (Nat.le_of_ble_eq_true rfl) (Nat.le_of_ble_eq_true rfl) rfl (m_faults hR) (fun M44 hM44 => ?_)
        refine bw_push rfl ?_
        refine bw_ret rfl rfl ?_
        refine ⟨rfl, _, rfl, u10.toP.trans hM44.f5, ?_⟩
        have hn : ¬ ((1 ≤ we a n p - p ∧ we a n p - p ≤ 6) ∧ wo a n p = -1) := by omega
        rw [naS_n hn]
        rw [v10] at hM44
        exact ⟨hM44.RSn hP8 (by rw [t8.1]; omega) (by decide), rfl, fun _ _ q hq => by cases hq⟩
  · skip
    refine bw_push rfl ?_
    refine bw_ret rfl rfl ?_
    obtain ⟨e, rfl, he⟩ := rs_l hz (by omega)
    exact ⟨rfl, _, rfl, s5_refl _ _ _, ⟨hP, he⟩, rfl, fun p hp => by cases hp⟩
theorem owS_f {S a : Int → Int} {n p : Int} {e : Int × Int} (h : (naS S a n (.inr p)).1 = .inl e) : owS S a n (.inr p) = (.inl e, 0) := by
  show owR S a n p = _
  unfold owR
  have h : (naR S a n p).1 = .inl e := h
  rcases q : naR S a n p with ⟨z, v⟩
  rw [q] at h
  have h : z = .inl e := h
  subst h
  rfl
theorem owS_g {S a : Int → Int} {n p q : Int} (h : (naS S a n (.inr p)).1 = .inr q) : owS S a n (.inr p) = if (naS S a n (.inr p)).2 = -1 then (.inl (3, p), 0) else (.inr q, (naS S a n (.inr p)).2) := by
  show owR S a n p = _
  have h : (naR S a n p).1 = .inr q := h
  show _ = if (naR S a n p).2 = -1 then ((.inl (3, p), 0) : Rp × Int) else (.inr q, (naR S a n p).2)
  unfold owR
  rcases w : naR S a n p with ⟨z, v⟩
  rw [w] at h
  have h : z = .inr q := h
  subst h
  rfl
theorem rs_0 {M : abMem} {a : Int → Int} {n : Int} {z : Rp} (h : rs M a n z) : (gI M 567 11 = 0 ↔ ∃ q : Int, z = .inr q) := by
  rcases z with e | p
  · exact ⟨fun h0 => absurd (h.1.symm.trans h0) h.2.2, fun ⟨q, hq⟩ => by cases hq⟩
  · exact ⟨fun _ => ⟨p, rfl⟩, fun _ => h.1⟩
set_option maxRecDepth 20000 in
set_option maxHeartbeats 4000000 in
theorem m_toldLayer {d L : Nat} {M : abMem} {r : abRf} (hR : RF r M) {a : Int → Int} {n : Int} (hP : PS M a n) {z : Rp} (hz : rs M a n z) {S : Int → Int} (hS : SIm (gI M 568) 1006 S) (hl6 : 0 ≤ S 1 ∧ S 1 ≤ 6) (hd : 5 ≤ d) : abW d (0, 0) 163 0 (abEnt (abL 163) [vr (some 567)]) [] (0, 0) (A0 L) M (qI (A0 L) (fun x N => s5 pNo qP M N ∧ RS N a n (owS S a n z).1 ∧ x = (owS S a n z).2)) := by
  have p1 := hP.sz
  have p2 := hP.ok.1
  have p3 := hP.he
  show abW d (0, 0) 163 0 [some (vr (some 567)), none] [] (0, 0) (A0 L) M (qI (A0 L) (fun x N => s5 pNo qP M N ∧ RS N a n (owS S a n z).1 ∧ x = (owS S a n z).2))
  refine bw_aload rfl rfl ?_
  refine bw_callVi (e := d - 1) (as := []) rfl (by omega) rfl rfl (Nat.le_of_ble_eq_true rfl) (Nat.le_of_ble_eq_true rfl) rfl (m_name hR hP hz hS (by omega) (by omega)) (fun r1 M1 hM1 => ?_)
  obtain ⟨u1, v1, w1, x1⟩ := hM1
  have hR := u1.RF hR
  refine bw_istore (ls2 := [_, _]) rfl rfl (Nat.le_of_ble_eq_true rfl) rfl ?_
  refine bw_aload rfl rfl ?_
  refine bw_callVj (e := d - 1) (as := []) rfl (by omega) rfl rfl (Nat.le_of_ble_eq_true rfl) (Nat.le_of_ble_eq_true rfl) rfl (m_goesWell hR) (fun r6 hr6 => ?_)
  refine bw_ifeq rfl (fun c9 => ?_) (fun c9 => ?_)
  · skip
    refine bw_push rfl ?_
    refine bw_iload rfl rfl ?_
    refine bw_callSe (e := d - 1) (as := [_, _]) rfl (by omega) rfl rfl (Nat.le_of_ble_eq_true rfl) (Nat.le_of_ble_eq_true rfl) (m_greater hR) ?_
    refine bw_ret rfl rfl ?_
    have e11 := rs_0 v1.2
    rcases z with e | p
    · have y1 : rs M1 a n (.inl e) := v1.2
      have y2 : r1 = -1 := w1
      have y3 := y1.1
      have y4 := y1.2.2
      first
      | exact ⟨rfl, _, rfl, u1, v1, by rw [y2]; rfl⟩
      | (exfalso; omega)
    · rcases hz2 : (naS S a n (.inr p)).1 with e | q
      · rw [hz2] at v1
        have y3 := v1.2.1
        have y4 := v1.2.2.2
        have y2 : r1 = -1 := by
          rw [w1]
          by_cases hy : (1 ≤ we a n p - p ∧ we a n p - p ≤ 6) ∧ wo a n p = -1
          · rw [naS_y hy] at hz2; cases hz2
          · rw [naS_n hy]
        first
        | (refine ⟨rfl, _, rfl, u1, ?_⟩
           rw [owS_f hz2]
           exact ⟨v1, by rw [y2]; rfl⟩)
        | (exfalso; omega)
      · rw [hz2] at v1
        have y3 := v1.2.1
        have y4 := x1 p rfl q hz2
        have y5 := fnL_in (S := S) (a := a) (z := S 1) (k := p) (m := we a n p - p) hl6.1
        have y6 : -1 ≤ r1 := by
          rw [w1]
          by_cases hy : (1 ≤ we a n p - p ∧ we a n p - p ≤ 6) ∧ wo a n p = -1
          · rw [naS_y hy]; exact y5.1
          · rw [naS_n hy]; exact Int.le_refl _
        first
        | (refine ⟨rfl, _, rfl, u1.trans hM23.f5, ?_⟩
           rw [owS_g hz2, if_pos (by omega)]
           rw [y4.2.2.2] at hM23
           exact ⟨hM23.RSn v1.1 y3 (by decide), by show _ = (0 : Int); omega⟩)
        | (refine ⟨rfl, _, rfl, u1, ?_⟩
           rw [owS_g hz2, if_neg (by omega)]
           exact ⟨v1, by show _ = (naS S a n (.inr p)).2; omega⟩)
        | (exfalso; omega)
  · skip
    refine bw_iload rfl rfl ?_
    refine bw_push rfl ?_
    refine bw_icne rfl (fun c14 => ?_) (fun c14 => ?_)
    · skip
      refine bw_push rfl ?_
      refine bw_iload rfl rfl ?_
      refine bw_callSe (e := d - 1) (as := [_, _]) rfl (by omega) rfl rfl (Nat.le_of_ble_eq_true rfl) (Nat.le_of_ble_eq_true rfl) (m_greater hR) ?_
      refine bw_ret rfl rfl ?_
      have e11 := rs_0 v1.2
      rcases z with e | p
      · have y1 : rs M1 a n (.inl e) := v1.2
        have y2 : r1 = -1 := w1
        have y3 := y1.1
        have y4 := y1.2.2
        first
        | exact ⟨rfl, _, rfl, u1, v1, by rw [y2]; rfl⟩
        | (exfalso; omega)
      · rcases hz2 : (naS S a n (.inr p)).1 with e | q
        · rw [hz2] at v1
          have y3 := v1.2.1
          have y4 := v1.2.2.2
          have y2 : r1 = -1 := by
            rw [w1]
            by_cases hy : (1 ≤ we a n p - p ∧ we a n p - p ≤ 6) ∧ wo a n p = -1
            · rw [naS_y hy] at hz2; cases hz2
            · rw [naS_n hy]
          first
          | (refine ⟨rfl, _, rfl, u1, ?_⟩
             rw [owS_f hz2]
             exact ⟨v1, by rw [y2]; rfl⟩)
          | (exfalso; omega)
        · rw [hz2] at v1
          have y3 := v1.2.1
          have y4 := x1 p rfl q hz2
          have y5 := fnL_in (S := S) (a := a) (z := S 1) (k := p) (m := we a n p - p) hl6.1
          have y6 : -1 ≤ r1 := by
            rw [w1]
            by_cases hy : (1 ≤ we a n p - p ∧ we a n p - p ≤ 6) ∧ wo a n p = -1
            · rw [naS_y hy]; exact y5.1
            · rw [naS_n hy]; exact Int.le_refl _
          first
          | (refine ⟨rfl, _, rfl, u1.trans hM23.f5, ?_⟩
             rw [owS_g hz2, if_pos (by omega)]
             rw [y4.2.2.2] at hM23
             exact ⟨hM23.RSn v1.1 y3 (by decide), by show _ = (0 : Int); omega⟩)
          | (refine ⟨rfl, _, rfl, u1, ?_⟩
             rw [owS_g hz2, if_neg (by omega)]
             exact ⟨v1, by show _ = (naS S a n (.inr p)).2; omega⟩)
          | (exfalso; omega)
    · skip
      refine bw_aload rfl rfl ?_
      refine bw_push rfl ?_
      refine bw_aload rfl rfl ?_
      refine bw_getI rfl rfl ?_
      refine bw_callVv (e := d - 1) (as := [_, _]) rfl (by omega) rfl rfl (Nat.le_of_ble_eq_true rfl) (Nat.le_of_ble_eq_true rfl) rfl (m_faults hR) (fun M23 hM23 => ?_)
      have hR := hM23.f5.RF hR
      refine bw_push rfl ?_
      refine bw_iload rfl rfl ?_
      refine bw_callSe (e := d - 1) (as := [_, _]) rfl (by omega) rfl rfl (Nat.le_of_ble_eq_true rfl) (Nat.le_of_ble_eq_true rfl) (m_greater hR) ?_
      refine bw_ret rfl rfl ?_
      have e11 := rs_0 v1.2
      rcases z with e | p
      · have y1 : rs M1 a n (.inl e) := v1.2
        have y2 : r1 = -1 := w1
        have y3 := y1.1
        have y4 := y1.2.2
        first
        | exact ⟨rfl, _, rfl, u1, v1, by rw [y2]; rfl⟩
        | (exfalso; omega)
      · rcases hz2 : (naS S a n (.inr p)).1 with e | q
        · rw [hz2] at v1
          have y3 := v1.2.1
          have y4 := v1.2.2.2
          have y2 : r1 = -1 := by
            rw [w1]
            by_cases hy : (1 ≤ we a n p - p ∧ we a n p - p ≤ 6) ∧ wo a n p = -1
            · rw [naS_y hy] at hz2; cases hz2
            · rw [naS_n hy]
          first
          | (refine ⟨rfl, _, rfl, u1, ?_⟩
             rw [owS_f hz2]
             exact ⟨v1, by rw [y2]; rfl⟩)
          | (exfalso; omega)
        · rw [hz2] at v1
          have y3 := v1.2.1
          have y4 := x1 p rfl q hz2
          have y5 := fnL_in (S := S) (a := a) (z := S 1) (k := p) (m := we a n p - p) hl6.1
          have y6 : -1 ≤ r1 := by
            rw [w1]
            by_cases hy : (1 ≤ we a n p - p ∧ we a n p - p ≤ 6) ∧ wo a n p = -1
            · rw [naS_y hy]; exact y5.1
            · rw [naS_n hy]; exact Int.le_refl _
          first
          | (refine ⟨rfl, _, rfl, u1.trans hM23.f5, ?_⟩
             rw [owS_g hz2, if_pos (by omega)]
             rw [y4.2.2.2] at hM23
             exact ⟨hM23.RSn v1.1 y3 (by decide), by show _ = (0 : Int); omega⟩)
          | (refine ⟨rfl, _, rfl, u1, ?_⟩
             rw [owS_g hz2, if_neg (by omega)]
             exact ⟨v1, by show _ = (naS S a n (.inr p)).2; omega⟩)
          | (exfalso; omega)
/-- how often -/
noncomputable def tmS (a : Int → Int) (n u : Int) (z : Rp) : Rp × Int := if (takS a n 19 z).2 = 1 then nuS a n 1 96 (takS a n 19 z).1 else ((takS a n 19 z).1, u)
set_option maxRecDepth 20000 in
set_option maxHeartbeats 4000000 in
theorem m_times {d L : Nat} {M : abMem} {r : abRf} (hR : RF r M) {a : Int → Int} {n : Int} (hP : PS M a n) {z : Rp} (hz : rs M a n z) {u : Int} (hd : 5 ≤ d) : abW d (0, 0) 167 0 (abEnt (abL 167) [vr (some 567), vi u]) [] (0, 0) (A0 L) M (qI (A0 L) (fun x N => s5 pNo qP M N ∧ RS N a n (tmS a n u z).1 ∧ x = (tmS a n u z).2)) := by
  have p1 := hP.sz
  have p2 := hP.ok.1
  have p3 := hP.he
  show abW d (0, 0) 167 0 [some (vr (some 567)), some (vi u)] [] (0, 0) (A0 L) M (qI (A0 L) (fun x N => s5 pNo qP M N ∧ RS N a n (tmS a n u z).1 ∧ x = (tmS a n u z).2))
  refine bw_aload rfl rfl ?_
  refine bw_push rfl ?_
  refine bw_callVi (e := d - 1) (as := [_]) rfl (by omega) rfl rfl (Nat.le_of_ble_eq_true rfl) (Nat.le_of_ble_eq_true rfl) rfl (m_takes hR hP hz (by omega)) (fun r3 M3 hM3 => ?_)
  obtain ⟨u3, v3, w3, x3, y3⟩ := hM3
  have hR := u3.RF hR
  refine bw_ifeq rfl (fun c6 => ?_) (fun c6 => ?_)
  · skip
    refine bw_iload rfl rfl ?_
    refine bw_ret rfl rfl ?_
    first
    | (refine ⟨rfl, _, rfl, u3.P10, ?_⟩
       unfold tmS
       rw [if_neg (by omega)]
       exact ⟨v3, rfl⟩)
    | (refine ⟨rfl, _, rfl, u3.P10.trans hM13.1, ?_⟩
       unfold tmS
       rw [if_pos (by omega)]
       exact hM13.2)
  · skip
    refine bw_aload rfl rfl ?_
    refine bw_push rfl ?_
    refine bw_push rfl ?_
    refine bw_callVi (e := d - 1) (as := [_, _]) rfl (by omega) rfl rfl (Nat.le_of_ble_eq_true rfl) (Nat.le_of_ble_eq_true rfl) rfl (m_number hR v3.1 v3.2 (by omega)) (fun r13 M13 hM13 => ?_)
    refine bw_goto rfl ?_
    refine bw_ret rfl rfl ?_
    first
    | (refine ⟨rfl, _, rfl, u3.P10, ?_⟩
       unfold tmS
       rw [if_neg (by omega)]
       exact ⟨v3, rfl⟩)
    | (refine ⟨rfl, _, rfl, u3.P10.trans hM13.1, ?_⟩
       unfold tmS
       rw [if_pos (by omega)]
       exact hM13.2)
