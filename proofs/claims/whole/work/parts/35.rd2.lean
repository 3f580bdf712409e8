theorem PS_N {M N : abMem} {a : Int → Int} {n : Int} (hP : PS M a n) (g : s5 pNo qP M N) (hh : 0 ≤ gI N 567 9 ∧ gI N 567 9 ≤ n) : PS N a n := hP.toP g hh
/-- the reading stands so -/
def RS (M : abMem) (a : Int → Int) (n : Int) (z : Rp) : Prop := PS M a n ∧ rs M a n z
theorem rs_r {M : abMem} {a : Int → Int} {n : Int} {z : Rp} (h : rs M a n z) (h0 : gI M 567 11 = 0) : ∃ p : Int, z = .inr p ∧ sk a n (gI M 567 9) = p := by
  rcases z with e | p
  · exact absurd (h.1.symm.trans h0) h.2.2
  · exact ⟨p, rfl, h.2⟩
theorem rs_l {M : abMem} {a : Int → Int} {n : Int} {z : Rp} (h : rs M a n z) (h0 : gI M 567 11 ≠ 0) : ∃ e : Int × Int, z = .inl e ∧ rs M a n (.inl e) := by
  rcases z with e | p
  · exact ⟨e, rfl, h⟩
  · exact absurd h.1 h0
theorem skM_eq {M N : abMem} {a : Int → Int} {n : Int} (hP : PS M a n) (v : gI N 567 9 = skM M a n) : skM N a n = skM M a n := by
  show sk a n (gI N 567 9) = _
  rw [v]; exact sk_sk hP.ok hP.he
/-- a word is taken, if it stands there -/
noncomputable def takS (a : Int → Int) (n w : Int) : Rp → Rp × Int
  | .inl e => (.inl e, 0)
  | .inr p => if wo a n p = w then (.inr (sk a n (we a n p)), 1) else (.inr p, 0)
theorem tak_y {a : Int → Int} {n w p : Int} (h : wo a n p = w) : takS a n w (.inr p) = (.inr (sk a n (we a n p)), 1) := if_pos h
theorem tak_n {a : Int → Int} {n w p : Int} (h : wo a n p ≠ w) : takS a n w (.inr p) = (.inr p, 0) := if_neg h
theorem tak_01 {a : Int → Int} {n w p : Int} : ((takS a n w (.inr p)).2 = 1 → wo a n p = w) ∧ ((takS a n w (.inr p)).2 = 0 → wo a n p ≠ w) := by
  by_cases q : wo a n p = w
  · rw [tak_y q]; exact ⟨fun _ => q, fun h => by have : (1 : Int) = 0 := h; omega⟩
  · rw [tak_n q]; exact ⟨fun h => by have : (0 : Int) = 1 := h; omega, fun _ => q⟩
theorem dv_in {a : Int → Int} {k e : Int} (h : ∀ j : Int, k ≤ j → j < e → 48 ≤ a j ∧ a j ≤ 57) (h0 : k ≤ e) : (0 ≤ dvF a k (min 3 (e - k)).toNat ∧ dvF a k (min 3 (e - k)).toNat ≤ 999) ∧ (e - k < 3 → dvF a k (min 3 (e - k)).toNat ≤ 99) := by
  obtain ⟨q0, q1, q2, q3⟩ := dvF_in h
  by_cases z3 : 3 ≤ e - k
  · rw [show (min 3 (e - k)).toNat = 3 by omega]; have := q3 z3; omega
  by_cases z2 : 2 ≤ e - k
  · rw [show (min 3 (e - k)).toNat = 2 by omega]; have := q2 z2; omega
  by_cases z1 : 1 ≤ e - k
  · rw [show (min 3 (e - k)).toNat = 1 by omega]; have := q1 z1; omega
  rw [show (min 3 (e - k)).toNat = 0 by omega]; have := q0 (by omega); omega
theorem woS_y {a : Int → Int} {n w p : Int} (h : wo a n p = w) : woS a n w (.inr p) = .inr (sk a n (we a n p)) := if_pos h
theorem woS_n {a : Int → Int} {n w p : Int} (h : wo a n p ≠ w) : woS a n w (.inr p) = .inl (1, p) := if_neg h
theorem siS_y {a : Int → Int} {n w p : Int} (h : a p = w) : siS a n w (.inr p) = .inr (sk a n (p + 1)) := if_pos h
theorem siS_n {a : Int → Int} {n w p : Int} (h : a p ≠ w) : siS a n w (.inr p) = .inl (1, p) := if_neg h
theorem nu_a {a : Int → Int} {n lo hi p : Int} (h : de a n p = p ∨ 3 < de a n p - p) : nuS a n lo hi (.inr p) = (.inl (1, p), lo) := if_pos h
theorem nu_c {a : Int → Int} {n lo hi p : Int} (h : ¬ (de a n p = p ∨ 3 < de a n p - p)) (h2 : ¬ (lo ≤ nv a n p ∧ nv a n p ≤ hi)) : nuS a n lo hi (.inr p) = (.inl (2, p), lo) := (if_neg h).trans (if_pos h2)
theorem nu_d {a : Int → Int} {n lo hi p : Int} (h : ¬ (de a n p = p ∨ 3 < de a n p - p)) (h2 : lo ≤ nv a n p ∧ nv a n p ≤ hi) : nuS a n lo hi (.inr p) = (.inr (sk a n (de a n p)), nv a n p) := (if_neg h).trans (if_neg (fun k => k h2))
theorem fal.RSn {M N : abMem} {k p : Int} {a : Int → Int} {n : Int} (h : fal M k p N) (hP : PS M a n) (h0 : gI M 567 11 = 0) (hk : k ≠ 0) : RS N a n (.inl (k, p)) := ⟨h.ps hP hk, h.new h0 hk⟩
theorem s5P_11 {M N : abMem} (g : s5 pNo q910 M N) : gI N 567 11 = gI M 567 11 ∧ gI N 567 12 = gI M 567 12 := ⟨g.sl 11 (fun k => by rcases k with k | k <;> omega), g.sl 12 (fun k => by rcases k with k | k <;> omega)⟩
theorem s59_11 {M N : abMem} (g : s5 pNo q9 M N) : gI N 567 11 = gI M 567 11 ∧ gI N 567 12 = gI M 567 12 ∧ gI N 567 10 = gI M 567 10 := ⟨g.sl 11 (fun k => by have : (11 : Int) = 9 := k; omega), g.sl 12 (fun k => by have : (12 : Int) = 9 := k; omega), g.sl 10 (fun k => by have : (10 : Int) = 9 := k; omega)⟩
set_option maxRecDepth 20000 in
set_option maxHeartbeats 4000000 in
theorem m_takes {d L : Nat} {M : abMem} {r : abRf} (hR : RF r M) {a : Int → Int} {n : Int} (hP : PS M a n) {z : Rp} (hz : rs M a n z) {w : Int} (hd : 4 ≤ d) : abW d (0, 0) 156 0 (abEnt (abL 156) [vr (some 567), vi w]) [] (0, 0) (A0 L) M (qI (A0 L) (fun x N => s5 pNo q910 M N ∧ RS N a n (takS a n w z).1 ∧ x = (takS a n w z).2 ∧ (x = 0 ∨ x = 1) ∧ (x = 0 → gI M 567 11 = 0 → gI N 567 9 = skM M a n))) := by
  have p1 := hP.sz
  have p2 := hP.ok.1
  have p3 := hP.he
  show abW d (0, 0) 156 0 [some (vr (some 567)), some (vi w)] [] (0, 0) (A0 L) M (qI (A0 L) (fun x N => s5 pNo q910 M N ∧ RS N a n (takS a n w z).1 ∧ x = (takS a n w z).2 ∧ (x = 0 ∨ x = 1) ∧ (x = 0 → gI M 567 11 = 0 → gI N 567 9 = skM M a n)))
  refine bw_aload rfl rfl ?_
  refine bw_callVj (e := d - 1) (as := []) rfl (by omega) rfl rfl (Nat.le_of_ble_eq_true rfl) (Nat.le_of_ble_eq_true rfl) rfl (m_goesWell hR) (fun r1 hr1 => ?_)
  refine bw_ifeq rfl (fun c4 => ?_) (fun c4 => ?_)
  · skip
    refine bw_push rfl ?_
    refine bw_retz rfl rfl (by omega) ?_
    first
    | (obtain ⟨e, rfl, he⟩ := rs_l hz (by omega)
       exact ⟨rfl, _, rfl, s5_refl _ _ _, ⟨hP, he⟩, rfl, Or.inl rfl, fun _ h => by omega⟩)
    | (refine ⟨rfl, _, rfl, u8.to910, ?_⟩
       rw [tak_n (by omega)]
       exact ⟨⟨hP8, by rw [t8.1]; omega, e8⟩, rfl, Or.inl rfl, fun _ _ => v8⟩)
    | (refine ⟨rfl, _, rfl, u8.to910.trans u18, ?_⟩
       have q := s5P_11 u18
       rw [tak_y (by omega)]
       exact ⟨⟨hP8.toP u18.P10 (by rw [w18]; omega), by rw [q.1, t8.1]; omega, by rw [w18, e8]⟩, rfl, Or.inr rfl, fun h => by omega⟩)
  · skip
    refine bw_aload rfl rfl ?_
    refine bw_callVi (e := d - 1) (as := []) rfl (by omega) rfl rfl (Nat.le_of_ble_eq_true rfl) (Nat.le_of_ble_eq_true rfl) rfl (m_comes hR hP (by omega)) (fun r8 M8 hM8 => ?_)
    obtain ⟨u8, v8, w8⟩ := hM8
    have hR := u8.RF hR
    obtain ⟨p, rfl, hp⟩ := rs_r hz (by omega)
    have s8 := skM_in hP
    have hP8 := hP.to9 u8 (by rw [v8]; exact ⟨s8.1, s8.2.1⟩)
    have e8 : skM M8 a n = p := (skM_eq hP v8).trans hp
    have t8 := s59_11 u8
    have w8 : r8 = wo a n p := w8.trans (congrArg _ hp)
    refine bw_iload rfl rfl ?_
    refine bw_iceq rfl (fun c12 => ?_) (fun c12 => ?_)
    · skip
      refine bw_aload rfl rfl ?_
      refine bw_callVv (e := d - 1) (as := []) rfl (by omega) rfl rfl (Nat.le_of_ble_eq_true rfl) (Nat.le_of_ble_eq_true rfl) rfl (m_passes hR hP8 (by omega)) (fun M18 hM18 => ?_)
      obtain ⟨u18, v18, w18⟩ := hM18
      have s18 := skM_in hP8
      have s19 := we_in hP.ok (k := skM M8 a n) ⟨s18.1, s18.2.1⟩
      refine bw_push rfl ?_
      refine bw_retz rfl rfl (by omega) ?_
      first
      | (obtain ⟨e, rfl, he⟩ := rs_l hz (by omega)
         exact ⟨rfl, _, rfl, s5_refl _ _ _, ⟨hP, he⟩, rfl, Or.inl rfl, fun _ h => by omega⟩)
      | (refine ⟨rfl, _, rfl, u8.to910, ?_⟩
         rw [tak_n (by omega)]
         exact ⟨⟨hP8, by rw [t8.1]; omega, e8⟩, rfl, Or.inl rfl, fun _ _ => v8⟩)
      | (refine ⟨rfl, _, rfl, u8.to910.trans u18, ?_⟩
         have q := s5P_11 u18
         rw [tak_y (by omega)]
         exact ⟨⟨hP8.toP u18.P10 (by rw [w18]; omega), by rw [q.1, t8.1]; omega, by rw [w18, e8]⟩, rfl, Or.inr rfl, fun h => by omega⟩)
    · skip
      refine bw_push rfl ?_
      refine bw_retz rfl rfl (by omega) ?_
      first
      | (obtain ⟨e, rfl, he⟩ := rs_l hz (by omega)
         exact ⟨rfl, _, rfl, s5_refl _ _ _, ⟨hP, he⟩, rfl, Or.inl rfl, fun _ h => by omega⟩)
      | (refine ⟨rfl, _, rfl, u8.to910, ?_⟩
         rw [tak_n (by omega)]
         exact ⟨⟨hP8, by rw [t8.1]; omega, e8⟩, rfl, Or.inl rfl, fun _ _ => v8⟩)
      | (refine ⟨rfl, _, rfl, u8.to910.trans u18, ?_⟩
         have q := s5P_11 u18
         rw [tak_y (by omega)]
         exact ⟨⟨hP8.toP u18.P10 (by rw [w18]; omega), by rw [q.1, t8.1]; omega, by rw [w18, e8]⟩, rfl, Or.inr rfl, fun h => by omega⟩)
set_option maxRecDepth 20000 in
set_option maxHeartbeats 4000000 in
theorem m_must {d L : Nat} {M : abMem} {r : abRf} (hR : RF r M) {a : Int → Int} {n : Int} (hP : PS M a n) {z : Rp} (hz : rs M a n z) {w : Int} (hd : 5 ≤ d) : abW d (0, 0) 157 0 (abEnt (abL 157) [vr (some 567), vi w]) [] (0, 0) (A0 L) M (qV (A0 L) (fun N => s5 pNo qP M N ∧ RS N a n (woS a n w z))) := by
  have p1 := hP.sz
  have p2 := hP.ok.1
  have p3 := hP.he
  show abW d (0, 0) 157 0 [some (vr (some 567)), some (vi w)] [] (0, 0) (A0 L) M (qV (A0 L) (fun N => s5 pNo qP M N ∧ RS N a n (woS a n w z)))
  refine bw_aload rfl rfl ?_
  refine bw_callVj (e := d - 1) (as := []) rfl (by omega) rfl rfl (Nat.le_of_ble_eq_true rfl) (Nat.le_of_ble_eq_true rfl) rfl (m_goesWell hR) (fun r1 hr1 => ?_)
  refine bw_ifeq rfl (fun c4 => ?_) (fun c4 => ?_)
  · skip
    refine bw_retv rfl rfl ?_
    first
    | (obtain ⟨e, rfl, he⟩ := rs_l hz (by omega)
       exact ⟨rfl, rfl, s5_refl _ _ _, hP, he⟩)
    | (refine ⟨rfl, rfl, u9.P10.trans hM21.f5, ?_⟩
       have h9 := ez.2 (by omega)
       rw [woS_n h9, show p = gI M9 567 9 by rw [y9 (by omega) (by omega)]; exact hp.symm]
       exact hM21.RSn v9.1 (by rw [q9.1]; omega) (by decide))
    | (refine ⟨rfl, rfl, u9.P10, ?_⟩
       have h9 := ez.1 (by omega)
       rw [tak_y h9] at v9
       rw [woS_y h9]
       exact v9)
  · skip
    refine bw_aload rfl rfl ?_
    refine bw_iload rfl rfl ?_
    refine bw_callVi (e := d - 1) (as := [_]) rfl (by omega) rfl rfl (Nat.le_of_ble_eq_true rfl) (Nat.le_of_ble_eq_true rfl) rfl (m_takes hR hP hz (by omega)) (fun r9 M9 hM9 => ?_)
    obtain ⟨u9, v9, w9, x9, y9⟩ := hM9
    have hR := u9.RF hR
    obtain ⟨p, rfl, hp⟩ := rs_r hz (by omega)
    have q9 := s5P_11 u9
    have ez := tak_01 (a := a) (n := n) (w := w) (p := p)
    refine bw_ifne rfl (fun c12 => ?_) (fun c12 => ?_)
    · skip
      refine bw_retv rfl rfl ?_
      first
      | (obtain ⟨e, rfl, he⟩ := rs_l hz (by omega)
         exact ⟨rfl, rfl, s5_refl _ _ _, hP, he⟩)
      | (refine ⟨rfl, rfl, u9.P10.trans hM21.f5, ?_⟩
         have h9 := ez.2 (by omega)
         rw [woS_n h9, show p = gI M9 567 9 by rw [y9 (by omega) (by omega)]; exact hp.symm]
         exact hM21.RSn v9.1 (by rw [q9.1]; omega) (by decide))
      | (refine ⟨rfl, rfl, u9.P10, ?_⟩
         have h9 := ez.1 (by omega)
         rw [tak_y h9] at v9
         rw [woS_y h9]
         exact v9)
    · skip
      refine bw_aload rfl rfl ?_
      refine bw_push rfl ?_
      refine bw_aload rfl rfl ?_
      refine bw_getI rfl rfl ?_
      refine bw_callVv (e := d - 1) (as := [_, _]) rfl (by omega) rfl rfl (Nat.le_of_ble_eq_true rfl) (Nat.le_of_ble_eq_true rfl) rfl (m_faults hR) (fun M21 hM21 => ?_)
      refine bw_retv rfl rfl ?_
      first
      | (obtain ⟨e, rfl, he⟩ := rs_l hz (by omega)
         exact ⟨rfl, rfl, s5_refl _ _ _, hP, he⟩)
      | (refine ⟨rfl, rfl, u9.P10.trans hM21.f5, ?_⟩
         have h9 := ez.2 (by omega)
         rw [woS_n h9, show p = gI M9 567 9 by rw [y9 (by omega) (by omega)]; exact hp.symm]
         exact hM21.RSn v9.1 (by rw [q9.1]; omega) (by decide))
      | (refine ⟨rfl, rfl, u9.P10, ?_⟩
         have h9 := ez.1 (by omega)
         rw [tak_y h9] at v9
         rw [woS_y h9]
         exact v9)
set_option maxRecDepth 20000 in
set_option maxHeartbeats 4000000 in
theorem m_mustSign {d L : Nat} {M : abMem} {r : abRf} (hR : RF r M) {a : Int → Int} {n : Int} (hP : PS M a n) {z : Rp} (hz : rs M a n z) {c : Int} (hc : 0 ≤ c) (hd : 3 ≤ d) : abW d (0, 0) 158 0 (abEnt (abL 158) [vr (some 567), vi c]) [] (0, 0) (A0 L) M (qV (A0 L) (fun N => s5 pNo qP M N ∧ RS N a n (siS a n c z))) := by
  have p1 := hP.sz
  have p2 := hP.ok.1
  have p3 := hP.he
  show abW d (0, 0) 158 0 [some (vr (some 567)), some (vi c)] [] (0, 0) (A0 L) M (qV (A0 L) (fun N => s5 pNo qP M N ∧ RS N a n (siS a n c z)))
  refine bw_aload rfl rfl ?_
  refine bw_callVj (e := d - 1) (as := []) rfl (by omega) rfl rfl (Nat.le_of_ble_eq_true rfl) (Nat.le_of_ble_eq_true rfl) rfl (m_goesWell hR) (fun r1 hr1 => ?_)
  refine bw_ifne rfl (fun c4 => ?_) (fun c4 => ?_)
  · skip
    refine bw_aload rfl rfl ?_
    refine bw_callVi (e := d - 1) (as := []) rfl (by omega) rfl rfl (Nat.le_of_ble_eq_true rfl) (Nat.le_of_ble_eq_true rfl) rfl (m_sees hR hP (by omega)) (fun r9 M9 hM9 => ?_)
    obtain ⟨u9, v9, w9⟩ := hM9
    have hR := u9.RF hR
    obtain ⟨p, rfl, hp⟩ := rs_r hz (by omega)
    have s8 := skM_in hP
    have hP8 := hP.to9 u9 (by rw [v9]; exact ⟨s8.1, s8.2.1⟩)
    have t8 := s59_11 u9
    rw [hp] at v9 w9
    have p9 := hP8.he
    refine bw_iload rfl rfl ?_
    refine bw_icne rfl (fun c13 => ?_) (fun c13 => ?_)
    · skip
      refine bw_aload rfl rfl ?_
      refine bw_push rfl ?_
      refine bw_aload rfl rfl ?_
      refine bw_getI rfl rfl ?_
      refine bw_callVv (e := d - 1) (as := [_, _]) rfl (by omega) rfl rfl (Nat.le_of_ble_eq_true rfl) (Nat.le_of_ble_eq_true rfl) rfl (m_faults hR) (fun M35 hM35 => ?_)
      refine bw_retv rfl rfl ?_
      first
      | (obtain ⟨e, rfl, he⟩ := rs_l hz (by omega)
         exact ⟨rfl, rfl, s5_refl _ _ _, hP, he⟩)
      | (refine ⟨rfl, rfl, u9.toP.trans hM35.f5, ?_⟩
         rw [siS_n (by omega), show p = gI M9 567 9 from v9.symm]
         exact hM35.RSn hP8 (by rw [t8.1]; omega) (by decide))
      | (refine ⟨rfl, rfl, u9.toP.sI7 9 _ (Or.inl rfl), ?_⟩
         rw [siS_y (by omega)]
         exact ⟨hP.toP (u9.toP.sI7 9 _ (Or.inl rfl)) (by rw [gI_sI_eq]; omega), by rw [gI_sI_nj (by decide), t8.1]; omega, by rw [gI_sI_eq, v9]⟩)
    · skip
      refine bw_aload rfl rfl ?_
      first | refine bw_dup rfl ?_ | refine bw_dupi rfl ?_
      refine bw_getI rfl rfl ?_
      refine bw_push rfl ?_
      refine bw_iadd rfl ⟨by omega, by omega⟩ ?_
      have k9 := in_of hP.ok (k := p) (by omega)
      refine bw_putI rfl rfl ?_
      refine bw_goto rfl ?_
      refine bw_retv rfl rfl ?_
      first
      | (obtain ⟨e, rfl, he⟩ := rs_l hz (by omega)
         exact ⟨rfl, rfl, s5_refl _ _ _, hP, he⟩)
      | (refine ⟨rfl, rfl, u9.toP.trans hM35.f5, ?_⟩
         rw [siS_n (by omega), show p = gI M9 567 9 from v9.symm]
         exact hM35.RSn hP8 (by rw [t8.1]; omega) (by decide))
      | (refine ⟨rfl, rfl, u9.toP.sI7 9 _ (Or.inl rfl), ?_⟩
         rw [siS_y (by omega)]
         exact ⟨hP.toP (u9.toP.sI7 9 _ (Or.inl rfl)) (by rw [gI_sI_eq]; omega), by rw [gI_sI_nj (by decide), t8.1]; omega, by rw [gI_sI_eq, v9]⟩)
  · skip
    refine bw_retv rfl rfl ?_
    first
    | (obtain ⟨e, rfl, he⟩ := rs_l hz (by omega)
       exact ⟨rfl, rfl, s5_refl _ _ _, hP, he⟩)
    | (refine ⟨rfl, rfl, u9.toP.trans hM35.f5, ?_⟩
       rw [siS_n (by omega), show p = gI M9 567 9 from v9.symm]
       exact hM35.RSn hP8 (by rw [t8.1]; omega) (by decide))
    | (refine ⟨rfl, rfl, u9.toP.sI7 9 _ (Or.inl rfl), ?_⟩
       rw [siS_y (by omega)]
       exact ⟨hP.toP (u9.toP.sI7 9 _ (Or.inl rfl)) (by rw [gI_sI_eq]; omega), by rw [gI_sI_nj (by decide), t8.1]; omega, by rw [gI_sI_eq, v9]⟩)
set_option maxRecDepth 20000 in
set_option maxHeartbeats 4000000 in
theorem m_number {d L : Nat} {M : abMem} {r : abRf} (hR : RF r M) {a : Int → Int} {n : Int} (hP : PS M a n) {z : Rp} (hz : rs M a n z) {lo hi : Int} (hd : 3 ≤ d) : abW d (0, 0) 159 0 (abEnt (abL 159) [vr (some 567), vi lo, vi hi]) [] (0, 0) (A0 L) M (qI (A0 L) (fun x N => s5 pNo qP M N ∧ RS N a n (nuS a n lo hi z).1 ∧ x = (nuS a n lo hi z).2)) := by
  have p1 := hP.sz
  have p2 := hP.ok.1
  have p3 := hP.he
  have L46 : ∀ (kf : Nat) (N : abMem) (v p : Int), (s5 pNo qP M N) → (gI N 567 10 = p) → (gI N 567 11 = 0) → (p ≤ gI N 567 9 ∧ gI N 567 9 ≤ n ∧ 0 ≤ p ∧ de a n p ≠ p) → (de a n (gI N 567 9) = de a n p ∧ z = .inr p) → (v = dvF a p (min 3 (gI N 567 9 - p)).toNat) → (∀ j : Int, p ≤ j → j < gI N 567 9 → 48 ≤ a j ∧ a j ≤ 57) → ((n - gI N 567 9).toNat) < kf → abW d (0, 0) 159 46 [some (vr (some 567)), some (vi lo), some (vi hi), some (vi v)] [] (0, 0) (A0 L) (N) (qI (A0 L) (fun x N => s5 pNo qP M N ∧ RS N a n (nuS a n lo hi z).1 ∧ x = (nuS a n lo hi z).2)) := by
    intro kf
    induction kf with
    | zero => intro N  v p  g1 g2 g3 g4 g5 g6 g7 hm9; exact absurd hm9 (Nat.not_lt_zero _)
    | succ kf ih46 =>
      intro N  v p  g1 g2 g3 g4 g5 g6 g7 hm46
      have ih := ih46
      have hRo := hR
      have hR := g1.RF hR
      have hPN := hP.toP g1 (by omega)
      have dv := dv_in (k := p) (e := gI N 567 9) g7 (by omega)
      obtain ⟨g5, rfl⟩ := g5
      refine bw_aload rfl rfl ?_
      refine bw_aload rfl rfl ?_
      refine bw_getI rfl rfl ?_
      refine bw_callVj (e := d - 1) (as := [_]) rfl (by omega) rfl rfl (Nat.le_of_ble_eq_true rfl) (Nat.le_of_ble_eq_true rfl) rfl (m_isDigit hR hPN (by omega) (by omega)) (fun r51 hr51 => ?_)
      refine bw_ifeq rfl (fun c54 => ?_) (fun c54 => ?_)
      · skip
        refine bw_aload rfl rfl ?_
        refine bw_getI rfl rfl ?_
        refine bw_aload rfl rfl ?_
        refine bw_getI rfl rfl ?_
        refine bw_isub rfl ⟨by omega, by omega⟩ ?_
        refine bw_push rfl ?_
        refine bw_icle rfl (fun c114 => ?_) (fun c114 => ?_)
        · skip
          refine bw_iload rfl rfl ?_
          refine bw_iload rfl rfl ?_
          refine bw_iload rfl rfl ?_
          refine bw_callSj (e := d - 1) (as := [_, _, _]) rfl (by omega) rfl rfl (Nat.le_of_ble_eq_true rfl) (Nat.le_of_ble_eq_true rfl) (m_isIn hR) (fun r129 hr129 => ?_)
          refine bw_ifne rfl (fun c132 => ?_) (fun c132 => ?_)
          · skip
            refine bw_aload rfl rfl ?_
            refine bw_callVj (e := d - 1) (as := []) rfl (by omega) rfl rfl (Nat.le_of_ble_eq_true rfl) (Nat.le_of_ble_eq_true rfl) rfl (m_goesWell hR) (fun r145 hr145 => ?_)
            refine bw_ifeq rfl (fun c148 => ?_) (fun c148 => ?_)
            · skip
              refine bw_iload rfl rfl ?_
              refine bw_ret rfl rfl ?_
              have ed : de a n p = gI N 567 9 := by rw [← g5]; exact rn_f (pDg_f.mpr (by omega))
              have en : nv a n p = v := by unfold nv; rw [ed, ← g6]
              first
              | (refine ⟨rfl, _, rfl, g1, ?_⟩
                 rw [nu_d (by omega) (by omega), ed, en]
                 exact ⟨⟨hPN, g3, rfl⟩, rfl⟩)
              | (exfalso; omega)
              | (refine ⟨rfl, _, rfl, (g1.trans hM123.f5).trans hM141.f5, ?_⟩
                 rw [nu_a (by omega), ← g2]
                 exact ⟨⟨hM141.ps b123.1, hM141.old b123.2⟩, rfl⟩)
              | (refine ⟨rfl, _, rfl, g1.trans hM123.f5, ?_⟩
                 rw [nu_a (by omega), ← g2]
                 exact ⟨b123, rfl⟩)
              | (refine ⟨rfl, _, rfl, g1.trans hM141.f5, ?_⟩
                 rw [nu_c (by omega) (by omega), ← g2]
                 exact ⟨hM141.RSn hPN g3 (by decide), rfl⟩)
              | (exfalso; have := (hM141.RSn (a := a) (n := n) hPN g3 (by decide)).2.1; omega)
              | (exfalso; have := (hM141.old b123.2).1; omega)
            · skip
              refine bw_iload rfl rfl ?_
              refine bw_goto rfl ?_
              refine bw_ret rfl rfl ?_
              have ed : de a n p = gI N 567 9 := by rw [← g5]; exact rn_f (pDg_f.mpr (by omega))
              have en : nv a n p = v := by unfold nv; rw [ed, ← g6]
              first
              | (refine ⟨rfl, _, rfl, g1, ?_⟩
                 rw [nu_d (by omega) (by omega), ed, en]
                 exact ⟨⟨hPN, g3, rfl⟩, rfl⟩)
              | (exfalso; omega)
              | (refine ⟨rfl, _, rfl, (g1.trans hM123.f5).trans hM141.f5, ?_⟩
                 rw [nu_a (by omega), ← g2]
                 exact ⟨⟨hM141.ps b123.1, hM141.old b123.2⟩, rfl⟩)
              | (refine ⟨rfl, _, rfl, g1.trans hM123.f5, ?_⟩
                 rw [nu_a (by omega), ← g2]
                 exact ⟨b123, rfl⟩)
              | (refine ⟨rfl, _, rfl, g1.trans hM141.f5, ?_⟩
                 rw [nu_c (by omega) (by omega), ← g2]
                 exact ⟨hM141.RSn hPN g3 (by decide), rfl⟩)
              | (exfalso; have := (hM141.RSn (a := a) (n := n) hPN g3 (by decide)).2.1; omega)
              | (exfalso; have := (hM141.old b123.2).1; omega)
          · skip
            refine bw_aload rfl rfl ?_
            refine bw_push rfl ?_
            refine bw_aload rfl rfl ?_
            refine bw_getI rfl rfl ?_
            refine bw_callVv (e := d - 1) (as := [_, _]) rfl (by omega) rfl rfl (Nat.le_of_ble_eq_true rfl) (Nat.le_of_ble_eq_true rfl) rfl (m_faults (by assumption)) (fun M141 hM141 => ?_)
            have hR := hM141.f5.RF hR
            refine bw_aload rfl rfl ?_
            refine bw_callVj (e := d - 1) (as := []) rfl (by omega) rfl rfl (Nat.le_of_ble_eq_true rfl) (Nat.le_of_ble_eq_true rfl) rfl (m_goesWell hR) (fun r145 hr145 => ?_)
            refine bw_ifeq rfl (fun c148 => ?_) (fun c148 => ?_)
            · skip
              refine bw_iload rfl rfl ?_
              refine bw_ret rfl rfl ?_
              have ed : de a n p = gI N 567 9 := by rw [← g5]; exact rn_f (pDg_f.mpr (by omega))
              have en : nv a n p = v := by unfold nv; rw [ed, ← g6]
              first
              | (refine ⟨rfl, _, rfl, g1, ?_⟩
                 rw [nu_d (by omega) (by omega), ed, en]
                 exact ⟨⟨hPN, g3, rfl⟩, rfl⟩)
              | (exfalso; omega)
              | (refine ⟨rfl, _, rfl, (g1.trans hM123.f5).trans hM141.f5, ?_⟩
                 rw [nu_a (by omega), ← g2]
                 exact ⟨⟨hM141.ps b123.1, hM141.old b123.2⟩, rfl⟩)
              | (refine ⟨rfl, _, rfl, g1.trans hM123.f5, ?_⟩
                 rw [nu_a (by omega), ← g2]
                 exact ⟨b123, rfl⟩)
              | (refine ⟨rfl, _, rfl, g1.trans hM141.f5, ?_⟩
                 rw [nu_c (by omega) (by omega), ← g2]
                 exact ⟨hM141.RSn hPN g3 (by decide), rfl⟩)
              | (exfalso; have := (hM141.RSn (a := a) (n := n) hPN g3 (by decide)).2.1; omega)
              | (exfalso; have := (hM141.old b123.2).1; omega)
            · skip
              refine bw_iload rfl rfl ?_
              refine bw_goto rfl ?_
              refine bw_ret rfl rfl ?_
              have ed : de a n p = gI N 567 9 := by rw [← g5]; exact rn_f (pDg_f.mpr (by omega))
              have en : nv a n p = v := by unfold nv; rw [ed, ← g6]
              first
              | (refine ⟨rfl, _, rfl, g1, ?_⟩
                 rw [nu_d (by omega) (by omega), ed, en]
                 exact ⟨⟨hPN, g3, rfl⟩, rfl⟩)
              | (exfalso; omega)
              | (refine ⟨rfl, _, rfl, (g1.trans hM123.f5).trans hM141.f5, ?_⟩
                 rw [nu_a (by omega), ← g2]
                 exact ⟨⟨hM141.ps b123.1, hM141.old b123.2⟩, rfl⟩)
              | (refine ⟨rfl, _, rfl, g1.trans hM123.f5, ?_⟩
                 rw [nu_a (by omega), ← g2]
                 exact ⟨b123, rfl⟩)
              | (refine ⟨rfl, _, rfl, g1.trans hM141.f5, ?_⟩
                 rw [nu_c (by omega) (by omega), ← g2]
                 exact ⟨hM141.RSn hPN g3 (by decide), rfl⟩)
              | (exfalso; have := (hM141.RSn (a := a) (n := n) hPN g3 (by decide)).2.1; omega)
              | (exfalso; have := (hM141.old b123.2).1; omega)
        · skip
          refine bw_aload rfl rfl ?_
          refine bw_push rfl ?_
          refine bw_aload rfl rfl ?_
          refine bw_getI rfl rfl ?_
          refine bw_callVv (e := d - 1) (as := [_, _]) rfl (by omega) rfl rfl (Nat.le_of_ble_eq_true rfl) (Nat.le_of_ble_eq_true rfl) rfl (m_faults hR) (fun M123 hM123 => ?_)
          have hR := hM123.f5.RF hR
          have b123 := hM123.RSn (a := a) (n := n) hPN g3 (by decide)
          have f123 := b123.2.1
          have i123 := hM123.he
          refine bw_iload rfl rfl ?_
          refine bw_iload rfl rfl ?_
          refine bw_iload rfl rfl ?_
          refine bw_callSj (e := d - 1) (as := [_, _, _]) rfl (by omega) rfl rfl (Nat.le_of_ble_eq_true rfl) (Nat.le_of_ble_eq_true rfl) (m_isIn hR) (fun r129 hr129 => ?_)
          refine bw_ifne rfl (fun c132 => ?_) (fun c132 => ?_)
          · skip
            refine bw_aload rfl rfl ?_
            refine bw_callVj (e := d - 1) (as := []) rfl (by omega) rfl rfl (Nat.le_of_ble_eq_true rfl) (Nat.le_of_ble_eq_true rfl) rfl (m_goesWell hR) (fun r145 hr145 => ?_)
            refine bw_ifeq rfl (fun c148 => ?_) (fun c148 => ?_)
            · skip
              refine bw_iload rfl rfl ?_
              refine bw_ret rfl rfl ?_
              have ed : de a n p = gI N 567 9 := by rw [← g5]; exact rn_f (pDg_f.mpr (by omega))
              have en : nv a n p = v := by unfold nv; rw [ed, ← g6]
              first
              | (refine ⟨rfl, _, rfl, g1, ?_⟩
                 rw [nu_d (by omega) (by omega), ed, en]
                 exact ⟨⟨hPN, g3, rfl⟩, rfl⟩)
              | (exfalso; omega)
              | (refine ⟨rfl, _, rfl, (g1.trans hM123.f5).trans hM141.f5, ?_⟩
                 rw [nu_a (by omega), ← g2]
                 exact ⟨⟨hM141.ps b123.1, hM141.old b123.2⟩, rfl⟩)
              | (refine ⟨rfl, _, rfl, g1.trans hM123.f5, ?_⟩
                 rw [nu_a (by omega), ← g2]
                 exact ⟨b123, rfl⟩)
              | (refine ⟨rfl, _, rfl, g1.trans hM141.f5, ?_⟩
                 rw [nu_c (by omega) (by omega), ← g2]
                 exact ⟨hM141.RSn hPN g3 (by decide), rfl⟩)
              | (exfalso; have := (hM141.RSn (a := a) (n := n) hPN g3 (by decide)).2.1; omega)
              | (exfalso; have := (hM141.old b123.2).1; omega)
            · skip
              refine bw_iload rfl rfl ?_
              refine bw_goto rfl ?_
              refine bw_ret rfl rfl ?_
              have ed : de a n p = gI N 567 9 := by rw [← g5]; exact rn_f (pDg_f.mpr (by omega))
              have en : nv a n p = v := by unfold nv; rw [ed, ← g6]
              first
              | (refine ⟨rfl, _, rfl, g1, ?_⟩
                 rw [nu_d (by omega) (by omega), ed, en]
                 exact ⟨⟨hPN, g3, rfl⟩, rfl⟩)
              | (exfalso; omega)
              | (refine ⟨rfl, _, rfl, (g1.trans hM123.f5).trans hM141.f5, ?_⟩
                 rw [nu_a (by omega), ← g2]
                 exact ⟨⟨hM141.ps b123.1, hM141.old b123.2⟩, rfl⟩)
              | (refine ⟨rfl, _, rfl, g1.trans hM123.f5, ?_⟩
                 rw [nu_a (by omega), ← g2]
                 exact ⟨b123, rfl⟩)
              | (refine ⟨rfl, _, rfl, g1.trans hM141.f5, ?_⟩
                 rw [nu_c (by omega) (by omega), ← g2]
                 exact ⟨hM141.RSn hPN g3 (by decide), rfl⟩)
              | (exfalso; have := (hM141.RSn (a := a) (n := n) hPN g3 (by decide)).2.1; omega)
              | (exfalso; have := (hM141.old b123.2).1; omega)
          · skip
            refine bw_aload rfl rfl ?_
            refine bw_push rfl ?_
            refine bw_aload rfl rfl ?_
            refine bw_getI rfl rfl ?_
            refine bw_callVv (e := d - 1) (as := [_, _]) rfl (by omega) rfl rfl (Nat.le_of_ble_eq_true rfl) (Nat.le_of_ble_eq_true rfl) rfl (m_faults (by assumption)) (fun M141 hM141 => ?_)
            have hR := hM141.f5.RF hR
            refine bw_aload rfl rfl ?_
            refine bw_callVj (e := d - 1) (as := []) rfl (by omega) rfl rfl (Nat.le_of_ble_eq_true rfl) (Nat.le_of_ble_eq_true rfl) rfl (m_goesWell hR) (fun r145 hr145 => ?_)
            refine bw_ifeq rfl (fun c148 => ?_) (fun c148 => ?_)
            · skip
              refine bw_iload rfl rfl ?_
              refine bw_ret rfl rfl ?_
              have ed : de a n p = gI N 567 9 := by rw [← g5]; exact rn_f (pDg_f.mpr (by omega))
              have en : nv a n p = v := by unfold nv; rw [ed, ← g6]
              first
              | (refine ⟨rfl, _, rfl, g1, ?_⟩
                 rw [nu_d (by omega) (by omega), ed, en]
                 exact ⟨⟨hPN, g3, rfl⟩, rfl⟩)
              | (exfalso; omega)
              | (refine ⟨rfl, _, rfl, (g1.trans hM123.f5).trans hM141.f5, ?_⟩
                 rw [nu_a (by omega), ← g2]
                 exact ⟨⟨hM141.ps b123.1, hM141.old b123.2⟩, rfl⟩)
              | (refine ⟨rfl, _, rfl, g1.trans hM123.f5, ?_⟩
                 rw [nu_a (by omega), ← g2]
                 exact ⟨b123, rfl⟩)
              | (refine ⟨rfl, _, rfl, g1.trans hM141.f5, ?_⟩
                 rw [nu_c (by omega) (by omega), ← g2]
                 exact ⟨hM141.RSn hPN g3 (by decide), rfl⟩)
              | (exfalso; have := (hM141.RSn (a := a) (n := n) hPN g3 (by decide)).2.1; omega)
              | (exfalso; have := (hM141.old b123.2).1; omega)
            · skip
              refine bw_iload rfl rfl ?_
              refine bw_goto rfl ?_
              refine bw_ret rfl rfl ?_
              have ed : de a n p = gI N 567 9 := by rw [← g5]; exact rn_f (pDg_f.mpr (by omega))
              have en : nv a n p = v := by unfold nv; rw [ed, ← g6]
              first
              | (refine ⟨rfl, _, rfl, g1, ?_⟩
                 rw [nu_d (by omega) (by omega), ed, en]
                 exact ⟨⟨hPN, g3, rfl⟩, rfl⟩)
              | (exfalso; omega)
              | (refine ⟨rfl, _, rfl, (g1.trans hM123.f5).trans hM141.f5, ?_⟩
                 rw [nu_a (by omega), ← g2]
                 exact ⟨⟨hM141.ps b123.1, hM141.old b123.2⟩, rfl⟩)
              | (refine ⟨rfl, _, rfl, g1.trans hM123.f5, ?_⟩
                 rw [nu_a (by omega), ← g2]
                 exact ⟨b123, rfl⟩)
              | (refine ⟨rfl, _, rfl, g1.trans hM141.f5, ?_⟩
                 rw [nu_c (by omega) (by omega), ← g2]
                 exact ⟨hM141.RSn hPN g3 (by decide), rfl⟩)
              | (exfalso; have := (hM141.RSn (a := a) (n := n) hPN g3 (by decide)).2.1; omega)
              | (exfalso; have := (hM141.old b123.2).1; omega)
      · skip
        refine bw_aload rfl rfl ?_
        refine bw_getI rfl rfl ?_
        refine bw_aload rfl rfl ?_
        refine bw_getI rfl rfl ?_
        rw [g2]
        refine bw_isub rfl ⟨by omega, by omega⟩ ?_
        refine bw_push rfl ?_
        refine bw_icge rfl (fun c67 => ?_) (fun c67 => ?_)
        · skip
          refine bw_iload rfl rfl ?_
          refine bw_istore (ls2 := [_, _, _, _]) rfl rfl (Nat.le_of_ble_eq_true rfl) rfl ?_
          refine bw_aload rfl rfl ?_
          first | refine bw_dup rfl ?_ | refine bw_dupi rfl ?_
          refine bw_getI rfl rfl ?_
          refine bw_push rfl ?_
          refine bw_iadd rfl ⟨by omega, by omega⟩ ?_
          refine bw_putI rfl rfl ?_
          refine bw_goto rfl ?_
          have hb : pDg (a (gI N 567 9)) = true := pDg_t.mpr (by omega)
          have hk := in_of hP.ok (k := gI N 567 9) (by omega)
          refine ih (sI N 567 9 (gI N 567 9 + 1)) _ p (g1.sI7 9 _ (Or.inl rfl)) (by rw [gI_sI_nj (by decide)]; exact g2) (by rw [gI_sI_nj (by decide)]; exact g3) (by rw [gI_sI_eq]; omega) (by rw [gI_sI_eq]; exact ⟨(rn_t hP.ok (by decide) hb).symm.trans g5, rfl⟩) ?_ (fun j h1 h2 => ?_) (by rw [gI_sI_eq]; omega)
          · rw [gI_sI_eq]
            first
            | (have q : gI N 567 9 - p < 3 := by omega
               rw [show min 3 (gI N 567 9 + 1 - p) = (gI N 567 9 - p) + 1 by omega, dvF_s (by omega), show p + (gI N 567 9 - p) = gI N 567 9 by omega, show (gI N 567 9 - p).toNat = (min 3 (gI N 567 9 - p)).toNat by omega, ← g6])
            | (have q : ¬ gI N 567 9 - p < 3 := by omega
               rw [g6]; congr 2; omega)
          · rw [gI_sI_eq] at h2
            by_cases q : j = gI N 567 9
            · rw [q]; omega
            · exact g7 j h1 (by omega)
        · skip
          refine bw_push rfl ?_
          refine bw_iload rfl rfl ?_
          refine bw_imul rfl ⟨by omega, by omega⟩ ?_
          refine bw_aload rfl rfl ?_
          refine bw_aload rfl rfl ?_
          refine bw_getI rfl rfl ?_
          refine bw_callVe (e := d - 1) (as := [_]) rfl (by omega) rfl rfl (Nat.le_of_ble_eq_true rfl) (Nat.le_of_ble_eq_true rfl) rfl (m_byteAt hR hPN (by omega)) ?_
          have bn := hPN.ok.2.2 (gI N 567 9)
          refine bw_iadd rfl ⟨by omega, by omega⟩ ?_
          refine bw_push rfl ?_
          refine bw_isub rfl ⟨by omega, by omega⟩ ?_
          refine bw_goto rfl ?_
          refine bw_istore (ls2 := [_, _, _, _]) rfl rfl (Nat.le_of_ble_eq_true rfl) rfl ?_
          refine bw_aload rfl rfl ?_
          first | refine bw_dup rfl ?_ | refine bw_dupi rfl ?_
          refine bw_getI rfl rfl ?_
          refine bw_push rfl ?_
          refine bw_iadd rfl ⟨by omega, by omega⟩ ?_
          refine bw_putI rfl rfl ?_
          refine bw_goto rfl ?_
          have hb : pDg (a (gI N 567 9)) = true := pDg_t.mpr (by omega)
          have hk := in_of hP.ok (k := gI N 567 9) (by omega)
          refine ih (sI N 567 9 (gI N 567 9 + 1)) _ p (g1.sI7 9 _ (Or.inl rfl)) (by rw [gI_sI_nj (by decide)]; exact g2) (by rw [gI_sI_nj (by decide)]; exact g3) (by rw [gI_sI_eq]; omega) (by rw [gI_sI_eq]; exact ⟨(rn_t hP.ok (by decide) hb).symm.trans g5, rfl⟩) ?_ (fun j h1 h2 => ?_) (by rw [gI_sI_eq]; omega)
          · rw [gI_sI_eq]
            first
            | (have q : gI N 567 9 - p < 3 := by omega
               rw [show min 3 (gI N 567 9 + 1 - p) = (gI N 567 9 - p) + 1 by omega, dvF_s (by omega), show p + (gI N 567 9 - p) = gI N 567 9 by omega, show (gI N 567 9 - p).toNat = (min 3 (gI N 567 9 - p)).toNat by omega, ← g6])
            | (have q : ¬ gI N 567 9 - p < 3 := by omega
               rw [g6]; congr 2; omega)
          · rw [gI_sI_eq] at h2
            by_cases q : j = gI N 567 9
            · rw [q]; omega
            · exact g7 j h1 (by omega)
  show abW d (0, 0) 159 0 [some (vr (some 567)), some (vi lo), some (vi hi), none] [] (0, 0) (A0 L) M (qI (A0 L) (fun x N => s5 pNo qP M N ∧ RS N a n (nuS a n lo hi z).1 ∧ x = (nuS a n lo hi z).2))
  refine bw_aload rfl rfl ?_
  refine bw_callVj (e := d - 1) (as := []) rfl (by omega) rfl rfl (Nat.le_of_ble_eq_true rfl) (Nat.le_of_ble_eq_true rfl) rfl (m_goesWell hR) (fun r1 hr1 => ?_)
  refine bw_ifne rfl (fun c4 => ?_) (fun c4 => ?_)
  · skip
    refine bw_aload rfl rfl ?_
    refine bw_callVi (e := d - 1) (as := []) rfl (by omega) rfl rfl (Nat.le_of_ble_eq_true rfl) (Nat.le_of_ble_eq_true rfl) rfl (m_sees hR hP (by omega)) (fun r10 M10 hM10 => ?_)
    obtain ⟨u10, v10, w10⟩ := hM10
    have hR := u10.RF hR
    obtain ⟨p, rfl, hp⟩ := rs_r hz (by omega)
    have s8 := skM_in hP
    have hP8 := hP.to9 u10 (by rw [v10]; exact ⟨s8.1, s8.2.1⟩)
    have t8 := s59_11 u10
    rw [hp] at v10 w10
    have p9 := hP8.he
    have d9 := de_in hP.ok (k := p) (by omega)
    refine bw_pop rfl ?_
    refine bw_aload rfl rfl ?_
    refine bw_aload rfl rfl ?_
    refine bw_getI rfl rfl ?_
    refine bw_putI rfl rfl ?_
    have hP19 : PS (sI M10 567 10 (gI M10 567 9)) a n := hP.toP ((u10.toP).sI7 10 _ (Or.inr (Or.inl rfl))) (by rw [gI_sI_nj (by decide)]; omega)
    refine bw_aload rfl rfl ?_
    refine bw_aload rfl rfl ?_
    refine bw_getI rfl rfl ?_
    rw [gI_sI_nj (show (9 : Int) ≠ 10 by decide)]
    refine bw_callVj (e := d - 1) (as := [_]) rfl (by omega) rfl rfl (Nat.le_of_ble_eq_true rfl) (Nat.le_of_ble_eq_true rfl) rfl (m_isDigit (M := _) (by exact hR) hP19 (by omega) (by omega)) (fun r27 hr27 => ?_)
    refine bw_ifne rfl (fun c30 => ?_) (fun c30 => ?_)
    · skip
      refine bw_push rfl ?_
      refine bw_istore (ls2 := [_, _, _, _]) rfl rfl (Nat.le_of_ble_eq_true rfl) rfl ?_
      rw [v10] at hr27
      exact L46 ((n - p).toNat + 1) _ 0 p (u10.toP.sI7 10 _ (Or.inr (Or.inl rfl))) (by rw [gI_sI_eq, v10]) (by rw [gI_sI_nj (by decide), t8.1]; omega) (by rw [gI_sI_nj (by decide), v10]; refine ⟨by omega, by omega, by omega, fun e => ?_⟩; rw [e] at d9; omega) (by rw [gI_sI_nj (by decide), v10]; exact ⟨rfl, rfl⟩) (by rw [gI_sI_nj (by decide), v10, Int.sub_self]; rfl) (fun j h1 h2 => by rw [gI_sI_nj (by decide)] at h2; omega) (by rw [gI_sI_nj (by decide)]; omega)
    · skip
      refine bw_aload rfl rfl ?_
      refine bw_push rfl ?_
      refine bw_aload rfl rfl ?_
      refine bw_getI rfl rfl ?_
      rw [gI_sI_nj (show (9 : Int) ≠ 10 by decide)]
      refine bw_callVv (e := d - 1) (as := [_, _]) rfl (by omega) rfl rfl (Nat.le_of_ble_eq_true rfl) (Nat.le_of_ble_eq_true rfl) rfl (m_faults (M := _) (by exact hR)) (fun M39 hM39 => ?_)
      refine bw_iload rfl rfl ?_
      refine bw_ret rfl rfl ?_
      refine ⟨rfl, _, rfl, (u10.toP.sI7 10 _ (Or.inr (Or.inl rfl))).trans hM39.f5, ?_⟩
      rw [v10] at hr27 hM39
      have q : de a n p = p := rn_f (pDg_f.mpr (by omega))
      rw [nu_a (Or.inl q)]
      exact ⟨hM39.RSn hP19 (by rw [gI_sI_nj (by decide), t8.1]; omega) (by decide), rfl⟩
  · skip
    refine bw_iload rfl rfl ?_
    refine bw_ret rfl rfl ?_
    obtain ⟨e, rfl, he⟩ := rs_l hz (by omega)
    exact ⟨rfl, _, rfl, s5_refl _ _ _, ⟨hP, he⟩, rfl⟩
