abbrev p69 (a : Nat) : Prop := a = 569 ∨ a = 580 ∨ a = 581
theorem p69_no {a : Nat} (h : a ≠ 569 ∧ a ≠ 580 ∧ a ≠ 581) : ¬ p69 a := fun k => k.elim h.1 (fun k => k.elim h.2.1 h.2.2)
abbrev qNo (j : Int) : Prop := False
/-- but for the paper the sheets are the same -/
def npS (S T : Int → Int) : Prop := ∀ j : Int, ¬ (582 ≤ j ∧ j < 1164) → T j = S j
def bdS (S : Int → Int) : Prop := ∀ j : Int, 0 ≤ j → j < 13968 → 0 ≤ S j ∧ S j ≤ 99
/-- nothing but the paper and what is composed has changed -/
def np (q : Int → Prop) (M N : abMem) : Prop := s5 p69 q M N ∧ npS (gI M 569) (gI N 569) ∧ bdS (gI N 569)
theorem s5_w9 {M : abMem} {f : Int → Int} {q : Int → Prop} : s5 p69 q M (wI M 569 f) := ⟨rfl, fun a ha h7 => gI_wI_ne (fun e => ha (Or.inl e)), fun j _ => by rw [gI_wI_ne (by decide)], WA_of (by rw [gI_wI_ne (by decide)]) (by rw [gI_wI_ne (by decide)])⟩
theorem np_refl {M : abMem} {q : Int → Prop} (hB : RB M) : np q M M := ⟨s5_refl _ _ _, fun _ _ => rfl, hB.sh⟩
theorem np.trans {q : Int → Prop} {M N K : abMem} (h : np q M N) (k : np q N K) : np q M K := ⟨h.1.trans k.1, fun j hj => (k.2.1 j hj).trans (h.2.1 j hj), k.2.2⟩
theorem np.mono {q q2 : Int → Prop} {M N : abMem} (h : np q M N) (e : ∀ j, q j → q2 j) : np q2 M N := ⟨h.1.mono (fun _ k => k) e, h.2.1, h.2.2⟩
theorem np.sI7 {q : Int → Prop} {M N : abMem} (h : np q M N) (j x : Int) (hj : q j) (hw : j ≠ 11 ∧ j ≠ 12 := by decide) : np q M (sI N 567 j x) := ⟨h.1.sI7 j x hj hw, by rw [gI_sI_ne (by decide)]; exact h.2.1, by rw [gI_sI_ne (by decide)]; exact h.2.2⟩
theorem np_w {q : Int → Prop} {M : abMem} {f : Int → Int} (h1 : npS (gI M 569) f) (h2 : bdS f) : np q M (wI M 569 f) := ⟨s5_w9, by rw [gI_wI_eq]; exact h1, by rw [gI_wI_eq]; exact h2⟩
theorem np_sm {q : Int → Prop} {M N : abMem} {f : Int → Int} (h : sm p58 (wI M 569 f) N) (h1 : npS (gI M 569) f) (h2 : bdS f) : np q M N := by
  have e : gI N 569 = f := by rw [h.at 569 (p58_no (by decide) (by decide)), gI_wI_eq]
  exact ⟨s5_w9.trans ((h.s5 (p58_no (by decide) (by decide)) q).mono (fun a ha => Or.inr ha) (fun j hj => hj)), by rw [e]; exact h1, by rw [e]; exact h2⟩
theorem np.e8 {q : Int → Prop} {M N : abMem} (h : np q M N) : gI N 568 = gI M 568 := h.1.at 568 (p69_no (by decide)) (by decide)
theorem np.RB {q : Int → Prop} {M N : abMem} (h : np q M N) (hB : RB M) : RB N := ⟨by rw [h.e8]; exact hB.sw, h.2.2⟩
theorem np.S {q : Int → Prop} {M N : abMem} (h : np q M N) (hS : ∀ p : Int, 0 ≤ p → p < gI M 568 1 → 0 ≤ gI M 569 (0 + 576 + p) ∧ gI M 569 (0 + 576 + p) ≤ 5) (hl : gI M 568 1 ≤ 6) : ∀ p : Int, 0 ≤ p → p < gI N 568 1 → 0 ≤ gI N 569 (0 + 576 + p) ∧ gI N 569 (0 + 576 + p) ≤ 5 := fun p h1 h2 => by
  rw [h.e8] at h2
  rw [h.2.1 _ (by omega)]
  exact hS p h1 h2
theorem npS_pa {S : Int → Int} {l n : Int} {g : Int → Int} (hl : 0 ≤ l ∧ l ≤ 5) (hn : n ≤ 96) : npS S (paF S l n g) := fun j hj => by
  by_cases q : j < 582
  · exact paF_lo hl.1 q
  · exact paF_hi hl hn (by omega)
theorem bdS_pa {M : abMem} {l n : Int} {g : Int → Int} (hB : RB M) (hg : ∀ f : Int, 0 ≤ f → f < n → 0 ≤ g f ∧ g f ≤ 99) : bdS (paF (gI M 569) l n g) := fun j h1 h2 => by
  have := (RB_pa (l := l) hB hg).sh j h1 h2
  rw [gI_wI_eq] at this
  exact this
theorem paF_np {S T : Int → Int} {l n : Int} {g : Int → Int} (h : npS S T) (hl : 0 ≤ l ∧ l ≤ 5) (hn : n ≤ 96) : paF T l n g = paF S l n g := by
  funext j
  unfold paF
  by_cases q : 582 + 96 * l ≤ j ∧ j < 582 + 96 * l + n
  · rw [if_pos q, if_pos q]
  · rw [if_neg q, if_neg q]
    by_cases q2 : 582 ≤ j ∧ j < 1164
    · rw [if_pos q2, if_pos q2, h _ (by omega)]
    · rw [if_neg q2, if_neg q2, h _ q2]
theorem pa_S {M : abMem} {l n : Int} {g : Int → Int} (hS : ∀ p : Int, 0 ≤ p → p < gI M 568 1 → 0 ≤ gI M 569 (0 + 576 + p) ∧ gI M 569 (0 + 576 + p) ≤ 5) (hl : 0 ≤ l ∧ l ≤ 5) (hn : n ≤ 96) (hla : gI M 568 1 ≤ 6) : ∀ p : Int, 0 ≤ p → p < gI (wI M 569 (paF (gI M 569) l n g)) 568 1 → 0 ≤ gI (wI M 569 (paF (gI M 569) l n g)) 569 (582 + 576 + p) ∧ gI (wI M 569 (paF (gI M 569) l n g)) 569 (582 + 576 + p) ≤ 5 := fun p h1 h2 => by
  rw [gI_wI_ne (by decide)] at h2
  rw [gI_wI_eq]
  unfold paF
  rw [if_neg (by omega), if_pos (by omega), show 582 + 576 + p - 582 = 0 + 576 + p by omega]
  exact hS p h1 h2
theorem tn_in {M : abMem} {l k : Int} (hB : RB M) (hl : 0 ≤ l ∧ l ≤ 5) (h1 : 1 ≤ gI M 568 0) : ∀ f : Int, 0 ≤ f → f < gI M 568 0 → 0 ≤ tnG (gI M 569) (gI M 568 0) l k f ∧ tnG (gI M 569) (gI M 568 0) l k f ≤ 99 := fun f _ _ => by
  have b1 := hB.fr
  have e1 : (f + k) % gI M 568 0 < gI M 568 0 := Int.emod_lt_of_pos _ (by omega)
  have e2 : 0 ≤ (f + k) % gI M 568 0 := Int.emod_nonneg _ (by omega)
  exact hB.sh _ (by omega) (by omega)
theorem db_in {M : abMem} {l : Int} (hB : RB M) (hl : 0 ≤ l ∧ l ≤ 5) : ∀ f : Int, 0 ≤ f → f < gI M 568 0 → 0 ≤ dbG (gI M 569) l f ∧ dbG (gI M 569) l f ≤ 99 := fun f h1 h2 => by
  have b1 := hB.fr
  unfold dbG
  split
  · exact hB.sh _ (by omega) (by omega)
  · exact hB.sh _ (by omega) (by omega)
theorem pcI_eq {M N : abMem} (h8 : gI N 568 = gI M 568) (h9 : gI N 569 = gI M 569) : pcI N = pcI M := by
  funext a f k
  have e : mR N a = mR M a := by
    funext l f
    show gI N 569 _ = gI M 569 _
    rw [h9]
  unfold pcI
  rw [h8, h9, e]
theorem tk_eq {M N : abMem} {a : Int} (h8 : gI N 568 = gI M 568) (h9 : gI N 569 = gI M 569) : tk N a = tk M a := by
  have e : alk N a = alk M a := by
    unfold alk
    rw [pcI_eq h8 h9]
  unfold tk
  rw [e, h8]
theorem tk_in {M : abMem} {a : Int} (hB : RB M) : 0 ≤ tk M a ∧ tk M a ≤ 96 := by
  have := cN_in (pB (nwE (alk M a))) (gI M 568 0).toNat
  have b1 := hB.fr
  unfold tk
  omega
/-- the takes of the layer turned by k -/
noncomputable def bsT (M : abMem) (l k : Int) : Int := tk (wI M 569 (paF (gI M 569) l (gI M 568 0) (tnG (gI M 569) (gI M 568 0) l k))) 582
theorem tnG_np {S T : Int → Int} {l n k : Int} (h : npS S T) (hl : 0 ≤ l ∧ l ≤ 5) (hn : 1 ≤ n ∧ n ≤ 96) : tnG T n l k = tnG S n l k := by
  funext f
  have e1 : (f + k) % n < n := Int.emod_lt_of_pos _ (by omega)
  have e2 : 0 ≤ (f + k) % n := Int.emod_nonneg _ (by omega)
  exact h _ (by omega)
theorem bs_np {q : Int → Prop} {M N : abMem} {l k : Int} (h : np q M N) (hl : 0 ≤ l ∧ l ≤ 5) (hn : 1 ≤ gI M 568 0 ∧ gI M 568 0 ≤ 96) : bsT N l k = bsT M l k := by
  unfold bsT
  rw [h.e8, tnG_np h.2.1 hl hn, paF_np h.2.1 hl hn.2]
  refine tk_eq ?_ ?_
  · rw [gI_wI_ne (by decide), gI_wI_ne (by decide), h.e8]
  · rw [gI_wI_eq, gI_wI_eq]
/-- the least k by which T is least, of those less than n -/
def bst (T : Int → Int) (n b v : Int) : Prop := (n = 0 ∧ b = 0 ∧ v = 97) ∨ (0 ≤ b ∧ b < n ∧ v = T b ∧ (∀ j : Int, 0 ≤ j → j < b → v < T j) ∧ ∀ j : Int, 0 ≤ j → j < n → v ≤ T j)
theorem bst_skip {T : Int → Int} {k b v : Int} (h : bst T k b v) (h0 : 0 ≤ k) (h1 : v ≤ T k) (h2 : T k ≤ 96) : bst T (k + 1) b v := by
  rcases h with h | ⟨h3, h4, h5, h6, h7⟩
  · exfalso; omega
  · refine Or.inr ⟨h3, by omega, h5, h6, fun j j1 j2 => ?_⟩
    by_cases q : j = k
    · rw [q]; exact h1
    · exact h7 j j1 (by omega)
theorem bst_take {T : Int → Int} {k b v : Int} (h : bst T k b v) (h0 : 0 ≤ k) (h1 : T k < v) : bst T (k + 1) k (T k) := by
  refine Or.inr ⟨h0, by omega, rfl, fun j j1 j2 => ?_, fun j j1 j2 => ?_⟩
  · rcases h with h | ⟨h3, h4, h5, h6, h7⟩
    · exfalso; omega
    · have := h7 j j1 j2; omega
  · by_cases q : j = k
    · rw [q]; exact Int.le_refl _
    · rcases h with h | ⟨h3, h4, h5, h6, h7⟩
      · exfalso; omega
      · have := h7 j j1 (by omega); omega
theorem bst_eq {T : Int → Int} {n b v c w : Int} (h : bst T n b v) (k : bst T n c w) : b = c ∧ v = w := by
  rcases h with h | ⟨h3, h4, h5, h6, h7⟩
  · rcases k with k | ⟨k3, k4, k5, k6, k7⟩
    · omega
    · exfalso; omega
  · rcases k with k | ⟨k3, k4, k5, k6, k7⟩
    · exfalso; omega
    · have a1 := h7 c k3 k4
      have a2 := k7 b h3 h4
      have e : v = w := by omega
      by_cases q : b < c
      · have := k6 b h3 q; exfalso; omega
      · by_cases q2 : c < b
        · have := h6 c k3 q2; exfalso; omega
        · exact ⟨by omega, e⟩
abbrev q31 (j : Int) : Prop := j = 31 ∨ j = 32
set_option maxRecDepth 20000 in
set_option maxHeartbeats 4000000 in
theorem m_turned {d L : Nat} {M : abMem} {r : abRf} (hR : RF r M) (hB : RB M) (hS : ∀ p : Int, 0 ≤ p → p < gI M 568 1 → 0 ≤ gI M 569 (0 + 576 + p) ∧ gI M 569 (0 + 576 + p) ≤ 5) {l k : Int} (hd : 5 ≤ d) : abW d (0, 0) 252 0 (abEnt (abL 252) [vr (some 567), vi l, vi k]) [] (0, 0) (A0 L) M (qI (A0 L) (fun x N => np qNo M N ∧ ((0 ≤ l ∧ l < gI M 568 1 ∧ 0 ≤ k ∧ k < gI M 568 0) ∧ x = bsT M l k ∨ ¬ (0 ≤ l ∧ l < gI M 568 1 ∧ 0 ≤ k ∧ k < gI M 568 0) ∧ x = -1))) := by
  have b1 := hB.fr
  have b2 := hB.la
  show abW d (0, 0) 252 0 [some (vr (some 567)), some (vi l), some (vi k)] [] (0, 0) (A0 L) M (qI (A0 L) (fun x N => np qNo M N ∧ ((0 ≤ l ∧ l < gI M 568 1 ∧ 0 ≤ k ∧ k < gI M 568 0) ∧ x = bsT M l k ∨ ¬ (0 ≤ l ∧ l < gI M 568 1 ∧ 0 ≤ k ∧ k < gI M 568 0) ∧ x = -1)))
  refine bw_aload rfl rfl ?_
  refine bw_iload rfl rfl ?_
  refine bw_callVj (e := d - 1) (as := [_]) rfl (by omega) rfl rfl (Nat.le_of_ble_eq_true rfl) (Nat.le_of_ble_eq_true rfl) rfl (m_isLayer hR hB (by omega)) (fun r2 hr2 => ?_)
  refine bw_ifeq rfl (fun c5 => ?_) (fun c5 => ?_)
  · skip
    refine bw_push rfl ?_
    refine bw_ret rfl rfl ?_
    exact ⟨rfl, _, rfl, np_refl hB, Or.inr ⟨by omega, rfl⟩⟩
  · skip
    refine bw_iload rfl rfl ?_
    refine bw_push rfl ?_
    refine bw_aload rfl rfl ?_
    refine bw_callVe (e := d - 1) (as := []) rfl (by omega) rfl rfl (Nat.le_of_ble_eq_true rfl) (Nat.le_of_ble_eq_true rfl) rfl (m_frames hR) ?_
    refine bw_push rfl ?_
    refine bw_isub rfl ⟨by omega, by omega⟩ ?_
    refine bw_callSj (e := d - 1) (as := [_, _, _]) rfl (by omega) rfl rfl (Nat.le_of_ble_eq_true rfl) (Nat.le_of_ble_eq_true rfl) (m_isIn hR) (fun r16 hr16 => ?_)
    refine bw_ifne rfl (fun c19 => ?_) (fun c19 => ?_)
    · skip
      refine bw_aload rfl rfl ?_
      refine bw_iload rfl rfl ?_
      refine bw_iload rfl rfl ?_
      refine bw_callVn (e := d - 1) (as := [_, _]) rfl (by omega) rfl rfl (Nat.le_of_ble_eq_true rfl) (Nat.le_of_ble_eq_true rfl) rfl (m_turns hR hB (by omega) (by omega) (by omega)) ?_
      refine bw_aload rfl rfl ?_
      refine bw_push rfl ?_
      refine bw_callVi (e := d - 1) (as := [_]) rfl (by omega) rfl rfl (Nat.le_of_ble_eq_true rfl) (Nat.le_of_ble_eq_true rfl) rfl (m_takesIn (M := (wI M 569 (paF (gI M 569) l (gI M 568 0) (tnG (gI M 569) (gI M 568 0) l k)))) hR (RB_pa hB (tn_in hB (by omega) (by omega))) (by omega) (pa_S hS (by omega) (by omega) (by omega)) (by omega)) (fun r34 M34 hM34 => ?_)
      refine bw_ret rfl rfl ?_
      exact ⟨rfl, _, rfl, np_sm hM34.1 (npS_pa (by omega) (by omega)) (bdS_pa hB (tn_in hB (by omega) (by omega))), Or.inl ⟨by omega, hM34.2⟩⟩
    · skip
      refine bw_push rfl ?_
      refine bw_ret rfl rfl ?_
      exact ⟨rfl, _, rfl, np_refl hB, Or.inr ⟨by omega, rfl⟩⟩
set_option maxRecDepth 20000 in
set_option maxHeartbeats 4000000 in
theorem m_findsBest {d L : Nat} {M : abMem} {r : abRf} (hR : RF r M) (hB : RB M) (hS : ∀ p : Int, 0 ≤ p → p < gI M 568 1 → 0 ≤ gI M 569 (0 + 576 + p) ∧ gI M 569 (0 + 576 + p) ≤ 5) {l : Int} (hl : 0 ≤ l ∧ l ≤ 5) (hd : 5 ≤ d) : abW d (0, 0) 253 0 (abEnt (abL 253) [vr (some 567), vi l]) [] (0, 0) (A0 L) M (qV (A0 L) (fun N => np q31 M N ∧ bst (bsT M l) (gI M 568 0) (gI N 567 31) (gI N 567 32))) := by
  have b1 := hB.fr
  have b2 := hB.la
  have L13 : ∀ (kf : Nat) (N : abMem) (k : Int), (np q31 M N) → (bst (bsT M l) k (gI N 567 31) (gI N 567 32)) → (0 ≤ k ∧ k ≤ gI M 568 0) → ((gI M 568 0 - k).toNat) < kf → abW d (0, 0) 253 13 [some (vr (some 567)), some (vi l), some (vi k), none] [] (0, 0) (A0 L) (N) (qV (A0 L) (fun N => np q31 M N ∧ bst (bsT M l) (gI M 568 0) (gI N 567 31) (gI N 567 32))) := by
    intro kf
    induction kf with
    | zero => intro N  k  g1 g2 g3 hm9; exact absurd hm9 (Nat.not_lt_zero _)
    | succ kf ih13 =>
      intro N  k  g1 g2 g3 hm13
      have ih := ih13
      have hRM := hR
      have hR := g1.1.RF hR
      have hBM := hB
      have hB := g1.RB hB
      have e568 := g1.e8
      have hS := g1.S hS (by omega)
      have b3 := hB.fr
      have b4 := hB.la
      refine bw_iload rfl rfl ?_
      refine bw_aload rfl rfl ?_
      refine bw_callVe (e := d - 1) (as := []) rfl (by omega) rfl rfl (Nat.le_of_ble_eq_true rfl) (Nat.le_of_ble_eq_true rfl) rfl (m_frames hR) ?_
      rw [e568]
      refine bw_icge rfl (fun c18 => ?_) (fun c18 => ?_)
      · skip
        refine bw_retv rfl rfl ?_
        obtain rfl : k = gI M 568 0 := by omega
        exact ⟨rfl, rfl, g1, g2⟩
      · skip
        refine bw_aload rfl rfl ?_
        refine bw_iload rfl rfl ?_
        refine bw_iload rfl rfl ?_
        refine bw_callVn (e := d - 1) (as := [_, _]) rfl (by omega) rfl rfl (Nat.le_of_ble_eq_true rfl) (Nat.le_of_ble_eq_true rfl) rfl (m_turns hR hB (by omega) (by rw [e568]; omega) (by omega)) ?_
        refine bw_aload rfl rfl ?_
        refine bw_push rfl ?_
        refine bw_callVi (e := d - 1) (as := [_]) rfl (by omega) rfl rfl (Nat.le_of_ble_eq_true rfl) (Nat.le_of_ble_eq_true rfl) rfl (m_takesIn (M := (wI N 569 (paF (gI N 569) l (gI N 568 0) (tnG (gI N 569) (gI N 568 0) l k)))) hR (RB_pa hB (tn_in hB (by omega) (by rw [e568]; omega))) (by omega) (pa_S hS (by omega) (by omega) (by omega)) (by omega)) (fun r31 M31 hM31 => ?_)
        obtain ⟨u31, v31⟩ := hM31
        have w31 : r31 = bsT M l k := Eq.trans v31 (bs_np g1 (by omega) (by omega))
        have n31 : np qNo N M31 := np_sm u31 (npS_pa (by omega) (by omega)) (bdS_pa hB (tn_in hB (by omega) (by rw [e568]; omega)))
        have n32 : np q31 M M31 := g1.trans (n31.mono (fun j h => h.elim))
        have e31 : gI M31 567 31 = gI N 567 31 := n31.1.sl 31 (fun h => h)
        have e32 : gI M31 567 32 = gI N 567 32 := n31.1.sl 32 (fun h => h)
        have hR31 := n31.1.RF hR
        have t9 : 0 ≤ bsT M l k ∧ bsT M l k ≤ 96 := tk_in (RB_pa hBM (tn_in hBM (by omega) (by omega)))
        refine bw_istore (ls2 := [_, _, _, _]) rfl rfl (Nat.le_of_ble_eq_true rfl) rfl ?_
        refine bw_iload rfl rfl ?_
        refine bw_aload rfl rfl ?_
        refine bw_getI rfl rfl ?_
        refine bw_iclt rfl (fun c40 => ?_) (fun c40 => ?_)
        · skip
          refine bw_aload rfl rfl ?_
          refine bw_iload rfl rfl ?_
          refine bw_putI rfl rfl ?_
          refine bw_aload rfl rfl ?_
          refine bw_iload rfl rfl ?_
          refine bw_putI rfl rfl ?_
          refine bw_iinc (ls2 := [_, _, _, _]) rfl rfl rfl ⟨by omega, by omega⟩ rfl ?_
          refine bw_goto rfl ?_
          refine bw_forget (ls2 := [some (vr (some 567)), some (vi l), some (vi _), none]) ⟨rfl, rfl, rfl, trivial⟩ ?_
          first
          | exact ih _ _ n32 (by rw [e31, e32]; exact bst_skip g2 (by omega) (by omega) (by omega)) (by omega) (by omega)
          | exact ih _ _ ((n32.sI7 31 k (Or.inl rfl)).sI7 32 r31 (Or.inr rfl)) (by rw [gI_sI_nj (by decide), gI_sI_eq, gI_sI_eq, w31]; exact bst_take g2 (by omega) (by omega)) (by omega) (by omega)
        · skip
          refine bw_goto rfl ?_
          refine bw_iinc (ls2 := [_, _, _, _]) rfl rfl rfl ⟨by omega, by omega⟩ rfl ?_
          refine bw_goto rfl ?_
          refine bw_forget (ls2 := [some (vr (some 567)), some (vi l), some (vi _), none]) ⟨rfl, rfl, rfl, trivial⟩ ?_
          first
          | exact ih _ _ n32 (by rw [e31, e32]; exact bst_skip g2 (by omega) (by omega) (by omega)) (by omega) (by omega)
          | exact ih _ _ ((n32.sI7 31 k (Or.inl rfl)).sI7 32 r31 (Or.inr rfl)) (by rw [gI_sI_nj (by decide), gI_sI_eq, gI_sI_eq, w31]; exact bst_take g2 (by omega) (by omega)) (by omega) (by omega)
  show abW d (0, 0) 253 0 [some (vr (some 567)), some (vi l), none, none] [] (0, 0) (A0 L) M (qV (A0 L) (fun N => np q31 M N ∧ bst (bsT M l) (gI M 568 0) (gI N 567 31) (gI N 567 32)))
  refine bw_aload rfl rfl ?_
  refine bw_push rfl ?_
  refine bw_putI rfl rfl ?_
  refine bw_aload rfl rfl ?_
  refine bw_push rfl ?_
  refine bw_putI rfl rfl ?_
  refine bw_push rfl ?_
  refine bw_istore (ls2 := [_, _, _, _]) rfl rfl (Nat.le_of_ble_eq_true rfl) rfl ?_
  exact L13 ((gI M 568 0).toNat + 1) _ 0 (((np_refl hB).sI7 31 0 (Or.inl rfl)).sI7 32 97 (Or.inr rfl)) (Or.inl ⟨rfl, by rw [gI_sI_nj (by decide), gI_sI_eq], by rw [gI_sI_eq]⟩) (by omega) (by omega)
set_option maxRecDepth 20000 in
set_option maxHeartbeats 4000000 in
theorem m_best {d L : Nat} {M : abMem} {r : abRf} (hR : RF r M) (hB : RB M) (hS : ∀ p : Int, 0 ≤ p → p < gI M 568 1 → 0 ≤ gI M 569 (0 + 576 + p) ∧ gI M 569 (0 + 576 + p) ≤ 5) {l w : Int} (hd : 6 ≤ d) : abW d (0, 0) 254 0 (abEnt (abL 254) [vr (some 567), vi l, vi w]) [] (0, 0) (A0 L) M (qI (A0 L) (fun x N => np q31 M N ∧ ((0 ≤ l ∧ l < gI M 568 1 ∧ 0 ≤ w ∧ w ≤ 1) ∧ (∃ b v : Int, bst (bsT M l) (gI M 568 0) b v ∧ (w = 0 ∧ x = b ∨ w = 1 ∧ x = v)) ∨ ¬ (0 ≤ l ∧ l < gI M 568 1 ∧ 0 ≤ w ∧ w ≤ 1) ∧ x = -1))) := by
  have b1 := hB.fr
  have b2 := hB.la
  show abW d (0, 0) 254 0 [some (vr (some 567)), some (vi l), some (vi w)] [] (0, 0) (A0 L) M (qI (A0 L) (fun x N => np q31 M N ∧ ((0 ≤ l ∧ l < gI M 568 1 ∧ 0 ≤ w ∧ w ≤ 1) ∧ (∃ b v : Int, bst (bsT M l) (gI M 568 0) b v ∧ (w = 0 ∧ x = b ∨ w = 1 ∧ x = v)) ∨ ¬ (0 ≤ l ∧ l < gI M 568 1 ∧ 0 ≤ w ∧ w ≤ 1) ∧ x = -1)))
  refine bw_aload rfl rfl ?_
  refine bw_iload rfl rfl ?_
  refine bw_callVj (e := d - 1) (as := [_]) rfl (by omega) rfl rfl (Nat.le_of_ble_eq_true rfl) (Nat.le_of_ble_eq_true rfl) rfl (m_isLayer hR hB (by omega)) (fun r2 hr2 => ?_)
  refine bw_ifeq rfl (fun c5 => ?_) (fun c5 => ?_)
  · skip
    refine bw_push rfl ?_
    refine bw_ret rfl rfl ?_
    exact ⟨rfl, _, rfl, np_refl hB, Or.inr ⟨by omega, rfl⟩⟩
  · skip
    refine bw_iload rfl rfl ?_
    refine bw_push rfl ?_
    refine bw_push rfl ?_
    refine bw_callSj (e := d - 1) (as := [_, _, _]) rfl (by omega) rfl rfl (Nat.le_of_ble_eq_true rfl) (Nat.le_of_ble_eq_true rfl) (m_isIn hR) (fun r11 hr11 => ?_)
    refine bw_ifne rfl (fun c14 => ?_) (fun c14 => ?_)
    · skip
      refine bw_aload rfl rfl ?_
      refine bw_iload rfl rfl ?_
      refine bw_callVv (e := d - 1) (as := [_]) rfl (by omega) rfl rfl (Nat.le_of_ble_eq_true rfl) (Nat.le_of_ble_eq_true rfl) rfl (m_findsBest hR hB hS (by omega) (by omega)) (fun M21 hM21 => ?_)
      obtain ⟨u21, v21⟩ := hM21
      have hR := u21.1.RF hR
      refine bw_iload rfl rfl ?_
      refine bw_ifne rfl (fun c25 => ?_) (fun c25 => ?_)
      · skip
        refine bw_aload rfl rfl ?_
        refine bw_getI rfl rfl ?_
        refine bw_ret rfl rfl ?_
        refine ⟨rfl, _, rfl, u21, Or.inl ⟨by omega, _, _, v21, ?_⟩⟩
        first
        | exact Or.inl ⟨by omega, rfl⟩
        | exact Or.inr ⟨by omega, rfl⟩
      · skip
        refine bw_aload rfl rfl ?_
        refine bw_getI rfl rfl ?_
        refine bw_goto rfl ?_
        refine bw_ret rfl rfl ?_
        refine ⟨rfl, _, rfl, u21, Or.inl ⟨by omega, _, _, v21, ?_⟩⟩
        first
        | exact Or.inl ⟨by omega, rfl⟩
        | exact Or.inr ⟨by omega, rfl⟩
    · skip
      refine bw_push rfl ?_
      refine bw_ret rfl rfl ?_
      exact ⟨rfl, _, rfl, np_refl hB, Or.inr ⟨by omega, rfl⟩⟩
set_option maxRecDepth 20000 in
set_option maxHeartbeats 4000000 in
theorem m_without {d L : Nat} {M : abMem} {r : abRf} (hR : RF r M) (hB : RB M) (hS : ∀ p : Int, 0 ≤ p → p < gI M 568 1 → 0 ≤ gI M 569 (0 + 576 + p) ∧ gI M 569 (0 + 576 + p) ≤ 5) {l : Int} (hd : 5 ≤ d) : abW d (0, 0) 255 0 (abEnt (abL 255) [vr (some 567), vi l]) [] (0, 0) (A0 L) M (qI (A0 L) (fun x N => np qNo M N ∧ ((0 ≤ l ∧ l < gI M 568 1) ∧ x = tk (wI M 569 (paF (gI M 569) l (gI M 568 0) (fun _ => 0))) 582 ∨ ¬ (0 ≤ l ∧ l < gI M 568 1) ∧ x = -1))) := by
  have b1 := hB.fr
  have b2 := hB.la
  have L20 : ∀ (kf : Nat) (f : Int), (0 ≤ f ∧ f ≤ gI M 568 0) → (0 ≤ l ∧ l < gI M 568 1) → ((gI M 568 0 - f).toNat) < kf → abW d (0, 0) 255 20 [some (vr (some 567)), some (vi l), some (vi f)] [] (0, 0) (A0 L) ((wI M 569 (paF (gI M 569) l f (fun _ => 0)))) (qI (A0 L) (fun x N => np qNo M N ∧ ((0 ≤ l ∧ l < gI M 568 1) ∧ x = tk (wI M 569 (paF (gI M 569) l (gI M 568 0) (fun _ => 0))) 582 ∨ ¬ (0 ≤ l ∧ l < gI M 568 1) ∧ x = -1))) := by
    intro kf
    induction kf with
    | zero => intro f  g1 g2 hm9; exact absurd hm9 (Nat.not_lt_zero _)
    | succ kf ih20 =>
      intro f  g1 g2 hm20
      have ih := ih20
      refine bw_iload rfl rfl ?_
      refine bw_aload rfl rfl ?_
      refine bw_callVe (e := d - 1) (as := []) rfl (by omega) rfl rfl (Nat.le_of_ble_eq_true rfl) (Nat.le_of_ble_eq_true rfl) rfl (m_frames (M := (wI M 569 (paF (gI M 569) l f (fun _ => 0)))) hR) ?_
      rw [gI_wI_ne (show 568 ≠ 569 by decide)]
      refine bw_icge rfl (fun c25 => ?_) (fun c25 => ?_)
      · skip
        obtain rfl : f = gI M 568 0 := by omega
        refine bw_aload rfl rfl ?_
        refine bw_push rfl ?_
        refine bw_callVi (e := d - 1) (as := [_]) rfl (by omega) rfl rfl (Nat.le_of_ble_eq_true rfl) (Nat.le_of_ble_eq_true rfl) rfl (m_takesIn (M := (wI M 569 (paF (gI M 569) l (gI M 568 0) (fun _ => 0)))) hR (RB_pa hB (fun _ _ _ => by omega)) (by omega) (pa_S hS (by omega) (by omega) (by omega)) (by omega)) (fun r48 M48 hM48 => ?_)
        refine bw_ret rfl rfl ?_
        exact ⟨rfl, _, rfl, np_sm hM48.1 (npS_pa (by omega) (by omega)) (bdS_pa hB (fun _ _ _ => by omega)), Or.inl ⟨by omega, hM48.2⟩⟩
      · skip
        refine bw_aload rfl rfl ?_
        refine bw_push rfl ?_
        refine bw_iload rfl rfl ?_
        refine bw_iload rfl rfl ?_
        refine bw_push rfl ?_
        refine bw_callVn (e := d - 1) (as := [_, _, _, _]) rfl (by omega) rfl rfl (Nat.le_of_ble_eq_true rfl) (Nat.le_of_ble_eq_true rfl) rfl (m_sets (M := (wI M 569 (paF (gI M 569) l f (fun _ => 0)))) hR (by omega) (by omega) (by omega)) ?_
        refine bw_iinc (ls2 := [_, _, _]) rfl rfl rfl ⟨by omega, by omega⟩ rfl ?_
        refine bw_goto rfl ?_
        refine bw_cast (M2 := (wI M 569 (paF (gI M 569) l (f + 1) (fun _ => 0)))) (ih _ (by omega) (by omega) (by omega)) rfl rfl ?_
        rw [sI_wI, paF_up (by omega) (by omega) rfl]
  show abW d (0, 0) 255 0 [some (vr (some 567)), some (vi l), none] [] (0, 0) (A0 L) M (qI (A0 L) (fun x N => np qNo M N ∧ ((0 ≤ l ∧ l < gI M 568 1) ∧ x = tk (wI M 569 (paF (gI M 569) l (gI M 568 0) (fun _ => 0))) 582 ∨ ¬ (0 ≤ l ∧ l < gI M 568 1) ∧ x = -1)))
  refine bw_aload rfl rfl ?_
  refine bw_iload rfl rfl ?_
  refine bw_callVj (e := d - 1) (as := [_]) rfl (by omega) rfl rfl (Nat.le_of_ble_eq_true rfl) (Nat.le_of_ble_eq_true rfl) rfl (m_isLayer hR hB (by omega)) (fun r2 hr2 => ?_)
  refine bw_ifne rfl (fun c5 => ?_) (fun c5 => ?_)
  · skip
    refine bw_aload rfl rfl ?_
    refine bw_push rfl ?_
    refine bw_push rfl ?_
    refine bw_callVn (e := d - 1) (as := [_, _]) rfl (by omega) rfl rfl (Nat.le_of_ble_eq_true rfl) (Nat.le_of_ble_eq_true rfl) rfl (m_copies hR (by omega) (by omega) (by omega)) ?_
    refine bw_push rfl ?_
    refine bw_istore (ls2 := [_, _, _]) rfl rfl (Nat.le_of_ble_eq_true rfl) rfl ?_
    refine bw_cast (M2 := (wI M 569 (paF (gI M 569) l 0 (fun _ => 0)))) (L20 ((gI M 568 0).toNat + 1) 0 (by omega) (by omega) (by omega)) rfl rfl ?_
    rw [cpF_pa (l := l) (n := 0) (g := fun _ => 0) (by omega) (by omega) (fun f h1 h2 => by omega)]
  · skip
    refine bw_push rfl ?_
    refine bw_ret rfl rfl ?_
    exact ⟨rfl, _, rfl, np_refl hB, Or.inr ⟨by omega, rfl⟩⟩
theorem mR_pg {M : abMem} {l n f : Int} {g : Int → Int} (h : 0 ≤ f ∧ f < n) : mR (wI M 569 (paF (gI M 569) l n g)) 582 l f = g f := by
  show gI _ 569 _ = _
  rw [gI_wI_eq, paF_row h]
theorem oth_pa {M : abMem} {l n : Int} {g : Int → Int} (hl : 0 ≤ l ∧ l ≤ 5) (hn : n ≤ 96) : cN (pD (mR (wI M 569 (paF (gI M 569) l n g)) 582 l) (mR (wI M 569 (paF (gI M 569) l n g)) 0 l)) n.toNat = cN (pD g (mR M 0 l)) n.toNat := cN_congr _ (fun j h1 h2 => by
  unfold pD
  rw [mR_pg (by omega), mR_pa hl.1 (by omega)])
theorem exp_pa {M : abMem} {l n : Int} {g : Int → Int} : cN (pXE 1 (mR (wI M 569 (paF (gI M 569) l n g)) 582 l)) n.toNat = cN (pE g) n.toNat := by
  rw [pXE_1 (by decide)]
  refine cN_congr _ (fun j h1 h2 => ?_)
  unfold pE
  by_cases q : j = 0
  · rw [decide_eq_true (Or.inl q), decide_eq_true (Or.inl q)]
  · rw [mR_pg (by omega), mR_pg (by omega)]
set_option maxRecDepth 20000 in
set_option maxHeartbeats 4000000 in
theorem m_doubled {d L : Nat} {M : abMem} {r : abRf} (hR : RF r M) (hB : RB M) (hS : ∀ p : Int, 0 ≤ p → p < gI M 568 1 → 0 ≤ gI M 569 (0 + 576 + p) ∧ gI M 569 (0 + 576 + p) ≤ 5) {l w : Int} (hd : 5 ≤ d) : abW d (0, 0) 258 0 (abEnt (abL 258) [vr (some 567), vi l, vi w]) [] (0, 0) (A0 L) M (qI (A0 L) (fun x N => np qNo M N ∧ ((0 ≤ l ∧ l < gI M 568 1 ∧ 0 ≤ w ∧ w ≤ 2) ∧ (w = 0 ∧ x = cN (pD (dbG (gI M 569) l) (mR M 0 l)) (gI M 568 0).toNat ∨ w = 1 ∧ x = cN (pE (dbG (gI M 569) l)) (gI M 568 0).toNat ∨ w = 2 ∧ x = tk (wI M 569 (paF (gI M 569) l (gI M 568 0) (dbG (gI M 569) l))) 582) ∨ ¬ (0 ≤ l ∧ l < gI M 568 1 ∧ 0 ≤ w ∧ w ≤ 2) ∧ x = -1))) := by
  have b1 := hB.fr
  have b2 := hB.la
  show abW d (0, 0) 258 0 [some (vr (some 567)), some (vi l), some (vi w)] [] (0, 0) (A0 L) M (qI (A0 L) (fun x N => np qNo M N ∧ ((0 ≤ l ∧ l < gI M 568 1 ∧ 0 ≤ w ∧ w ≤ 2) ∧ (w = 0 ∧ x = cN (pD (dbG (gI M 569) l) (mR M 0 l)) (gI M 568 0).toNat ∨ w = 1 ∧ x = cN (pE (dbG (gI M 569) l)) (gI M 568 0).toNat ∨ w = 2 ∧ x = tk (wI M 569 (paF (gI M 569) l (gI M 568 0) (dbG (gI M 569) l))) 582) ∨ ¬ (0 ≤ l ∧ l < gI M 568 1 ∧ 0 ≤ w ∧ w ≤ 2) ∧ x = -1)))
  refine bw_aload rfl rfl ?_
  refine bw_iload rfl rfl ?_
  refine bw_callVj (e := d - 1) (as := [_]) rfl (by omega) rfl rfl (Nat.le_of_ble_eq_true rfl) (Nat.le_of_ble_eq_true rfl) rfl (m_isLayer hR hB (by omega)) (fun r2 hr2 => ?_)
  refine bw_ifeq rfl (fun c5 => ?_) (fun c5 => ?_)
  · skip
    refine bw_push rfl ?_
    refine bw_ret rfl rfl ?_
    exact ⟨rfl, _, rfl, np_refl hB, Or.inr ⟨by omega, rfl⟩⟩
  · skip
    refine bw_iload rfl rfl ?_
    refine bw_push rfl ?_
    refine bw_push rfl ?_
    refine bw_callSj (e := d - 1) (as := [_, _, _]) rfl (by omega) rfl rfl (Nat.le_of_ble_eq_true rfl) (Nat.le_of_ble_eq_true rfl) (m_isIn hR) (fun r11 hr11 => ?_)
    refine bw_ifne rfl (fun c14 => ?_) (fun c14 => ?_)
    · skip
      refine bw_aload rfl rfl ?_
      refine bw_iload rfl rfl ?_
      refine bw_callVn (e := d - 1) (as := [_]) rfl (by omega) rfl rfl (Nat.le_of_ble_eq_true rfl) (Nat.le_of_ble_eq_true rfl) rfl (m_doubles hR hB (by omega) (by omega)) ?_
      refine bw_iload rfl rfl ?_
      by_cases s25_0 : w = 0
      · refine bw_switch (t := 52) rfl (by rw [s25_0]; rfl) ?_
        refine bw_aload rfl rfl ?_
        refine bw_iload rfl rfl ?_
        refine bw_callVe (e := d - 1) (as := [_]) rfl (by omega) rfl rfl (Nat.le_of_ble_eq_true rfl) (Nat.le_of_ble_eq_true rfl) rfl (m_others (M := (wI M 569 (paF (gI M 569) l (gI M 568 0) (dbG (gI M 569) l)))) hR (RB_pa hB (db_in hB (by omega))) (by omega) (by omega)) ?_
        rw [gI_wI_ne (show 568 ≠ 569 by decide)]
        rw [oth_pa (by omega) (by omega)]
        refine bw_ret rfl rfl ?_
        exact ⟨rfl, _, rfl, np_w (npS_pa (by omega) (by omega)) (bdS_pa hB (db_in hB (by omega))), Or.inl ⟨by omega, Or.inl ⟨by omega, rfl⟩⟩⟩
      · skip
        by_cases s25_1 : w = 1
        · refine bw_switch (t := 58) rfl (by rw [s25_1]; rfl) ?_
          refine bw_aload rfl rfl ?_
          refine bw_push rfl ?_
          refine bw_iload rfl rfl ?_
          refine bw_push rfl ?_
          refine bw_callVe (e := d - 1) (as := [_, _, _]) rfl (by omega) rfl rfl (Nat.le_of_ble_eq_true rfl) (Nat.le_of_ble_eq_true rfl) rfl (m_exposures (M := (wI M 569 (paF (gI M 569) l (gI M 568 0) (dbG (gI M 569) l)))) hR (RB_pa hB (db_in hB (by omega))) (by omega) (by omega) (by omega)) ?_
          rw [gI_wI_ne (show 568 ≠ 569 by decide)]
          rw [exp_pa]
          refine bw_ret rfl rfl ?_
          exact ⟨rfl, _, rfl, np_w (npS_pa (by omega) (by omega)) (bdS_pa hB (db_in hB (by omega))), Or.inl ⟨by omega, Or.inr (Or.inl ⟨by omega, rfl⟩)⟩⟩
        · skip
          refine bw_switch (t := 68) rfl (by simp [abSwT, abSw, Op.lookupswitch.offset, s25_0, show ¬ ((0 : Int) = w) from fun h => s25_0 h.symm, s25_1, show ¬ ((1 : Int) = w) from fun h => s25_1 h.symm]) ?_
          refine bw_aload rfl rfl ?_
          refine bw_push rfl ?_
          refine bw_callVi (e := d - 1) (as := [_]) rfl (by omega) rfl rfl (Nat.le_of_ble_eq_true rfl) (Nat.le_of_ble_eq_true rfl) rfl (m_takesIn (M := (wI M 569 (paF (gI M 569) l (gI M 568 0) (dbG (gI M 569) l)))) hR (RB_pa hB (db_in hB (by omega))) (by omega) (pa_S hS (by omega) (by omega) (by omega)) (by omega)) (fun r72 M72 hM72 => ?_)
          refine bw_ret rfl rfl ?_
          exact ⟨rfl, _, rfl, np_sm hM72.1 (npS_pa (by omega) (by omega)) (bdS_pa hB (db_in hB (by omega))), Or.inl ⟨by omega, Or.inr (Or.inr ⟨by omega, hM72.2⟩)⟩⟩
    · skip
      refine bw_push rfl ?_
      refine bw_ret rfl rfl ?_
      exact ⟨rfl, _, rfl, np_refl hB, Or.inr ⟨by omega, rfl⟩⟩
