abbrev pG (a : Nat) : Prop := a = 1 ∨ a = 3 ∨ a = 9
abbrev pGs (s a : Nat) : Prop := pG a ∨ pSc s a
theorem pP_R (a : Nat) (h : pP a) : pG a := h.elim Or.inl (fun k => Or.inr (Or.inl k))
theorem pT_R (a : Nat) (h : pT a) : pG a := Or.inl h
theorem pN_R (a : Nat) (h : pN9 a) : pG a := h.elim Or.inl (fun k => Or.inr (Or.inr k))
theorem no_P {c : Nat} (h : 10 ≤ c) : ¬ pP c := fun k => by rcases k with k | k <;> omega
theorem no_T {c : Nat} (h : 10 ≤ c) : ¬ pT c := fun k => by have : c = 1 := k; omega
theorem no_N {c : Nat} (h : 10 ≤ c) : ¬ pN9 c := fun k => by rcases k with k | k <;> omega
theorem no_R {c : Nat} (h : 10 ≤ c) : ¬ pG c := fun k => by rcases k with k | k | k <;> omega
theorem woS_l {a : Int → Int} {n w : Int} {e : Int × Int} : woS a n w (.inl e) = .inl e := rfl
theorem siS_l {a : Int → Int} {n w : Int} {e : Int × Int} : siS a n w (.inl e) = .inl e := rfl
theorem nuS_l {a : Int → Int} {n lo hi : Int} {e : Int × Int} : nuS a n lo hi (.inl e) = (.inl e, lo) := rfl
theorem wyS_l {a : Int → Int} {n m l : Int} {e : Int × Int} : wyS a n m l (.inl e) = (.inl e, 0) := rfl
theorem owS_l {S a : Int → Int} {n : Int} {e : Int × Int} : owS S a n (.inl e) = (.inl e, 0) := rfl
theorem SR_sm {p : Nat → Prop} {M N : abMem} {s : Nat} {S : Int → Int} (h : SR M s S) (g : sm p M N) (hp : ∀ c : Nat, s ≤ c → c < s + 87 → ¬ p c) : SR N s S := by
  have e : ∀ c : Nat, s ≤ c → c < s + 87 → gI N c = gI M c := fun c c0 c1 => g.at c (hp c c0 c1)
  have w1 := h.sw.la
  have w2 := h.sw.bo
  exact ⟨h.sw, by rw [e s (by omega) (by omega)]; exact h.c0, by rw [e s (by omega) (by omega)]; exact h.c1, by rw [e s (by omega) (by omega)]; exact h.c2, by rw [e s (by omega) (by omega)]; exact h.c3, by rw [e s (by omega) (by omega)]; exact h.c4, by rw [e s (by omega) (by omega)]; exact h.c5,
    fun i i0 i1 => by rw [e (s + 1) (by omega) (by omega)]; exact h.on i i0 i1,
    fun i i0 i1 => by rw [e (s + 2) (by omega) (by omega)]; exact h.nl i i0 i1,
    fun i j i0 i1 j0 j1 => by rw [e (s + 4 + i.toNat) (by omega) (by omega)]; exact h.nm i j i0 i1 j0 j1,
    fun i j i0 i1 j0 j1 => by rw [e (s + 11 + i.toNat) (by omega) (by omega)]; exact h.rw i j i0 i1 j0 j1,
    fun i j i0 i1 j0 j1 => by rw [e (s + 18 + i.toNat) (by omega) (by omega)]; exact h.rt i j i0 i1 j0 j1,
    fun i j i0 i1 j0 j1 => by rw [e (s + 25 + i.toNat) (by omega) (by omega)]; exact h.dn i j i0 i1 j0 j1,
    fun i j i0 i1 j0 j1 => by rw [e (s + 32 + i.toNat) (by omega) (by omega)]; exact h.cv i j i0 i1 j0 j1,
    fun i j i0 i1 j0 j1 => by rw [e (s + 39 + i.toNat) (by omega) (by omega)]; exact h.bx i j i0 i1 j0 j1,
    fun i v i0 i1 v0 v1 => by rw [e (s + 80 + i.toNat) (by omega) (by omega)]; exact h.fb i v i0 i1 v0 v1,
    fun i i0 i1 => by rw [e (s + 86) (by omega) (by omega)]; exact h.nb i i0 i1⟩
set_option maxRecDepth 20000 in
set_option maxHeartbeats 4000000 in
theorem c_readWay {d L : Nat} {M : abMem} {r : abRf} (hR : RF r M) {a : Int → Int} {n : Int} (hT : TP M a n) {p : Int} (hA : TA M a n p) {i j : Nat} (hi : i < 21 ∧ i ≠ 5) (hj : j < 21 ∧ j ≠ 5) (hij : swI i ≠ swI j) (hd : 7 ≤ d) : abW d (0, 0) 51 0 (abEnt (abL 51) [vr (some 3), vr (some (1000000 + i)), vr (some (1000000 + j))]) [] (0, 0) (A0 L) M (qI (A0 L) (fun x N => (∃ e : Int × Int, wyS a n (swI i) (swI j) (.inr p) = (.inl e, 0) ∧ x = 0 ∧ FA pP M a n e N) ∨ (∃ q w : Int, wyS a n (swI i) (swI j) (.inr p) = (.inr q, w) ∧ (w = swI i ∧ x = 1 ∨ w = swI j ∧ x = -1) ∧ GO pT M a n q N))) := by
  show abW d (0, 0) 51 0 [some (vr (some 3)), some (vr (some (1000000 + i))), some (vr (some (1000000 + j)))] [] (0, 0) (A0 L) M (qI (A0 L) (fun x N => (∃ e : Int × Int, wyS a n (swI i) (swI j) (.inr p) = (.inl e, 0) ∧ x = 0 ∧ FA pP M a n e N) ∨ (∃ q w : Int, wyS a n (swI i) (swI j) (.inr p) = (.inr q, w) ∧ (w = swI i ∧ x = 1 ∨ w = swI j ∧ x = -1) ∧ GO pT M a n q N)))
  refine bw_aload rfl rfl ?_
  refine bw_getr rfl rfl (hR _ _) ?_
  refine bw_aload rfl rfl ?_
  refine bw_callVNi (e := d - 1) (as := [_]) rfl (by omega) rfl rfl (Nat.le_of_ble_eq_true rfl) (Nat.le_of_ble_eq_true rfl) rfl (c_takeWord hR hT hA hi (by omega)) (fun r5 M5 hM5 => ?_)
  rcases hM5 with ⟨h5, rfl, g5⟩ | ⟨h5, rfl, rfl⟩
  · refine bw_ifeq rfl (fun c => absurd c (by decide)) (fun _ => ?_)
    refine bw_push rfl ?_
    refine bw_ret rfl rfl ?_
    exact ⟨rfl, _, rfl, Or.inr ⟨_, _, wyS_y (Or.inl h5), Or.inl ⟨h5, rfl⟩, go_of g5⟩⟩
  · refine bw_ifeq rfl (fun _ => ?_) (fun c => (c (by decide)).elim)
    refine bw_aload rfl rfl ?_
    refine bw_aload rfl rfl ?_
    refine bw_callVi (e := d - 1) (as := [_]) rfl (by omega) rfl rfl (Nat.le_of_ble_eq_true rfl) (Nat.le_of_ble_eq_true rfl) rfl (c_needWord hR hT hA hj (by omega)) (fun r15 M15 hM15 => ?_)
    rcases hM15 with ⟨e, h15, rfl, f15⟩ | ⟨q, h15, rfl, g15⟩
    · refine bw_ifeq rfl (fun _ => ?_) (fun c => (c (by decide)).elim)
      refine bw_push rfl ?_
      refine bw_ret rfl rfl ?_
      by_cases c15 : wo a n p = swI j
      · first
        | (rw [woS_y c15] at h15; cases h15; exact ⟨rfl, _, rfl, Or.inr ⟨_, _, wyS_y (Or.inr c15), Or.inr ⟨c15, rfl⟩, g15⟩⟩)
        | (rw [woS_y c15] at h15; cases h15)
      · first
        | (rw [woS_n c15] at h15; cases h15; exact ⟨rfl, _, rfl, Or.inl ⟨_, wyS_n (fun k => k.elim h5 c15), rfl, f15⟩⟩)
        | (rw [woS_n c15] at h15; cases h15)
    · refine bw_ifeq rfl (fun c => absurd c (by decide)) (fun _ => ?_)
      refine bw_push rfl ?_
      refine bw_goto rfl ?_
      refine bw_ret rfl rfl ?_
      by_cases c15 : wo a n p = swI j
      · first
        | (rw [woS_y c15] at h15; cases h15; exact ⟨rfl, _, rfl, Or.inr ⟨_, _, wyS_y (Or.inr c15), Or.inr ⟨c15, rfl⟩, g15⟩⟩)
        | (rw [woS_y c15] at h15; cases h15)
      · first
        | (rw [woS_n c15] at h15; cases h15; exact ⟨rfl, _, rfl, Or.inl ⟨_, wyS_n (fun k => k.elim h5 c15), rfl, f15⟩⟩)
        | (rw [woS_n c15] at h15; cases h15)
set_option maxRecDepth 20000 in
set_option maxHeartbeats 4000000 in
theorem c_readSpan {d L : Nat} {M : abMem} {r : abRf} (hR : RF r M) {a : Int → Int} {n : Int} (hT : TP M a n) {p : Int} (hA : TA M a n p) {s : Nat} (hs : s = 372 ∨ s = 459) {S : Int → Int} (hS : SR M s S) (hr : r.2.1 = some s) (hd : 7 ≤ d) : abW d (0, 0) 50 0 (abEnt (abL 50) [vr (some 3)]) [] (0, 0) (A0 L) M (qI (A0 L) (fun x N => (∃ e : Int × Int, (∀ (T : Int → Int) (k : Int), T 0 = S 0 → (spS T a n k (owS S a n (.inr p)).1).1 = .inl e) ∧ x = 0 ∧ FA pG M a n e N) ∨ (∃ q l u v : Int, (owS S a n (.inr p)).2 = l ∧ (∀ (T : Int → Int) (k : Int), T 0 = S 0 → spS T a n k (owS S a n (.inr p)).1 = (.inr q, up (up T k u) (k + 1) v)) ∧ x = 1 ∧ GO pG M a n q N ∧ (gI N 3 4 = l ∧ 0 ≤ l ∧ l < S 1) ∧ (gI N 9 0 = u ∧ gI N 9 1 = v ∧ 0 ≤ u ∧ u ≤ v ∧ v < S 0)))) := by
  rcases hs with rfl | rfl
  · have w0 := hS.sw.fr
    have w1 := hS.sw.la
    have w2 := hS.sw.bo
    have w3 := hS.sw.sl
    have w4 := hS.sw.hi
    have w5 := hS.sw.st
    have hF : sq pG M M := sq_refl _ _
    have hRM := hR
    have hSM := hS
    show abW d (0, 0) 50 0 [some (vr (some 3))] [] (0, 0) (A0 L) M (qI (A0 L) (fun x N => (∃ e : Int × Int, (∀ (T : Int → Int) (k : Int), T 0 = S 0 → (spS T a n k (owS S a n (.inr p)).1).1 = .inl e) ∧ x = 0 ∧ FA pG M a n e N) ∨ (∃ q l u v : Int, (owS S a n (.inr p)).2 = l ∧ (∀ (T : Int → Int) (k : Int), T 0 = S 0 → spS T a n k (owS S a n (.inr p)).1 = (.inr q, up (up T k u) (k + 1) v)) ∧ x = 1 ∧ GO pG M a n q N ∧ (gI N 3 4 = l ∧ 0 ≤ l ∧ l < S 1) ∧ (gI N 9 0 = u ∧ gI N 9 1 = v ∧ 0 ≤ u ∧ u ≤ v ∧ v < S 0))))
    refine bw_aload rfl rfl ?_
    refine bw_callVi (e := d - 1) (as := []) rfl (by omega) rfl rfl (Nat.le_of_ble_eq_true rfl) (Nat.le_of_ble_eq_true rfl) rfl (c_needOwner hR hT hA (by first | exact Or.inl rfl | exact Or.inr rfl) hS hr (by omega)) (fun r1 M1 hM1 => ?_)
    rcases hM1 with ⟨e, h1, rfl, f1⟩ | ⟨q1, l1, h1, rfl, g1, o4, b1⟩
    · skip
      have hz : (∀ (T : Int → Int) (k : Int), T 0 = S 0 → (spS T a n k (owS S a n (.inr p)).1).1 = .inl e) := by intro T k z; simp only [spS, z, h1, woS_l, nuS_l]
      have hX : FA pG M a n e M1 := ⟨hF.1.trans (f1.1.mono pP_R), f1.2⟩
      refine bw_ifeq rfl (fun _ => ?_) (fun c => (c (by decide)).elim)
      refine bw_push rfl ?_
      refine bw_retz rfl rfl (by omega) ?_
      first
      | exact ⟨rfl, _, rfl, Or.inl ⟨e, hz, rfl, hX⟩⟩
      | exact ⟨rfl, _, rfl, Or.inr ⟨q60, l1, v28, v60, by rw [h1], fun T k z => by simp only [spS, z, h1, h10, h28, h37, h60], rfl, ⟨hF, hT, hA⟩, ⟨o4, b1⟩, n0, n1, by omega, by omega, by omega⟩⟩
    · skip
      have hS := SR_sm hS g1.1.1 (fun c c0 c1 => no_P (by omega))
      have hF := hF.trans (g1.1.mono pP_R)
      have hR := g1.1.RF hR
      have hT := g1.2.1
      have hA := g1.2.2
      refine bw_ifeq rfl (fun c => absurd c (by decide)) (fun _ => ?_)
      refine bw_aload rfl rfl ?_
      refine bw_ldcs rfl ?_
      refine bw_callVi (e := d - 1) (as := [_]) rfl (by omega) rfl rfl (Nat.le_of_ble_eq_true rfl) (Nat.le_of_ble_eq_true rfl) rfl (c_needWord (i := 15) hR hT hA (by decide) (by omega)) (fun r10 M10 hM10 => ?_)
      rcases hM10 with ⟨e, h10, rfl, f10⟩ | ⟨q10, h10, rfl, g10⟩
      · have h10 : woS a n 10 (.inr q1) = .inl e := h10
        have hz : (∀ (T : Int → Int) (k : Int), T 0 = S 0 → (spS T a n k (owS S a n (.inr p)).1).1 = .inl e) := by intro T k z; simp only [spS, z, h1, h10, woS_l, nuS_l]
        have hX : FA pG M a n e M10 := ⟨hF.1.trans (f10.1.mono pP_R), f10.2⟩
        refine bw_ifeq rfl (fun _ => ?_) (fun c => (c (by decide)).elim)
        refine bw_push rfl ?_
        refine bw_retz rfl rfl (by omega) ?_
        first
        | exact ⟨rfl, _, rfl, Or.inl ⟨e, hz, rfl, hX⟩⟩
        | exact ⟨rfl, _, rfl, Or.inr ⟨q60, l1, v28, v60, by rw [h1], fun T k z => by simp only [spS, z, h1, h10, h28, h37, h60], rfl, ⟨hF, hT, hA⟩, ⟨o4, b1⟩, n0, n1, by omega, by omega, by omega⟩⟩
      · have h10 : woS a n 10 (.inr q1) = .inr q10 := h10
        have o4 : gI M10 3 4 = l1 := by rw [g10.1.at 3 (by decide)]; exact o4
        have hS := SR_sm hS g10.1.1 (fun c c0 c1 => no_T (by omega))
        have hF := hF.trans (g10.1.mono pT_R)
        have hR := g10.1.RF hR
        have hT := g10.2.1
        have hA := g10.2.2
        refine bw_ifeq rfl (fun c => absurd c (by decide)) (fun _ => ?_)
        refine bw_aload rfl rfl ?_
        refine bw_push rfl ?_
        refine bw_push rfl ?_
        refine bw_aload rfl rfl ?_
        refine bw_getr rfl rfl ((hR _ _).trans hr) ?_
        refine bw_getI rfl rfl ?_
        rw [show gI M10 372 0 = S 0 from hS.c0]
        refine bw_push rfl ?_
        refine bw_isub rfl ⟨by omega, by omega⟩ ?_
        refine bw_callVi (e := d - 1) (as := [_, _, _]) rfl (by omega) rfl rfl (Nat.le_of_ble_eq_true rfl) (Nat.le_of_ble_eq_true rfl) rfl (c_needNumber hR hT hA (by omega) (by omega)) (fun r28 M28 hM28 => ?_)
        rcases hM28 with ⟨e, h28, rfl, f28⟩ | ⟨q28, v28, h28, rfl, g28, b28, k28⟩
        · skip
          have hz : (∀ (T : Int → Int) (k : Int), T 0 = S 0 → (spS T a n k (owS S a n (.inr p)).1).1 = .inl e) := by intro T k z; simp only [spS, z, h1, h10, h28, woS_l, nuS_l]
          have hX : FA pG M a n e M28 := ⟨hF.1.trans (f28.1.mono pP_R), f28.2⟩
          refine bw_ifeq rfl (fun _ => ?_) (fun c => (c (by decide)).elim)
          refine bw_push rfl ?_
          refine bw_retz rfl rfl (by omega) ?_
          first
          | exact ⟨rfl, _, rfl, Or.inl ⟨e, hz, rfl, hX⟩⟩
          | exact ⟨rfl, _, rfl, Or.inr ⟨q60, l1, v28, v60, by rw [h1], fun T k z => by simp only [spS, z, h1, h10, h28, h37, h60], rfl, ⟨hF, hT, hA⟩, ⟨o4, b1⟩, n0, n1, by omega, by omega, by omega⟩⟩
        · skip
          have n0 : gI M28 9 0 = v28 := by rw [k28, up_eq rfl]
          have o4 : gI M28 3 4 = l1 := by rw [g28.1.at 3 (by decide)]; exact o4
          have hS := SR_sm hS g28.1.1 (fun c c0 c1 => no_N (by omega))
          have hF := hF.trans (g28.1.mono pN_R)
          have hR := g28.1.RF hR
          have hT := g28.2.1
          have hA := g28.2.2
          refine bw_ifeq rfl (fun c => absurd c (by decide)) (fun _ => ?_)
          refine bw_aload rfl rfl ?_
          refine bw_ldcs rfl ?_
          refine bw_callVi (e := d - 1) (as := [_]) rfl (by omega) rfl rfl (Nat.le_of_ble_eq_true rfl) (Nat.le_of_ble_eq_true rfl) rfl (c_needWord (i := 16) hR hT hA (by decide) (by omega)) (fun r37 M37 hM37 => ?_)
          rcases hM37 with ⟨e, h37, rfl, f37⟩ | ⟨q37, h37, rfl, g37⟩
          · have h37 : woS a n 11 (.inr q28) = .inl e := h37
            have hz : (∀ (T : Int → Int) (k : Int), T 0 = S 0 → (spS T a n k (owS S a n (.inr p)).1).1 = .inl e) := by intro T k z; simp only [spS, z, h1, h10, h28, h37, woS_l, nuS_l]
            have hX : FA pG M a n e M37 := ⟨hF.1.trans (f37.1.mono pP_R), f37.2⟩
            refine bw_ifeq rfl (fun _ => ?_) (fun c => (c (by decide)).elim)
            refine bw_push rfl ?_
            refine bw_retz rfl rfl (by omega) ?_
            first
            | exact ⟨rfl, _, rfl, Or.inl ⟨e, hz, rfl, hX⟩⟩
            | exact ⟨rfl, _, rfl, Or.inr ⟨q60, l1, v28, v60, by rw [h1], fun T k z => by simp only [spS, z, h1, h10, h28, h37, h60], rfl, ⟨hF, hT, hA⟩, ⟨o4, b1⟩, n0, n1, by omega, by omega, by omega⟩⟩
          · have h37 : woS a n 11 (.inr q28) = .inr q37 := h37
            have n0 : gI M37 9 0 = v28 := by rw [g37.1.at 9 (by decide)]; exact n0
            have o4 : gI M37 3 4 = l1 := by rw [g37.1.at 3 (by decide)]; exact o4
            have hS := SR_sm hS g37.1.1 (fun c c0 c1 => no_T (by omega))
            have hF := hF.trans (g37.1.mono pT_R)
            have hR := g37.1.RF hR
            have hT := g37.2.1
            have hA := g37.2.2
            refine bw_ifeq rfl (fun c => absurd c (by decide)) (fun _ => ?_)
            refine bw_aload rfl rfl ?_
            refine bw_push rfl ?_
            refine bw_aload rfl rfl ?_
            refine bw_getr rfl rfl (hR _ _) ?_
            refine bw_push rfl ?_
            refine bw_aldi rfl (by first | rfl | assumption) (by omega) (by omega) ?_
            rw [n0]
            refine bw_aload rfl rfl ?_
            refine bw_getr rfl rfl ((hR _ _).trans hr) ?_
            refine bw_getI rfl rfl ?_
            rw [show gI M37 372 0 = S 0 from hS.c0]
            refine bw_push rfl ?_
            refine bw_isub rfl ⟨by omega, by omega⟩ ?_
            refine bw_callVi (e := d - 1) (as := [_, _, _]) rfl (by omega) rfl rfl (Nat.le_of_ble_eq_true rfl) (Nat.le_of_ble_eq_true rfl) rfl (c_needNumber hR hT hA (by omega) (by omega)) (fun r60 M60 hM60 => ?_)
            rcases hM60 with ⟨e, h60, rfl, f60⟩ | ⟨q60, v60, h60, rfl, g60, b60, k60⟩
            · skip
              have hz : (∀ (T : Int → Int) (k : Int), T 0 = S 0 → (spS T a n k (owS S a n (.inr p)).1).1 = .inl e) := by intro T k z; simp only [spS, z, h1, h10, h28, h37, h60, woS_l, nuS_l]
              have hX : FA pG M a n e M60 := ⟨hF.1.trans (f60.1.mono pP_R), f60.2⟩
              refine bw_ifeq rfl (fun _ => ?_) (fun c => (c (by decide)).elim)
              refine bw_push rfl ?_
              refine bw_retz rfl rfl (by omega) ?_
              first
              | exact ⟨rfl, _, rfl, Or.inl ⟨e, hz, rfl, hX⟩⟩
              | exact ⟨rfl, _, rfl, Or.inr ⟨q60, l1, v28, v60, by rw [h1], fun T k z => by simp only [spS, z, h1, h10, h28, h37, h60], rfl, ⟨hF, hT, hA⟩, ⟨o4, b1⟩, n0, n1, by omega, by omega, by omega⟩⟩
            · skip
              have n0 : gI M60 9 0 = v28 := by rw [k60, up_ne (by decide)]; exact n0
              have n1 : gI M60 9 1 = v60 := by rw [k60, up_eq rfl]
              have o4 : gI M60 3 4 = l1 := by rw [g60.1.at 3 (by decide)]; exact o4
              have hS := SR_sm hS g60.1.1 (fun c c0 c1 => no_N (by omega))
              have hF := hF.trans (g60.1.mono pN_R)
              have hR := g60.1.RF hR
              have hT := g60.2.1
              have hA := g60.2.2
              refine bw_ifeq rfl (fun c => absurd c (by decide)) (fun _ => ?_)
              refine bw_push rfl ?_
              refine bw_goto rfl ?_
              refine bw_retz rfl rfl (by omega) ?_
              first
              | exact ⟨rfl, _, rfl, Or.inl ⟨e, hz, rfl, hX⟩⟩
              | exact ⟨rfl, _, rfl, Or.inr ⟨q60, l1, v28, v60, by rw [h1], fun T k z => by simp only [spS, z, h1, h10, h28, h37, h60], rfl, ⟨hF, hT, hA⟩, ⟨o4, b1⟩, n0, n1, by omega, by omega, by omega⟩⟩
  · have w0 := hS.sw.fr
    have w1 := hS.sw.la
    have w2 := hS.sw.bo
    have w3 := hS.sw.sl
    have w4 := hS.sw.hi
    have w5 := hS.sw.st
    have hF : sq pG M M := sq_refl _ _
    have hRM := hR
    have hSM := hS
    show abW d (0, 0) 50 0 [some (vr (some 3))] [] (0, 0) (A0 L) M (qI (A0 L) (fun x N => (∃ e : Int × Int, (∀ (T : Int → Int) (k : Int), T 0 = S 0 → (spS T a n k (owS S a n (.inr p)).1).1 = .inl e) ∧ x = 0 ∧ FA pG M a n e N) ∨ (∃ q l u v : Int, (owS S a n (.inr p)).2 = l ∧ (∀ (T : Int → Int) (k : Int), T 0 = S 0 → spS T a n k (owS S a n (.inr p)).1 = (.inr q, up (up T k u) (k + 1) v)) ∧ x = 1 ∧ GO pG M a n q N ∧ (gI N 3 4 = l ∧ 0 ≤ l ∧ l < S 1) ∧ (gI N 9 0 = u ∧ gI N 9 1 = v ∧ 0 ≤ u ∧ u ≤ v ∧ v < S 0))))
    refine bw_aload rfl rfl ?_
    refine bw_callVi (e := d - 1) (as := []) rfl (by omega) rfl rfl (Nat.le_of_ble_eq_true rfl) (Nat.le_of_ble_eq_true rfl) rfl (c_needOwner hR hT hA (by first | exact Or.inl rfl | exact Or.inr rfl) hS hr (by omega)) (fun r1 M1 hM1 => ?_)
    rcases hM1 with ⟨e, h1, rfl, f1⟩ | ⟨q1, l1, h1, rfl, g1, o4, b1⟩
    · skip
      have hz : (∀ (T : Int → Int) (k : Int), T 0 = S 0 → (spS T a n k (owS S a n (.inr p)).1).1 = .inl e) := by intro T k z; simp only [spS, z, h1, woS_l, nuS_l]
      have hX : FA pG M a n e M1 := ⟨hF.1.trans (f1.1.mono pP_R), f1.2⟩
      refine bw_ifeq rfl (fun _ => ?_) (fun c => (c (by decide)).elim)
      refine bw_push rfl ?_
      refine bw_retz rfl rfl (by omega) ?_
      first
      | exact ⟨rfl, _, rfl, Or.inl ⟨e, hz, rfl, hX⟩⟩
      | exact ⟨rfl, _, rfl, Or.inr ⟨q60, l1, v28, v60, by rw [h1], fun T k z => by simp only [spS, z, h1, h10, h28, h37, h60], rfl, ⟨hF, hT, hA⟩, ⟨o4, b1⟩, n0, n1, by omega, by omega, by omega⟩⟩
    · skip
      have hS := SR_sm hS g1.1.1 (fun c c0 c1 => no_P (by omega))
      have hF := hF.trans (g1.1.mono pP_R)
      have hR := g1.1.RF hR
      have hT := g1.2.1
      have hA := g1.2.2
      refine bw_ifeq rfl (fun c => absurd c (by decide)) (fun _ => ?_)
      refine bw_aload rfl rfl ?_
      refine bw_ldcs rfl ?_
      refine bw_callVi (e := d - 1) (as := [_]) rfl (by omega) rfl rfl (Nat.le_of_ble_eq_true rfl) (Nat.le_of_ble_eq_true rfl) rfl (c_needWord (i := 15) hR hT hA (by decide) (by omega)) (fun r10 M10 hM10 => ?_)
      rcases hM10 with ⟨e, h10, rfl, f10⟩ | ⟨q10, h10, rfl, g10⟩
      · have h10 : woS a n 10 (.inr q1) = .inl e := h10
        have hz : (∀ (T : Int → Int) (k : Int), T 0 = S 0 → (spS T a n k (owS S a n (.inr p)).1).1 = .inl e) := by intro T k z; simp only [spS, z, h1, h10, woS_l, nuS_l]
        have hX : FA pG M a n e M10 := ⟨hF.1.trans (f10.1.mono pP_R), f10.2⟩
        refine bw_ifeq rfl (fun _ => ?_) (fun c => (c (by decide)).elim)
        refine bw_push rfl ?_
        refine bw_retz rfl rfl (by omega) ?_
        first
        | exact ⟨rfl, _, rfl, Or.inl ⟨e, hz, rfl, hX⟩⟩
        | exact ⟨rfl, _, rfl, Or.inr ⟨q60, l1, v28, v60, by rw [h1], fun T k z => by simp only [spS, z, h1, h10, h28, h37, h60], rfl, ⟨hF, hT, hA⟩, ⟨o4, b1⟩, n0, n1, by omega, by omega, by omega⟩⟩
      · have h10 : woS a n 10 (.inr q1) = .inr q10 := h10
        have o4 : gI M10 3 4 = l1 := by rw [g10.1.at 3 (by decide)]; exact o4
        have hS := SR_sm hS g10.1.1 (fun c c0 c1 => no_T (by omega))
        have hF := hF.trans (g10.1.mono pT_R)
        have hR := g10.1.RF hR
        have hT := g10.2.1
        have hA := g10.2.2
        refine bw_ifeq rfl (fun c => absurd c (by decide)) (fun _ => ?_)
        refine bw_aload rfl rfl ?_
        refine bw_push rfl ?_
        refine bw_push rfl ?_
        refine bw_aload rfl rfl ?_
        refine bw_getr rfl rfl ((hR _ _).trans hr) ?_
        refine bw_getI rfl rfl ?_
        rw [show gI M10 459 0 = S 0 from hS.c0]
        refine bw_push rfl ?_
        refine bw_isub rfl ⟨by omega, by omega⟩ ?_
        refine bw_callVi (e := d - 1) (as := [_, _, _]) rfl (by omega) rfl rfl (Nat.le_of_ble_eq_true rfl) (Nat.le_of_ble_eq_true rfl) rfl (c_needNumber hR hT hA (by omega) (by omega)) (fun r28 M28 hM28 => ?_)
        rcases hM28 with ⟨e, h28, rfl, f28⟩ | ⟨q28, v28, h28, rfl, g28, b28, k28⟩
        · skip
          have hz : (∀ (T : Int → Int) (k : Int), T 0 = S 0 → (spS T a n k (owS S a n (.inr p)).1).1 = .inl e) := by intro T k z; simp only [spS, z, h1, h10, h28, woS_l, nuS_l]
          have hX : FA pG M a n e M28 := ⟨hF.1.trans (f28.1.mono pP_R), f28.2⟩
          refine bw_ifeq rfl (fun _ => ?_) (fun c => (c (by decide)).elim)
          refine bw_push rfl ?_
          refine bw_retz rfl rfl (by omega) ?_
          first
          | exact ⟨rfl, _, rfl, Or.inl ⟨e, hz, rfl, hX⟩⟩
          | exact ⟨rfl, _, rfl, Or.inr ⟨q60, l1, v28, v60, by rw [h1], fun T k z => by simp only [spS, z, h1, h10, h28, h37, h60], rfl, ⟨hF, hT, hA⟩, ⟨o4, b1⟩, n0, n1, by omega, by omega, by omega⟩⟩
        · skip
          have n0 : gI M28 9 0 = v28 := by rw [k28, up_eq rfl]
          have o4 : gI M28 3 4 = l1 := by rw [g28.1.at 3 (by decide)]; exact o4
          have hS := SR_sm hS g28.1.1 (fun c c0 c1 => no_N (by omega))
          have hF := hF.trans (g28.1.mono pN_R)
          have hR := g28.1.RF hR
          have hT := g28.2.1
          have hA := g28.2.2
          refine bw_ifeq rfl (fun c => absurd c (by decide)) (fun _ => ?_)
          refine bw_aload rfl rfl ?_
          refine bw_ldcs rfl ?_
          refine bw_callVi (e := d - 1) (as := [_]) rfl (by omega) rfl rfl (Nat.le_of_ble_eq_true rfl) (Nat.le_of_ble_eq_true rfl) rfl (c_needWord (i := 16) hR hT hA (by decide) (by omega)) (fun r37 M37 hM37 => ?_)
          rcases hM37 with ⟨e, h37, rfl, f37⟩ | ⟨q37, h37, rfl, g37⟩
          · have h37 : woS a n 11 (.inr q28) = .inl e := h37
            have hz : (∀ (T : Int → Int) (k : Int), T 0 = S 0 → (spS T a n k (owS S a n (.inr p)).1).1 = .inl e) := by intro T k z; simp only [spS, z, h1, h10, h28, h37, woS_l, nuS_l]
            have hX : FA pG M a n e M37 := ⟨hF.1.trans (f37.1.mono pP_R), f37.2⟩
            refine bw_ifeq rfl (fun _ => ?_) (fun c => (c (by decide)).elim)
            refine bw_push rfl ?_
            refine bw_retz rfl rfl (by omega) ?_
            first
            | exact ⟨rfl, _, rfl, Or.inl ⟨e, hz, rfl, hX⟩⟩
            | exact ⟨rfl, _, rfl, Or.inr ⟨q60, l1, v28, v60, by rw [h1], fun T k z => by simp only [spS, z, h1, h10, h28, h37, h60], rfl, ⟨hF, hT, hA⟩, ⟨o4, b1⟩, n0, n1, by omega, by omega, by omega⟩⟩
          · have h37 : woS a n 11 (.inr q28) = .inr q37 := h37
            have n0 : gI M37 9 0 = v28 := by rw [g37.1.at 9 (by decide)]; exact n0
            have o4 : gI M37 3 4 = l1 := by rw [g37.1.at 3 (by decide)]; exact o4
            have hS := SR_sm hS g37.1.1 (fun c c0 c1 => no_T (by omega))
            have hF := hF.trans (g37.1.mono pT_R)
            have hR := g37.1.RF hR
            have hT := g37.2.1
            have hA := g37.2.2
            refine bw_ifeq rfl (fun c => absurd c (by decide)) (fun _ => ?_)
            refine bw_aload rfl rfl ?_
            refine bw_push rfl ?_
            refine bw_aload rfl rfl ?_
            refine bw_getr rfl rfl (hR _ _) ?_
            refine bw_push rfl ?_
            refine bw_aldi rfl (by first | rfl | assumption) (by omega) (by omega) ?_
            rw [n0]
            refine bw_aload rfl rfl ?_
            refine bw_getr rfl rfl ((hR _ _).trans hr) ?_
            refine bw_getI rfl rfl ?_
            rw [show gI M37 459 0 = S 0 from hS.c0]
            refine bw_push rfl ?_
            refine bw_isub rfl ⟨by omega, by omega⟩ ?_
            refine bw_callVi (e := d - 1) (as := [_, _, _]) rfl (by omega) rfl rfl (Nat.le_of_ble_eq_true rfl) (Nat.le_of_ble_eq_true rfl) rfl (c_needNumber hR hT hA (by omega) (by omega)) (fun r60 M60 hM60 => ?_)
            rcases hM60 with ⟨e, h60, rfl, f60⟩ | ⟨q60, v60, h60, rfl, g60, b60, k60⟩
            · skip
              have hz : (∀ (T : Int → Int) (k : Int), T 0 = S 0 → (spS T a n k (owS S a n (.inr p)).1).1 = .inl e) := by intro T k z; simp only [spS, z, h1, h10, h28, h37, h60, woS_l, nuS_l]
              have hX : FA pG M a n e M60 := ⟨hF.1.trans (f60.1.mono pP_R), f60.2⟩
              refine bw_ifeq rfl (fun _ => ?_) (fun c => (c (by decide)).elim)
              refine bw_push rfl ?_
              refine bw_retz rfl rfl (by omega) ?_
              first
              | exact ⟨rfl, _, rfl, Or.inl ⟨e, hz, rfl, hX⟩⟩
              | exact ⟨rfl, _, rfl, Or.inr ⟨q60, l1, v28, v60, by rw [h1], fun T k z => by simp only [spS, z, h1, h10, h28, h37, h60], rfl, ⟨hF, hT, hA⟩, ⟨o4, b1⟩, n0, n1, by omega, by omega, by omega⟩⟩
            · skip
              have n0 : gI M60 9 0 = v28 := by rw [k60, up_ne (by decide)]; exact n0
              have n1 : gI M60 9 1 = v60 := by rw [k60, up_eq rfl]
              have o4 : gI M60 3 4 = l1 := by rw [g60.1.at 3 (by decide)]; exact o4
              have hS := SR_sm hS g60.1.1 (fun c c0 c1 => no_N (by omega))
              have hF := hF.trans (g60.1.mono pN_R)
              have hR := g60.1.RF hR
              have hT := g60.2.1
              have hA := g60.2.2
              refine bw_ifeq rfl (fun c => absurd c (by decide)) (fun _ => ?_)
              refine bw_push rfl ?_
              refine bw_goto rfl ?_
              refine bw_retz rfl rfl (by omega) ?_
              first
              | exact ⟨rfl, _, rfl, Or.inl ⟨e, hz, rfl, hX⟩⟩
              | exact ⟨rfl, _, rfl, Or.inr ⟨q60, l1, v28, v60, by rw [h1], fun T k z => by simp only [spS, z, h1, h10, h28, h37, h60], rfl, ⟨hF, hT, hA⟩, ⟨o4, b1⟩, n0, n1, by omega, by omega, by omega⟩⟩
