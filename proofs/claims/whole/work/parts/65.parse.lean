abbrev pP (a : Nat) : Prop := a = 1 ∨ a = 3
abbrev p3 (a : Nat) : Prop := a = 3
abbrev pN9 (a : Nat) : Prop := a = 1 ∨ a = 9
/-- the reading has ended with a fault; it goes on at q -/
def FA (p : Nat → Prop) (M : abMem) (a : Int → Int) (n : Int) (e : Int × Int) (N : abMem) : Prop := sm p M N ∧ TP N a n ∧ gI N 3 5 = e.1 ∧ gI N 3 6 = e.2
/-- the fault's numbers are as they were -/
def flE (M N : abMem) : Prop := gI N 3 5 = gI M 3 5 ∧ gI N 3 6 = gI M 3 6
def sq (p : Nat → Prop) (M N : abMem) : Prop := sm p M N ∧ flE M N
theorem sq_refl (p : Nat → Prop) (M : abMem) : sq p M M := ⟨sm_refl p M, rfl, rfl⟩
theorem sq.at {p : Nat → Prop} {M N : abMem} (h : sq p M N) (c : Nat) (hp : ¬ p c) : gI N c = gI M c := h.1.at c hp
theorem sq.RF {p : Nat → Prop} {M N : abMem} {r : abRf} (h : sq p M N) (hR : RF r M) : RF r N := h.1.RF hR
theorem sq.mono {p q : Nat → Prop} {M N : abMem} (h : sq p M N) (hq : ∀ c, p c → q c) : sq q M N := ⟨h.1.mono hq, h.2⟩
theorem sq.trans {p : Nat → Prop} {M N K : abMem} (h : sq p M N) (k : sq p N K) : sq p M K := ⟨h.1.trans k.1, k.2.1.trans h.2.1, k.2.2.trans h.2.2⟩
theorem sq_of {p : Nat → Prop} {M N : abMem} (h : sm p M N) (h3 : ¬ p 3) : sq p M N := ⟨h, by rw [h.at 3 h3], by rw [h.at 3 h3]⟩
def GO (p : Nat → Prop) (M : abMem) (a : Int → Int) (n q : Int) (N : abMem) : Prop := sq p M N ∧ TP N a n ∧ TA N a n q
theorem go_of {M N : abMem} {a : Int → Int} {n q : Int} (h : sm pT M N ∧ TP N a n ∧ TA N a n q) : GO pT M a n q N := ⟨sq_of h.1 (by decide), h.2⟩
theorem TA_sm {p : Nat → Prop} {M N : abMem} {a : Int → Int} {n q : Int} (h : TA M a n q) (g : sm p M N) (h1 : ¬ p 1) : TA N a n q := by
  unfold TA
  rw [g.at 1 h1]
  exact h
theorem TP_s2 {p : Nat → Prop} {M N : abMem} {a : Int → Int} {n : Int} (h : TP M a n) (g : sm p M N) (h1 : ¬ p 1) (h2 : ¬ p 2) : TP N a n := TP.sm h g h2 (by rw [g.at 1 h1])
theorem fa_of {M : abMem} {a : Int → Int} {n k p : Int} (h : TP M a n) : FA pP M a n (k, p) (sI (sI M 3 5 k) 3 6 p) :=
  ⟨((sm_refl pP M).sI 5 k (Or.inr rfl)).sI 6 p (Or.inr rfl), TP_s2 h (p := p3) (((sm_refl p3 M).sI 5 k rfl).sI 6 p rfl) (by decide) (by decide), by rw [gI_sI_nj (by decide), gI_sI_eq], by rw [gI_sI_eq]⟩
theorem FA.tr {p q s : Nat → Prop} {M N K : abMem} {a : Int → Int} {n : Int} {e : Int × Int} (u : sm p M N) (h : FA q N a n e K) (hp : ∀ a, p a → s a) (hq : ∀ a, q a → s a) : FA s M a n e K := ⟨(u.mono hp).trans (h.1.mono hq), h.2⟩
theorem GO.tr {p q s : Nat → Prop} {M N K : abMem} {a : Int → Int} {n k : Int} (u : sq p M N) (h : GO q N a n k K) (hp : ∀ a, p a → s a) (hq : ∀ a, q a → s a) : GO s M a n k K := ⟨(u.mono hp).trans (h.1.mono hq), h.2⟩
set_option maxRecDepth 20000 in
set_option maxHeartbeats 4000000 in
theorem c_fail {d L : Nat} {M : abMem} {r : abRf} (hR : RF r M) {k p : Int} : abW d (0, 0) 56 0 (abEnt (abL 56) [vr (some 3), vi k, vi p]) [] (0, 0) (A0 L) M (qI (A0 L) (fun x N => x = 0 ∧ N = sI (sI M 3 5 k) 3 6 p)) := by
  show abW d (0, 0) 56 0 [some (vr (some 3)), some (vi k), some (vi p)] [] (0, 0) (A0 L) M (qI (A0 L) (fun x N => x = 0 ∧ N = sI (sI M 3 5 k) 3 6 p))
  refine bw_aload rfl rfl ?_
  refine bw_iload rfl rfl ?_
  refine bw_putI rfl rfl ?_
  refine bw_aload rfl rfl ?_
  refine bw_iload rfl rfl ?_
  refine bw_putI rfl rfl ?_
  refine bw_push rfl ?_
  refine bw_retz rfl rfl (by omega) ?_
  exact ⟨rfl, _, rfl, rfl, rfl⟩
set_option maxRecDepth 20000 in
set_option maxHeartbeats 4000000 in
theorem c_needWord {d L : Nat} {M : abMem} {r : abRf} (hR : RF r M) {a : Int → Int} {n : Int} (hT : TP M a n) {p : Int} (hA : TA M a n p) {i : Nat} (hi : i < 21 ∧ i ≠ 5) (hd : 6 ≤ d) : abW d (0, 0) 54 0 (abEnt (abL 54) [vr (some 3), vr (some (1000000 + i))]) [] (0, 0) (A0 L) M (qI (A0 L) (fun x N => (∃ e : Int × Int, woS a n (swI i) (.inr p) = .inl e ∧ x = 0 ∧ FA pP M a n e N) ∨ (∃ q : Int, woS a n (swI i) (.inr p) = .inr q ∧ x = 1 ∧ GO pT M a n q N))) := by
  have t1 := hT.le
  have t2 := hT.ok.1
  have a1 := hA.1.1
  have a2 := hA.1.2.1
  have a3 := hA.1.2.2
  have a4 := hA.2
  have tc := tk_c hT.ok (p := p) (by omega)
  show abW d (0, 0) 54 0 [some (vr (some 3)), some (vr (some (1000000 + i)))] [] (0, 0) (A0 L) M (qI (A0 L) (fun x N => (∃ e : Int × Int, woS a n (swI i) (.inr p) = .inl e ∧ x = 0 ∧ FA pP M a n e N) ∨ (∃ q : Int, woS a n (swI i) (.inr p) = .inr q ∧ x = 1 ∧ GO pT M a n q N)))
  refine bw_aload rfl rfl ?_
  refine bw_getr rfl rfl (hR _ _) ?_
  refine bw_aload rfl rfl ?_
  refine bw_callVNi (e := d - 1) (as := [_]) rfl (by omega) rfl rfl (Nat.le_of_ble_eq_true rfl) (Nat.le_of_ble_eq_true rfl) rfl (c_takeWord hR hT hA hi (by omega)) (fun r5 M5 hM5 => ?_)
  rcases hM5 with ⟨h5, rfl, g5⟩ | ⟨h5, rfl, rfl⟩
  · refine bw_ifne rfl (fun _ => ?_) (fun c => (c (by decide)).elim)
    refine bw_push rfl ?_
    refine bw_goto rfl ?_
    refine bw_retz rfl rfl (by omega) ?_
    first
    | exact ⟨rfl, _, rfl, Or.inr ⟨_, woS_y h5, rfl, go_of g5⟩⟩
    | exact ⟨rfl, _, rfl, Or.inl ⟨_, woS_n h5, rfl, by rw [← a1]; exact fa_of hT⟩⟩
  · refine bw_ifne rfl (fun c => absurd c (by decide)) (fun _ => ?_)
    refine bw_aload rfl rfl ?_
    refine bw_push rfl ?_
    refine bw_aload rfl rfl ?_
    refine bw_getr rfl rfl (hR _ _) ?_
    refine bw_getI rfl rfl ?_
    refine bw_callVi (e := d - 1) (as := [_, _]) rfl (by omega) rfl rfl (Nat.le_of_ble_eq_true rfl) (Nat.le_of_ble_eq_true rfl) rfl (c_fail hR) (fun r20 M20 hM20 => ?_)
    obtain ⟨rfl, rfl⟩ := hM20
    refine bw_ifeq rfl (fun c23 => ?_) (fun c23 => ?_)
    · first
      | (exfalso; omega)
      | (refine bw_push rfl ?_
         refine bw_retz rfl rfl (by omega) ?_
         first
         | exact ⟨rfl, _, rfl, Or.inr ⟨_, woS_y h5, rfl, go_of g5⟩⟩
         | exact ⟨rfl, _, rfl, Or.inl ⟨_, woS_n h5, rfl, by rw [← a1]; exact fa_of hT⟩⟩)
    · first
      | (exfalso; omega)
      | (refine bw_push rfl ?_
         refine bw_goto rfl ?_
         refine bw_retz rfl rfl (by omega) ?_
         first
         | exact ⟨rfl, _, rfl, Or.inr ⟨_, woS_y h5, rfl, go_of g5⟩⟩
         | exact ⟨rfl, _, rfl, Or.inl ⟨_, woS_n h5, rfl, by rw [← a1]; exact fa_of hT⟩⟩)
set_option maxRecDepth 20000 in
set_option maxHeartbeats 4000000 in
theorem c_needSign {d L : Nat} {M : abMem} {r : abRf} (hR : RF r M) {a : Int → Int} {n : Int} (hT : TP M a n) {p : Int} (hA : TA M a n p) {c : Int} (hc : (0 ≤ c ∧ c < 128) ∧ ¬ (97 ≤ c ∧ c ≤ 122) ∧ ¬ (48 ≤ c ∧ c ≤ 57)) (hd : 2 ≤ d) : abW d (0, 0) 55 0 (abEnt (abL 55) [vr (some 3), vi c]) [] (0, 0) (A0 L) M (qI (A0 L) (fun x N => (∃ e : Int × Int, siS a n c (.inr p) = .inl e ∧ x = 0 ∧ FA pP M a n e N) ∨ (∃ q : Int, siS a n c (.inr p) = .inr q ∧ x = 1 ∧ GO pT M a n q N))) := by
  have t1 := hT.le
  have t2 := hT.ok.1
  have a1 := hA.1.1
  have a2 := hA.1.2.1
  have a3 := hA.1.2.2
  have a4 := hA.2
  have tc := tk_c hT.ok (p := p) (by omega)
  show abW d (0, 0) 55 0 [some (vr (some 3)), some (vi c)] [] (0, 0) (A0 L) M (qI (A0 L) (fun x N => (∃ e : Int × Int, siS a n c (.inr p) = .inl e ∧ x = 0 ∧ FA pP M a n e N) ∨ (∃ q : Int, siS a n c (.inr p) = .inr q ∧ x = 1 ∧ GO pT M a n q N)))
  refine bw_aload rfl rfl ?_
  refine bw_getr rfl rfl (hR _ _) ?_
  refine bw_iload rfl rfl ?_
  refine bw_callVNi (e := d - 1) (as := [_]) rfl (by omega) rfl rfl (Nat.le_of_ble_eq_true rfl) (Nat.le_of_ble_eq_true rfl) rfl (c_takeSign hR hT hA hc (by omega)) (fun r5 M5 hM5 => ?_)
  rcases hM5 with ⟨h5, rfl, g5⟩ | ⟨h5, rfl, rfl⟩
  · refine bw_ifne rfl (fun _ => ?_) (fun c => (c (by decide)).elim)
    refine bw_push rfl ?_
    refine bw_goto rfl ?_
    refine bw_retz rfl rfl (by omega) ?_
    first
    | exact ⟨rfl, _, rfl, Or.inr ⟨_, siS_y h5, rfl, go_of g5⟩⟩
    | exact ⟨rfl, _, rfl, Or.inl ⟨_, siS_n h5, rfl, by rw [← a1]; exact fa_of hT⟩⟩
  · refine bw_ifne rfl (fun c => absurd c (by decide)) (fun _ => ?_)
    refine bw_aload rfl rfl ?_
    refine bw_push rfl ?_
    refine bw_aload rfl rfl ?_
    refine bw_getr rfl rfl (hR _ _) ?_
    refine bw_getI rfl rfl ?_
    refine bw_callVi (e := d - 1) (as := [_, _]) rfl (by omega) rfl rfl (Nat.le_of_ble_eq_true rfl) (Nat.le_of_ble_eq_true rfl) rfl (c_fail hR) (fun r20 M20 hM20 => ?_)
    obtain ⟨rfl, rfl⟩ := hM20
    refine bw_ifeq rfl (fun c23 => ?_) (fun c23 => ?_)
    · first
      | (exfalso; omega)
      | (refine bw_push rfl ?_
         refine bw_retz rfl rfl (by omega) ?_
         first
         | exact ⟨rfl, _, rfl, Or.inr ⟨_, siS_y h5, rfl, go_of g5⟩⟩
         | exact ⟨rfl, _, rfl, Or.inl ⟨_, siS_n h5, rfl, by rw [← a1]; exact fa_of hT⟩⟩)
    · first
      | (exfalso; omega)
      | (refine bw_push rfl ?_
         refine bw_goto rfl ?_
         refine bw_retz rfl rfl (by omega) ?_
         first
         | exact ⟨rfl, _, rfl, Or.inr ⟨_, siS_y h5, rfl, go_of g5⟩⟩
         | exact ⟨rfl, _, rfl, Or.inl ⟨_, siS_n h5, rfl, by rw [← a1]; exact fa_of hT⟩⟩)
set_option maxRecDepth 20000 in
set_option maxHeartbeats 4000000 in
theorem c_needNumber {d L : Nat} {M : abMem} {r : abRf} (hR : RF r M) {a : Int → Int} {n : Int} (hT : TP M a n) {p : Int} (hA : TA M a n p) {j lo hi : Int} (hj : 0 ≤ j ∧ j < 7) (hd : 2 ≤ d) : abW d (0, 0) 53 0 (abEnt (abL 53) [vr (some 3), vi j, vi lo, vi hi]) [] (0, 0) (A0 L) M (qI (A0 L) (fun x N => (∃ e : Int × Int, nuS a n lo hi (.inr p) = (.inl e, lo) ∧ x = 0 ∧ FA pP M a n e N) ∨ (∃ q v : Int, nuS a n lo hi (.inr p) = (.inr q, v) ∧ x = 1 ∧ GO pN9 M a n q N ∧ (lo ≤ v ∧ v ≤ hi) ∧ gI N 9 = up (gI M 9) j v))) := by
  have t1 := hT.le
  have t2 := hT.ok.1
  have a1 := hA.1.1
  have a2 := hA.1.2.1
  have a3 := hA.1.2.2
  have a4 := hA.2
  have tc := tk_c hT.ok (p := p) (by omega)
  have dq : ¬ (48 ≤ a p ∧ a p ≤ 57) → de a n p = p := fun h => rn_f (pDg_f.mpr h)
  show abW d (0, 0) 53 0 [some (vr (some 3)), some (vi j), some (vi lo), some (vi hi), none] [] (0, 0) (A0 L) M (qI (A0 L) (fun x N => (∃ e : Int × Int, nuS a n lo hi (.inr p) = (.inl e, lo) ∧ x = 0 ∧ FA pP M a n e N) ∨ (∃ q v : Int, nuS a n lo hi (.inr p) = (.inr q, v) ∧ x = 1 ∧ GO pN9 M a n q N ∧ (lo ≤ v ∧ v ≤ hi) ∧ gI N 9 = up (gI M 9) j v)))
  refine bw_aload rfl rfl ?_
  refine bw_getr rfl rfl (hR _ _) ?_
  refine bw_getI rfl rfl ?_
  refine bw_push rfl ?_
  refine bw_icne rfl (fun c8 => ?_) (fun c8 => ?_)
  · skip
    refine bw_aload rfl rfl ?_
    refine bw_push rfl ?_
    refine bw_aload rfl rfl ?_
    refine bw_getr rfl rfl (hR _ _) ?_
    refine bw_getI rfl rfl ?_
    refine bw_callVi (e := d - 1) (as := [_, _]) rfl (by omega) rfl rfl (Nat.le_of_ble_eq_true rfl) (Nat.le_of_ble_eq_true rfl) rfl (c_fail hR) (fun r39 M39 hM39 => ?_)
    obtain ⟨rfl, rfl⟩ := hM39
    refine bw_retz rfl rfl (by omega) ?_
    exact ⟨rfl, _, rfl, Or.inl ⟨_, nu_a (by omega), rfl, by rw [← a1]; exact fa_of hT⟩⟩
  · skip
    refine bw_aload rfl rfl ?_
    refine bw_getr rfl rfl (hR _ _) ?_
    refine bw_getI rfl rfl ?_
    refine bw_aload rfl rfl ?_
    refine bw_getr rfl rfl (hR _ _) ?_
    refine bw_getI rfl rfl ?_
    refine bw_isub rfl ⟨by omega, by omega⟩ ?_
    refine bw_push rfl ?_
    refine bw_icle rfl (fun c27 => ?_) (fun c27 => ?_)
    · skip
      refine bw_aload rfl rfl ?_
      refine bw_getr rfl rfl (hR _ _) ?_
      refine bw_callVNe (e := d - 1) (as := []) rfl (by omega) rfl rfl (Nat.le_of_ble_eq_true rfl) (Nat.le_of_ble_eq_true rfl) rfl (c_number hR hT hA (by omega)) ?_
      refine bw_istore (ls2 := [_, _, _, _, _]) rfl rfl (Nat.le_of_ble_eq_true rfl) rfl ?_
      refine bw_iload rfl rfl ?_
      refine bw_iload rfl rfl ?_
      refine bw_iclt rfl (fun c55 => ?_) (fun c55 => ?_)
      · skip
        refine bw_aload rfl rfl ?_
        refine bw_push rfl ?_
        refine bw_aload rfl rfl ?_
        refine bw_getr rfl rfl (hR _ _) ?_
        refine bw_getI rfl rfl ?_
        refine bw_callVi (e := d - 1) (as := [_, _]) rfl (by omega) rfl rfl (Nat.le_of_ble_eq_true rfl) (Nat.le_of_ble_eq_true rfl) rfl (c_fail hR) (fun r73 M73 hM73 => ?_)
        obtain ⟨rfl, rfl⟩ := hM73
        refine bw_retz rfl rfl (by omega) ?_
        exact ⟨rfl, _, rfl, Or.inl ⟨_, nu_c (by omega) (by omega), rfl, by rw [← a1]; exact fa_of hT⟩⟩
      · skip
        refine bw_iload rfl rfl ?_
        refine bw_iload rfl rfl ?_
        refine bw_icle rfl (fun c61 => ?_) (fun c61 => ?_)
        · skip
          refine bw_aload rfl rfl ?_
          refine bw_getr rfl rfl (hR _ _) ?_
          refine bw_iload rfl rfl ?_
          refine bw_iload rfl rfl ?_
          refine bw_asti rfl (by first | rfl | assumption) (by omega) (by omega) ?_
          refine bw_aload rfl rfl ?_
          refine bw_getr rfl rfl (hR _ _) ?_
          refine bw_callVNv (e := d - 1) (as := []) rfl (by omega) rfl rfl (Nat.le_of_ble_eq_true rfl) (Nat.le_of_ble_eq_true rfl) rfl (c_advance (M := sI M 9 j (nv a n p)) (s := de a n p) hR (TP_s2 hT ((sm_refl (fun a => a = 9) M).sI j _ rfl) (by decide) (by decide)) ⟨by rw [gI_sI_ne (by decide)]; omega, by omega, by omega⟩) (fun M89 hM89 => ?_)
          refine bw_push rfl ?_
          refine bw_retz rfl rfl (by omega) ?_
          obtain ⟨u9, v9, w9⟩ := hM89
          exact ⟨rfl, _, rfl, Or.inr ⟨_, _, nu_d (by omega) (by omega), rfl, ⟨sq_of (((sm_refl pN9 M).sI j _ (Or.inr rfl)).trans (u9.mono (fun _ k => Or.inl k))) (by decide), v9, w9⟩, by omega, by rw [u9.at 9 (by decide), sI_w, gI_wI_eq]⟩⟩
        · skip
          refine bw_aload rfl rfl ?_
          refine bw_push rfl ?_
          refine bw_aload rfl rfl ?_
          refine bw_getr rfl rfl (hR _ _) ?_
          refine bw_getI rfl rfl ?_
          refine bw_callVi (e := d - 1) (as := [_, _]) rfl (by omega) rfl rfl (Nat.le_of_ble_eq_true rfl) (Nat.le_of_ble_eq_true rfl) rfl (c_fail hR) (fun r73 M73 hM73 => ?_)
          obtain ⟨rfl, rfl⟩ := hM73
          refine bw_retz rfl rfl (by omega) ?_
          exact ⟨rfl, _, rfl, Or.inl ⟨_, nu_c (by omega) (by omega), rfl, by rw [← a1]; exact fa_of hT⟩⟩
    · skip
      refine bw_aload rfl rfl ?_
      refine bw_push rfl ?_
      refine bw_aload rfl rfl ?_
      refine bw_getr rfl rfl (hR _ _) ?_
      refine bw_getI rfl rfl ?_
      refine bw_callVi (e := d - 1) (as := [_, _]) rfl (by omega) rfl rfl (Nat.le_of_ble_eq_true rfl) (Nat.le_of_ble_eq_true rfl) rfl (c_fail hR) (fun r39 M39 hM39 => ?_)
      obtain ⟨rfl, rfl⟩ := hM39
      refine bw_retz rfl rfl (by omega) ?_
      exact ⟨rfl, _, rfl, Or.inl ⟨_, nu_a (by omega), rfl, by rw [← a1]; exact fa_of hT⟩⟩
theorem owS_y {S a : Int → Int} {n p : Int} (h : (1 ≤ we a n p - p ∧ we a n p - p ≤ 6) ∧ wo a n p = -1) (g : fnL S a (S 1) p (we a n p - p) ≠ -1) : owS S a n (.inr p) = (.inr (sk a n (we a n p)), fnL S a (S 1) p (we a n p - p)) := by
  rw [owS_g (q := sk a n (we a n p)) (by rw [naS_y h])]
  rw [naS_y h]
  exact if_neg g
theorem owS_m {S a : Int → Int} {n p : Int} (h : (1 ≤ we a n p - p ∧ we a n p - p ≤ 6) ∧ wo a n p = -1) (g : fnL S a (S 1) p (we a n p - p) = -1) : owS S a n (.inr p) = (.inl (3, p), 0) := by
  rw [owS_g (q := sk a n (we a n p)) (by rw [naS_y h])]
  rw [naS_y h]
  exact if_pos g
theorem owS_n {S a : Int → Int} {n p : Int} (h : ¬ ((1 ≤ we a n p - p ∧ we a n p - p ≤ 6) ∧ wo a n p = -1)) : owS S a n (.inr p) = (.inl (1, p), 0) := owS_f (by rw [naS_n h])
set_option maxRecDepth 20000 in
set_option maxHeartbeats 4000000 in
theorem c_needOwner {d L : Nat} {M : abMem} {r : abRf} (hR : RF r M) {a : Int → Int} {n : Int} (hT : TP M a n) {p : Int} (hA : TA M a n p) {s : Nat} (hs : s = 372 ∨ s = 459) {S : Int → Int} (hS : SR M s S) (hr : r.2.1 = some s) (hd : 6 ≤ d) : abW d (0, 0) 52 0 (abEnt (abL 52) [vr (some 3)]) [] (0, 0) (A0 L) M (qI (A0 L) (fun x N => (∃ e : Int × Int, owS S a n (.inr p) = (.inl e, 0) ∧ x = 0 ∧ FA pP M a n e N) ∨ (∃ q l : Int, owS S a n (.inr p) = (.inr q, l) ∧ x = 1 ∧ GO pP M a n q N ∧ gI N 3 4 = l ∧ (0 ≤ l ∧ l < S 1)))) := by
  rcases hs with rfl | rfl
  · have t1 := hT.le
    have t2 := hT.ok.1
    have a1 := hA.1.1
    have a2 := hA.1.2.1
    have a3 := hA.1.2.2
    have a4 := hA.2
    have tc := tk_c hT.ok (p := p) (by omega)
    have w1 := hS.sw.la
    have fi := fnL_in (S := S) (a := a) (z := S 1) (k := p) (m := we a n p - p) w1.1
    show abW d (0, 0) 52 0 [some (vr (some 3))] [] (0, 0) (A0 L) M (qI (A0 L) (fun x N => (∃ e : Int × Int, owS S a n (.inr p) = (.inl e, 0) ∧ x = 0 ∧ FA pP M a n e N) ∨ (∃ q l : Int, owS S a n (.inr p) = (.inr q, l) ∧ x = 1 ∧ GO pP M a n q N ∧ gI N 3 4 = l ∧ (0 ≤ l ∧ l < S 1))))
    refine bw_aload rfl rfl ?_
    refine bw_getr rfl rfl (hR _ _) ?_
    refine bw_callVNj (e := d - 1) (as := []) rfl (by omega) rfl rfl (Nat.le_of_ble_eq_true rfl) (Nat.le_of_ble_eq_true rfl) rfl (c_isName hR hT hA (by omega)) (fun r4 hr4 => ?_)
    rcases hr4 with ⟨h4, rfl⟩ | ⟨h4, rfl⟩
    · refine bw_ifne rfl (fun _ => ?_) (fun c => (c (by decide)).elim)
      refine bw_aload rfl rfl ?_
      refine bw_aload rfl rfl ?_
      refine bw_getr rfl rfl ((hR _ _).trans hr) ?_
      refine bw_aload rfl rfl ?_
      refine bw_getr rfl rfl (hR _ _) ?_
      refine bw_getr rfl rfl (hR _ _) ?_
      refine bw_aload rfl rfl ?_
      refine bw_getr rfl rfl (hR _ _) ?_
      refine bw_getI rfl rfl ?_
      refine bw_aload rfl rfl ?_
      refine bw_getr rfl rfl (hR _ _) ?_
      refine bw_getI rfl rfl ?_
      refine bw_aload rfl rfl ?_
      refine bw_getr rfl rfl (hR _ _) ?_
      refine bw_getI rfl rfl ?_
      refine bw_isub rfl ⟨by omega, by omega⟩ ?_
      refine bw_callVNe (e := d - 1) (as := [_, _, _]) rfl (by omega) rfl rfl (Nat.le_of_ble_eq_true rfl) (Nat.le_of_ble_eq_true rfl) rfl (c_layerWithName hR hT (by first | exact Or.inl rfl | exact Or.inr rfl) hS (by omega) (by omega)) ?_
      rw [a1, a3, show tkE a n p = we a n p by omega]
      refine bw_putI rfl rfl ?_
      refine bw_aload rfl rfl ?_
      refine bw_getI rfl rfl ?_
      refine bw_push rfl ?_
      refine bw_icne rfl (fun c68 => ?_) (fun c68 => ?_)
      · skip
        refine bw_aload rfl rfl ?_
        refine bw_getr rfl rfl (hR _ _) ?_
        refine bw_callVNv (e := d - 1) (as := []) rfl (by omega) rfl rfl (Nat.le_of_ble_eq_true rfl) (Nat.le_of_ble_eq_true rfl) rfl (c_advance (M := sI M 3 4 (fnL S a (S 1) p (we a n p - p))) (s := we a n p) hR (TP_s2 hT ((sm_refl p3 M).sI 4 _ rfl) (by decide) (by decide)) ⟨by rw [gI_sI_ne (by decide)]; omega, by omega, by omega⟩) (fun M88 hM88 => ?_)
        refine bw_push rfl ?_
        refine bw_retz rfl rfl (by omega) ?_
        rw [gI_sI_eq] at c68
        obtain ⟨u9, v9, w9⟩ := hM88
        exact ⟨rfl, _, rfl, Or.inr ⟨_, _, owS_y h4 (by omega), rfl, ⟨⟨((sm_refl pP M).sI 4 _ (Or.inr rfl)).trans (u9.mono (fun _ k => Or.inl k)), by rw [u9.at 3 (by decide), gI_sI_nj (by decide)], by rw [u9.at 3 (by decide), gI_sI_nj (by decide)]⟩, v9, w9⟩, by rw [u9.at 3 (by decide), gI_sI_eq], by omega⟩⟩
      · skip
        refine bw_aload rfl rfl ?_
        refine bw_push rfl ?_
        refine bw_aload rfl rfl ?_
        refine bw_getr rfl rfl (hR _ _) ?_
        refine bw_getI rfl rfl ?_
        refine bw_callVi (e := d - 1) (as := [_, _]) rfl (by omega) rfl rfl (Nat.le_of_ble_eq_true rfl) (Nat.le_of_ble_eq_true rfl) rfl (c_fail (M := sI M 3 4 (fnL S a (S 1) p (we a n p - p))) hR) (fun r80 M80 hM80 => ?_)
        obtain ⟨rfl, rfl⟩ := hM80
        refine bw_retz rfl rfl (by omega) ?_
        rw [gI_sI_eq] at c68
        exact ⟨rfl, _, rfl, Or.inl ⟨_, owS_m h4 (by omega), rfl, FA.tr (p := p3) (q := pP) ((sm_refl p3 M).sI 4 _ rfl) (by rw [show gI (sI M 3 4 (fnL S a (S 1) p (we a n p - p))) 1 3 = p from (congrFun (gI_sI_ne (show 1 ≠ 3 by decide)) 3).trans a1]; exact fa_of (TP_s2 hT ((sm_refl p3 M).sI 4 _ rfl) (by decide) (by decide))) (fun _ k => Or.inr k) (fun _ k => k)⟩⟩
    · refine bw_ifne rfl (fun c => absurd c (by decide)) (fun _ => ?_)
      refine bw_aload rfl rfl ?_
      refine bw_push rfl ?_
      refine bw_aload rfl rfl ?_
      refine bw_getr rfl rfl (hR _ _) ?_
      refine bw_getI rfl rfl ?_
      refine bw_callVi (e := d - 1) (as := [_, _]) rfl (by omega) rfl rfl (Nat.le_of_ble_eq_true rfl) (Nat.le_of_ble_eq_true rfl) rfl (c_fail hR) (fun r19 M19 hM19 => ?_)
      obtain ⟨rfl, rfl⟩ := hM19
      refine bw_retz rfl rfl (by omega) ?_
      exact ⟨rfl, _, rfl, Or.inl ⟨_, owS_n h4, rfl, by rw [← a1]; exact fa_of hT⟩⟩
  · have t1 := hT.le
    have t2 := hT.ok.1
    have a1 := hA.1.1
    have a2 := hA.1.2.1
    have a3 := hA.1.2.2
    have a4 := hA.2
    have tc := tk_c hT.ok (p := p) (by omega)
    have w1 := hS.sw.la
    have fi := fnL_in (S := S) (a := a) (z := S 1) (k := p) (m := we a n p - p) w1.1
    show abW d (0, 0) 52 0 [some (vr (some 3))] [] (0, 0) (A0 L) M (qI (A0 L) (fun x N => (∃ e : Int × Int, owS S a n (.inr p) = (.inl e, 0) ∧ x = 0 ∧ FA pP M a n e N) ∨ (∃ q l : Int, owS S a n (.inr p) = (.inr q, l) ∧ x = 1 ∧ GO pP M a n q N ∧ gI N 3 4 = l ∧ (0 ≤ l ∧ l < S 1))))
    refine bw_aload rfl rfl ?_
    refine bw_getr rfl rfl (hR _ _) ?_
    refine bw_callVNj (e := d - 1) (as := []) rfl (by omega) rfl rfl (Nat.le_of_ble_eq_true rfl) (Nat.le_of_ble_eq_true rfl) rfl (c_isName hR hT hA (by omega)) (fun r4 hr4 => ?_)
    rcases hr4 with ⟨h4, rfl⟩ | ⟨h4, rfl⟩
    · refine bw_ifne rfl (fun _ => ?_) (fun c => (c (by decide)).elim)
      refine bw_aload rfl rfl ?_
      refine bw_aload rfl rfl ?_
      refine bw_getr rfl rfl ((hR _ _).trans hr) ?_
      refine bw_aload rfl rfl ?_
      refine bw_getr rfl rfl (hR _ _) ?_
      refine bw_getr rfl rfl (hR _ _) ?_
      refine bw_aload rfl rfl ?_
      refine bw_getr rfl rfl (hR _ _) ?_
      refine bw_getI rfl rfl ?_
      refine bw_aload rfl rfl ?_
      refine bw_getr rfl rfl (hR _ _) ?_
      refine bw_getI rfl rfl ?_
      refine bw_aload rfl rfl ?_
      refine bw_getr rfl rfl (hR _ _) ?_
      refine bw_getI rfl rfl ?_
      refine bw_isub rfl ⟨by omega, by omega⟩ ?_
      refine bw_callVNe (e := d - 1) (as := [_, _, _]) rfl (by omega) rfl rfl (Nat.le_of_ble_eq_true rfl) (Nat.le_of_ble_eq_true rfl) rfl (c_layerWithName hR hT (by first | exact Or.inl rfl | exact Or.inr rfl) hS (by omega) (by omega)) ?_
      rw [a1, a3, show tkE a n p = we a n p by omega]
      refine bw_putI rfl rfl ?_
      refine bw_aload rfl rfl ?_
      refine bw_getI rfl rfl ?_
      refine bw_push rfl ?_
      refine bw_icne rfl (fun c68 => ?_) (fun c68 => ?_)
      · skip
        refine bw_aload rfl rfl ?_
        refine bw_getr rfl rfl (hR _ _) ?_
        refine bw_callVNv (e := d - 1) (as := []) rfl (by omega) rfl rfl (Nat.le_of_ble_eq_true rfl) (Nat.le_of_ble_eq_true rfl) rfl (c_advance (M := sI M 3 4 (fnL S a (S 1) p (we a n p - p))) (s := we a n p) hR (TP_s2 hT ((sm_refl p3 M).sI 4 _ rfl) (by decide) (by decide)) ⟨by rw [gI_sI_ne (by decide)]; omega, by omega, by omega⟩) (fun M88 hM88 => ?_)
        refine bw_push rfl ?_
        refine bw_retz rfl rfl (by omega) ?_
        rw [gI_sI_eq] at c68
        obtain ⟨u9, v9, w9⟩ := hM88
        exact ⟨rfl, _, rfl, Or.inr ⟨_, _, owS_y h4 (by omega), rfl, ⟨⟨((sm_refl pP M).sI 4 _ (Or.inr rfl)).trans (u9.mono (fun _ k => Or.inl k)), by rw [u9.at 3 (by decide), gI_sI_nj (by decide)], by rw [u9.at 3 (by decide), gI_sI_nj (by decide)]⟩, v9, w9⟩, by rw [u9.at 3 (by decide), gI_sI_eq], by omega⟩⟩
      · skip
        refine bw_aload rfl rfl ?_
        refine bw_push rfl ?_
        refine bw_aload rfl rfl ?_
        refine bw_getr rfl rfl (hR _ _) ?_
        refine bw_getI rfl rfl ?_
        refine bw_callVi (e := d - 1) (as := [_, _]) rfl (by omega) rfl rfl (Nat.le_of_ble_eq_true rfl) (Nat.le_of_ble_eq_true rfl) rfl (c_fail (M := sI M 3 4 (fnL S a (S 1) p (we a n p - p))) hR) (fun r80 M80 hM80 => ?_)
        obtain ⟨rfl, rfl⟩ := hM80
        refine bw_retz rfl rfl (by omega) ?_
        rw [gI_sI_eq] at c68
        exact ⟨rfl, _, rfl, Or.inl ⟨_, owS_m h4 (by omega), rfl, FA.tr (p := p3) (q := pP) ((sm_refl p3 M).sI 4 _ rfl) (by rw [show gI (sI M 3 4 (fnL S a (S 1) p (we a n p - p))) 1 3 = p from (congrFun (gI_sI_ne (show 1 ≠ 3 by decide)) 3).trans a1]; exact fa_of (TP_s2 hT ((sm_refl p3 M).sI 4 _ rfl) (by decide) (by decide))) (fun _ k => Or.inr k) (fun _ k => k)⟩⟩
    · refine bw_ifne rfl (fun c => absurd c (by decide)) (fun _ => ?_)
      refine bw_aload rfl rfl ?_
      refine bw_push rfl ?_
      refine bw_aload rfl rfl ?_
      refine bw_getr rfl rfl (hR _ _) ?_
      refine bw_getI rfl rfl ?_
      refine bw_callVi (e := d - 1) (as := [_, _]) rfl (by omega) rfl rfl (Nat.le_of_ble_eq_true rfl) (Nat.le_of_ble_eq_true rfl) rfl (c_fail hR) (fun r19 M19 hM19 => ?_)
      obtain ⟨rfl, rfl⟩ := hM19
      refine bw_retz rfl rfl (by omega) ?_
      exact ⟨rfl, _, rfl, Or.inl ⟨_, owS_n h4, rfl, by rw [← a1]; exact fa_of hT⟩⟩
