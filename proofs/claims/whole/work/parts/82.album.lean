def mxS (m z : Int64) : Int64 := ((m ^^^ z) * Int64.ofInt (-7046029254386353131)) ^^^ xlushr ((m ^^^ z) * Int64.ofInt (-7046029254386353131)) 29
def mxN (g : Int → Int64) : Nat → Int64
  | 0 => Int64.ofInt 0
  | n + 1 => mxS (mxN g n) (g n)
theorem mxN_s (g : Int → Int64) {y : Int} (h : 0 ≤ y) : mxN g (y + 1).toNat = mxS (mxN g y.toNat) (g y) := by
  have e : (y + 1).toNat = y.toNat + 1 := by omega
  rw [e]
  show mxS (mxN g y.toNat) (g (y.toNat : Int)) = _
  rw [Int.toNat_of_nonneg h]
/-- two papers have the same rows -/
def eq8 (g h : Int → Int64) : Prop := ∀ y : Int, 0 ≤ y → y < 8 → g y = h y
theorem eq8.symm {g h : Int → Int64} (e : eq8 g h) : eq8 h g := fun y a b => (e y a b).symm
theorem eq8.trans {g h k : Int → Int64} (e : eq8 g h) (f : eq8 h k) : eq8 g k := fun y a b => (e y a b).trans (f y a b)
theorem mxN_congr {g h : Int → Int64} (e : eq8 g h) : ∀ n : Nat, n ≤ 8 → mxN g n = mxN h n := by
  intro n
  induction n with
  | zero => intro _; rfl
  | succ n ih =>
    intro hn
    show mxS (mxN g n) (g n) = mxS (mxN h n) (h n)
    rw [ih (by omega), e n (by omega) (by omega)]
/-- the chain that a paper is on -/
def chV (g : Int → Int64) : Int := xl2i (xlushr (mxN g 8) 55)
theorem chV_congr {g h : Int → Int64} (e : eq8 g h) : chV g = chV h := by
  unfold chV
  rw [mxN_congr e 8 (Nat.le_refl _)]
theorem chV_in (g : Int → Int64) : 0 ≤ chV g ∧ chV g < 512 := by
  unfold chV
  have e : nb (xlushr (mxN g 8) 55) = nb (mxN g 8) / 2 ^ (55 : Int).toNat := nb_shr (by decide)
  have e2 : (2 : Nat) ^ (55 : Int).toNat = 36028797018963968 := by decide
  have h := nb_lt (mxN g 8)
  rw [e2] at e
  rw [xl2i_small (by rw [e]; omega), e]
  omega
set_option maxRecDepth 20000 in
set_option maxHeartbeats 4000000 in
theorem c_chainOf {d L : Nat} {M : abMem} {r : abRf} (hR : RF r M) : abW d (0, 0) 4 0 (abEnt (abL 4) [vr (some 204)]) [] (0, 0) (A0 L) M (qE (some (vi (chV (gL M 204)))) (A0 L) M) := by
  have L4 : ∀ (kf : Nat) (y : Int), (0 ≤ y ∧ y ≤ 8) → ((8 - y).toNat) < kf → abW d (0, 0) 4 4 [some (vr (some 204)), some (vl (mxN (gL M 204) y.toNat)), none, some (vi y)] [] (0, 0) (A0 L) (M) (qE (some (vi (chV (gL M 204)))) (A0 L) M) := by
    intro kf
    induction kf with
    | zero => intro y  g1 hm9; exact absurd hm9 (Nat.not_lt_zero _)
    | succ kf ih4 =>
      intro y  g1 hm4
      have ih := ih4
      refine bw_iload rfl rfl ?_
      refine bw_push rfl ?_
      refine bw_icge rfl (fun c7 => ?_) (fun c7 => ?_)
      · skip
        refine bw_lload rfl rfl ?_
        refine bw_push rfl ?_
        refine bw_lushr rfl ?_
        refine bw_l2i rfl ?_
        refine bw_ret rfl rfl ?_
        obtain rfl : y = 8 := by omega
        exact ⟨rfl, rfl, rfl⟩
      · skip
        refine bw_lload rfl rfl ?_
        refine bw_aload rfl rfl ?_
        refine bw_iload rfl rfl ?_
        refine bw_aldl rfl (by first | rfl | assumption) (by omega) (by omega) ?_
        refine bw_lxor rfl ?_
        refine bw_lldc rfl ?_
        refine bw_lmul rfl ?_
        refine bw_lstore (ls2 := [_, _, _, _]) rfl rfl (Nat.le_of_ble_eq_true rfl) rfl ?_
        refine bw_lload rfl rfl ?_
        refine bw_lload rfl rfl ?_
        refine bw_push rfl ?_
        refine bw_lushr rfl ?_
        refine bw_lxor rfl ?_
        refine bw_lstore (ls2 := [_, _, _, _]) rfl rfl (Nat.le_of_ble_eq_true rfl) rfl ?_
        refine bw_iinc (ls2 := [_, _, _, _]) rfl rfl rfl ⟨by omega, by omega⟩ rfl ?_
        refine bw_goto rfl ?_
        have e := mxN_s (gL M 204) (y := y) (by omega)
        refine bw_cast (ls2 := [some (vr (some 204)), some (vl (mxN (gL M 204) (y + 1).toNat)), none, some (vi (y + 1))]) (ih _ (by omega) (by omega)) (by rw [e]; rfl) rfl rfl
  show abW d (0, 0) 4 0 [some (vr (some 204)), none, none, none] [] (0, 0) (A0 L) M (qE (some (vi (chV (gL M 204)))) (A0 L) M)
  refine bw_lconst rfl ?_
  refine bw_lstore (ls2 := [_, _, _, _]) rfl rfl (Nat.le_of_ble_eq_true rfl) rfl ?_
  refine bw_push rfl ?_
  refine bw_istore (ls2 := [_, _, _, _]) rfl rfl (Nat.le_of_ble_eq_true rfl) rfl ?_
  exact L4 9 0 (by omega) (by omega)
/-- picture i of the album -/
abbrev apF (M : abMem) (i : Int) : Int → Int64 := fun y => gL M (208 + y.toNat) i
/-- the last ahead of c that h brings to v -/
def isPv (h : Int → Int) (c v x : Int) : Prop := (x = -1 ∧ ∀ j : Int, 0 ≤ j → j < c → h j ≠ v) ∨ ((0 ≤ x ∧ x < c) ∧ h x = v ∧ ∀ j : Int, x < j → j < c → h j ≠ v)
theorem isPv_congr {h k : Int → Int} {c v x : Int} (H : isPv h c v x) (e : ∀ j : Int, 0 ≤ j → j < c → k j = h j) : isPv k c v x := by
  rcases H with ⟨h1, h2⟩ | ⟨h1, h2, h3⟩
  · exact Or.inl ⟨h1, fun j j0 j1 => by rw [e j j0 j1]; exact h2 j j0 j1⟩
  · exact Or.inr ⟨h1, by rw [e x h1.1 h1.2]; exact h2, fun j j0 j1 => by rw [e j (by omega) j1]; exact h3 j j0 j1⟩
abbrev hcF (M : abMem) : Int → Int := fun j => chV (apF M j)
/-- the album has c pictures, no two alike -/
def ALB (M : abMem) (c : Int) : Prop := (gI M 205 3 = c ∧ 0 ≤ c ∧ c ≤ 3936) ∧ (∀ v : Int, 0 ≤ v → v < 512 → isPv (hcF M) c v (gI M 206 v)) ∧ (∀ i : Int, 0 ≤ i → i < c → isPv (hcF M) i (hcF M i) (gI M 216 i)) ∧ (∀ i j : Int, 0 ≤ i → i < j → j < c → ¬ eq8 (apF M i) (apF M j))
theorem ALB_0 {M : abMem} (h : gI M 205 3 = 0) (h2 : ∀ j : Int, 0 ≤ j → j < 512 → gI M 206 j = -1) : ALB M 0 := ⟨⟨h, by decide, by decide⟩, fun v v0 v1 => Or.inl ⟨h2 v v0 v1, fun j j0 j1 => by omega⟩, fun i i0 i1 => by omega, fun i j i0 i1 i2 => by omega⟩
theorem ALB_sc {p : Nat → Prop} {M N : abMem} {c : Int} (h : ALB M c) (g : sc p M N) (h1 : ¬ p 205) (h2 : ¬ p 206) (h3 : ¬ p 216) (h4 : ∀ a, 208 ≤ a → a < 216 → ¬ p a) : ALB N c := by
  have ea : ∀ i : Int, eq8 (apF N i) (apF M i) := fun i y y0 y1 => congrFun (g.atL (208 + y.toNat) (h4 _ (by omega) (by omega))) i
  have eh : ∀ i : Int, hcF N i = hcF M i := fun i => chV_congr (ea i)
  obtain ⟨a1, a2, a3, a4⟩ := h
  refine ⟨by rw [g.at 205 h1]; exact a1, fun v v0 v1 => ?_, fun i i0 i1 => ?_, fun i j i0 i1 i2 e => a4 i j i0 i1 i2 ((ea i).symm.trans (e.trans (ea j)))⟩
  · rw [g.at 206 h2]; exact isPv_congr (a2 v v0 v1) (fun j _ _ => eh j)
  · rw [g.at 216 h3, eh i]; exact isPv_congr (a3 i i0 i1) (fun j _ _ => eh j)
abbrev pPp (a : Nat) : Prop := 208 ≤ a ∧ a < 216
abbrev pAl (a : Nat) : Prop := a = 205 ∨ a = 206 ∨ (208 ≤ a ∧ a < 217)
theorem ALB_new {M N : abMem} {c v : Int} (h : ALB M c) (hc : c < 3936) (hv : v = chV (gL M 204)) (hno : ∀ i : Int, 0 ≤ i → i < c → ¬ eq8 (apF M i) (gL M 204)) (hI : ∀ a, gI N a = gI M a) (hL : ∀ j : Int, 0 ≤ j → j < 8 → gL N (208 + j.toNat) = up (gL M (208 + j.toNat)) c (gL M 204 j)) {G : abMem} (hG : G = sI (sI (sI N 216 c (gI M 206 v)) 206 v c) 205 3 (c + 1)) : ALB G (c + 1) ∧ (∀ i : Int, 0 ≤ i → i < c → eq8 (apF G i) (apF M i)) ∧ eq8 (apF G c) (gL M 204) := by
  obtain ⟨⟨a0, a1, a2⟩, b, d, e⟩ := h
  have vi := chV_in (gL M 204)
  rw [← hv] at vi
  have gl : ∀ a, gL G a = gL N a := fun a => by rw [hG]; rfl
  have eo : ∀ i : Int, 0 ≤ i → i < c → eq8 (apF G i) (apF M i) := fun i i0 i1 y y0 y1 => by
    show gL G (208 + y.toNat) i = _
    rw [gl, hL y y0 y1, up_ne (by omega)]
  have en : eq8 (apF G c) (gL M 204) := fun y y0 y1 => by
    show gL G (208 + y.toNat) c = _
    rw [gl, hL y y0 y1, up_eq rfl]
  have ho : ∀ i : Int, 0 ≤ i → i < c → hcF G i = hcF M i := fun i i0 i1 => chV_congr (eo i i0 i1)
  have hn : hcF G c = v := by rw [hv]; exact chV_congr en
  have g6 : ∀ w : Int, gI G 206 w = if w = v then c else gI M 206 w := fun w => by
    rw [hG, gI_sI_ne (by decide)]
    by_cases q : w = v
    · rw [q, if_pos rfl, gI_sI_eq]
    · rw [if_neg q, gI_sI_nj q, gI_sI_ne (by decide), hI]
  have g16 : ∀ i : Int, gI G 216 i = if i = c then gI M 206 v else gI M 216 i := fun i => by
    rw [hG, gI_sI_ne (by decide), gI_sI_ne (by decide)]
    by_cases q : i = c
    · rw [q, if_pos rfl, gI_sI_eq]
    · rw [if_neg q, gI_sI_nj q, hI]
  refine ⟨⟨⟨by rw [hG, gI_sI_eq], by omega, by omega⟩, fun w w0 w1 => ?_, fun i i0 i1 => ?_, fun i j i0 i1 i2 => ?_⟩, eo, en⟩
  · rw [g6]
    by_cases q : w = v
    · rw [if_pos q]; exact Or.inr ⟨by omega, by rw [hn, q], fun j j0 j1 => by omega⟩
    · rw [if_neg q]
      rcases b w w0 w1 with ⟨h1, h2⟩ | ⟨h1, h2, h3⟩
      · refine Or.inl ⟨h1, fun j j0 j1 => ?_⟩
        by_cases z : j = c
        · rw [z, hn]; exact fun k => q k.symm
        · rw [ho j j0 (by omega)]; exact h2 j j0 (by omega)
      · refine Or.inr ⟨by omega, by rw [ho _ h1.1 h1.2]; exact h2, fun j j0 j1 => ?_⟩
        by_cases z : j = c
        · rw [z, hn]; exact fun k => q k.symm
        · rw [ho j (by omega) (by omega)]; exact h3 j j0 (by omega)
  · rw [g16]
    by_cases q : i = c
    · rw [if_pos q, q, hn]; exact isPv_congr (b v vi.1 vi.2) (fun j j0 j1 => ho j j0 j1)
    · rw [if_neg q, ho i i0 (by omega)]; exact isPv_congr (d i i0 (by omega)) (fun j j0 j1 => ho j j0 (by omega))
  · by_cases q : j = c
    · rw [q]; exact fun k => hno i i0 (by omega) ((eo i i0 (by omega)).symm.trans (k.trans en))
    · exact fun k => e i j i0 i1 (by omega) ((eo i i0 (by omega)).symm.trans (k.trans (eo j (by omega) (by omega))))
set_option maxRecDepth 20000 in
set_option maxHeartbeats 4000000 in
theorem c_isLike {d L : Nat} {M : abMem} {r : abRf} (hR : RF r M) {i : Int} (hi : 0 ≤ i ∧ i < 3936) : abW d (0, 0) 3 0 (abEnt (abL 3) [vr (some 205), vi i, vr (some 204)]) [] (0, 0) (A0 L) M (qJ (A0 L) M (fun x => eq8 (apF M i) (gL M 204) ∧ x = 1 ∨ ¬ eq8 (apF M i) (gL M 204) ∧ x = 0)) := by
  have L2 : ∀ (kf : Nat) (y : Int), (0 ≤ y ∧ y ≤ 8) → (∀ j : Int, 0 ≤ j → j < y → apF M i j = gL M 204 j) → ((8 - y).toNat) < kf → abW d (0, 0) 3 2 [some (vr (some 205)), some (vi i), some (vr (some 204)), some (vi y)] [] (0, 0) (A0 L) (M) (qJ (A0 L) M (fun x => eq8 (apF M i) (gL M 204) ∧ x = 1 ∨ ¬ eq8 (apF M i) (gL M 204) ∧ x = 0)) := by
    intro kf
    induction kf with
    | zero => intro y  g1 g2 hm9; exact absurd hm9 (Nat.not_lt_zero _)
    | succ kf ih2 =>
      intro y  g1 g2 hm2
      have ih := ih2
      refine bw_iload rfl rfl ?_
      refine bw_push rfl ?_
      refine bw_icge rfl (fun c5 => ?_) (fun c5 => ?_)
      · skip
        refine bw_push rfl ?_
        refine bw_retz rfl rfl (by omega) ?_
        exact ⟨rfl, rfl, _, rfl, Or.inl ⟨fun j h1 h2 => g2 j h1 (by omega), rfl⟩⟩
      · skip
        refine bw_aload rfl rfl ?_
        refine bw_getr rfl rfl (hR _ _) ?_
        refine bw_iload rfl rfl ?_
        refine bw_aldr rfl (by first | rfl | assumption) (by decide) (by omega) (by omega) ((hR _ _).trans (rr_row (fun _ => rfl) (by omega) (by omega) (by omega))) ?_
        refine bw_iload rfl rfl ?_
        refine bw_aldl rfl (kfa (b := 208) (n := 8) (v := (23, 3936)) (by decide) (by decide) ⟨by omega, by omega⟩) (by omega) (by omega) ?_
        refine bw_aload rfl rfl ?_
        refine bw_iload rfl rfl ?_
        refine bw_aldl rfl (by first | rfl | assumption) (by omega) (by omega) ?_
        refine bw_lcmp rfl ?_
        refine bw_ifeq rfl (fun c20 => ?_) (fun c20 => ?_)
        · skip
          refine bw_iinc (ls2 := [_, _, _, _]) rfl rfl rfl ⟨by omega, by omega⟩ rfl ?_
          refine bw_goto rfl ?_
          refine ih _ (by omega) (fun j h1 h2 => ?_) (by omega)
          by_cases q : j = y
          · rw [q]; exact lcmp_0.mp c20
          · exact g2 j h1 (by omega)
        · skip
          refine bw_push rfl ?_
          refine bw_retz rfl rfl (by omega) ?_
          exact ⟨rfl, rfl, _, rfl, Or.inr ⟨fun h => c20 (lcmp_0.mpr (h y (by omega) (by omega))), rfl⟩⟩
  show abW d (0, 0) 3 0 [some (vr (some 205)), some (vi i), some (vr (some 204)), none] [] (0, 0) (A0 L) M (qJ (A0 L) M (fun x => eq8 (apF M i) (gL M 204) ∧ x = 1 ∨ ¬ eq8 (apF M i) (gL M 204) ∧ x = 0))
  refine bw_push rfl ?_
  refine bw_istore (ls2 := [_, _, _, _]) rfl rfl (Nat.le_of_ble_eq_true rfl) rfl ?_
  exact L2 9 0 (by omega) (fun j h1 h2 => by omega) (by omega)
set_option maxRecDepth 20000 in
set_option maxHeartbeats 4000000 in
theorem c_numberOf {d L : Nat} {M : abMem} {r : abRf} (hR : RF r M) {c : Int} (hA : ALB M c) (hn : c < 3936 ∨ ∃ i : Int, 0 ≤ i ∧ i < c ∧ eq8 (apF M i) (gL M 204)) (hd : 1 ≤ d) : abW d (0, 0) 2 0 (abEnt (abL 2) [vr (some 205), vr (some 204)]) [] (0, 0) (A0 L) M (qI (A0 L) (fun x N => (((0 ≤ x ∧ x < c) ∧ eq8 (apF M x) (gL M 204) ∧ N = M) ∨ ((∀ i : Int, 0 ≤ i → i < c → ¬ eq8 (apF M i) (gL M 204)) ∧ x = c ∧ sc pAl M N ∧ ALB N (c + 1) ∧ (∀ i : Int, 0 ≤ i → i < c → eq8 (apF N i) (apF M i)) ∧ eq8 (apF N c) (gL M 204))))) := by
  have hvi := chV_in (gL M 204)
  obtain ⟨a0, a1, a2⟩ := hA.1
  have L70 : ∀ (kf : Nat) (N : abMem) (p y : Int), (sc pPp M N) → (∀ a, gI N a = gI M a) → (∀ j : Int, 0 ≤ j → j < 8 → gL N (208 + j.toNat) = if j < y then up (gL M (208 + j.toNat)) c (gL M 204 j) else gL M (208 + j.toNat)) → (0 ≤ y ∧ y ≤ 8) → (∀ i : Int, 0 ≤ i → i < c → ¬ eq8 (apF M i) (gL M 204)) → (c < 3936) → ((8 - y).toNat) < kf → abW d (0, 0) 2 70 [some (vr (some 205)), some (vr (some 204)), some (vi (chV (gL M 204))), some (vi p), some (vi y)] [] (0, 0) (A0 L) (N) (qI (A0 L) (fun x N => (((0 ≤ x ∧ x < c) ∧ eq8 (apF M x) (gL M 204) ∧ N = M) ∨ ((∀ i : Int, 0 ≤ i → i < c → ¬ eq8 (apF M i) (gL M 204)) ∧ x = c ∧ sc pAl M N ∧ ALB N (c + 1) ∧ (∀ i : Int, 0 ≤ i → i < c → eq8 (apF N i) (apF M i)) ∧ eq8 (apF N c) (gL M 204))))) := by
    intro kf
    induction kf with
    | zero => intro N  p y  k1 k2 k3 k4 k5 k6 hm9; exact absurd hm9 (Nat.not_lt_zero _)
    | succ kf ih70 =>
      intro N  p y  k1 k2 k3 k4 k5 k6 hm70
      have ih := ih70
      have hR := k1.RF hR
      refine bw_iload rfl rfl ?_
      refine bw_push rfl ?_
      refine bw_icge rfl (fun c74 => ?_) (fun c74 => ?_)
      · skip
        refine bw_aload rfl rfl ?_
        refine bw_getr rfl rfl (hR _ _) ?_
        refine bw_aload rfl rfl ?_
        refine bw_getI rfl rfl ?_
        rw [k2, a0]
        refine bw_aload rfl rfl ?_
        refine bw_getr rfl rfl (hR _ _) ?_
        refine bw_iload rfl rfl ?_
        refine bw_aldi rfl (by first | rfl | assumption) (by omega) (by omega) ?_
        rw [k2]
        refine bw_asti rfl (by first | rfl | assumption) (by omega) (by omega) ?_
        refine bw_aload rfl rfl ?_
        refine bw_getr rfl rfl (hR _ _) ?_
        refine bw_iload rfl rfl ?_
        refine bw_aload rfl rfl ?_
        refine bw_getI rfl rfl ?_
        rw [gI_sI_ne (by decide), k2, a0]
        refine bw_asti rfl (by first | rfl | assumption) (by omega) (by omega) ?_
        refine bw_aload rfl rfl ?_
        first | refine bw_dup rfl ?_ | refine bw_dupi rfl ?_
        refine bw_getI rfl rfl ?_
        rw [gI_sI_ne (by decide), gI_sI_ne (by decide), k2, a0]
        refine bw_push rfl ?_
        refine bw_iadd rfl ⟨by omega, by omega⟩ ?_
        refine bw_putI rfl rfl ?_
        refine bw_aload rfl rfl ?_
        refine bw_getI rfl rfl ?_
        rw [gI_sI_eq]
        refine bw_push rfl ?_
        refine bw_isub rfl ⟨by omega, by omega⟩ ?_
        refine bw_ret rfl rfl ?_
        obtain rfl : y = 8 := by omega
        have hw := ALB_new hA k6 rfl k5 k2 (fun j j0 j1 => by rw [k3 j j0 j1, if_pos j1]) rfl
        exact ⟨rfl, _, rfl, Or.inr ⟨k5, by omega, (((k1.mono (q := pAl) (fun a h => Or.inr (Or.inr ⟨h.1, by have := h.2; omega⟩))).sI (a := 216) _ _ (Or.inr (Or.inr ⟨by decide, by decide⟩))).sI (a := 206) _ _ (Or.inr (Or.inl rfl))).sI (a := 205) _ _ (Or.inl rfl), hw⟩⟩
      · skip
        refine bw_aload rfl rfl ?_
        refine bw_getr rfl rfl (hR _ _) ?_
        refine bw_iload rfl rfl ?_
        refine bw_aldr rfl (by first | rfl | assumption) (by decide) (by omega) (by omega) ((hR _ _).trans (rr_row (fun _ => rfl) (by omega) (by omega) (by omega))) ?_
        refine bw_aload rfl rfl ?_
        refine bw_getI rfl rfl ?_
        rw [k2, a0]
        refine bw_aload rfl rfl ?_
        refine bw_iload rfl rfl ?_
        refine bw_aldl rfl (by first | rfl | assumption) (by omega) (by omega) ?_
        rw [k1.atL 204 (by decide)]
        refine bw_astl rfl (kfa (b := 208) (n := 8) (v := (23, 3936)) (by decide) (by decide) ⟨by omega, by omega⟩) (by omega) (by omega) ?_
        refine bw_iinc (ls2 := [_, _, _, _, _]) rfl rfl rfl ⟨by omega, by omega⟩ rfl ?_
        refine bw_goto rfl ?_
        refine ih _ _ _ (k1.sL _ _ ⟨by omega, by omega⟩) k2 (fun j j0 j1 => ?_) (by omega) k5 k6 (by omega)
        by_cases q : j = y
        · rw [q, gL_sL_eq, k3 y (by omega) (by omega), if_neg (by omega), if_pos (by omega)]
        · rw [gL_sL_ne (by omega), k3 j j0 j1]
          by_cases q2 : j < y
          · rw [if_pos q2, if_pos (by omega)]
          · rw [if_neg q2, if_neg (by omega)]
  have L15 : ∀ (kf : Nat) (p i : Int), (p = -1 ∨ ((0 ≤ p ∧ p < c) ∧ hcF M p = chV (gL M 204))) → (∀ j : Int, p < j → 0 ≤ j → j < c → hcF M j = chV (gL M 204) → ¬ eq8 (apF M j) (gL M 204)) → (0 ≤ i ∧ i + p < c) → ((3937 - i).toNat) < kf → abW d (0, 0) 2 15 [some (vr (some 205)), some (vr (some 204)), some (vi (chV (gL M 204))), some (vi p), some (vi i)] [] (0, 0) (A0 L) (M) (qI (A0 L) (fun x N => (((0 ≤ x ∧ x < c) ∧ eq8 (apF M x) (gL M 204) ∧ N = M) ∨ ((∀ i : Int, 0 ≤ i → i < c → ¬ eq8 (apF M i) (gL M 204)) ∧ x = c ∧ sc pAl M N ∧ ALB N (c + 1) ∧ (∀ i : Int, 0 ≤ i → i < c → eq8 (apF N i) (apF M i)) ∧ eq8 (apF N c) (gL M 204))))) := by
    intro kf
    induction kf with
    | zero => intro p i  g1 g2 g3 hm9; exact absurd hm9 (Nat.not_lt_zero _)
    | succ kf ih15 =>
      intro p i  g1 g2 g3 hm15
      have ih := ih15
      refine bw_iload rfl rfl ?_
      refine bw_aload rfl rfl ?_
      refine bw_getI rfl rfl ?_
      rw [a0]
      refine bw_icge rfl (fun c21 => ?_) (fun c21 => ?_)
      · skip
        refine bw_aload rfl rfl ?_
        refine bw_getI rfl rfl ?_
        rw [a0]
        refine bw_aload rfl rfl ?_
        refine bw_getr rfl rfl (hR _ _) ?_
        refine bw_len rfl (by first | rfl | assumption) (by decide) ?_
        refine bw_iclt rfl (fun c62 => ?_) (fun c62 => ?_)
        rotate_left
        · exfalso
          obtain rfl : p = -1 := by omega
          rcases hn with h | ⟨j, j0, j1, j2⟩
          · omega
          · exact g2 j (by omega) j0 j1 (chV_congr j2) j2
        refine bw_push rfl ?_
        refine bw_istore (ls2 := [_, _, _, _, _]) rfl rfl (Nat.le_of_ble_eq_true rfl) rfl ?_
        obtain rfl : p = -1 := by omega
        have hno : ∀ i : Int, 0 ≤ i → i < c → ¬ eq8 (apF M i) (gL M 204) := fun j j0 j1 e => g2 j (by omega) j0 j1 (chV_congr e) e
        have hc9 : c < 3936 := by
          rcases hn with h | ⟨j, j0, j1, j2⟩
          · exact h
          · exact absurd j2 (hno j j0 j1)
        exact L70 9 M (-1) 0 (sc_refl _ _) (fun _ => rfl) (fun j j0 j1 => by rw [if_neg (by omega)]) (by omega) hno hc9 (by omega)
      · skip
        refine bw_iload rfl rfl ?_
        refine bw_push rfl ?_
        refine bw_iceq rfl (fun c26 => ?_) (fun c26 => ?_)
        · skip
          refine bw_aload rfl rfl ?_
          refine bw_getI rfl rfl ?_
          rw [a0]
          refine bw_aload rfl rfl ?_
          refine bw_getr rfl rfl (hR _ _) ?_
          refine bw_len rfl (by first | rfl | assumption) (by decide) ?_
          refine bw_iclt rfl (fun c62 => ?_) (fun c62 => ?_)
          rotate_left
          · exfalso
            obtain rfl : p = -1 := by omega
            rcases hn with h | ⟨j, j0, j1, j2⟩
            · omega
            · exact g2 j (by omega) j0 j1 (chV_congr j2) j2
          refine bw_push rfl ?_
          refine bw_istore (ls2 := [_, _, _, _, _]) rfl rfl (Nat.le_of_ble_eq_true rfl) rfl ?_
          obtain rfl : p = -1 := by omega
          have hno : ∀ i : Int, 0 ≤ i → i < c → ¬ eq8 (apF M i) (gL M 204) := fun j j0 j1 e => g2 j (by omega) j0 j1 (chV_congr e) e
          have hc9 : c < 3936 := by
            rcases hn with h | ⟨j, j0, j1, j2⟩
            · exact h
            · exact absurd j2 (hno j j0 j1)
          exact L70 9 M (-1) 0 (sc_refl _ _) (fun _ => rfl) (fun j j0 j1 => by rw [if_neg (by omega)]) (by omega) hno hc9 (by omega)
        · skip
          refine bw_aload rfl rfl ?_
          refine bw_iload rfl rfl ?_
          refine bw_aload rfl rfl ?_
          refine bw_callVj (e := d - 1) (as := [_, _]) rfl (by omega) rfl rfl (Nat.le_of_ble_eq_true rfl) (Nat.le_of_ble_eq_true rfl) rfl (c_isLike hR (by omega)) (fun r32 hr32 => ?_)
          refine bw_ifeq rfl (fun c35 => ?_) (fun c35 => ?_)
          · skip
            refine bw_aload rfl rfl ?_
            refine bw_getr rfl rfl (hR _ _) ?_
            refine bw_iload rfl rfl ?_
            refine bw_aldi rfl (by first | rfl | assumption) (by omega) (by omega) ?_
            have hx := hA.2.2.1 p (by omega) (by omega)
            rw [show hcF M p = chV (gL M 204) from (g1.resolve_left (by omega)).2] at hx
            obtain ⟨p2, ep⟩ : ∃ p2, p2 = gI M 216 p := ⟨_, rfl⟩
            rw [← ep] at hx ⊢
            refine bw_istore (ls2 := [_, _, _, _, _]) rfl rfl (Nat.le_of_ble_eq_true rfl) rfl ?_
            refine bw_iinc (ls2 := [_, _, _, _, _]) rfl rfl rfl ⟨by omega, by omega⟩ rfl ?_
            refine bw_goto rfl ?_
            refine ih _ _ (by rcases hx with h | h; exact Or.inl h.1; exact Or.inr ⟨by omega, h.2.1⟩) (fun j j0 j1 j2 j3 => ?_) (by rcases hx with h | h <;> omega) (by omega)
            by_cases q : j = p
            · rw [q]; exact hr32.elim (fun h => absurd h.2 (by omega)) (fun h => h.1)
            · by_cases q2 : p < j
              · exact g2 j q2 j1 j2 j3
              · rcases hx with h | h
                · exact absurd j3 (h.2 j j1 (by omega))
                · exact absurd j3 (h.2.2 j j0 (by omega))
          · skip
            refine bw_iload rfl rfl ?_
            refine bw_ret rfl rfl ?_
            exact ⟨rfl, _, rfl, Or.inl ⟨by omega, hr32.elim (fun h => h.1) (fun h => absurd h.2 (by omega)), rfl⟩⟩
  show abW d (0, 0) 2 0 [some (vr (some 205)), some (vr (some 204)), none, none, none] [] (0, 0) (A0 L) M (qI (A0 L) (fun x N => (((0 ≤ x ∧ x < c) ∧ eq8 (apF M x) (gL M 204) ∧ N = M) ∨ ((∀ i : Int, 0 ≤ i → i < c → ¬ eq8 (apF M i) (gL M 204)) ∧ x = c ∧ sc pAl M N ∧ ALB N (c + 1) ∧ (∀ i : Int, 0 ≤ i → i < c → eq8 (apF N i) (apF M i)) ∧ eq8 (apF N c) (gL M 204)))))
  refine bw_aload rfl rfl ?_
  refine bw_callSe (e := d - 1) (as := [_]) rfl (by omega) rfl rfl (Nat.le_of_ble_eq_true rfl) (Nat.le_of_ble_eq_true rfl) (c_chainOf hR) ?_
  refine bw_istore (ls2 := [_, _, _, _, _]) rfl rfl (Nat.le_of_ble_eq_true rfl) rfl ?_
  refine bw_aload rfl rfl ?_
  refine bw_getr rfl rfl (hR _ _) ?_
  refine bw_iload rfl rfl ?_
  refine bw_aldi rfl (by first | rfl | assumption) (by omega) (by omega) ?_
  refine bw_istore (ls2 := [_, _, _, _, _]) rfl rfl (Nat.le_of_ble_eq_true rfl) rfl ?_
  refine bw_push rfl ?_
  refine bw_istore (ls2 := [_, _, _, _, _]) rfl rfl (Nat.le_of_ble_eq_true rfl) rfl ?_
  have hf := hA.2.1 (chV (gL M 204)) hvi.1 hvi.2
  obtain ⟨p, ep⟩ : ∃ p, p = gI M 206 (chV (gL M 204)) := ⟨_, rfl⟩
  rw [← ep] at hf ⊢
  exact L15 3938 p 0 (by rcases hf with h | h; exact Or.inl h.1; exact Or.inr ⟨h.1, h.2.1⟩) (fun j j0 j1 j2 j3 => by rcases hf with h | h; exact absurd j3 (h.2 j j1 j2); exact absurd j3 (h.2.2 j j0 j2)) (by rcases hf with h | h <;> omega) (by omega)
