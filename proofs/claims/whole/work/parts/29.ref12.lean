theorem wI_wI {M : abMem} {a : Nat} {f g : Int → Int} : wI (wI M a f) a g = wI M a g := by
  have e : ∀ b : Nat, (if b = a then g else if b = a then f else M.1 b) = (if b = a then g else M.1 b) := fun b => by by_cases q : b = a <;> simp [q]
  show ((fun b => if b = a then g else if b = a then f else M.1 b), M.2) = _
  rw [funext e]; rfl
theorem sI_wI {M : abMem} {a : Nat} {f : Int → Int} {j x : Int} : sI (wI M a f) a j x = wI M a (up f j x) := by
  unfold sI
  rw [gI_wI_eq, wI_wI]
theorem wI_self {M : abMem} {a : Nat} : wI M a (gI M a) = M := by
  have e : ∀ b : Nat, (if b = a then gI M a else M.1 b) = M.1 b := fun b => by
    by_cases q : b = a
    · subst q; rw [if_pos rfl]; rfl
    · rw [if_neg q]
  show ((fun b => if b = a then gI M a else M.1 b), M.2) = M
  rw [funext e]
theorem sI_w {M : abMem} {a : Nat} {j x : Int} : sI M a j x = wI M a (up (gI M a) j x) := rfl
/-- n slots from a on laid from b on -/
def cpF (s : Int → Int) (a b n : Int) : Int → Int := fun j => if b ≤ j ∧ j < b + n then s (a + (j - b)) else s j
/-- the paper is as the sheet, but layer l has g in its first n frames -/
def paF (s : Int → Int) (l n : Int) (g : Int → Int) : Int → Int := fun j => if 582 + 96 * l ≤ j ∧ j < 582 + 96 * l + n then g (j - (582 + 96 * l)) else if 582 ≤ j ∧ j < 1164 then s (j - 582) else s j
theorem cpF_pa {s : Int → Int} {l n : Int} {g : Int → Int} (hl : 0 ≤ l ∧ l ≤ 5) (hn : n ≤ 97) (h : ∀ f : Int, 0 ≤ f → f < n → g f = s (96 * l + f)) : cpF s 0 582 582 = paF s l n g := by
  funext j
  unfold cpF paF
  by_cases q : 582 + 96 * l ≤ j ∧ j < 582 + 96 * l + n
  · rw [if_pos q, if_pos (by omega), h _ (by omega) (by omega)]
    congr 1; omega
  · rw [if_neg q]
    by_cases q2 : 582 ≤ j ∧ j < 1164
    · rw [if_pos q2, if_pos (by omega)]; congr 1; omega
    · rw [if_neg q2, if_neg (by omega)]
theorem paF_n {s : Int → Int} {l n m : Int} {g : Int → Int} (hl : 0 ≤ l ∧ l ≤ 5) (hn : n ≤ m ∧ m ≤ 97) (h : ∀ f : Int, n ≤ f → 0 ≤ f → f < m → g f = s (96 * l + f)) : paF s l n g = paF s l m g := by
  funext j
  unfold paF
  by_cases q : 582 + 96 * l ≤ j ∧ j < 582 + 96 * l + n
  · rw [if_pos q, if_pos (by omega)]
  · rw [if_neg q]
    by_cases q2 : 582 + 96 * l ≤ j ∧ j < 582 + 96 * l + m
    · rw [if_pos q2, if_pos (by omega), h _ (by omega) (by omega) (by omega)]
      congr 1; omega
    · rw [if_neg q2]
theorem paF_up {s : Int → Int} {l n : Int} {g : Int → Int} {j x : Int} (h : j = 582 + 96 * l + n) (hn : 0 ≤ n) (hx : x = g n) : up (paF s l n g) j x = paF s l (n + 1) g := by
  funext i
  unfold up paF
  by_cases q : i = j
  · rw [if_pos q, if_pos (by omega), hx, q, h]
    congr 1; omega
  · rw [if_neg q]
    by_cases q2 : 582 + 96 * l ≤ i ∧ i < 582 + 96 * l + n
    · rw [if_pos q2, if_pos (by omega)]
    · rw [if_neg q2, if_neg (show ¬ (582 + 96 * l ≤ i ∧ i < 582 + 96 * l + (n + 1)) by omega)]
theorem paF_g {s : Int → Int} {l n : Int} {g h : Int → Int} (e : ∀ f : Int, 0 ≤ f → f < n → g f = h f) : paF s l n g = paF s l n h := by
  funext j
  unfold paF
  by_cases q : 582 + 96 * l ≤ j ∧ j < 582 + 96 * l + n
  · rw [if_pos q, if_pos q, e _ (by omega) (by omega)]
  · rw [if_neg q, if_neg q]
theorem paF_lo {s : Int → Int} {l n : Int} {g : Int → Int} {j : Int} (hl : 0 ≤ l) (h : j < 582) : paF s l n g j = s j := by
  unfold paF
  rw [if_neg (by omega), if_neg (by omega)]
theorem paF_hi {s : Int → Int} {l n : Int} {g : Int → Int} {j : Int} (hl : 0 ≤ l ∧ l ≤ 5) (hn : n ≤ 96) (h : 1164 ≤ j) : paF s l n g j = s j := by
  unfold paF
  rw [if_neg (by omega), if_neg (by omega)]
theorem paF_row {s : Int → Int} {l n : Int} {g : Int → Int} {f : Int} (h : 0 ≤ f ∧ f < n) : paF s l n g (582 + 96 * l + f) = g f := by
  unfold paF
  rw [if_pos (by omega)]
  congr 1; omega
theorem mR_pa {M : abMem} {l n m f : Int} {g : Int → Int} (hl : 0 ≤ l) (h : 0 + 96 * m + f < 582) : mR (wI M 569 (paF (gI M 569) l n g)) 0 m f = mR M 0 m f := by
  show gI _ 569 _ = gI M 569 _
  rw [gI_wI_eq, paF_lo hl h]
theorem RB_w {M : abMem} {f : Int → Int} (hB : RB M) (h : ∀ j : Int, 0 ≤ j → j < 13968 → 0 ≤ f j ∧ f j ≤ 99) : RB (wI M 569 f) := ⟨by rw [gI_wI_ne (by decide)]; exact hB.sw, by rw [gI_wI_eq]; exact h⟩
theorem RB_pa {M : abMem} {l n : Int} {g : Int → Int} (hB : RB M) (hg : ∀ f : Int, 0 ≤ f → f < n → 0 ≤ g f ∧ g f ≤ 99) : RB (wI M 569 (paF (gI M 569) l n g)) := RB_w hB (fun j h1 h2 => by
  unfold paF
  by_cases q : 582 + 96 * l ≤ j ∧ j < 582 + 96 * l + n
  · rw [if_pos q]; exact hg _ (by omega) (by omega)
  · rw [if_neg q]
    by_cases q2 : 582 ≤ j ∧ j < 1164
    · rw [if_pos q2]; exact hB.sh _ (by omega) (by omega)
    · rw [if_neg q2]; exact hB.sh j h1 h2)
theorem cpF_up {s : Int → Int} {a b k : Int} (hd : a + 582 ≤ b ∨ b + 582 ≤ a) (hk : 0 ≤ k ∧ k < 582) : up (cpF s a b k) (b + k) (cpF s a b k (a + k)) = cpF s a b (k + 1) := by
  funext j
  unfold up
  by_cases q : j = b + k
  · rw [if_pos q]
    unfold cpF
    rw [if_neg (by omega), if_pos (by omega)]
    congr 1; omega
  · rw [if_neg q]
    unfold cpF
    by_cases q2 : b ≤ j ∧ j < b + k
    · rw [if_pos q2, if_pos (by omega)]
    · rw [if_neg q2, if_neg (by omega)]
theorem cpF_0 {s : Int → Int} {a b : Int} : cpF s a b 0 = s := by
  funext j
  unfold cpF
  rw [if_neg (by omega)]
set_option maxRecDepth 20000 in
set_option maxHeartbeats 4000000 in
theorem m_copies {d L : Nat} {M : abMem} {r : abRf} (hR : RF r M) {a b : Int} (ha : 0 ≤ a ∧ a + 582 ≤ 13968) (hb : 0 ≤ b ∧ b + 582 ≤ 13968) (hd2 : a + 582 ≤ b ∨ b + 582 ≤ a) : abW d (0, 0) 141 0 (abEnt (abL 141) [vr (some 567), vi a, vi b]) [] (0, 0) (A0 L) M (qE none (A0 L) (wI M 569 (cpF (gI M 569) a b 582))) := by
  have L2 : ∀ (kf : Nat) (k : Int), (0 ≤ k ∧ k ≤ 582) → ((582 - k).toNat) < kf → abW d (0, 0) 141 2 [some (vr (some 567)), some (vi a), some (vi b), some (vi k)] [] (0, 0) (A0 L) ((wI M 569 (cpF (gI M 569) a b k))) (qE none (A0 L) (wI M 569 (cpF (gI M 569) a b 582))) := by
    intro kf
    induction kf with
    | zero => intro k  g1 hm9; exact absurd hm9 (Nat.not_lt_zero _)
    | succ kf ih2 =>
      intro k  g1 hm2
      have ih := ih2
      refine bw_iload rfl rfl ?_
      refine bw_push rfl ?_
      refine bw_icge rfl (fun c6 => ?_) (fun c6 => ?_)
      · skip
        refine bw_retv rfl rfl ?_
        obtain rfl : k = 582 := by omega
        exact ⟨rfl, rfl, rfl⟩
      · skip
        refine bw_aload rfl rfl ?_
        refine bw_getr rfl rfl (hR _ _) ?_
        refine bw_iload rfl rfl ?_
        refine bw_iload rfl rfl ?_
        refine bw_iadd rfl ⟨by omega, by omega⟩ ?_
        refine bw_aload rfl rfl ?_
        refine bw_getr rfl rfl (hR _ _) ?_
        refine bw_iload rfl rfl ?_
        refine bw_iload rfl rfl ?_
        refine bw_iadd rfl ⟨by omega, by omega⟩ ?_
        refine bw_aldi rfl (by first | rfl | assumption) (by omega) (by omega) ?_
        refine bw_asti rfl (by first | rfl | assumption) (by omega) (by omega) ?_
        refine bw_iinc (ls2 := [_, _, _, _]) rfl rfl rfl ⟨by omega, by omega⟩ rfl ?_
        refine bw_goto rfl ?_
        refine bw_cast (M2 := wI M 569 (cpF (gI M 569) a b (k + 1))) (ih _ (by omega) (by omega)) rfl rfl ?_
        rw [sI_wI, gI_wI_eq, cpF_up hd2 (by omega)]
  show abW d (0, 0) 141 0 [some (vr (some 567)), some (vi a), some (vi b), none] [] (0, 0) (A0 L) M (qE none (A0 L) (wI M 569 (cpF (gI M 569) a b 582)))
  refine bw_push rfl ?_
  refine bw_istore (ls2 := [_, _, _, _]) rfl rfl (Nat.le_of_ble_eq_true rfl) rfl ?_
  refine bw_cast (M2 := wI M 569 (cpF (gI M 569) a b 0)) (L2 583 0 (by omega) (by omega)) rfl rfl (by rw [cpF_0, wI_self])
set_option maxRecDepth 20000 in
set_option maxHeartbeats 4000000 in
theorem m_sets {d L : Nat} {M : abMem} {r : abRf} (hR : RF r M) {i l f v : Int} (h1 : 0 ≤ i ∧ i ≤ 13386) (h2 : 0 ≤ l ∧ l ≤ 5) (h3 : 0 ≤ f ∧ f ≤ 95) : abW d (0, 0) 250 0 (abEnt (abL 250) [vr (some 567), vi i, vi l, vi f, vi v]) [] (0, 0) (A0 L) M (qE none (A0 L) (sI M 569 (i + 96 * l + f) v)) := by
  show abW d (0, 0) 250 0 [some (vr (some 567)), some (vi i), some (vi l), some (vi f), some (vi v)] [] (0, 0) (A0 L) M (qE none (A0 L) (sI M 569 (i + 96 * l + f) v))
  refine bw_aload rfl rfl ?_
  refine bw_getr rfl rfl (hR _ _) ?_
  refine bw_iload rfl rfl ?_
  refine bw_push rfl ?_
  refine bw_iload rfl rfl ?_
  refine bw_imul rfl ⟨by omega, by omega⟩ ?_
  refine bw_iadd rfl ⟨by omega, by omega⟩ ?_
  refine bw_iload rfl rfl ?_
  refine bw_iadd rfl ⟨by omega, by omega⟩ ?_
  refine bw_iload rfl rfl ?_
  refine bw_asti rfl (by first | rfl | assumption) (by omega) (by omega) ?_
  refine bw_retv rfl rfl ?_
  exact ⟨rfl, rfl, rfl⟩
/-- the row turned by k, on twos -/
def tnG (s : Int → Int) (n l k : Int) : Int → Int := fun f => s (0 + 96 * l + (f + k) % n)
def dbG (s : Int → Int) (l : Int) : Int → Int := fun f => if f % 2 = 1 then s (96 * l + (f - 1)) else s (96 * l + f)
set_option maxRecDepth 20000 in
set_option maxHeartbeats 4000000 in
theorem m_turns {d L : Nat} {M : abMem} {r : abRf} (hR : RF r M) {l : Int} (hB : RB M) (h2 : 0 ≤ l ∧ l ≤ 5) {k : Int} (hk : 0 ≤ k ∧ k < gI M 568 0) (hd : 1 ≤ d) : abW d (0, 0) 251 0 (abEnt (abL 251) [vr (some 567), vi l, vi k]) [] (0, 0) (A0 L) M (qE none (A0 L) (wI M 569 (paF (gI M 569) l (gI M 568 0) (tnG (gI M 569) (gI M 568 0) l k)))) := by
  have b1 := hB.fr
  have b2 := hB.la
  have L10 : ∀ (kf : Nat) (f : Int), (0 ≤ f ∧ f ≤ gI M 568 0) → ((gI M 568 0 - f).toNat) < kf → abW d (0, 0) 251 10 [some (vr (some 567)), some (vi l), some (vi k), some (vi f)] [] (0, 0) (A0 L) ((wI M 569 (paF (gI M 569) l f (tnG (gI M 569) (gI M 568 0) l k)))) (qE none (A0 L) (wI M 569 (paF (gI M 569) l (gI M 568 0) (tnG (gI M 569) (gI M 568 0) l k)))) := by
    intro kf
    induction kf with
    | zero => intro f  g1 hm9; exact absurd hm9 (Nat.not_lt_zero _)
    | succ kf ih10 =>
      intro f  g1 hm10
      have ih := ih10
      refine bw_iload rfl rfl ?_
      refine bw_aload rfl rfl ?_
      refine bw_callVe (e := d - 1) (as := []) rfl (by omega) rfl rfl (Nat.le_of_ble_eq_true rfl) (Nat.le_of_ble_eq_true rfl) rfl (m_frames (M := (wI M 569 (paF (gI M 569) l f (tnG (gI M 569) (gI M 568 0) l k)))) hR) ?_
      rw [gI_wI_ne (show 568 ≠ 569 by decide)]
      refine bw_icge rfl (fun c15 => ?_) (fun c15 => ?_)
      · skip
        refine bw_retv rfl rfl ?_
        obtain rfl : f = gI M 568 0 := by omega
        exact ⟨rfl, rfl, rfl⟩
      · skip
        refine bw_aload rfl rfl ?_
        refine bw_push rfl ?_
        refine bw_iload rfl rfl ?_
        refine bw_iload rfl rfl ?_
        refine bw_aload rfl rfl ?_
        refine bw_push rfl ?_
        refine bw_iload rfl rfl ?_
        refine bw_iload rfl rfl ?_
        refine bw_iload rfl rfl ?_
        refine bw_iadd rfl ⟨by omega, by omega⟩ ?_
        refine bw_aload rfl rfl ?_
        refine bw_callVe (e := d - 1) (as := []) rfl (by omega) rfl rfl (Nat.le_of_ble_eq_true rfl) (Nat.le_of_ble_eq_true rfl) rfl (m_frames (M := (wI M 569 (paF (gI M 569) l f (tnG (gI M 569) (gI M 568 0) l k)))) hR) ?_
        rw [gI_wI_ne (show 568 ≠ 569 by decide)]
        have e1 : (f + k) % gI M 568 0 < gI M 568 0 := Int.emod_lt_of_pos _ (by omega)
        have e2 : 0 ≤ (f + k) % gI M 568 0 := Int.emod_nonneg _ (by omega)
        refine bw_irem rfl (by omega) (by omega) ?_
        refine bw_callVe (e := d - 1) (as := [_, _, _]) rfl (by omega) rfl rfl (Nat.le_of_ble_eq_true rfl) (Nat.le_of_ble_eq_true rfl) rfl (m_has (M := wI M 569 (paF (gI M 569) l f (tnG (gI M 569) (gI M 568 0) l k))) hR (by omega) (by omega) (by omega)) ?_
        rw [mR_pa (by omega) (by omega)]
        refine bw_callVn (e := d - 1) (as := [_, _, _, _]) rfl (by omega) rfl rfl (Nat.le_of_ble_eq_true rfl) (Nat.le_of_ble_eq_true rfl) rfl (m_sets (M := (wI M 569 (paF (gI M 569) l f (tnG (gI M 569) (gI M 568 0) l k)))) hR (by omega) (by omega) (by omega)) ?_
        refine bw_iinc (ls2 := [_, _, _, _]) rfl rfl rfl ⟨by omega, by omega⟩ rfl ?_
        refine bw_goto rfl ?_
        refine bw_cast (M2 := wI M 569 (paF (gI M 569) l (f + 1) (tnG (gI M 569) (gI M 568 0) l k))) (ih _ (by omega) (by omega)) rfl rfl ?_
        rw [sI_wI, paF_up (by omega) (by omega) (show mR M 0 l ((f + k) % gI M 568 0) = tnG (gI M 569) (gI M 568 0) l k f from rfl)]
  show abW d (0, 0) 251 0 [some (vr (some 567)), some (vi l), some (vi k), none] [] (0, 0) (A0 L) M (qE none (A0 L) (wI M 569 (paF (gI M 569) l (gI M 568 0) (tnG (gI M 569) (gI M 568 0) l k))))
  refine bw_aload rfl rfl ?_
  refine bw_push rfl ?_
  refine bw_push rfl ?_
  refine bw_callVn (e := d - 1) (as := [_, _]) rfl (by omega) rfl rfl (Nat.le_of_ble_eq_true rfl) (Nat.le_of_ble_eq_true rfl) rfl (m_copies hR (by omega) (by omega) (by omega)) ?_
  refine bw_push rfl ?_
  refine bw_istore (ls2 := [_, _, _, _]) rfl rfl (Nat.le_of_ble_eq_true rfl) rfl ?_
  refine bw_cast (M2 := wI M 569 (paF (gI M 569) l 0 (tnG (gI M 569) (gI M 568 0) l k))) (L10 ((gI M 568 0).toNat + 1) 0 (by omega) (by omega)) rfl rfl ?_
  rw [cpF_pa (l := l) (n := 0) (g := tnG (gI M 569) (gI M 568 0) l k) (by omega) (by omega) (fun f h1 h2 => by omega)]
set_option maxRecDepth 20000 in
set_option maxHeartbeats 4000000 in
theorem m_doubles {d L : Nat} {M : abMem} {r : abRf} (hR : RF r M) {l : Int} (hB : RB M) (h2 : 0 ≤ l ∧ l ≤ 5) (hd : 1 ≤ d) : abW d (0, 0) 256 0 (abEnt (abL 256) [vr (some 567), vi l]) [] (0, 0) (A0 L) M (qE none (A0 L) (wI M 569 (paF (gI M 569) l (gI M 568 0) (dbG (gI M 569) l)))) := by
  have b1 := hB.fr
  have b2 := hB.la
  have L10 : ∀ (kf : Nat) (f : Int), (1 ≤ f ∧ f ≤ gI M 568 0 + 1) → (f % 2 = 1) → ((gI M 568 0 + 1 - f).toNat) < kf → abW d (0, 0) 256 10 [some (vr (some 567)), some (vi l), some (vi f)] [] (0, 0) (A0 L) ((wI M 569 (paF (gI M 569) l f (dbG (gI M 569) l)))) (qE none (A0 L) (wI M 569 (paF (gI M 569) l (gI M 568 0) (dbG (gI M 569) l)))) := by
    intro kf
    induction kf with
    | zero => intro f  g1 g2 hm9; exact absurd hm9 (Nat.not_lt_zero _)
    | succ kf ih10 =>
      intro f  g1 g2 hm10
      have ih := ih10
      refine bw_iload rfl rfl ?_
      refine bw_aload rfl rfl ?_
      refine bw_callVe (e := d - 1) (as := []) rfl (by omega) rfl rfl (Nat.le_of_ble_eq_true rfl) (Nat.le_of_ble_eq_true rfl) rfl (m_frames (M := (wI M 569 (paF (gI M 569) l f (dbG (gI M 569) l)))) hR) ?_
      rw [gI_wI_ne (show 568 ≠ 569 by decide)]
      refine bw_icge rfl (fun c15 => ?_) (fun c15 => ?_)
      · skip
        refine bw_retv rfl rfl ?_
        refine ⟨rfl, rfl, ?_⟩
        by_cases q : f = gI M 568 0
        · rw [← q]
        · rw [paF_n (n := gI M 568 0) (m := f) (by omega) (by omega) (fun j h1 h2 h3 => by unfold dbG; rw [if_neg (by omega)])]
      · skip
        refine bw_aload rfl rfl ?_
        refine bw_push rfl ?_
        refine bw_iload rfl rfl ?_
        refine bw_iload rfl rfl ?_
        refine bw_aload rfl rfl ?_
        refine bw_push rfl ?_
        refine bw_iload rfl rfl ?_
        refine bw_iload rfl rfl ?_
        refine bw_push rfl ?_
        refine bw_isub rfl ⟨by omega, by omega⟩ ?_
        refine bw_callVe (e := d - 1) (as := [_, _, _]) rfl (by omega) rfl rfl (Nat.le_of_ble_eq_true rfl) (Nat.le_of_ble_eq_true rfl) rfl (m_has (M := wI M 569 (paF (gI M 569) l f (dbG (gI M 569) l))) hR (by omega) (by omega) (by omega)) ?_
        rw [mR_pa (by omega) (by omega)]
        refine bw_callVn (e := d - 1) (as := [_, _, _, _]) rfl (by omega) rfl rfl (Nat.le_of_ble_eq_true rfl) (Nat.le_of_ble_eq_true rfl) rfl (m_sets (M := (wI M 569 (paF (gI M 569) l f (dbG (gI M 569) l)))) hR (by omega) (by omega) (by omega)) ?_
        refine bw_iinc (ls2 := [_, _, _]) rfl rfl rfl ⟨by omega, by omega⟩ rfl ?_
        refine bw_goto rfl ?_
        refine bw_cast (M2 := wI M 569 (paF (gI M 569) l (f + 2) (dbG (gI M 569) l))) (ih _ (by omega) (by omega) (by omega)) rfl rfl ?_
        rw [sI_wI, paF_up (by omega) (by omega) (show mR M 0 l (f - 1) = dbG (gI M 569) l f from by unfold dbG mR; rw [if_pos (by omega)]; congr 1; omega), paF_n (n := f + 1) (m := f + 2) (by omega) (by omega) (fun j h1 h2 h3 => by unfold dbG; rw [if_neg (by omega)])]
  show abW d (0, 0) 256 0 [some (vr (some 567)), some (vi l), none] [] (0, 0) (A0 L) M (qE none (A0 L) (wI M 569 (paF (gI M 569) l (gI M 568 0) (dbG (gI M 569) l))))
  refine bw_aload rfl rfl ?_
  refine bw_push rfl ?_
  refine bw_push rfl ?_
  refine bw_callVn (e := d - 1) (as := [_, _]) rfl (by omega) rfl rfl (Nat.le_of_ble_eq_true rfl) (Nat.le_of_ble_eq_true rfl) rfl (m_copies hR (by omega) (by omega) (by omega)) ?_
  refine bw_push rfl ?_
  refine bw_istore (ls2 := [_, _, _]) rfl rfl (Nat.le_of_ble_eq_true rfl) rfl ?_
  refine bw_cast (M2 := wI M 569 (paF (gI M 569) l 1 (dbG (gI M 569) l))) (L10 ((gI M 568 0).toNat + 2) 1 (by omega) (by omega) (by omega)) rfl rfl ?_
  rw [cpF_pa (l := l) (n := 1) (g := dbG (gI M 569) l) (by omega) (by omega) (fun f h1 h2 => by unfold dbG; rw [if_neg (by omega)])]
set_option maxRecDepth 20000 in
set_option maxHeartbeats 4000000 in
theorem m_others {d L : Nat} {M : abMem} {r : abRf} (hR : RF r M) {l : Int} (hB : RB M) (h2 : 0 ≤ l ∧ l ≤ 5) (hd : 1 ≤ d) : abW d (0, 0) 257 0 (abEnt (abL 257) [vr (some 567), vi l]) [] (0, 0) (A0 L) M (qE (some (vi (cN (pD (mR M 582 l) (mR M 0 l)) (gI M 568 0).toNat))) (A0 L) M) := by
  have b1 := hB.fr
  have b2 := hB.la
  have L4 : ∀ (kf : Nat) (c f : Int), (c = cN (pD (mR M 582 l) (mR M 0 l)) f.toNat) → (0 ≤ f ∧ f ≤ gI M 568 0) → ((gI M 568 0 - f).toNat) < kf → abW d (0, 0) 257 4 [some (vr (some 567)), some (vi l), some (vi c), some (vi f)] [] (0, 0) (A0 L) (M) (qE (some (vi (cN (pD (mR M 582 l) (mR M 0 l)) (gI M 568 0).toNat))) (A0 L) M) := by
    intro kf
    induction kf with
    | zero => intro c f  g1 g2 hm9; exact absurd hm9 (Nat.not_lt_zero _)
    | succ kf ih4 =>
      intro c f  g1 g2 hm4
      have ih := ih4
      have b9 := cN_in (pD (mR M 582 l) (mR M 0 l)) f.toNat
      refine bw_iload rfl rfl ?_
      refine bw_aload rfl rfl ?_
      refine bw_callVe (e := d - 1) (as := []) rfl (by omega) rfl rfl (Nat.le_of_ble_eq_true rfl) (Nat.le_of_ble_eq_true rfl) rfl (m_frames hR) ?_
      refine bw_icge rfl (fun c9 => ?_) (fun c9 => ?_)
      · skip
        refine bw_iload rfl rfl ?_
        refine bw_ret rfl rfl ?_
        obtain rfl : f = gI M 568 0 := by omega
        exact ⟨by rw [g1], rfl, rfl⟩
      · skip
        refine bw_iload rfl rfl ?_
        refine bw_aload rfl rfl ?_
        refine bw_push rfl ?_
        refine bw_iload rfl rfl ?_
        refine bw_iload rfl rfl ?_
        refine bw_callVe (e := d - 1) (as := [_, _, _]) rfl (by omega) rfl rfl (Nat.le_of_ble_eq_true rfl) (Nat.le_of_ble_eq_true rfl) rfl (m_has hR (by omega) (by omega) (by omega)) ?_
        refine bw_aload rfl rfl ?_
        refine bw_push rfl ?_
        refine bw_iload rfl rfl ?_
        refine bw_iload rfl rfl ?_
        refine bw_callVe (e := d - 1) (as := [_, _, _]) rfl (by omega) rfl rfl (Nat.le_of_ble_eq_true rfl) (Nat.le_of_ble_eq_true rfl) rfl (m_has hR (by omega) (by omega) (by omega)) ?_
        refine bw_iceq rfl (fun c29 => ?_) (fun c29 => ?_)
        · skip
          refine bw_push rfl ?_
          refine bw_iadd rfl ⟨by omega, by omega⟩ ?_
          refine bw_istore (ls2 := [_, _, _, _]) rfl rfl (Nat.le_of_ble_eq_true rfl) rfl ?_
          refine bw_iinc (ls2 := [_, _, _, _]) rfl rfl rfl ⟨by omega, by omega⟩ rfl ?_
          refine bw_goto rfl ?_
          first
          | exact ih _ _ (cN_t (by omega) g1 (decide_eq_true (by omega))) (by omega) (by omega)
          | (rw [Int.add_zero]; exact ih _ _ (cN_f (by omega) g1 (decide_eq_false (by omega))) (by omega) (by omega))
        · skip
          refine bw_push rfl ?_
          refine bw_goto rfl ?_
          refine bw_iadd rfl ⟨by omega, by omega⟩ ?_
          refine bw_istore (ls2 := [_, _, _, _]) rfl rfl (Nat.le_of_ble_eq_true rfl) rfl ?_
          refine bw_iinc (ls2 := [_, _, _, _]) rfl rfl rfl ⟨by omega, by omega⟩ rfl ?_
          refine bw_goto rfl ?_
          first
          | exact ih _ _ (cN_t (by omega) g1 (decide_eq_true (by omega))) (by omega) (by omega)
          | (rw [Int.add_zero]; exact ih _ _ (cN_f (by omega) g1 (decide_eq_false (by omega))) (by omega) (by omega))
  show abW d (0, 0) 257 0 [some (vr (some 567)), some (vi l), none, none] [] (0, 0) (A0 L) M (qE (some (vi (cN (pD (mR M 582 l) (mR M 0 l)) (gI M 568 0).toNat))) (A0 L) M)
  refine bw_push rfl ?_
  refine bw_istore (ls2 := [_, _, _, _]) rfl rfl (Nat.le_of_ble_eq_true rfl) rfl ?_
  refine bw_push rfl ?_
  refine bw_istore (ls2 := [_, _, _, _]) rfl rfl (Nat.le_of_ble_eq_true rfl) rfl ?_
  exact L4 ((gI M 568 0).toNat + 1) 0 0 rfl (by omega) (by omega)
set_option maxRecDepth 20000 in
set_option maxHeartbeats 4000000 in
theorem m_lostBy {d L : Nat} {M : abMem} {r : abRf} (hR : RF r M) {l : Int} (hB : RB M) (h2 : 0 ≤ l ∧ l ≤ 5) {t n : Int} (ht : 0 ≤ t ∧ t < gI M 568 0) (hn : 1 ≤ n ∧ n ≤ 96) (hd : 1 ≤ d) : abW d (0, 0) 261 0 (abEnt (abL 261) [vr (some 567), vi l, vi t, vi n]) [] (0, 0) (A0 L) M (qE (some (vi (cN (pF (mR M 0 l)) (gI M 568 0).toNat - cN (pF (mR M 0 l)) (max t (gI M 568 0 - n)).toNat))) (A0 L) M) := by
  have b1 := hB.fr
  have b2 := hB.la
  have L15 : ∀ (kf : Nat) (c f : Int), (c + cN (pF (mR M 0 l)) (max t (gI M 568 0 - n)).toNat = cN (pF (mR M 0 l)) f.toNat) → (0 ≤ f ∧ f ≤ gI M 568 0) → ((gI M 568 0 - f).toNat) < kf → abW d (0, 0) 261 15 [some (vr (some 567)), some (vi l), some (vi t), some (vi n), some (vi c), some (vi f)] [] (0, 0) (A0 L) (M) (qE (some (vi (cN (pF (mR M 0 l)) (gI M 568 0).toNat - cN (pF (mR M 0 l)) (max t (gI M 568 0 - n)).toNat))) (A0 L) M) := by
    intro kf
    induction kf with
    | zero => intro c f  g1 g2 hm9; exact absurd hm9 (Nat.not_lt_zero _)
    | succ kf ih15 =>
      intro c f  g1 g2 hm15
      have ih := ih15
      have b9 := cN_in (pF (mR M 0 l)) f.toNat
      have b8 := cN_in (pF (mR M 0 l)) (max t (gI M 568 0 - n)).toNat
      refine bw_iload rfl rfl ?_
      refine bw_aload rfl rfl ?_
      refine bw_callVe (e := d - 1) (as := []) rfl (by omega) rfl rfl (Nat.le_of_ble_eq_true rfl) (Nat.le_of_ble_eq_true rfl) rfl (m_frames hR) ?_
      refine bw_icge rfl (fun c21 => ?_) (fun c21 => ?_)
      · skip
        refine bw_iload rfl rfl ?_
        refine bw_ret rfl rfl ?_
        obtain rfl : f = gI M 568 0 := by omega
        exact ⟨congrArg (fun x => some (vi x)) (by omega), rfl, rfl⟩
      · skip
        refine bw_iload rfl rfl ?_
        refine bw_aload rfl rfl ?_
        refine bw_push rfl ?_
        refine bw_iload rfl rfl ?_
        refine bw_iload rfl rfl ?_
        refine bw_callVe (e := d - 1) (as := [_, _, _]) rfl (by omega) rfl rfl (Nat.le_of_ble_eq_true rfl) (Nat.le_of_ble_eq_true rfl) rfl (m_has hR (by omega) (by omega) (by omega)) ?_
        have v9 := hB.mR (i := 0) (l := l) (f := f) (by omega) (by omega)
        refine bw_ifle rfl (fun c34 => ?_) (fun c34 => ?_)
        · skip
          refine bw_push rfl ?_
          refine bw_iadd rfl ⟨by omega, by omega⟩ ?_
          refine bw_istore (ls2 := [_, _, _, _, _, _]) rfl rfl (Nat.le_of_ble_eq_true rfl) rfl ?_
          refine bw_iinc (ls2 := [_, _, _, _, _, _]) rfl rfl rfl ⟨by omega, by omega⟩ rfl ?_
          refine bw_goto rfl ?_
          have e := cN_s (pF (mR M 0 l)) (i := f) (by omega)
          first
          | exact ih _ _ (by rw [e, ← g1, if_pos (show pF (mR M 0 l) f = true from decide_eq_true (by omega))]; omega) (by omega) (by omega)
          | exact ih _ _ (by rw [e, ← g1, if_neg (show ¬ pF (mR M 0 l) f = true from fun h => by have := of_decide_eq_true h; omega)]; omega) (by omega) (by omega)
        · skip
          refine bw_push rfl ?_
          refine bw_goto rfl ?_
          refine bw_iadd rfl ⟨by omega, by omega⟩ ?_
          refine bw_istore (ls2 := [_, _, _, _, _, _]) rfl rfl (Nat.le_of_ble_eq_true rfl) rfl ?_
          refine bw_iinc (ls2 := [_, _, _, _, _, _]) rfl rfl rfl ⟨by omega, by omega⟩ rfl ?_
          refine bw_goto rfl ?_
          have e := cN_s (pF (mR M 0 l)) (i := f) (by omega)
          first
          | exact ih _ _ (by rw [e, ← g1, if_pos (show pF (mR M 0 l) f = true from decide_eq_true (by omega))]; omega) (by omega) (by omega)
          | exact ih _ _ (by rw [e, ← g1, if_neg (show ¬ pF (mR M 0 l) f = true from fun h => by have := of_decide_eq_true h; omega)]; omega) (by omega) (by omega)
  show abW d (0, 0) 261 0 [some (vr (some 567)), some (vi l), some (vi t), some (vi n), none, none] [] (0, 0) (A0 L) M (qE (some (vi (cN (pF (mR M 0 l)) (gI M 568 0).toNat - cN (pF (mR M 0 l)) (max t (gI M 568 0 - n)).toNat))) (A0 L) M)
  refine bw_push rfl ?_
  refine bw_istore (ls2 := [_, _, _, _, _, _]) rfl rfl (Nat.le_of_ble_eq_true rfl) rfl ?_
  refine bw_iload rfl rfl ?_
  refine bw_aload rfl rfl ?_
  refine bw_callVe (e := d - 1) (as := []) rfl (by omega) rfl rfl (Nat.le_of_ble_eq_true rfl) (Nat.le_of_ble_eq_true rfl) rfl (m_frames hR) ?_
  refine bw_iload rfl rfl ?_
  refine bw_isub rfl ⟨by omega, by omega⟩ ?_
  refine bw_callSe (e := d - 1) (as := [_, _]) rfl (by omega) rfl rfl (Nat.le_of_ble_eq_true rfl) (Nat.le_of_ble_eq_true rfl) (m_greater hR) ?_
  refine bw_istore (ls2 := [_, _, _, _, _, _]) rfl rfl (Nat.le_of_ble_eq_true rfl) rfl ?_
  exact L15 ((gI M 568 0).toNat + 1) 0 (max t (gI M 568 0 - n)) (by omega) (by omega) (by omega)
