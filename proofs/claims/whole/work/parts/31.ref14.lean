abbrev p9 (a : Nat) : Prop := a = 569
abbrev q3 (j : Int) : Prop := j = 3
/-- what stands on the paper is so from now on: S was, a acts were, T is, b acts are -/
def bcm (S : Int → Int) (a : Int) (T : Int → Int) (b : Int) : Prop := b = min (a + 1) 20 ∧ (∀ j : Int, 0 ≤ j → j < 582 → T j = S (582 + j)) ∧ (∀ j : Int, 582 ≤ j → j < 2328 → T j = S j) ∧ (∀ k j : Int, 0 ≤ k → k < b - 1 → 0 ≤ j → j < 582 → T (2328 + 582 * k + j) = S (2328 + 582 * (k + (if a = 20 then 1 else 0)) + j)) ∧ (∀ j : Int, 0 ≤ j → j < 582 → T (2328 + 582 * (b - 1) + j) = S j) ∧ (∀ j : Int, 2328 + 582 * b ≤ j → T j = S j)
/-- the first k sheets that can come back are the ones behind them -/
def shF (S : Int → Int) (k : Int) : Int → Int := fun j => if 2328 ≤ j ∧ j < 2328 + 582 * k then S (j + 582) else S j
theorem shF_0 {S : Int → Int} : shF S 0 = S := by
  funext j
  unfold shF
  rw [if_neg (by omega)]
theorem shF_s {S : Int → Int} {k : Int} (hk : 0 ≤ k) : cpF (shF S k) (2328 + 582 * (k + 1)) (2328 + 582 * k) 582 = shF S (k + 1) := by
  funext j
  unfold cpF shF
  by_cases q : 2328 + 582 * k ≤ j ∧ j < 2328 + 582 * k + 582
  · rw [if_pos q, if_neg (by omega), if_pos (by omega)]
    congr 1; omega
  · rw [if_neg q]
    by_cases q2 : 2328 ≤ j ∧ j < 2328 + 582 * k
    · rw [if_pos q2, if_pos (by omega)]
    · rw [if_neg q2, if_neg (by omega)]
theorem wI_7 {M : abMem} {j x : Int} : wI (sI M 567 j x) 569 (gI M 569) = sI M 567 j x := by
  have e : gI (sI M 567 j x) 569 = gI M 569 := gI_sI_ne (by decide)
  rw [← e]
  exact wI_self
theorem bc_A {S : Int → Int} {a : Int} (h : 0 ≤ a ∧ a < 20) : bcm S a (cpF (cpF S 0 (2328 + 582 * a) 582) 582 0 582) (a + 1) := by
  refine ⟨by omega, fun j h1 h2 => ?_, fun j h1 h2 => ?_, fun k j h1 h2 h3 h4 => ?_, fun j h1 h2 => ?_, fun j h1 => ?_⟩
  · unfold cpF; rw [if_pos (by omega), if_neg (by omega)]; congr 1; omega
  · unfold cpF; rw [if_neg (by omega), if_neg (by omega)]
  · unfold cpF; rw [if_neg (by omega), if_neg (by omega), if_neg (by omega)]; congr 1; omega
  · unfold cpF; rw [if_neg (by omega), if_pos (by omega)]; congr 1; omega
  · unfold cpF; rw [if_neg (by omega), if_neg (by omega)]
theorem bc_B {S : Int → Int} : bcm S 20 (cpF (cpF (shF S 19) 0 (2328 + 582 * 19) 582) 582 0 582) 20 := by
  refine ⟨by omega, fun j h1 h2 => ?_, fun j h1 h2 => ?_, fun k j h1 h2 h3 h4 => ?_, fun j h1 h2 => ?_, fun j h1 => ?_⟩
  · unfold cpF shF; rw [if_pos (by omega), if_neg (by omega), if_neg (by omega)]; congr 1; omega
  · unfold cpF shF; rw [if_neg (by omega), if_neg (by omega), if_neg (by omega)]
  · unfold cpF shF; rw [if_neg (by omega), if_neg (by omega), if_pos (by omega), if_pos rfl]; congr 1; omega
  · unfold cpF shF; rw [if_neg (by omega), if_pos (by omega), if_neg (by omega)]; congr 1; omega
  · unfold cpF shF; rw [if_neg (by omega), if_neg (by omega), if_neg (by omega)]
theorem s5_a {M : abMem} {f g : Int → Int} {x : Int} : s5 p9 q3 M (wI (sI (wI M 569 f) 567 3 x) 569 g) := ⟨rfl, fun a ha h7 => by rw [gI_wI_ne ha, gI_sI_ne h7, gI_wI_ne ha], fun j hj => by rw [gI_wI_ne (by decide), gI_sI_nj hj, gI_wI_ne (by decide)], WA_of (by rw [gI_wI_ne (by decide), gI_sI_nj (by decide), gI_wI_ne (by decide)]) (by rw [gI_wI_ne (by decide), gI_sI_nj (by decide), gI_wI_ne (by decide)])⟩
theorem s5_b {M : abMem} {f g h : Int → Int} {x y : Int} : s5 p9 q3 M (wI (sI (wI (wI (sI M 567 3 x) 569 f) 569 h) 567 3 y) 569 g) := ⟨rfl, fun a ha h7 => by rw [gI_wI_ne ha, gI_sI_ne h7, gI_wI_ne ha, gI_wI_ne ha, gI_sI_ne h7], fun j hj => by rw [gI_wI_ne (by decide), gI_sI_nj hj, gI_wI_ne (by decide), gI_wI_ne (by decide), gI_sI_nj hj], WA_of (by rw [gI_wI_ne (by decide), gI_sI_nj (by decide), gI_wI_ne (by decide), gI_wI_ne (by decide), gI_sI_nj (by decide)]) (by rw [gI_wI_ne (by decide), gI_sI_nj (by decide), gI_wI_ne (by decide), gI_wI_ne (by decide), gI_sI_nj (by decide)])⟩
theorem bcX {M N : abMem} {f : Int → Int} {x a : Int} {S : Int → Int} (e : gI M 569 = f) (h : bcm S a (cpF f 582 0 582) x) : bcm S a (gI (wI (sI M 567 3 x) 569 (cpF (gI (sI M 567 3 x) 569) 582 0 582)) 569) (gI (wI (sI M 567 3 x) 569 (cpF (gI (sI M 567 3 x) 569) 582 0 582)) 567 3) := by
  rw [gI_wI_eq, gI_wI_ne (show 567 ≠ 569 by decide), gI_sI_eq, gI_sI_ne (show 569 ≠ 567 by decide), e]
  exact h
set_option maxRecDepth 20000 in
set_option maxHeartbeats 4000000 in
theorem m_becomes {d L : Nat} {M : abMem} {r : abRf} (hR : RF r M) (ha : 0 ≤ gI M 567 3 ∧ gI M 567 3 ≤ 20) (hd : 1 ≤ d) : abW d (0, 0) 259 0 (abEnt (abL 259) [vr (some 567)]) [] (0, 0) (A0 L) M (qV (A0 L) (fun N => s5 p9 q3 M N ∧ bcm (gI M 569) (gI M 567 3) (gI N 569) (gI N 567 3))) := by
  have L21 : ∀ (kf : Nat) (k : Int), (0 ≤ k ∧ k ≤ 19) → (gI M 567 3 = 20) → ((19 - k).toNat) < kf → abW d (0, 0) 259 21 [some (vr (some 567)), some (vi k)] [] (0, 0) (A0 L) ((wI (sI M 567 3 19) 569 (shF (gI M 569) k))) (qV (A0 L) (fun N => s5 p9 q3 M N ∧ bcm (gI M 569) (gI M 567 3) (gI N 569) (gI N 567 3))) := by
    intro kf
    induction kf with
    | zero => intro k  g1 g2 hm9; exact absurd hm9 (Nat.not_lt_zero _)
    | succ kf ih21 =>
      intro k  g1 g2 hm21
      have ih := ih21
      refine bw_iload rfl rfl ?_
      refine bw_aload rfl rfl ?_
      refine bw_getI rfl rfl ?_
      try simp only [gI_sI, gI_wI, and_true, true_and, and_false, false_and, and_self, reduceIte]
      refine bw_icge rfl (fun c26 => ?_) (fun c26 => ?_)
      · skip
        refine bw_aload rfl rfl ?_
        refine bw_push rfl ?_
        refine bw_push rfl ?_
        refine bw_push rfl ?_
        refine bw_aload rfl rfl ?_
        refine bw_getI rfl rfl ?_
        try simp only [gI_sI, gI_wI, and_true, true_and, and_false, false_and, and_self, reduceIte]
        refine bw_imul rfl ⟨by omega, by omega⟩ ?_
        refine bw_iadd rfl ⟨by omega, by omega⟩ ?_
        refine bw_callVn (e := d - 1) (as := [_, _]) rfl (by omega) rfl rfl (Nat.le_of_ble_eq_true rfl) (Nat.le_of_ble_eq_true rfl) rfl (m_copies (M := _) (by exact hR) (by omega) (by omega) (by omega)) ?_
        refine bw_aload rfl rfl ?_
        first | refine bw_dup rfl ?_ | refine bw_dupi rfl ?_
        refine bw_getI rfl rfl ?_
        try simp only [gI_sI, gI_wI, and_true, true_and, and_false, false_and, and_self, reduceIte]
        refine bw_push rfl ?_
        refine bw_iadd rfl ⟨by omega, by omega⟩ ?_
        refine bw_putI rfl rfl ?_
        refine bw_aload rfl rfl ?_
        refine bw_push rfl ?_
        refine bw_push rfl ?_
        refine bw_callVn (e := d - 1) (as := [_, _]) rfl (by omega) rfl rfl (Nat.le_of_ble_eq_true rfl) (Nat.le_of_ble_eq_true rfl) rfl (m_copies (M := _) (by exact hR) (by omega) (by omega) (by omega)) ?_
        refine bw_retv rfl rfl ?_
        first
        | exact ⟨rfl, rfl, s5_a, bcX (M := wI M 569 (cpF (gI M 569) 0 (2328 + 582 * gI M 567 3) 582)) (N := M) gI_wI_eq (bc_A (by omega))⟩
        | (obtain rfl : k = 19 := by omega
           exact ⟨rfl, rfl, s5_b, bcX (N := M) gI_wI_eq (by rw [gI_wI_eq, g2]; exact bc_B)⟩)
      · skip
        refine bw_aload rfl rfl ?_
        refine bw_push rfl ?_
        refine bw_push rfl ?_
        refine bw_iload rfl rfl ?_
        refine bw_push rfl ?_
        refine bw_iadd rfl ⟨by omega, by omega⟩ ?_
        refine bw_imul rfl ⟨by omega, by omega⟩ ?_
        refine bw_iadd rfl ⟨by omega, by omega⟩ ?_
        refine bw_push rfl ?_
        refine bw_push rfl ?_
        refine bw_iload rfl rfl ?_
        refine bw_imul rfl ⟨by omega, by omega⟩ ?_
        refine bw_iadd rfl ⟨by omega, by omega⟩ ?_
        refine bw_callVn (e := d - 1) (as := [_, _]) rfl (by omega) rfl rfl (Nat.le_of_ble_eq_true rfl) (Nat.le_of_ble_eq_true rfl) rfl (m_copies (M := (wI (sI M 567 3 19) 569 (shF (gI M 569) k))) hR (by omega) (by omega) (by omega)) ?_
        refine bw_iinc (ls2 := [_, _]) rfl rfl rfl ⟨by omega, by omega⟩ rfl ?_
        refine bw_goto rfl ?_
        refine bw_cast (M2 := wI (sI M 567 3 19) 569 (shF (gI M 569) (k + 1))) (ih _ (by omega) g2 (by omega)) rfl rfl ?_
        rw [wI_wI, gI_wI_eq, shF_s (by omega)]
  show abW d (0, 0) 259 0 [some (vr (some 567)), none] [] (0, 0) (A0 L) M (qV (A0 L) (fun N => s5 p9 q3 M N ∧ bcm (gI M 569) (gI M 567 3) (gI N 569) (gI N 567 3)))
  refine bw_aload rfl rfl ?_
  refine bw_getI rfl rfl ?_
  try simp only [gI_sI, gI_wI, and_true, true_and, and_false, false_and, and_self, reduceIte]
  refine bw_push rfl ?_
  refine bw_icne rfl (fun c6 => ?_) (fun c6 => ?_)
  · skip
    refine bw_aload rfl rfl ?_
    refine bw_push rfl ?_
    refine bw_push rfl ?_
    refine bw_push rfl ?_
    refine bw_aload rfl rfl ?_
    refine bw_getI rfl rfl ?_
    try simp only [gI_sI, gI_wI, and_true, true_and, and_false, false_and, and_self, reduceIte]
    refine bw_imul rfl ⟨by omega, by omega⟩ ?_
    refine bw_iadd rfl ⟨by omega, by omega⟩ ?_
    refine bw_callVn (e := d - 1) (as := [_, _]) rfl (by omega) rfl rfl (Nat.le_of_ble_eq_true rfl) (Nat.le_of_ble_eq_true rfl) rfl (m_copies (M := _) (by exact hR) (by omega) (by omega) (by omega)) ?_
    refine bw_aload rfl rfl ?_
    first | refine bw_dup rfl ?_ | refine bw_dupi rfl ?_
    refine bw_getI rfl rfl ?_
    try simp only [gI_sI, gI_wI, and_true, true_and, and_false, false_and, and_self, reduceIte]
    refine bw_push rfl ?_
    refine bw_iadd rfl ⟨by omega, by omega⟩ ?_
    refine bw_putI rfl rfl ?_
    refine bw_aload rfl rfl ?_
    refine bw_push rfl ?_
    refine bw_push rfl ?_
    refine bw_callVn (e := d - 1) (as := [_, _]) rfl (by omega) rfl rfl (Nat.le_of_ble_eq_true rfl) (Nat.le_of_ble_eq_true rfl) rfl (m_copies (M := _) (by exact hR) (by omega) (by omega) (by omega)) ?_
    refine bw_retv rfl rfl ?_
    first
    | exact ⟨rfl, rfl, s5_a, bcX (M := wI M 569 (cpF (gI M 569) 0 (2328 + 582 * gI M 567 3) 582)) (N := M) gI_wI_eq (bc_A (by omega))⟩
    | (obtain rfl : k = 19 := by omega
       exact ⟨rfl, rfl, s5_b, bcX (N := M) gI_wI_eq (by rw [gI_wI_eq, g2]; exact bc_B)⟩)
  · skip
    refine bw_aload rfl rfl ?_
    first | refine bw_dup rfl ?_ | refine bw_dupi rfl ?_
    refine bw_getI rfl rfl ?_
    try simp only [gI_sI, gI_wI, and_true, true_and, and_false, false_and, and_self, reduceIte]
    refine bw_push rfl ?_
    refine bw_isub rfl ⟨by omega, by omega⟩ ?_
    have e20 : gI M 567 3 = 20 := by omega
    refine bw_putI rfl rfl ?_
    refine bw_push rfl ?_
    refine bw_istore (ls2 := [_, _]) rfl rfl (Nat.le_of_ble_eq_true rfl) rfl ?_
    refine bw_cast (M2 := wI (sI M 567 3 19) 569 (shF (gI M 569) 0)) (L21 20 0 (by omega) e20 (by omega)) rfl rfl ?_
    rw [shF_0, wI_7]; congr 1; omega
/-- an act: S is what the sheets were, a how many acts, W what is now, T and b behind it -/
def acS (S : Int → Int) (a : Int) (W T : Int → Int) (b : Int) : Prop := b = min (a + 1) 20 ∧ (∀ j : Int, 0 ≤ j → j < 582 → T j = W j) ∧ (∀ j : Int, 1164 ≤ j → j < 2328 → T j = S j) ∧ (∀ k j : Int, 0 ≤ k → k < b - 1 → 0 ≤ j → j < 582 → T (2328 + 582 * k + j) = S (2328 + 582 * (k + (if a = 20 then 1 else 0)) + j)) ∧ (∀ j : Int, 0 ≤ j → j < 582 → T (2328 + 582 * (b - 1) + j) = S j) ∧ bdS T
def acd (M : abMem) (W : Int → Int) (N : abMem) : Prop := s5 p9 q3 M N ∧ acS (gI M 569) (gI M 567 3) W (gI N 569) (gI N 567 3)
theorem bcm_ac {S P T : Int → Int} {a b : Int} (h : bcm P a T b) (hn : npS S P) (hb : bdS P) (ha : 0 ≤ a ∧ a ≤ 20) : acS S a (fun j => P (582 + j)) T b := by
  obtain ⟨h1, h2, h3, h4, h5, h6⟩ := h
  refine ⟨h1, h2, fun j j1 j2 => by rw [h3 j (by omega) j2, hn j (by omega)], fun k j k1 k2 j1 j2 => ?_, fun j j1 j2 => by rw [h5 j j1 j2, hn j (by omega)], fun j j1 j2 => ?_⟩
  · rw [h4 k j k1 k2 j1 j2]
    refine hn _ ?_
    split <;> omega
  · by_cases q1 : j < 582
    · rw [h2 j j1 q1]; exact hb _ (by omega) (by omega)
    · by_cases q2 : j < 2328
      · rw [h3 j (by omega) q2]; exact hb _ j1 j2
      · by_cases q3 : 2328 + 582 * b ≤ j
        · rw [h6 j q3]; exact hb _ j1 j2
        · obtain ⟨k, i, e, k1, k2, i1, i2⟩ : ∃ k i : Int, j = 2328 + 582 * k + i ∧ 0 ≤ k ∧ k < b ∧ 0 ≤ i ∧ i < 582 := ⟨(j - 2328) / 582, (j - 2328) % 582, by omega, by omega, by omega, by omega, by omega⟩
          rw [e]
          by_cases q4 : k = b - 1
          · rw [q4, h5 i i1 i2]; exact hb _ (by omega) (by omega)
          · rw [h4 k i k1 (by omega) i1 i2]
            split
            · exact hb _ (by omega) (by omega)
            · exact hb _ (by omega) (by omega)
theorem act_w {M N : abMem} {P : Int → Int} (h : s5 p9 q3 (wI M 569 P) N ∧ bcm (gI (wI M 569 P) 569) (gI (wI M 569 P) 567 3) (gI N 569) (gI N 567 3)) (hn : npS (gI M 569) P) (hb : bdS P) (ha : 0 ≤ gI M 567 3 ∧ gI M 567 3 ≤ 20) : acd M (fun j => P (582 + j)) N := by
  obtain ⟨h1, h2⟩ := h
  rw [gI_wI_eq, gI_wI_ne (show 567 ≠ 569 by decide)] at h2
  have s : s5 p9 q3 M (wI M 569 P) := ⟨rfl, fun a ha h7 => gI_wI_ne ha, fun j _ => by rw [gI_wI_ne (by decide)], WA_of (by rw [gI_wI_ne (by decide)]) (by rw [gI_wI_ne (by decide)])⟩
  exact ⟨s.trans h1, bcm_ac h2 hn hb ha⟩
theorem mR0 {M : abMem} {l f : Int} : mR M 0 l f = gI M 569 (96 * l + f) := by
  show gI M 569 (0 + 96 * l + f) = _
  congr 1; omega
def exG (R : Int → Int) (t u x : Int) : Int → Int := fun f => if t ≤ f ∧ f ≤ u then x else R f
def psG (R : Int → Int) (t n : Int) : Int → Int := fun f => if f < t then R f else if f < t + n then R t else R (f - n)
def plE (R : Int → Int) (z t n : Int) : Int := if z - n = 0 then 0 else if z - n - 1 < t then R (z - n - 1) else R (z - 1)
def plG (R : Int → Int) (z t n : Int) : Int → Int := fun f => if f < t then R f else if f < z - n then R (f + n) else plE R z t n
theorem ex_in {M : abMem} {l t u x : Int} (hB : RB M) (hl : 0 ≤ l ∧ l ≤ 5) (hx : 0 ≤ x ∧ x ≤ 99) : ∀ f : Int, 0 ≤ f → f < gI M 568 0 → 0 ≤ exG (mR M 0 l) t u x f ∧ exG (mR M 0 l) t u x f ≤ 99 := fun f h1 h2 => by
  have b1 := hB.fr
  unfold exG
  split
  · exact hx
  · exact hB.mR (by omega) (by omega)
theorem ps_in {M : abMem} {l t n : Int} (hB : RB M) (hl : 0 ≤ l ∧ l ≤ 5) (ht : 0 ≤ t ∧ t < gI M 568 0) : ∀ f : Int, 0 ≤ f → f < gI M 568 0 → 0 ≤ n → 0 ≤ psG (mR M 0 l) t n f ∧ psG (mR M 0 l) t n f ≤ 99 := fun f h1 h2 h3 => by
  have b1 := hB.fr
  unfold psG
  split
  · exact hB.mR (by omega) (by omega)
  · split
    · exact hB.mR (by omega) (by omega)
    · exact hB.mR (by omega) (by omega)
theorem pl_in {M : abMem} {l t n : Int} (hB : RB M) (hl : 0 ≤ l ∧ l ≤ 5) (ht : 0 ≤ t ∧ 1 ≤ n ∧ t + n ≤ gI M 568 0) : ∀ f : Int, 0 ≤ f → f < gI M 568 0 → 0 ≤ plG (mR M 0 l) (gI M 568 0) t n f ∧ plG (mR M 0 l) (gI M 568 0) t n f ≤ 99 := fun f h1 h2 => by
  have b1 := hB.fr
  unfold plG plE
  split
  · exact hB.mR (by omega) (by omega)
  · split
    · exact hB.mR (by omega) (by omega)
    · split
      · omega
      · split
        · exact hB.mR (by omega) (by omega)
        · exact hB.mR (by omega) (by omega)
theorem pl_e0 {R : Int → Int} {z t n : Int} (h : z - n = 0) : plE R z t n = 0 := if_pos h
theorem pl_e1 {R : Int → Int} {z t n : Int} (h : z - n ≠ 0) : plG R z t n (z - n - 1) = plE R z t n := by
  unfold plG plE
  rw [if_neg h]
  by_cases q : z - n - 1 < t
  · rw [if_pos q, if_pos q]
  · rw [if_neg q, if_neg q, if_pos (by omega)]
    congr 1; omega
abbrev rwW (M : abMem) (l : Int) (g : Int → Int) : Int → Int := fun j => paF (gI M 569) l (gI M 568 0) g (582 + j)
set_option maxRecDepth 20000 in
set_option maxHeartbeats 4000000 in
theorem m_expose {d L : Nat} {M : abMem} {r : abRf} (hR : RF r M) (hB : RB M) {l t u v : Int} (ha : 0 ≤ gI M 567 3 ∧ gI M 567 3 ≤ 20) (hd : 3 ≤ d) : abW d (0, 0) 260 0 (abEnt (abL 260) [vr (some 567), vi l, vi t, vi u, vi v]) [] (0, 0) (A0 L) M (qI (A0 L) (fun x N => (0 ≤ l ∧ l < gI M 568 1 ∧ 0 ≤ t ∧ t ≤ u ∧ u < gI M 568 0 ∧ 0 ≤ v ∧ v ≤ 99) ∧ (cN (pD (exG (mR M 0 l) t u v) (mR M 0 l)) (gI M 568 0).toNat = 0 ∧ x = -3 ∧ np qNo M N ∨ cN (pD (exG (mR M 0 l) t u v) (mR M 0 l)) (gI M 568 0).toNat ≠ 0 ∧ x = cN (pD (exG (mR M 0 l) t u v) (mR M 0 l)) (gI M 568 0).toNat ∧ acd M (rwW M l (exG (mR M 0 l) t u v)) N) ∨ ¬ (0 ≤ l ∧ l < gI M 568 1 ∧ 0 ≤ t ∧ t ≤ u ∧ u < gI M 568 0 ∧ 0 ≤ v ∧ v ≤ 99) ∧ x = -2 ∧ N = M)) := by
  have b1 := hB.fr
  have b2 := hB.la
  have L54 : ∀ (kf : Nat) (f : Int), (t ≤ f ∧ f ≤ u + 1) → (0 ≤ l ∧ l < gI M 568 1 ∧ 0 ≤ t ∧ t ≤ u ∧ u < gI M 568 0 ∧ 0 ≤ v ∧ v ≤ 99) → ((u + 1 - f).toNat) < kf → abW d (0, 0) 260 54 [some (vr (some 567)), some (vi l), some (vi t), some (vi u), some (vi v), some (vi f)] [] (0, 0) (A0 L) ((wI M 569 (paF (gI M 569) l f (exG (mR M 0 l) t u v)))) (qI (A0 L) (fun x N => (0 ≤ l ∧ l < gI M 568 1 ∧ 0 ≤ t ∧ t ≤ u ∧ u < gI M 568 0 ∧ 0 ≤ v ∧ v ≤ 99) ∧ (cN (pD (exG (mR M 0 l) t u v) (mR M 0 l)) (gI M 568 0).toNat = 0 ∧ x = -3 ∧ np qNo M N ∨ cN (pD (exG (mR M 0 l) t u v) (mR M 0 l)) (gI M 568 0).toNat ≠ 0 ∧ x = cN (pD (exG (mR M 0 l) t u v) (mR M 0 l)) (gI M 568 0).toNat ∧ acd M (rwW M l (exG (mR M 0 l) t u v)) N) ∨ ¬ (0 ≤ l ∧ l < gI M 568 1 ∧ 0 ≤ t ∧ t ≤ u ∧ u < gI M 568 0 ∧ 0 ≤ v ∧ v ≤ 99) ∧ x = -2 ∧ N = M)) := by
    intro kf
    induction kf with
    | zero => intro f  g1 g2 hm9; exact absurd hm9 (Nat.not_lt_zero _)
    | succ kf ih54 =>
      intro f  g1 g2 hm54
      have ih := ih54
      refine bw_iload rfl rfl ?_
      refine bw_iload rfl rfl ?_
      refine bw_icgt rfl (fun c57 => ?_) (fun c57 => ?_)
      · skip
        obtain rfl : f = u + 1 := by omega
        refine bw_cast (M2 := (wI M 569 (paF (gI M 569) l (gI M 568 0) (exG (mR M 0 l) t u v)))) ?_ rfl rfl (by rw [paF_n (n := u + 1) (m := gI M 568 0) (by omega) (by omega) (fun f h1 h2 h3 => by unfold exG; rw [if_neg (by omega), mR0])])
        refine bw_aload rfl rfl ?_
        refine bw_iload rfl rfl ?_
        refine bw_callVe (e := d - 1) (as := [_]) rfl (by omega) rfl rfl (Nat.le_of_ble_eq_true rfl) (Nat.le_of_ble_eq_true rfl) rfl (m_others (M := (wI M 569 (paF (gI M 569) l (gI M 568 0) (exG (mR M 0 l) t u v)))) hR (RB_pa hB (ex_in hB (by omega) (by omega))) (by omega) (by omega)) ?_
        rw [gI_wI_ne (show 568 ≠ 569 by decide)]
        rw [oth_pa (by omega) (by omega)]
        refine bw_istore (ls2 := [_, _, _, _, _, _]) rfl rfl (Nat.le_of_ble_eq_true rfl) rfl ?_
        refine bw_iload rfl rfl ?_
        refine bw_ifne rfl (fun c87 => ?_) (fun c87 => ?_)
        · skip
          refine bw_aload rfl rfl ?_
          refine bw_callVv (e := d - 1) (as := []) rfl (by omega) rfl rfl (Nat.le_of_ble_eq_true rfl) (Nat.le_of_ble_eq_true rfl) rfl (m_becomes (M := (wI M 569 (paF (gI M 569) l (gI M 568 0) (exG (mR M 0 l) t u v)))) hR (by rw [gI_wI_ne (show 567 ≠ 569 by decide)]; omega) (by omega)) (fun M94 hM94 => ?_)
          refine bw_iload rfl rfl ?_
          refine bw_ret rfl rfl ?_
          exact ⟨rfl, _, rfl, Or.inl ⟨by omega, Or.inr ⟨by omega, rfl, act_w hM94 (npS_pa (by omega) (by omega)) (bdS_pa hB (ex_in hB (by omega) (by omega))) ha⟩⟩⟩
        · skip
          refine bw_push rfl ?_
          refine bw_ret rfl rfl ?_
          exact ⟨rfl, _, rfl, Or.inl ⟨by omega, Or.inl ⟨by omega, rfl, np_w (npS_pa (by omega) (by omega)) (bdS_pa hB (ex_in hB (by omega) (by omega)))⟩⟩⟩
      · skip
        refine bw_aload rfl rfl ?_
        refine bw_push rfl ?_
        refine bw_iload rfl rfl ?_
        refine bw_iload rfl rfl ?_
        refine bw_iload rfl rfl ?_
        refine bw_callVn (e := d - 1) (as := [_, _, _, _]) rfl (by omega) rfl rfl (Nat.le_of_ble_eq_true rfl) (Nat.le_of_ble_eq_true rfl) rfl (m_sets (M := (wI M 569 (paF (gI M 569) l f (exG (mR M 0 l) t u v)))) hR (by omega) (by omega) (by omega)) ?_
        refine bw_iinc (ls2 := [_, _, _, _, _, _]) rfl rfl rfl ⟨by omega, by omega⟩ rfl ?_
        refine bw_goto rfl ?_
        refine bw_cast (M2 := (wI M 569 (paF (gI M 569) l (f + 1) (exG (mR M 0 l) t u v)))) (ih _ (by omega) (by omega) (by omega)) rfl rfl ?_
        rw [sI_wI, paF_up (by omega) (by omega) (show v = exG (mR M 0 l) t u v f by unfold exG; rw [if_pos (by omega)])]
  show abW d (0, 0) 260 0 [some (vr (some 567)), some (vi l), some (vi t), some (vi u), some (vi v), none] [] (0, 0) (A0 L) M (qI (A0 L) (fun x N => (0 ≤ l ∧ l < gI M 568 1 ∧ 0 ≤ t ∧ t ≤ u ∧ u < gI M 568 0 ∧ 0 ≤ v ∧ v ≤ 99) ∧ (cN (pD (exG (mR M 0 l) t u v) (mR M 0 l)) (gI M 568 0).toNat = 0 ∧ x = -3 ∧ np qNo M N ∨ cN (pD (exG (mR M 0 l) t u v) (mR M 0 l)) (gI M 568 0).toNat ≠ 0 ∧ x = cN (pD (exG (mR M 0 l) t u v) (mR M 0 l)) (gI M 568 0).toNat ∧ acd M (rwW M l (exG (mR M 0 l) t u v)) N) ∨ ¬ (0 ≤ l ∧ l < gI M 568 1 ∧ 0 ≤ t ∧ t ≤ u ∧ u < gI M 568 0 ∧ 0 ≤ v ∧ v ≤ 99) ∧ x = -2 ∧ N = M))
  refine bw_aload rfl rfl ?_
  refine bw_iload rfl rfl ?_
  refine bw_callVj (e := d - 1) (as := [_]) rfl (by omega) rfl rfl (Nat.le_of_ble_eq_true rfl) (Nat.le_of_ble_eq_true rfl) rfl (m_isLayer hR hB (by omega)) (fun r2 hr2 => ?_)
  refine bw_ifeq rfl (fun c5 => ?_) (fun c5 => ?_)
  · skip
    refine bw_push rfl ?_
    refine bw_ret rfl rfl ?_
    exact ⟨rfl, _, rfl, Or.inr ⟨by omega, rfl, rfl⟩⟩
  · skip
    refine bw_aload rfl rfl ?_
    refine bw_iload rfl rfl ?_
    refine bw_callVj (e := d - 1) (as := [_]) rfl (by omega) rfl rfl (Nat.le_of_ble_eq_true rfl) (Nat.le_of_ble_eq_true rfl) rfl (m_isFrame hR hB (by omega)) (fun r10 hr10 => ?_)
    refine bw_ifeq rfl (fun c13 => ?_) (fun c13 => ?_)
    · skip
      refine bw_push rfl ?_
      refine bw_ret rfl rfl ?_
      exact ⟨rfl, _, rfl, Or.inr ⟨by omega, rfl, rfl⟩⟩
    · skip
      refine bw_aload rfl rfl ?_
      refine bw_iload rfl rfl ?_
      refine bw_callVj (e := d - 1) (as := [_]) rfl (by omega) rfl rfl (Nat.le_of_ble_eq_true rfl) (Nat.le_of_ble_eq_true rfl) rfl (m_isFrame hR hB (by omega)) (fun r18 hr18 => ?_)
      refine bw_ifeq rfl (fun c21 => ?_) (fun c21 => ?_)
      · skip
        refine bw_push rfl ?_
        refine bw_ret rfl rfl ?_
        exact ⟨rfl, _, rfl, Or.inr ⟨by omega, rfl, rfl⟩⟩
      · skip
        refine bw_iload rfl rfl ?_
        refine bw_iload rfl rfl ?_
        refine bw_iclt rfl (fun c26 => ?_) (fun c26 => ?_)
        · skip
          refine bw_push rfl ?_
          refine bw_ret rfl rfl ?_
          exact ⟨rfl, _, rfl, Or.inr ⟨by omega, rfl, rfl⟩⟩
        · skip
          refine bw_iload rfl rfl ?_
          refine bw_push rfl ?_
          refine bw_push rfl ?_
          refine bw_callSj (e := d - 1) (as := [_, _, _]) rfl (by omega) rfl rfl (Nat.le_of_ble_eq_true rfl) (Nat.le_of_ble_eq_true rfl) (m_isIn hR) (fun r34 hr34 => ?_)
          refine bw_ifne rfl (fun c37 => ?_) (fun c37 => ?_)
          · skip
            refine bw_aload rfl rfl ?_
            refine bw_push rfl ?_
            refine bw_push rfl ?_
            refine bw_callVn (e := d - 1) (as := [_, _]) rfl (by omega) rfl rfl (Nat.le_of_ble_eq_true rfl) (Nat.le_of_ble_eq_true rfl) rfl (m_copies hR (by omega) (by omega) (by omega)) ?_
            refine bw_iload rfl rfl ?_
            refine bw_istore (ls2 := [_, _, _, _, _, _]) rfl rfl (Nat.le_of_ble_eq_true rfl) rfl ?_
            refine bw_cast (M2 := (wI M 569 (paF (gI M 569) l t (exG (mR M 0 l) t u v)))) (L54 ((u + 1 - t).toNat + 1) t (by omega) (by omega) (by omega)) rfl rfl ?_
            rw [cpF_pa (l := l) (n := t) (g := exG (mR M 0 l) t u v) (by omega) (by omega) (fun f h1 h2 => by unfold exG; rw [if_neg (by omega), mR0])]
          · skip
            refine bw_push rfl ?_
            refine bw_ret rfl rfl ?_
            exact ⟨rfl, _, rfl, Or.inr ⟨by omega, rfl, rfl⟩⟩
set_option maxRecDepth 20000 in
set_option maxHeartbeats 4000000 in
theorem m_push {d L : Nat} {M : abMem} {r : abRf} (hR : RF r M) (hB : RB M) {l t n : Int} (ha : 0 ≤ gI M 567 3 ∧ gI M 567 3 ≤ 20) (hd : 3 ≤ d) : abW d (0, 0) 262 0 (abEnt (abL 262) [vr (some 567), vi l, vi t, vi n]) [] (0, 0) (A0 L) M (qI (A0 L) (fun x N => (0 ≤ l ∧ l < gI M 568 1 ∧ 0 ≤ t ∧ t < gI M 568 0 ∧ 1 ≤ n ∧ n ≤ 96) ∧ x = cN (pF (mR M 0 l)) (gI M 568 0).toNat - cN (pF (mR M 0 l)) (max t (gI M 568 0 - n)).toNat ∧ acd M (rwW M l (psG (mR M 0 l) t n)) N ∨ ¬ (0 ≤ l ∧ l < gI M 568 1 ∧ 0 ≤ t ∧ t < gI M 568 0 ∧ 1 ≤ n ∧ n ≤ 96) ∧ x = -2 ∧ N = M)) := by
  have b1 := hB.fr
  have b2 := hB.la
  have L95 : ∀ (kf : Nat) (f : Int), (min (gI M 568 0) (t + n) ≤ f ∧ f ≤ gI M 568 0) → (0 ≤ l ∧ l < gI M 568 1 ∧ 0 ≤ t ∧ t < gI M 568 0 ∧ 1 ≤ n ∧ n ≤ 96) → ((97 - f).toNat) < kf → abW d (0, 0) 262 95 [some (vr (some 567)), some (vi l), some (vi t), some (vi n), some (vi (cN (pF (mR M 0 l)) (gI M 568 0).toNat - cN (pF (mR M 0 l)) (max t (gI M 568 0 - n)).toNat)), some (vi (min (gI M 568 0) (t + n))), some (vi f)] [] (0, 0) (A0 L) ((wI M 569 (paF (gI M 569) l f (psG (mR M 0 l) t n)))) (qI (A0 L) (fun x N => (0 ≤ l ∧ l < gI M 568 1 ∧ 0 ≤ t ∧ t < gI M 568 0 ∧ 1 ≤ n ∧ n ≤ 96) ∧ x = cN (pF (mR M 0 l)) (gI M 568 0).toNat - cN (pF (mR M 0 l)) (max t (gI M 568 0 - n)).toNat ∧ acd M (rwW M l (psG (mR M 0 l) t n)) N ∨ ¬ (0 ≤ l ∧ l < gI M 568 1 ∧ 0 ≤ t ∧ t < gI M 568 0 ∧ 1 ≤ n ∧ n ≤ 96) ∧ x = -2 ∧ N = M)) := by
    intro kf
    induction kf with
    | zero => intro f  g1 g2 hm9; exact absurd hm9 (Nat.not_lt_zero _)
    | succ kf ih95 =>
      intro f  g1 g2 hm95
      have ih := ih95
      refine bw_iload rfl rfl ?_
      refine bw_aload rfl rfl ?_
      refine bw_callVe (e := d - 1) (as := []) rfl (by omega) rfl rfl (Nat.le_of_ble_eq_true rfl) (Nat.le_of_ble_eq_true rfl) rfl (m_frames (M := _) (by exact hR)) ?_
      rw [gI_wI_ne (show 568 ≠ 569 by decide)]
      refine bw_icge rfl (fun c101 => ?_) (fun c101 => ?_)
      · skip
        obtain rfl : f = gI M 568 0 := by omega
        refine bw_aload rfl rfl ?_
        refine bw_callVv (e := d - 1) (as := []) rfl (by omega) rfl rfl (Nat.le_of_ble_eq_true rfl) (Nat.le_of_ble_eq_true rfl) rfl (m_becomes (M := (wI M 569 (paF (gI M 569) l (gI M 568 0) (psG (mR M 0 l) t n)))) hR (by rw [gI_wI_ne (show 567 ≠ 569 by decide)]; omega) (by omega)) (fun M131 hM131 => ?_)
        refine bw_iload rfl rfl ?_
        refine bw_ret rfl rfl ?_
        exact ⟨rfl, _, rfl, Or.inl ⟨by omega, rfl, act_w hM131 (npS_pa (by omega) (by omega)) (bdS_pa hB (fun f h1 h2 => ps_in hB (by omega) (by omega) f h1 h2 (by omega))) ha⟩⟩
      · skip
        refine bw_aload rfl rfl ?_
        refine bw_push rfl ?_
        refine bw_iload rfl rfl ?_
        refine bw_iload rfl rfl ?_
        refine bw_aload rfl rfl ?_
        refine bw_push rfl ?_
        refine bw_iload rfl rfl ?_
        refine bw_iload rfl rfl ?_
        refine bw_iload rfl rfl ?_
        refine bw_isub rfl ⟨by omega, by omega⟩ ?_
        refine bw_callVe (e := d - 1) (as := [_, _, _]) rfl (by omega) rfl rfl (Nat.le_of_ble_eq_true rfl) (Nat.le_of_ble_eq_true rfl) rfl (m_has (M := (wI M 569 (paF (gI M 569) l f (psG (mR M 0 l) t n)))) hR (by omega) (by omega) (by omega)) ?_
        rw [mR_pa (by omega) (by omega)]
        refine bw_callVn (e := d - 1) (as := [_, _, _, _]) rfl (by omega) rfl rfl (Nat.le_of_ble_eq_true rfl) (Nat.le_of_ble_eq_true rfl) rfl (m_sets (M := (wI M 569 (paF (gI M 569) l f (psG (mR M 0 l) t n)))) hR (by omega) (by omega) (by omega)) ?_
        refine bw_iinc (ls2 := [_, _, _, _, _, _, _]) rfl rfl rfl ⟨by omega, by omega⟩ rfl ?_
        refine bw_goto rfl ?_
        refine bw_cast (M2 := (wI M 569 (paF (gI M 569) l (f + 1) (psG (mR M 0 l) t n)))) (ih _ (by omega) (by omega) (by omega)) rfl rfl ?_
        rw [sI_wI, paF_up (by omega) (by omega) (show mR M 0 l (f - n) = psG (mR M 0 l) t n f by unfold psG; rw [if_neg (by omega), if_neg (by omega)])]
  have L61 : ∀ (kf : Nat) (f : Int), (t ≤ f ∧ f ≤ min (gI M 568 0) (t + n)) → (0 ≤ l ∧ l < gI M 568 1 ∧ 0 ≤ t ∧ t < gI M 568 0 ∧ 1 ≤ n ∧ n ≤ 96) → ((97 - f).toNat) < kf → abW d (0, 0) 262 61 [some (vr (some 567)), some (vi l), some (vi t), some (vi n), some (vi (cN (pF (mR M 0 l)) (gI M 568 0).toNat - cN (pF (mR M 0 l)) (max t (gI M 568 0 - n)).toNat)), some (vi (min (gI M 568 0) (t + n))), some (vi f)] [] (0, 0) (A0 L) ((wI M 569 (paF (gI M 569) l f (psG (mR M 0 l) t n)))) (qI (A0 L) (fun x N => (0 ≤ l ∧ l < gI M 568 1 ∧ 0 ≤ t ∧ t < gI M 568 0 ∧ 1 ≤ n ∧ n ≤ 96) ∧ x = cN (pF (mR M 0 l)) (gI M 568 0).toNat - cN (pF (mR M 0 l)) (max t (gI M 568 0 - n)).toNat ∧ acd M (rwW M l (psG (mR M 0 l) t n)) N ∨ ¬ (0 ≤ l ∧ l < gI M 568 1 ∧ 0 ≤ t ∧ t < gI M 568 0 ∧ 1 ≤ n ∧ n ≤ 96) ∧ x = -2 ∧ N = M)) := by
    intro kf
    induction kf with
    | zero => intro f  g1 g2 hm9; exact absurd hm9 (Nat.not_lt_zero _)
    | succ kf ih61 =>
      intro f  g1 g2 hm61
      have ih := ih61
      refine bw_iload rfl rfl ?_
      refine bw_iload rfl rfl ?_
      refine bw_icge rfl (fun c65 => ?_) (fun c65 => ?_)
      · skip
        refine bw_iload rfl rfl ?_
        refine bw_istore (ls2 := [_, _, _, _, _, _, _]) rfl rfl (Nat.le_of_ble_eq_true rfl) rfl ?_
        obtain rfl : f = min (gI M 568 0) (t + n) := by omega
        exact L95 98 _ (by omega) (by omega) (by omega)
      · skip
        refine bw_aload rfl rfl ?_
        refine bw_push rfl ?_
        refine bw_iload rfl rfl ?_
        refine bw_iload rfl rfl ?_
        refine bw_aload rfl rfl ?_
        refine bw_push rfl ?_
        refine bw_iload rfl rfl ?_
        refine bw_iload rfl rfl ?_
        refine bw_callVe (e := d - 1) (as := [_, _, _]) rfl (by omega) rfl rfl (Nat.le_of_ble_eq_true rfl) (Nat.le_of_ble_eq_true rfl) rfl (m_has (M := (wI M 569 (paF (gI M 569) l f (psG (mR M 0 l) t n)))) hR (by omega) (by omega) (by omega)) ?_
        rw [mR_pa (by omega) (by omega)]
        refine bw_callVn (e := d - 1) (as := [_, _, _, _]) rfl (by omega) rfl rfl (Nat.le_of_ble_eq_true rfl) (Nat.le_of_ble_eq_true rfl) rfl (m_sets (M := (wI M 569 (paF (gI M 569) l f (psG (mR M 0 l) t n)))) hR (by omega) (by omega) (by omega)) ?_
        refine bw_iinc (ls2 := [_, _, _, _, _, _, _]) rfl rfl rfl ⟨by omega, by omega⟩ rfl ?_
        refine bw_goto rfl ?_
        refine bw_cast (M2 := (wI M 569 (paF (gI M 569) l (f + 1) (psG (mR M 0 l) t n)))) (ih _ (by omega) (by omega) (by omega)) rfl rfl ?_
        rw [sI_wI, paF_up (by omega) (by omega) (show mR M 0 l t = psG (mR M 0 l) t n f by unfold psG; rw [if_neg (by omega), if_pos (by omega)])]
  show abW d (0, 0) 262 0 [some (vr (some 567)), some (vi l), some (vi t), some (vi n), none, none, none] [] (0, 0) (A0 L) M (qI (A0 L) (fun x N => (0 ≤ l ∧ l < gI M 568 1 ∧ 0 ≤ t ∧ t < gI M 568 0 ∧ 1 ≤ n ∧ n ≤ 96) ∧ x = cN (pF (mR M 0 l)) (gI M 568 0).toNat - cN (pF (mR M 0 l)) (max t (gI M 568 0 - n)).toNat ∧ acd M (rwW M l (psG (mR M 0 l) t n)) N ∨ ¬ (0 ≤ l ∧ l < gI M 568 1 ∧ 0 ≤ t ∧ t < gI M 568 0 ∧ 1 ≤ n ∧ n ≤ 96) ∧ x = -2 ∧ N = M))
  refine bw_aload rfl rfl ?_
  refine bw_iload rfl rfl ?_
  refine bw_callVj (e := d - 1) (as := [_]) rfl (by omega) rfl rfl (Nat.le_of_ble_eq_true rfl) (Nat.le_of_ble_eq_true rfl) rfl (m_isLayer hR hB (by omega)) (fun r2 hr2 => ?_)
  refine bw_ifeq rfl (fun c5 => ?_) (fun c5 => ?_)
  · skip
    refine bw_push rfl ?_
    refine bw_ret rfl rfl ?_
    exact ⟨rfl, _, rfl, Or.inr ⟨by omega, rfl, rfl⟩⟩
  · skip
    refine bw_aload rfl rfl ?_
    refine bw_iload rfl rfl ?_
    refine bw_callVj (e := d - 1) (as := [_]) rfl (by omega) rfl rfl (Nat.le_of_ble_eq_true rfl) (Nat.le_of_ble_eq_true rfl) rfl (m_isFrame hR hB (by omega)) (fun r10 hr10 => ?_)
    refine bw_ifeq rfl (fun c13 => ?_) (fun c13 => ?_)
    · skip
      refine bw_push rfl ?_
      refine bw_ret rfl rfl ?_
      exact ⟨rfl, _, rfl, Or.inr ⟨by omega, rfl, rfl⟩⟩
    · skip
      refine bw_iload rfl rfl ?_
      refine bw_push rfl ?_
      refine bw_push rfl ?_
      refine bw_callSj (e := d - 1) (as := [_, _, _]) rfl (by omega) rfl rfl (Nat.le_of_ble_eq_true rfl) (Nat.le_of_ble_eq_true rfl) (m_isIn hR) (fun r20 hr20 => ?_)
      refine bw_ifne rfl (fun c23 => ?_) (fun c23 => ?_)
      · skip
        refine bw_aload rfl rfl ?_
        refine bw_iload rfl rfl ?_
        refine bw_iload rfl rfl ?_
        refine bw_iload rfl rfl ?_
        refine bw_callVe (e := d - 1) (as := [_, _, _]) rfl (by omega) rfl rfl (Nat.le_of_ble_eq_true rfl) (Nat.le_of_ble_eq_true rfl) rfl (m_lostBy hR hB (by omega) (by omega) (by omega) (by omega)) ?_
        refine bw_istore (ls2 := [_, _, _, _, _, _, _]) rfl rfl (Nat.le_of_ble_eq_true rfl) rfl ?_
        refine bw_aload rfl rfl ?_
        refine bw_push rfl ?_
        refine bw_push rfl ?_
        refine bw_callVn (e := d - 1) (as := [_, _]) rfl (by omega) rfl rfl (Nat.le_of_ble_eq_true rfl) (Nat.le_of_ble_eq_true rfl) rfl (m_copies hR (by omega) (by omega) (by omega)) ?_
        refine bw_aload rfl rfl ?_
        refine bw_callVe (e := d - 1) (as := []) rfl (by omega) rfl rfl (Nat.le_of_ble_eq_true rfl) (Nat.le_of_ble_eq_true rfl) rfl (m_frames (M := _) (by exact hR)) ?_
        rw [gI_wI_ne (show 568 ≠ 569 by decide)]
        refine bw_iload rfl rfl ?_
        refine bw_iload rfl rfl ?_
        refine bw_iadd rfl ⟨by omega, by omega⟩ ?_
        refine bw_callSe (e := d - 1) (as := [_, _]) rfl (by omega) rfl rfl (Nat.le_of_ble_eq_true rfl) (Nat.le_of_ble_eq_true rfl) (m_lesser (M := _) (by exact hR)) ?_
        refine bw_istore (ls2 := [_, _, _, _, _, _, _]) rfl rfl (Nat.le_of_ble_eq_true rfl) rfl ?_
        refine bw_iload rfl rfl ?_
        refine bw_istore (ls2 := [_, _, _, _, _, _, _]) rfl rfl (Nat.le_of_ble_eq_true rfl) rfl ?_
        refine bw_cast (M2 := (wI M 569 (paF (gI M 569) l t (psG (mR M 0 l) t n)))) (L61 98 t (by omega) (by omega) (by omega)) rfl rfl ?_
        rw [cpF_pa (l := l) (n := t) (g := psG (mR M 0 l) t n) (by omega) (by omega) (fun f h1 h2 => by unfold psG; rw [if_pos (by omega), mR0])]
      · skip
        refine bw_push rfl ?_
        refine bw_ret rfl rfl ?_
        exact ⟨rfl, _, rfl, Or.inr ⟨by omega, rfl, rfl⟩⟩
set_option maxRecDepth 20000 in
set_option maxHeartbeats 4000000 in
theorem m_pull {d L : Nat} {M : abMem} {r : abRf} (hR : RF r M) (hB : RB M) {l t n : Int} (ha : 0 ≤ gI M 567 3 ∧ gI M 567 3 ≤ 20) (ht : In32 t) (hd : 3 ≤ d) : abW d (0, 0) 263 0 (abEnt (abL 263) [vr (some 567), vi l, vi t, vi n]) [] (0, 0) (A0 L) M (qI (A0 L) (fun x N => (0 ≤ l ∧ l < gI M 568 1 ∧ 0 ≤ t ∧ t < gI M 568 0 ∧ 1 ≤ n ∧ n ≤ gI M 568 0 - t) ∧ x = cN (pD (plG (mR M 0 l) (gI M 568 0) t n) (mR M 0 l)) (gI M 568 0).toNat ∧ acd M (rwW M l (plG (mR M 0 l) (gI M 568 0) t n)) N ∨ ¬ (0 ≤ l ∧ l < gI M 568 1 ∧ 0 ≤ t ∧ t < gI M 568 0 ∧ 1 ≤ n ∧ n ≤ gI M 568 0 - t) ∧ x = -2 ∧ N = M)) := by
  have b1 := hB.fr
  have b2 := hB.la
  have L117 : ∀ (kf : Nat) (f e : Int), (gI M 568 0 - n ≤ f ∧ f ≤ gI M 568 0) → (0 ≤ l ∧ l < gI M 568 1 ∧ 0 ≤ t ∧ t < gI M 568 0 ∧ 1 ≤ n ∧ n ≤ gI M 568 0 - t) → (e = plE (mR M 0 l) (gI M 568 0) t n) → ((97 - f).toNat) < kf → abW d (0, 0) 263 117 [some (vr (some 567)), some (vi l), some (vi t), some (vi n), some (vi (gI M 568 0 - n)), some (vi e), some (vi f)] [] (0, 0) (A0 L) ((wI M 569 (paF (gI M 569) l f (plG (mR M 0 l) (gI M 568 0) t n)))) (qI (A0 L) (fun x N => (0 ≤ l ∧ l < gI M 568 1 ∧ 0 ≤ t ∧ t < gI M 568 0 ∧ 1 ≤ n ∧ n ≤ gI M 568 0 - t) ∧ x = cN (pD (plG (mR M 0 l) (gI M 568 0) t n) (mR M 0 l)) (gI M 568 0).toNat ∧ acd M (rwW M l (plG (mR M 0 l) (gI M 568 0) t n)) N ∨ ¬ (0 ≤ l ∧ l < gI M 568 1 ∧ 0 ≤ t ∧ t < gI M 568 0 ∧ 1 ≤ n ∧ n ≤ gI M 568 0 - t) ∧ x = -2 ∧ N = M)) := by
    intro kf
    induction kf with
    | zero => intro f e  g1 g2 g3 hm9; exact absurd hm9 (Nat.not_lt_zero _)
    | succ kf ih117 =>
      intro f e  g1 g2 g3 hm117
      have ih := ih117
      refine bw_iload rfl rfl ?_
      refine bw_aload rfl rfl ?_
      refine bw_callVe (e := d - 1) (as := []) rfl (by omega) rfl rfl (Nat.le_of_ble_eq_true rfl) (Nat.le_of_ble_eq_true rfl) rfl (m_frames (M := _) (by exact hR)) ?_
      rw [gI_wI_ne (show 568 ≠ 569 by decide)]
      refine bw_icge rfl (fun c123 => ?_) (fun c123 => ?_)
      · skip
        obtain rfl : f = gI M 568 0 := by omega
        refine bw_aload rfl rfl ?_
        refine bw_iload rfl rfl ?_
        refine bw_callVe (e := d - 1) (as := [_]) rfl (by omega) rfl rfl (Nat.le_of_ble_eq_true rfl) (Nat.le_of_ble_eq_true rfl) rfl (m_others (M := (wI M 569 (paF (gI M 569) l (gI M 568 0) (plG (mR M 0 l) (gI M 568 0) t n)))) hR (RB_pa hB (pl_in hB (by omega) (by omega))) (by omega) (by omega)) ?_
        rw [gI_wI_ne (show 568 ≠ 569 by decide)]
        rw [oth_pa (by omega) (by omega)]
        refine bw_istore (ls2 := [_, _, _, _, _, _, _]) rfl rfl (Nat.le_of_ble_eq_true rfl) rfl ?_
        refine bw_aload rfl rfl ?_
        refine bw_callVv (e := d - 1) (as := []) rfl (by omega) rfl rfl (Nat.le_of_ble_eq_true rfl) (Nat.le_of_ble_eq_true rfl) rfl (m_becomes (M := (wI M 569 (paF (gI M 569) l (gI M 568 0) (plG (mR M 0 l) (gI M 568 0) t n)))) hR (by rw [gI_wI_ne (show 567 ≠ 569 by decide)]; omega) (by omega)) (fun M152 hM152 => ?_)
        refine bw_iload rfl rfl ?_
        refine bw_ret rfl rfl ?_
        exact ⟨rfl, _, rfl, Or.inl ⟨by omega, rfl, act_w hM152 (npS_pa (by omega) (by omega)) (bdS_pa hB (pl_in hB (by omega) (by omega))) ha⟩⟩
      · skip
        refine bw_aload rfl rfl ?_
        refine bw_push rfl ?_
        refine bw_iload rfl rfl ?_
        refine bw_iload rfl rfl ?_
        refine bw_iload rfl rfl ?_
        refine bw_callVn (e := d - 1) (as := [_, _, _, _]) rfl (by omega) rfl rfl (Nat.le_of_ble_eq_true rfl) (Nat.le_of_ble_eq_true rfl) rfl (m_sets (M := (wI M 569 (paF (gI M 569) l f (plG (mR M 0 l) (gI M 568 0) t n)))) hR (by omega) (by omega) (by omega)) ?_
        refine bw_iinc (ls2 := [_, _, _, _, _, _, _]) rfl rfl rfl ⟨by omega, by omega⟩ rfl ?_
        refine bw_goto rfl ?_
        refine bw_cast (M2 := (wI M 569 (paF (gI M 569) l (f + 1) (plG (mR M 0 l) (gI M 568 0) t n)))) (ih _ _ (by omega) (by omega) g3 (by omega)) rfl rfl ?_
        rw [sI_wI, paF_up (by omega) (by omega) (show e = plG (mR M 0 l) (gI M 568 0) t n f by unfold plG; rw [if_neg (by omega), if_neg (by omega)]; exact g3)]
  have L57 : ∀ (kf : Nat) (f : Int), (t ≤ f ∧ f ≤ gI M 568 0 - n) → (0 ≤ l ∧ l < gI M 568 1 ∧ 0 ≤ t ∧ t < gI M 568 0 ∧ 1 ≤ n ∧ n ≤ gI M 568 0 - t) → ((97 - f).toNat) < kf → abW d (0, 0) 263 57 [some (vr (some 567)), some (vi l), some (vi t), some (vi n), some (vi (gI M 568 0 - n)), some (vi f), none] [] (0, 0) (A0 L) ((wI M 569 (paF (gI M 569) l f (plG (mR M 0 l) (gI M 568 0) t n)))) (qI (A0 L) (fun x N => (0 ≤ l ∧ l < gI M 568 1 ∧ 0 ≤ t ∧ t < gI M 568 0 ∧ 1 ≤ n ∧ n ≤ gI M 568 0 - t) ∧ x = cN (pD (plG (mR M 0 l) (gI M 568 0) t n) (mR M 0 l)) (gI M 568 0).toNat ∧ acd M (rwW M l (plG (mR M 0 l) (gI M 568 0) t n)) N ∨ ¬ (0 ≤ l ∧ l < gI M 568 1 ∧ 0 ≤ t ∧ t < gI M 568 0 ∧ 1 ≤ n ∧ n ≤ gI M 568 0 - t) ∧ x = -2 ∧ N = M)) := by
    intro kf
    induction kf with
    | zero => intro f  g1 g2 hm9; exact absurd hm9 (Nat.not_lt_zero _)
    | succ kf ih57 =>
      intro f  g1 g2 hm57
      have ih := ih57
      refine bw_iload rfl rfl ?_
      refine bw_iload rfl rfl ?_
      refine bw_icge rfl (fun c61 => ?_) (fun c61 => ?_)
      · skip
        refine bw_iload rfl rfl ?_
        refine bw_ifne rfl (fun c92 => ?_) (fun c92 => ?_)
        · skip
          refine bw_aload rfl rfl ?_
          refine bw_push rfl ?_
          refine bw_iload rfl rfl ?_
          refine bw_iload rfl rfl ?_
          refine bw_push rfl ?_
          refine bw_isub rfl ⟨by omega, by omega⟩ ?_
          refine bw_callVe (e := d - 1) (as := [_, _, _]) rfl (by omega) rfl rfl (Nat.le_of_ble_eq_true rfl) (Nat.le_of_ble_eq_true rfl) rfl (m_has (M := (wI M 569 (paF (gI M 569) l f (plG (mR M 0 l) (gI M 568 0) t n)))) hR (by omega) (by omega) (by omega)) ?_
          rw [mR_pg (by omega)]
          refine bw_istore (ls2 := [_, _, _, _, _, _, _]) rfl rfl (Nat.le_of_ble_eq_true rfl) rfl ?_
          refine bw_iload rfl rfl ?_
          refine bw_istore (ls2 := [_, _, _, _, _, _, _]) rfl rfl (Nat.le_of_ble_eq_true rfl) rfl ?_
          obtain rfl : f = gI M 568 0 - n := by omega
          first
          | exact L117 98 _ _ (by omega) (by omega) (pl_e0 (by omega)).symm (by omega)
          | exact L117 98 _ _ (by omega) (by omega) (pl_e1 (by omega)) (by omega)
        · skip
          refine bw_push rfl ?_
          refine bw_goto rfl ?_
          refine bw_istore (ls2 := [_, _, _, _, _, _, _]) rfl rfl (Nat.le_of_ble_eq_true rfl) rfl ?_
          refine bw_iload rfl rfl ?_
          refine bw_istore (ls2 := [_, _, _, _, _, _, _]) rfl rfl (Nat.le_of_ble_eq_true rfl) rfl ?_
          obtain rfl : f = gI M 568 0 - n := by omega
          first
          | exact L117 98 _ _ (by omega) (by omega) (pl_e0 (by omega)).symm (by omega)
          | exact L117 98 _ _ (by omega) (by omega) (pl_e1 (by omega)) (by omega)
      · skip
        refine bw_aload rfl rfl ?_
        refine bw_push rfl ?_
        refine bw_iload rfl rfl ?_
        refine bw_iload rfl rfl ?_
        refine bw_aload rfl rfl ?_
        refine bw_push rfl ?_
        refine bw_iload rfl rfl ?_
        refine bw_iload rfl rfl ?_
        refine bw_iload rfl rfl ?_
        refine bw_iadd rfl ⟨by omega, by omega⟩ ?_
        refine bw_callVe (e := d - 1) (as := [_, _, _]) rfl (by omega) rfl rfl (Nat.le_of_ble_eq_true rfl) (Nat.le_of_ble_eq_true rfl) rfl (m_has (M := (wI M 569 (paF (gI M 569) l f (plG (mR M 0 l) (gI M 568 0) t n)))) hR (by omega) (by omega) (by omega)) ?_
        rw [mR_pa (by omega) (by omega)]
        refine bw_callVn (e := d - 1) (as := [_, _, _, _]) rfl (by omega) rfl rfl (Nat.le_of_ble_eq_true rfl) (Nat.le_of_ble_eq_true rfl) rfl (m_sets (M := (wI M 569 (paF (gI M 569) l f (plG (mR M 0 l) (gI M 568 0) t n)))) hR (by omega) (by omega) (by omega)) ?_
        refine bw_iinc (ls2 := [_, _, _, _, _, _, _]) rfl rfl rfl ⟨by omega, by omega⟩ rfl ?_
        refine bw_goto rfl ?_
        refine bw_cast (M2 := (wI M 569 (paF (gI M 569) l (f + 1) (plG (mR M 0 l) (gI M 568 0) t n)))) (ih _ (by omega) (by omega) (by omega)) rfl rfl ?_
        rw [sI_wI, paF_up (by omega) (by omega) (show mR M 0 l (f + n) = plG (mR M 0 l) (gI M 568 0) t n f by unfold plG; rw [if_neg (by omega), if_pos (by omega)])]
  show abW d (0, 0) 263 0 [some (vr (some 567)), some (vi l), some (vi t), some (vi n), none, none, none] [] (0, 0) (A0 L) M (qI (A0 L) (fun x N => (0 ≤ l ∧ l < gI M 568 1 ∧ 0 ≤ t ∧ t < gI M 568 0 ∧ 1 ≤ n ∧ n ≤ gI M 568 0 - t) ∧ x = cN (pD (plG (mR M 0 l) (gI M 568 0) t n) (mR M 0 l)) (gI M 568 0).toNat ∧ acd M (rwW M l (plG (mR M 0 l) (gI M 568 0) t n)) N ∨ ¬ (0 ≤ l ∧ l < gI M 568 1 ∧ 0 ≤ t ∧ t < gI M 568 0 ∧ 1 ≤ n ∧ n ≤ gI M 568 0 - t) ∧ x = -2 ∧ N = M))
  refine bw_aload rfl rfl ?_
  refine bw_iload rfl rfl ?_
  refine bw_callVj (e := d - 1) (as := [_]) rfl (by omega) rfl rfl (Nat.le_of_ble_eq_true rfl) (Nat.le_of_ble_eq_true rfl) rfl (m_isLayer hR hB (by omega)) (fun r2 hr2 => ?_)
  refine bw_ifeq rfl (fun c5 => ?_) (fun c5 => ?_)
  · skip
    refine bw_push rfl ?_
    refine bw_ret rfl rfl ?_
    exact ⟨rfl, _, rfl, Or.inr ⟨by omega, rfl, rfl⟩⟩
  · skip
    refine bw_aload rfl rfl ?_
    refine bw_iload rfl rfl ?_
    refine bw_callVj (e := d - 1) (as := [_]) rfl (by omega) rfl rfl (Nat.le_of_ble_eq_true rfl) (Nat.le_of_ble_eq_true rfl) rfl (m_isFrame hR hB (by omega)) (fun r10 hr10 => ?_)
    refine bw_ifeq rfl (fun c13 => ?_) (fun c13 => ?_)
    · skip
      refine bw_push rfl ?_
      refine bw_ret rfl rfl ?_
      exact ⟨rfl, _, rfl, Or.inr ⟨by omega, rfl, rfl⟩⟩
    · skip
      refine bw_iload rfl rfl ?_
      refine bw_push rfl ?_
      refine bw_push rfl ?_
      refine bw_aload rfl rfl ?_
      refine bw_callVe (e := d - 1) (as := []) rfl (by omega) rfl rfl (Nat.le_of_ble_eq_true rfl) (Nat.le_of_ble_eq_true rfl) rfl (m_frames hR) ?_
      refine bw_iload rfl rfl ?_
      refine bw_isub rfl ⟨by omega, by omega⟩ ?_
      refine bw_callSe (e := d - 1) (as := [_, _]) rfl (by omega) rfl rfl (Nat.le_of_ble_eq_true rfl) (Nat.le_of_ble_eq_true rfl) (m_lesser hR) ?_
      refine bw_callSj (e := d - 1) (as := [_, _, _]) rfl (by omega) rfl rfl (Nat.le_of_ble_eq_true rfl) (Nat.le_of_ble_eq_true rfl) (m_isIn hR) (fun r29 hr29 => ?_)
      refine bw_ifne rfl (fun c32 => ?_) (fun c32 => ?_)
      · skip
        refine bw_aload rfl rfl ?_
        refine bw_push rfl ?_
        refine bw_push rfl ?_
        refine bw_callVn (e := d - 1) (as := [_, _]) rfl (by omega) rfl rfl (Nat.le_of_ble_eq_true rfl) (Nat.le_of_ble_eq_true rfl) rfl (m_copies hR (by omega) (by omega) (by omega)) ?_
        refine bw_aload rfl rfl ?_
        refine bw_callVe (e := d - 1) (as := []) rfl (by omega) rfl rfl (Nat.le_of_ble_eq_true rfl) (Nat.le_of_ble_eq_true rfl) rfl (m_frames (M := _) (by exact hR)) ?_
        rw [gI_wI_ne (show 568 ≠ 569 by decide)]
        refine bw_iload rfl rfl ?_
        refine bw_isub rfl ⟨by omega, by omega⟩ ?_
        refine bw_istore (ls2 := [_, _, _, _, _, _, _]) rfl rfl (Nat.le_of_ble_eq_true rfl) rfl ?_
        refine bw_iload rfl rfl ?_
        refine bw_istore (ls2 := [_, _, _, _, _, _, _]) rfl rfl (Nat.le_of_ble_eq_true rfl) rfl ?_
        refine bw_cast (M2 := (wI M 569 (paF (gI M 569) l t (plG (mR M 0 l) (gI M 568 0) t n)))) (L57 98 t (by omega) (by omega) (by omega)) rfl rfl ?_
        rw [cpF_pa (l := l) (n := t) (g := plG (mR M 0 l) (gI M 568 0) t n) (by omega) (by omega) (fun f h1 h2 => by unfold plG; rw [if_pos (by omega), mR0])]
      · skip
        refine bw_push rfl ?_
        refine bw_ret rfl rfl ?_
        exact ⟨rfl, _, rfl, Or.inr ⟨by omega, rfl, rfl⟩⟩
set_option maxRecDepth 20000 in
set_option maxHeartbeats 4000000 in
theorem m_turn {d L : Nat} {M : abMem} {r : abRf} (hR : RF r M) (hB : RB M) {l k : Int} (ha : 0 ≤ gI M 567 3 ∧ gI M 567 3 ≤ 20) (hd : 3 ≤ d) : abW d (0, 0) 264 0 (abEnt (abL 264) [vr (some 567), vi l, vi k]) [] (0, 0) (A0 L) M (qI (A0 L) (fun x N => (0 ≤ l ∧ l < gI M 568 1 ∧ 1 ≤ k ∧ k < gI M 568 0) ∧ x = cN (pD (tnG (gI M 569) (gI M 568 0) l k) (mR M 0 l)) (gI M 568 0).toNat ∧ acd M (rwW M l (tnG (gI M 569) (gI M 568 0) l k)) N ∨ ¬ (0 ≤ l ∧ l < gI M 568 1 ∧ 1 ≤ k ∧ k < gI M 568 0) ∧ x = -2 ∧ N = M)) := by
  have b1 := hB.fr
  have b2 := hB.la
  show abW d (0, 0) 264 0 [some (vr (some 567)), some (vi l), some (vi k), none] [] (0, 0) (A0 L) M (qI (A0 L) (fun x N => (0 ≤ l ∧ l < gI M 568 1 ∧ 1 ≤ k ∧ k < gI M 568 0) ∧ x = cN (pD (tnG (gI M 569) (gI M 568 0) l k) (mR M 0 l)) (gI M 568 0).toNat ∧ acd M (rwW M l (tnG (gI M 569) (gI M 568 0) l k)) N ∨ ¬ (0 ≤ l ∧ l < gI M 568 1 ∧ 1 ≤ k ∧ k < gI M 568 0) ∧ x = -2 ∧ N = M))
  refine bw_aload rfl rfl ?_
  refine bw_iload rfl rfl ?_
  refine bw_callVj (e := d - 1) (as := [_]) rfl (by omega) rfl rfl (Nat.le_of_ble_eq_true rfl) (Nat.le_of_ble_eq_true rfl) rfl (m_isLayer hR hB (by omega)) (fun r2 hr2 => ?_)
  refine bw_ifeq rfl (fun c5 => ?_) (fun c5 => ?_)
  · skip
    refine bw_push rfl ?_
    refine bw_ret rfl rfl ?_
    exact ⟨rfl, _, rfl, Or.inr ⟨by omega, rfl, rfl⟩⟩
  · skip
    refine bw_iload rfl rfl ?_
    refine bw_push rfl ?_
    refine bw_aload rfl rfl ?_
    refine bw_callVe (e := d - 1) (as := []) rfl (by omega) rfl rfl (Nat.le_of_ble_eq_true rfl) (Nat.le_of_ble_eq_true rfl) rfl (m_frames hR) ?_
    refine bw_push rfl ?_
    refine bw_isub rfl ⟨by omega, by omega⟩ ?_
    refine bw_callSj (e := d - 1) (as := [_, _, _]) rfl (by omega) rfl rfl (Nat.le_of_ble_eq_true rfl) (Nat.le_of_ble_eq_true rfl) (m_isIn hR) (fun r16 hr16 => ?_)
    refine bw_ifne rfl (fun c19 => ?_) (fun c19 => ?_)
    · skip
      refine bw_aload rfl rfl ?_
      refine bw_iload rfl rfl ?_
      refine bw_iload rfl rfl ?_
      refine bw_callVn (e := d - 1) (as := [_, _]) rfl (by omega) rfl rfl (Nat.le_of_ble_eq_true rfl) (Nat.le_of_ble_eq_true rfl) rfl (m_turns hR hB (by omega) (by omega) (by omega)) ?_
      refine bw_aload rfl rfl ?_
      refine bw_iload rfl rfl ?_
      refine bw_callVe (e := d - 1) (as := [_]) rfl (by omega) rfl rfl (Nat.le_of_ble_eq_true rfl) (Nat.le_of_ble_eq_true rfl) rfl (m_others (M := (wI M 569 (paF (gI M 569) l (gI M 568 0) (tnG (gI M 569) (gI M 568 0) l k)))) hR (RB_pa hB (tn_in hB (by omega) (by omega))) (by omega) (by omega)) ?_
      rw [gI_wI_ne (show 568 ≠ 569 by decide)]
      rw [oth_pa (by omega) (by omega)]
      refine bw_istore (ls2 := [_, _, _, _]) rfl rfl (Nat.le_of_ble_eq_true rfl) rfl ?_
      refine bw_aload rfl rfl ?_
      refine bw_callVv (e := d - 1) (as := []) rfl (by omega) rfl rfl (Nat.le_of_ble_eq_true rfl) (Nat.le_of_ble_eq_true rfl) rfl (m_becomes (M := (wI M 569 (paF (gI M 569) l (gI M 568 0) (tnG (gI M 569) (gI M 568 0) l k)))) hR (by rw [gI_wI_ne (show 567 ≠ 569 by decide)]; omega) (by omega)) (fun M38 hM38 => ?_)
      refine bw_iload rfl rfl ?_
      refine bw_ret rfl rfl ?_
      exact ⟨rfl, _, rfl, Or.inl ⟨by omega, rfl, act_w hM38 (npS_pa (by omega) (by omega)) (bdS_pa hB (tn_in hB (by omega) (by omega))) ha⟩⟩
    · skip
      refine bw_push rfl ?_
      refine bw_ret rfl rfl ?_
      exact ⟨rfl, _, rfl, Or.inr ⟨by omega, rfl, rfl⟩⟩
set_option maxRecDepth 20000 in
set_option maxHeartbeats 4000000 in
theorem m_twos {d L : Nat} {M : abMem} {r : abRf} (hR : RF r M) (hB : RB M) {l : Int} (ha : 0 ≤ gI M 567 3 ∧ gI M 567 3 ≤ 20) (hd : 3 ≤ d) : abW d (0, 0) 266 0 (abEnt (abL 266) [vr (some 567), vi l]) [] (0, 0) (A0 L) M (qI (A0 L) (fun x N => (0 ≤ l ∧ l < gI M 568 1) ∧ (cN (pD (dbG (gI M 569) l) (mR M 0 l)) (gI M 568 0).toNat = 0 ∧ x = -3 ∧ np qNo M N ∨ cN (pD (dbG (gI M 569) l) (mR M 0 l)) (gI M 568 0).toNat ≠ 0 ∧ x = cN (pD (dbG (gI M 569) l) (mR M 0 l)) (gI M 568 0).toNat ∧ acd M (rwW M l (dbG (gI M 569) l)) N) ∨ ¬ (0 ≤ l ∧ l < gI M 568 1) ∧ x = -2 ∧ N = M)) := by
  have b1 := hB.fr
  have b2 := hB.la
  show abW d (0, 0) 266 0 [some (vr (some 567)), some (vi l), none] [] (0, 0) (A0 L) M (qI (A0 L) (fun x N => (0 ≤ l ∧ l < gI M 568 1) ∧ (cN (pD (dbG (gI M 569) l) (mR M 0 l)) (gI M 568 0).toNat = 0 ∧ x = -3 ∧ np qNo M N ∨ cN (pD (dbG (gI M 569) l) (mR M 0 l)) (gI M 568 0).toNat ≠ 0 ∧ x = cN (pD (dbG (gI M 569) l) (mR M 0 l)) (gI M 568 0).toNat ∧ acd M (rwW M l (dbG (gI M 569) l)) N) ∨ ¬ (0 ≤ l ∧ l < gI M 568 1) ∧ x = -2 ∧ N = M))
  refine bw_aload rfl rfl ?_
  refine bw_iload rfl rfl ?_
  refine bw_callVj (e := d - 1) (as := [_]) rfl (by omega) rfl rfl (Nat.le_of_ble_eq_true rfl) (Nat.le_of_ble_eq_true rfl) rfl (m_isLayer hR hB (by omega)) (fun r2 hr2 => ?_)
  refine bw_ifne rfl (fun c5 => ?_) (fun c5 => ?_)
  · skip
    refine bw_aload rfl rfl ?_
    refine bw_iload rfl rfl ?_
    refine bw_callVn (e := d - 1) (as := [_]) rfl (by omega) rfl rfl (Nat.le_of_ble_eq_true rfl) (Nat.le_of_ble_eq_true rfl) rfl (m_doubles hR hB (by omega) (by omega)) ?_
    refine bw_aload rfl rfl ?_
    refine bw_iload rfl rfl ?_
    refine bw_callVe (e := d - 1) (as := [_]) rfl (by omega) rfl rfl (Nat.le_of_ble_eq_true rfl) (Nat.le_of_ble_eq_true rfl) rfl (m_others (M := (wI M 569 (paF (gI M 569) l (gI M 568 0) (dbG (gI M 569) l)))) hR (RB_pa hB (db_in hB (by omega))) (by omega) (by omega)) ?_
    rw [gI_wI_ne (show 568 ≠ 569 by decide)]
    rw [oth_pa (by omega) (by omega)]
    refine bw_istore (ls2 := [_, _, _]) rfl rfl (Nat.le_of_ble_eq_true rfl) rfl ?_
    refine bw_iload rfl rfl ?_
    refine bw_ifne rfl (fun c23 => ?_) (fun c23 => ?_)
    · skip
      refine bw_aload rfl rfl ?_
      refine bw_callVv (e := d - 1) (as := []) rfl (by omega) rfl rfl (Nat.le_of_ble_eq_true rfl) (Nat.le_of_ble_eq_true rfl) rfl (m_becomes (M := (wI M 569 (paF (gI M 569) l (gI M 568 0) (dbG (gI M 569) l)))) hR (by rw [gI_wI_ne (show 567 ≠ 569 by decide)]; omega) (by omega)) (fun M30 hM30 => ?_)
      refine bw_iload rfl rfl ?_
      refine bw_ret rfl rfl ?_
      exact ⟨rfl, _, rfl, Or.inl ⟨by omega, Or.inr ⟨by omega, rfl, act_w hM30 (npS_pa (by omega) (by omega)) (bdS_pa hB (db_in hB (by omega))) ha⟩⟩⟩
    · skip
      refine bw_push rfl ?_
      refine bw_ret rfl rfl ?_
      exact ⟨rfl, _, rfl, Or.inl ⟨by omega, Or.inl ⟨by omega, rfl, np_w (npS_pa (by omega) (by omega)) (bdS_pa hB (db_in hB (by omega)))⟩⟩⟩
  · skip
    refine bw_push rfl ?_
    refine bw_ret rfl rfl ?_
    exact ⟨rfl, _, rfl, Or.inr ⟨by omega, rfl, rfl⟩⟩
