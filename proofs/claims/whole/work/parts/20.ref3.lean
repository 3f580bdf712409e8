/-- the memory is the same but for the ints of the cells with p -/
def sm (p : Nat → Prop) (M N : abMem) : Prop := N.2 = M.2 ∧ ∀ a : Nat, ¬ p a → gI N a = gI M a
theorem sm.at {p : Nat → Prop} {M N : abMem} (h : sm p M N) (a : Nat) (hp : ¬ p a) : gI N a = gI M a := h.2 a hp
theorem sm_refl (p : Nat → Prop) (M : abMem) : sm p M M := ⟨rfl, fun _ _ => rfl⟩
theorem sm.trans {p : Nat → Prop} {M N K : abMem} (h : sm p M N) (k : sm p N K) : sm p M K := ⟨k.1.trans h.1, fun a ha => (k.2 a ha).trans (h.2 a ha)⟩
theorem sm.mono {p q : Nat → Prop} {M N : abMem} (h : sm p M N) (hq : ∀ a, p a → q a) : sm q M N := ⟨h.1, fun a ha => h.2 a (fun hp => ha (hq a hp))⟩
theorem gI_sI_ne {M : abMem} {a b : Nat} {j x : Int} (h : b ≠ a) : gI (sI M a j x) b = gI M b := by
  funext k; rw [gI_sI, if_neg (fun hh => h hh.1)]
theorem gI_sI_eq {M : abMem} {a : Nat} {j x : Int} : gI (sI M a j x) a j = x := by rw [gI_sI, if_pos ⟨rfl, rfl⟩]
theorem gI_sI_nj {M : abMem} {a : Nat} {j k x : Int} (h : k ≠ j) : gI (sI M a j x) a k = gI M a k := by rw [gI_sI, if_neg (fun hh => h hh.2)]
theorem gI_wI_ne {M : abMem} {a b : Nat} {f : Int → Int} (h : b ≠ a) : gI (wI M a f) b = gI M b := by
  funext k; rw [gI_wI, if_neg h]
theorem gI_wI_eq {M : abMem} {a : Nat} {f : Int → Int} : gI (wI M a f) a = f := by
  funext k; rw [gI_wI, if_pos rfl]
theorem sm.sI {p : Nat → Prop} {M N : abMem} (h : sm p M N) {a : Nat} (j x : Int) (ha : p a) : sm p M (sI N a j x) := ⟨h.1, fun b hb => by rw [gI_sI_ne (fun hh => hb (by rw [hh]; exact ha))]; exact h.2 b hb⟩
theorem sm.wI {p : Nat → Prop} {M N : abMem} (h : sm p M N) {a : Nat} (f : Int → Int) (ha : p a) : sm p M (wI N a f) := ⟨h.1, fun b hb => by rw [gI_wI_ne (fun hh => hb (by rw [hh]; exact ha))]; exact h.2 b hb⟩
theorem sm.RF {p : Nat → Prop} {M N : abMem} {r : abRf} (h : sm p M N) (hR : RF r M) : RF r N := fun a j => by
  show N.2.2 a j = _
  rw [h.1]
  exact hR a j
theorem sm.mR {p : Nat → Prop} {M N : abMem} (h : sm p M N) (hp : ¬ p 569) (i l : Int) : mR N i l = mR M i l := by
  funext f
  show gI N 569 _ = gI M 569 _
  rw [h.at 569 hp]
theorem sm.RB {p : Nat → Prop} {M N : abMem} (h : sm p M N) (h1 : ¬ p 568) (h2 : ¬ p 569) (hB : RB M) : RB N := ⟨by rw [h.at 568 h1]; exact hB.sw, by rw [h.at 569 h2]; exact hB.sh⟩
-- sums
def sN (f : Int → Int) : Nat → Int
  | 0 => 0
  | n + 1 => sN f n + f n
theorem sN_s (f : Int → Int) {i : Int} (h : 0 ≤ i) : sN f (i + 1).toNat = sN f i.toNat + f i := by
  have e : (i + 1).toNat = i.toNat + 1 := by omega
  rw [e]
  show sN f i.toNat + f (i.toNat : Int) = _
  rw [Int.toNat_of_nonneg h]
theorem sN_in {f : Int → Int} {b : Int} : ∀ n : Nat, (∀ i : Int, 0 ≤ i → i < n → -b ≤ f i ∧ f i ≤ b) → -(b * n) ≤ sN f n ∧ sN f n ≤ b * n := by
  intro n
  induction n with
  | zero => intro _; exact ⟨by simp [sN], by simp [sN]⟩
  | succ n ih =>
    intro h
    have h1 := ih (fun i h2 h3 => h i h2 (by omega))
    have h4 := h n (by omega) (by omega)
    show -(b * ((n + 1 : Nat) : Int)) ≤ sN f n + f n ∧ sN f n + f n ≤ b * ((n + 1 : Nat) : Int)
    have e : b * ((n + 1 : Nat) : Int) = b * n + b := by rw [show ((n + 1 : Nat) : Int) = (n : Int) + 1 by omega, Int.mul_add, Int.mul_one]
    rw [e]
    omega
theorem sN_congr {f g : Int → Int} : ∀ n : Nat, (∀ j : Int, 0 ≤ j → j < n → f j = g j) → sN f n = sN g n := by
  intro n
  induction n with
  | zero => intro _; rfl
  | succ n ih =>
    intro h
    show sN f n + f n = sN g n + g n
    rw [ih (fun j h1 h2 => h j h1 (by omega)), h n (by omega) (by omega)]
/-- a product of two small ones -/
theorem mulb {a b : Int} (h : 0 ≤ a ∧ a ≤ 96) (k : -9 ≤ b ∧ b ≤ 9) : -864 ≤ a * b ∧ a * b ≤ 864 := by
  have hb : b = -9 ∨ b = -8 ∨ b = -7 ∨ b = -6 ∨ b = -5 ∨ b = -4 ∨ b = -3 ∨ b = -2 ∨ b = -1 ∨ b = 0 ∨ b = 1 ∨ b = 2 ∨ b = 3 ∨ b = 4 ∨ b = 5 ∨ b = 6 ∨ b = 7 ∨ b = 8 ∨ b = 9 := by omega
  rcases hb with rfl | rfl | rfl | rfl | rfl | rfl | rfl | rfl | rfl | rfl | rfl | rfl | rfl | rfl | rfl | rfl | rfl | rfl | rfl <;> omega
/-- how far slide k moves a layer in frame f -/
def mvT (s : Int → Int) (l f t k : Int) : Int := if s (334 + 5 * k) = l then max 0 (min f (s (334 + 5 * k + 2)) - s (334 + 5 * k + 1) + 1) * s (334 + 5 * k + 3 + t) else 0
def mv (s : Int → Int) (l f t : Int) : Int := sN (mvT s l f t) (s 3).toNat
theorem mvT_in {s : Int → Int} (h : SW s) {l f t k : Int} (hf : 0 ≤ f ∧ f ≤ 95) (ht : t = 0 ∨ t = 1) (hk : 0 ≤ k ∧ k < s 3) : (0 ≤ max 0 (min f (s (334 + 5 * k + 2)) - s (334 + 5 * k + 1) + 1) ∧ max 0 (min f (s (334 + 5 * k + 2)) - s (334 + 5 * k + 1) + 1) ≤ 96) ∧ (-9 ≤ s (334 + 5 * k + 3 + t) ∧ s (334 + 5 * k + 3 + t) ≤ 9) ∧ (-864 ≤ mvT s l f t k ∧ mvT s l f t k ≤ 864) := by
  have q := h.sd k hk.1 hk.2
  have b1 : 0 ≤ max 0 (min f (s (334 + 5 * k + 2)) - s (334 + 5 * k + 1) + 1) ∧ max 0 (min f (s (334 + 5 * k + 2)) - s (334 + 5 * k + 1) + 1) ≤ 96 := by omega
  have b2 : -9 ≤ s (334 + 5 * k + 3 + t) ∧ s (334 + 5 * k + 3 + t) ≤ 9 := by
    rcases ht with rfl | rfl
    · rw [Int.add_zero]; omega
    · rw [show 334 + 5 * k + 3 + 1 = 334 + 5 * k + 4 by omega]; omega
  refine ⟨b1, b2, ?_⟩
  unfold mvT
  split
  · exact mulb b1 b2
  · omega
theorem mv_in {s : Int → Int} (h : SW s) {l f t : Int} (hf : 0 ≤ f ∧ f ≤ 95) (ht : t = 0 ∨ t = 1) (n : Int) (h0 : 0 ≤ n) (hn : n ≤ s 3) : -10368 ≤ sN (mvT s l f t) n.toNat ∧ sN (mvT s l f t) n.toNat ≤ 10368 := by
  have := sN_in (f := mvT s l f t) (b := 864) n.toNat (fun i h1 h2 => (mvT_in h hf ht ⟨h1, by omega⟩).2.2)
  have := h.sl
  omega
/-- the layer is hidden in the frame -/
def hid (s : Int → Int) (l f : Int) : Prop := ∃ k : Int, 0 ≤ k ∧ k < s 4 ∧ s (394 + 3 * k) = l ∧ s (394 + 3 * k + 1) ≤ f ∧ f ≤ s (394 + 3 * k + 2)
/-- box k is of that drawing of the layer and has the place -/
def bxH (s : Int → Int) (l dr x y k : Int) : Bool := decide ((s (54 + 7 * k) = l ∧ s (54 + 7 * k + 1) = dr) ∧ (s (54 + 7 * k + 2) ≤ x ∧ x ≤ s (54 + 7 * k + 2) + s (54 + 7 * k + 4) - 1) ∧ (s (54 + 7 * k + 3) ≤ y ∧ y ≤ s (54 + 7 * k + 3) + s (54 + 7 * k + 5) - 1))
/-- the ink of the last of the first n boxes that has the place -/
def inkN (s : Int → Int) (l dr x y : Int) : Nat → Int
  | 0 => 0
  | n + 1 => if bxH s l dr x y n then s (54 + 7 * (n : Int) + 6) else inkN s l dr x y n
theorem inkN_s {s : Int → Int} {l dr x y i : Int} (h : 0 ≤ i) : inkN s l dr x y (i + 1).toNat = if bxH s l dr x y i then s (54 + 7 * i + 6) else inkN s l dr x y i.toNat := by
  have e : (i + 1).toNat = i.toNat + 1 := by omega
  rw [e]
  show (if bxH s l dr x y (i.toNat : Int) then s (54 + 7 * (i.toNat : Int) + 6) else inkN s l dr x y i.toNat) = _
  rw [Int.toNat_of_nonneg h]
theorem inkN_in {s : Int → Int} (h : SW s) {l dr x y : Int} : ∀ n : Nat, (n : Int) ≤ s 2 → 0 ≤ inkN s l dr x y n ∧ inkN s l dr x y n ≤ 9 := by
  intro n
  induction n with
  | zero => intro _; exact ⟨by simp [inkN], by simp [inkN]⟩
  | succ n ih =>
    intro hn
    have q := h.bx n (by omega) (by omega)
    show 0 ≤ (if bxH s l dr x y n then s (54 + 7 * (n : Int) + 6) else inkN s l dr x y n) ∧ (if bxH s l dr x y n then s (54 + 7 * (n : Int) + 6) else inkN s l dr x y n) ≤ 9
    split
    · omega
    · exact ih (by omega)
def ink (s : Int → Int) (l dr x y : Int) : Int := inkN s l dr x y (s 2).toNat
theorem ink_in {s : Int → Int} (h : SW s) {l dr x y : Int} : 0 ≤ ink s l dr x y ∧ ink s l dr x y ≤ 9 := inkN_in h _ (by have := h.bo; omega)
set_option maxRecDepth 20000 in
set_option maxHeartbeats 4000000 in
theorem m_moved {d L : Nat} {M : abMem} {r : abRf} (hR : RF r M) (hB : RB M) {l f t : Int} (hl : 0 ≤ l ∧ l ≤ 5) (hf : 0 ≤ f ∧ f ≤ 95) (ht : t = 0 ∨ t = 1) (hd : 1 ≤ d) : abW d (0, 0) 225 0 (abEnt (abL 225) [vr (some 567), vi l, vi f, vi t]) [] (0, 0) (A0 L) M (qE (some (vi (mv (gI M 568) l f t))) (A0 L) M) := by
  have b1 := hB.fr
  have b2 := hB.la
  have b3 := hB.sw.sl
  have L6 : ∀ (kf : Nat) (c k : Int), (c = sN (mvT (gI M 568) l f t) k.toNat) → (0 ≤ k ∧ k ≤ gI M 568 3) → ((gI M 568 3 - k).toNat) < kf → abW d (0, 0) 225 6 [some (vr (some 567)), some (vi l), some (vi f), some (vi t), some (vi c), some (vi k), none] [] (0, 0) (A0 L) (M) (qE (some (vi (mv (gI M 568) l f t))) (A0 L) M) := by
    intro kf
    induction kf with
    | zero => intro c k  g1 g2 hm9; exact absurd hm9 (Nat.not_lt_zero _)
    | succ kf ih6 =>
      intro c k  g1 g2 hm6
      have ih := ih6
      have b9 := mv_in hB.sw (l := l) hf ht k (by omega) (by omega)
      refine bw_iload rfl rfl ?_
      refine bw_aload rfl rfl ?_
      refine bw_getr rfl rfl (hR _ _) ?_
      refine bw_push rfl ?_
      refine bw_aldi rfl (by first | rfl | assumption) (by omega) (by omega) ?_
      refine bw_icge rfl (fun c14 => ?_) (fun c14 => ?_)
      · skip
        refine bw_iload rfl rfl ?_
        refine bw_ret rfl rfl ?_
        obtain rfl : k = gI M 568 3 := by omega
        exact ⟨by rw [g1]; rfl, rfl, rfl⟩
      · skip
        have q := hB.sw.sd k (by omega) (by omega)
        have q2 := mvT_in hB.sw (l := l) hf ht (k := k) (by omega)
        refine bw_push rfl ?_
        refine bw_push rfl ?_
        refine bw_iload rfl rfl ?_
        refine bw_imul rfl ⟨by omega, by omega⟩ ?_
        refine bw_iadd rfl ⟨by omega, by omega⟩ ?_
        refine bw_istore (ls2 := [_, _, _, _, _, _, _]) rfl rfl (Nat.le_of_ble_eq_true rfl) rfl ?_
        refine bw_aload rfl rfl ?_
        refine bw_getr rfl rfl (hR _ _) ?_
        refine bw_iload rfl rfl ?_
        refine bw_aldi rfl (by first | rfl | assumption) (by omega) (by omega) ?_
        refine bw_iload rfl rfl ?_
        refine bw_icne rfl (fun c35 => ?_) (fun c35 => ?_)
        · skip
          refine bw_iinc (ls2 := [_, _, _, _, _, _, _]) rfl rfl rfl ⟨by omega, by omega⟩ rfl ?_
          refine bw_goto rfl ?_
          refine bw_forget (ls2 := [some (vr (some 567)), some (vi l), some (vi f), some (vi t), some (vi _), some (vi _), none]) ⟨rfl, rfl, rfl, rfl, rfl, rfl, trivial⟩ ?_
          first
          | exact ih _ _ (by rw [sN_s _ (by omega), ← g1]; unfold mvT; rw [if_pos (by omega)]) (by omega) (by omega)
          | exact ih _ _ (by rw [sN_s _ (by omega), ← g1]; unfold mvT; rw [if_neg (by omega)]; omega) (by omega) (by omega)
        · skip
          refine bw_iload rfl rfl ?_
          refine bw_push rfl ?_
          refine bw_iload rfl rfl ?_
          refine bw_aload rfl rfl ?_
          refine bw_getr rfl rfl (hR _ _) ?_
          refine bw_iload rfl rfl ?_
          refine bw_push rfl ?_
          refine bw_iadd rfl ⟨by omega, by omega⟩ ?_
          refine bw_aldi rfl (by first | rfl | assumption) (by omega) (by omega) ?_
          refine bw_callSe (e := d - 1) (as := [_, _]) rfl (by omega) rfl rfl (Nat.le_of_ble_eq_true rfl) (Nat.le_of_ble_eq_true rfl) (m_lesser hR) ?_
          refine bw_aload rfl rfl ?_
          refine bw_getr rfl rfl (hR _ _) ?_
          refine bw_iload rfl rfl ?_
          refine bw_push rfl ?_
          refine bw_iadd rfl ⟨by omega, by omega⟩ ?_
          refine bw_aldi rfl (by first | rfl | assumption) (by omega) (by omega) ?_
          refine bw_isub rfl ⟨by omega, by omega⟩ ?_
          refine bw_push rfl ?_
          refine bw_iadd rfl ⟨by omega, by omega⟩ ?_
          refine bw_callSe (e := d - 1) (as := [_, _]) rfl (by omega) rfl rfl (Nat.le_of_ble_eq_true rfl) (Nat.le_of_ble_eq_true rfl) (m_greater hR) ?_
          refine bw_aload rfl rfl ?_
          refine bw_getr rfl rfl (hR _ _) ?_
          refine bw_iload rfl rfl ?_
          refine bw_push rfl ?_
          refine bw_iadd rfl ⟨by omega, by omega⟩ ?_
          refine bw_iload rfl rfl ?_
          refine bw_iadd rfl ⟨by omega, by omega⟩ ?_
          refine bw_aldi rfl (by first | rfl | assumption) (by omega) (by omega) ?_
          refine bw_imul rfl (by have := mulb q2.1 q2.2.1; exact ⟨by omega, by omega⟩) ?_
          refine bw_iadd rfl (by have := mulb q2.1 q2.2.1; exact ⟨by omega, by omega⟩) ?_
          refine bw_istore (ls2 := [_, _, _, _, _, _, _]) rfl rfl (Nat.le_of_ble_eq_true rfl) rfl ?_
          refine bw_iinc (ls2 := [_, _, _, _, _, _, _]) rfl rfl rfl ⟨by omega, by omega⟩ rfl ?_
          refine bw_goto rfl ?_
          refine bw_forget (ls2 := [some (vr (some 567)), some (vi l), some (vi f), some (vi t), some (vi _), some (vi _), none]) ⟨rfl, rfl, rfl, rfl, rfl, rfl, trivial⟩ ?_
          first
          | exact ih _ _ (by rw [sN_s _ (by omega), ← g1]; unfold mvT; rw [if_pos (by omega)]) (by omega) (by omega)
          | exact ih _ _ (by rw [sN_s _ (by omega), ← g1]; unfold mvT; rw [if_neg (by omega)]; omega) (by omega) (by omega)
  show abW d (0, 0) 225 0 [some (vr (some 567)), some (vi l), some (vi f), some (vi t), none, none, none] [] (0, 0) (A0 L) M (qE (some (vi (mv (gI M 568) l f t))) (A0 L) M)
  refine bw_push rfl ?_
  refine bw_istore (ls2 := [_, _, _, _, _, _, _]) rfl rfl (Nat.le_of_ble_eq_true rfl) rfl ?_
  refine bw_push rfl ?_
  refine bw_istore (ls2 := [_, _, _, _, _, _, _]) rfl rfl (Nat.le_of_ble_eq_true rfl) rfl ?_
  exact L6 ((gI M 568 3).toNat + 1) 0 0 rfl (by omega) (by omega)
set_option maxRecDepth 20000 in
set_option maxHeartbeats 4000000 in
theorem m_isHidden {d L : Nat} {M : abMem} {r : abRf} (hR : RF r M) (hB : RB M) {l f : Int} (hd : 1 ≤ d) : abW d (0, 0) 227 0 (abEnt (abL 227) [vr (some 567), vi l, vi f]) [] (0, 0) (A0 L) M (qJ (A0 L) M (fun x => hid (gI M 568) l f ∧ x = 1 ∨ ¬ hid (gI M 568) l f ∧ x = 0)) := by
  have b1 := hB.fr
  have b2 := hB.la
  have b3 := hB.sw.hi
  have L2 : ∀ (kf : Nat) (k : Int), (0 ≤ k ∧ k ≤ gI M 568 4) → (∀ j : Int, 0 ≤ j → j < k → ¬ (gI M 568 (394 + 3 * j) = l ∧ gI M 568 (394 + 3 * j + 1) ≤ f ∧ f ≤ gI M 568 (394 + 3 * j + 2))) → ((gI M 568 4 - k).toNat) < kf → abW d (0, 0) 227 2 [some (vr (some 567)), some (vi l), some (vi f), some (vi k), none] [] (0, 0) (A0 L) (M) (qJ (A0 L) M (fun x => hid (gI M 568) l f ∧ x = 1 ∨ ¬ hid (gI M 568) l f ∧ x = 0)) := by
    intro kf
    induction kf with
    | zero => intro k  g1 g2 hm9; exact absurd hm9 (Nat.not_lt_zero _)
    | succ kf ih2 =>
      intro k  g1 g2 hm2
      have ih := ih2
      refine bw_iload rfl rfl ?_
      refine bw_aload rfl rfl ?_
      refine bw_getr rfl rfl (hR _ _) ?_
      refine bw_push rfl ?_
      refine bw_aldi rfl (by first | rfl | assumption) (by omega) (by omega) ?_
      refine bw_icge rfl (fun c9 => ?_) (fun c9 => ?_)
      · skip
        refine bw_push rfl ?_
        refine bw_retz rfl rfl (by omega) ?_
        exact ⟨rfl, rfl, _, rfl, Or.inr ⟨fun ⟨j, h1, h2, h3⟩ => g2 j h1 (by omega) h3, rfl⟩⟩
      · skip
        refine bw_push rfl ?_
        refine bw_push rfl ?_
        refine bw_iload rfl rfl ?_
        refine bw_imul rfl ⟨by omega, by omega⟩ ?_
        refine bw_iadd rfl ⟨by omega, by omega⟩ ?_
        refine bw_istore (ls2 := [_, _, _, _, _]) rfl rfl (Nat.le_of_ble_eq_true rfl) rfl ?_
        refine bw_aload rfl rfl ?_
        refine bw_getr rfl rfl (hR _ _) ?_
        refine bw_iload rfl rfl ?_
        refine bw_aldi rfl (by first | rfl | assumption) (by omega) (by omega) ?_
        refine bw_iload rfl rfl ?_
        refine bw_icne rfl (fun c29 => ?_) (fun c29 => ?_)
        · skip
          refine bw_iinc (ls2 := [_, _, _, _, _]) rfl rfl rfl ⟨by omega, by omega⟩ rfl ?_
          refine bw_goto rfl ?_
          refine bw_forget (ls2 := [some (vr (some 567)), some (vi l), some (vi f), some (vi _), none]) ⟨rfl, rfl, rfl, rfl, trivial⟩ ?_
          refine ih _ (by omega) (fun j h1 h2 => ?_) (by omega)
          by_cases q : j = k
          · rw [q]; omega
          · exact g2 j h1 (by omega)
        · skip
          refine bw_iload rfl rfl ?_
          refine bw_aload rfl rfl ?_
          refine bw_getr rfl rfl (hR _ _) ?_
          refine bw_iload rfl rfl ?_
          refine bw_push rfl ?_
          refine bw_iadd rfl ⟨by omega, by omega⟩ ?_
          refine bw_aldi rfl (by first | rfl | assumption) (by omega) (by omega) ?_
          refine bw_aload rfl rfl ?_
          refine bw_getr rfl rfl (hR _ _) ?_
          refine bw_iload rfl rfl ?_
          refine bw_push rfl ?_
          refine bw_iadd rfl ⟨by omega, by omega⟩ ?_
          refine bw_aldi rfl (by first | rfl | assumption) (by omega) (by omega) ?_
          refine bw_callSj (e := d - 1) (as := [_, _, _]) rfl (by omega) rfl rfl (Nat.le_of_ble_eq_true rfl) (Nat.le_of_ble_eq_true rfl) (m_isIn hR) (fun r51 hr51 => ?_)
          refine bw_ifeq rfl (fun c54 => ?_) (fun c54 => ?_)
          · skip
            refine bw_iinc (ls2 := [_, _, _, _, _]) rfl rfl rfl ⟨by omega, by omega⟩ rfl ?_
            refine bw_goto rfl ?_
            refine bw_forget (ls2 := [some (vr (some 567)), some (vi l), some (vi f), some (vi _), none]) ⟨rfl, rfl, rfl, rfl, trivial⟩ ?_
            refine ih _ (by omega) (fun j h1 h2 => ?_) (by omega)
            by_cases q : j = k
            · rw [q]; omega
            · exact g2 j h1 (by omega)
          · skip
            refine bw_push rfl ?_
            refine bw_retz rfl rfl (by omega) ?_
            exact ⟨rfl, rfl, _, rfl, Or.inl ⟨⟨k, by omega, by omega, by omega, by omega, by omega⟩, rfl⟩⟩
  show abW d (0, 0) 227 0 [some (vr (some 567)), some (vi l), some (vi f), none, none] [] (0, 0) (A0 L) M (qJ (A0 L) M (fun x => hid (gI M 568) l f ∧ x = 1 ∨ ¬ hid (gI M 568) l f ∧ x = 0))
  refine bw_push rfl ?_
  refine bw_istore (ls2 := [_, _, _, _, _]) rfl rfl (Nat.le_of_ble_eq_true rfl) rfl ?_
  exact L2 ((gI M 568 4).toNat + 1) 0 (by omega) (fun j h1 h2 => by omega) (by omega)
set_option maxRecDepth 20000 in
set_option maxHeartbeats 4000000 in
theorem m_inkOf {d L : Nat} {M : abMem} {r : abRf} (hR : RF r M) (hB : RB M) {l dr u v : Int} (hu : -20000 ≤ u ∧ u ≤ 20000) (hv : -20000 ≤ v ∧ v ≤ 20000) (hd : 1 ≤ d) : abW d (0, 0) 229 0 (abEnt (abL 229) [vr (some 567), vi l, vi dr, vi u, vi v]) [] (0, 0) (A0 L) M (qE (some (vi (ink (gI M 568) l dr u v))) (A0 L) M) := by
  have b1 := hB.fr
  have b2 := hB.la
  have b3 := hB.sw.bo
  have L10 : ∀ (kf : Nat) (k : Int), (-1 ≤ k ∧ k < gI M 568 2) → (ink (gI M 568) l dr u v = inkN (gI M 568) l dr u v (k + 1).toNat) → ((k + 1).toNat) < kf → abW d (0, 0) 229 10 [some (vr (some 567)), some (vi l), some (vi dr), some (vi u), some (vi v), some (vi k), none] [] (0, 0) (A0 L) (M) (qE (some (vi (ink (gI M 568) l dr u v))) (A0 L) M) := by
    intro kf
    induction kf with
    | zero => intro k  g1 g2 hm9; exact absurd hm9 (Nat.not_lt_zero _)
    | succ kf ih10 =>
      intro k  g1 g2 hm10
      have ih := ih10
      refine bw_iload rfl rfl ?_
      refine bw_iflt rfl (fun c12 => ?_) (fun c12 => ?_)
      · skip
        refine bw_push rfl ?_
        refine bw_ret rfl rfl ?_
        obtain rfl : k = -1 := by omega
        exact ⟨by rw [g2]; rfl, rfl, rfl⟩
      · skip
        have q := hB.sw.bx k (by omega) (by omega)
        refine bw_push rfl ?_
        refine bw_push rfl ?_
        refine bw_iload rfl rfl ?_
        refine bw_imul rfl ⟨by omega, by omega⟩ ?_
        refine bw_iadd rfl ⟨by omega, by omega⟩ ?_
        refine bw_istore (ls2 := [_, _, _, _, _, _, _]) rfl rfl (Nat.le_of_ble_eq_true rfl) rfl ?_
        refine bw_aload rfl rfl ?_
        refine bw_getr rfl rfl (hR _ _) ?_
        refine bw_iload rfl rfl ?_
        refine bw_aldi rfl (by first | rfl | assumption) (by omega) (by omega) ?_
        refine bw_iload rfl rfl ?_
        refine bw_icne rfl (fun c33 => ?_) (fun c33 => ?_)
        · skip
          refine bw_iinc (ls2 := [_, _, _, _, _, _, _]) rfl rfl rfl ⟨by omega, by omega⟩ rfl ?_
          refine bw_goto rfl ?_
          refine bw_forget (ls2 := [some (vr (some 567)), some (vi l), some (vi dr), some (vi u), some (vi v), some (vi _), none]) ⟨rfl, rfl, rfl, rfl, rfl, rfl, trivial⟩ ?_
          exact ih _ (by omega) (by rw [g2, inkN_s (by omega), if_neg (by unfold bxH; rw [decide_eq_true_eq]; omega), show k + -1 + 1 = k by omega]) (by omega)
        · skip
          refine bw_aload rfl rfl ?_
          refine bw_getr rfl rfl (hR _ _) ?_
          refine bw_iload rfl rfl ?_
          refine bw_push rfl ?_
          refine bw_iadd rfl ⟨by omega, by omega⟩ ?_
          refine bw_aldi rfl (by first | rfl | assumption) (by omega) (by omega) ?_
          refine bw_iload rfl rfl ?_
          refine bw_iceq rfl (fun c46 => ?_) (fun c46 => ?_)
          · skip
            refine bw_iload rfl rfl ?_
            refine bw_aload rfl rfl ?_
            refine bw_getr rfl rfl (hR _ _) ?_
            refine bw_iload rfl rfl ?_
            refine bw_push rfl ?_
            refine bw_iadd rfl ⟨by omega, by omega⟩ ?_
            refine bw_aldi rfl (by first | rfl | assumption) (by omega) (by omega) ?_
            refine bw_aload rfl rfl ?_
            refine bw_getr rfl rfl (hR _ _) ?_
            refine bw_iload rfl rfl ?_
            refine bw_push rfl ?_
            refine bw_iadd rfl ⟨by omega, by omega⟩ ?_
            refine bw_aldi rfl (by first | rfl | assumption) (by omega) (by omega) ?_
            refine bw_aload rfl rfl ?_
            refine bw_getr rfl rfl (hR _ _) ?_
            refine bw_iload rfl rfl ?_
            refine bw_push rfl ?_
            refine bw_iadd rfl ⟨by omega, by omega⟩ ?_
            refine bw_aldi rfl (by first | rfl | assumption) (by omega) (by omega) ?_
            refine bw_iadd rfl ⟨by omega, by omega⟩ ?_
            refine bw_push rfl ?_
            refine bw_isub rfl ⟨by omega, by omega⟩ ?_
            refine bw_callSj (e := d - 1) (as := [_, _, _]) rfl (by omega) rfl rfl (Nat.le_of_ble_eq_true rfl) (Nat.le_of_ble_eq_true rfl) (m_isIn hR) (fun r83 hr83 => ?_)
            refine bw_ifeq rfl (fun c86 => ?_) (fun c86 => ?_)
            · skip
              refine bw_iinc (ls2 := [_, _, _, _, _, _, _]) rfl rfl rfl ⟨by omega, by omega⟩ rfl ?_
              refine bw_goto rfl ?_
              refine bw_forget (ls2 := [some (vr (some 567)), some (vi l), some (vi dr), some (vi u), some (vi v), some (vi _), none]) ⟨rfl, rfl, rfl, rfl, rfl, rfl, trivial⟩ ?_
              exact ih _ (by omega) (by rw [g2, inkN_s (by omega), if_neg (by unfold bxH; rw [decide_eq_true_eq]; omega), show k + -1 + 1 = k by omega]) (by omega)
            · skip
              refine bw_iload rfl rfl ?_
              refine bw_aload rfl rfl ?_
              refine bw_getr rfl rfl (hR _ _) ?_
              refine bw_iload rfl rfl ?_
              refine bw_push rfl ?_
              refine bw_iadd rfl ⟨by omega, by omega⟩ ?_
              refine bw_aldi rfl (by first | rfl | assumption) (by omega) (by omega) ?_
              refine bw_aload rfl rfl ?_
              refine bw_getr rfl rfl (hR _ _) ?_
              refine bw_iload rfl rfl ?_
              refine bw_push rfl ?_
              refine bw_iadd rfl ⟨by omega, by omega⟩ ?_
              refine bw_aldi rfl (by first | rfl | assumption) (by omega) (by omega) ?_
              refine bw_aload rfl rfl ?_
              refine bw_getr rfl rfl (hR _ _) ?_
              refine bw_iload rfl rfl ?_
              refine bw_push rfl ?_
              refine bw_iadd rfl ⟨by omega, by omega⟩ ?_
              refine bw_aldi rfl (by first | rfl | assumption) (by omega) (by omega) ?_
              refine bw_iadd rfl ⟨by omega, by omega⟩ ?_
              refine bw_push rfl ?_
              refine bw_isub rfl ⟨by omega, by omega⟩ ?_
              refine bw_callSj (e := d - 1) (as := [_, _, _]) rfl (by omega) rfl rfl (Nat.le_of_ble_eq_true rfl) (Nat.le_of_ble_eq_true rfl) (m_isIn hR) (fun r121 hr121 => ?_)
              refine bw_ifeq rfl (fun c124 => ?_) (fun c124 => ?_)
              · skip
                refine bw_iinc (ls2 := [_, _, _, _, _, _, _]) rfl rfl rfl ⟨by omega, by omega⟩ rfl ?_
                refine bw_goto rfl ?_
                refine bw_forget (ls2 := [some (vr (some 567)), some (vi l), some (vi dr), some (vi u), some (vi v), some (vi _), none]) ⟨rfl, rfl, rfl, rfl, rfl, rfl, trivial⟩ ?_
                exact ih _ (by omega) (by rw [g2, inkN_s (by omega), if_neg (by unfold bxH; rw [decide_eq_true_eq]; omega), show k + -1 + 1 = k by omega]) (by omega)
              · skip
                refine bw_aload rfl rfl ?_
                refine bw_getr rfl rfl (hR _ _) ?_
                refine bw_iload rfl rfl ?_
                refine bw_push rfl ?_
                refine bw_iadd rfl ⟨by omega, by omega⟩ ?_
                refine bw_aldi rfl (by first | rfl | assumption) (by omega) (by omega) ?_
                refine bw_ret rfl rfl ?_
                exact ⟨by rw [g2, inkN_s (by omega), if_pos (by unfold bxH; rw [decide_eq_true_eq]; omega)], rfl, rfl⟩
          · skip
            refine bw_goto rfl ?_
            refine bw_iinc (ls2 := [_, _, _, _, _, _, _]) rfl rfl rfl ⟨by omega, by omega⟩ rfl ?_
            refine bw_goto rfl ?_
            refine bw_forget (ls2 := [some (vr (some 567)), some (vi l), some (vi dr), some (vi u), some (vi v), some (vi _), none]) ⟨rfl, rfl, rfl, rfl, rfl, rfl, trivial⟩ ?_
            exact ih _ (by omega) (by rw [g2, inkN_s (by omega), if_neg (by unfold bxH; rw [decide_eq_true_eq]; omega), show k + -1 + 1 = k by omega]) (by omega)
  show abW d (0, 0) 229 0 [some (vr (some 567)), some (vi l), some (vi dr), some (vi u), some (vi v), none, none] [] (0, 0) (A0 L) M (qE (some (vi (ink (gI M 568) l dr u v))) (A0 L) M)
  refine bw_aload rfl rfl ?_
  refine bw_getr rfl rfl (hR _ _) ?_
  refine bw_push rfl ?_
  refine bw_aldi rfl (by first | rfl | assumption) (by omega) (by omega) ?_
  refine bw_push rfl ?_
  refine bw_isub rfl ⟨by omega, by omega⟩ ?_
  refine bw_istore (ls2 := [_, _, _, _, _, _, _]) rfl rfl (Nat.le_of_ble_eq_true rfl) rfl ?_
  exact L10 ((gI M 568 2).toNat + 1) (gI M 568 2 - 1) (by omega) (by rw [show gI M 568 2 - 1 + 1 = gI M 568 2 by omega]; rfl) (by omega)
