/-- how many frames the first i holds take -/
def tS (h : HH) (i : Int) : Int := sN h.2.2 i.toNat
theorem tS_s (h : HH) {i : Int} (hi : 0 ≤ i) : tS h (i + 1) = tS h i + h.2.2 i := sN_s _ hi
theorem tS_0 (h : HH) : tS h 0 = 0 := rfl
theorem tS_lo {h : HH} (H : HV h) : ∀ m : Nat, (m : Int) ≤ h.1 → (m : Int) ≤ tS h m := by
  intro m
  induction m with
  | zero => intro _; exact Int.le_refl _
  | succ m ih =>
    intro hm
    have e := tS_s h (i := (m : Int)) (by omega)
    have x := (H.2 m (by omega) (by omega)).2
    have := ih (by omega)
    rw [show ((m + 1 : Nat) : Int) = (m : Int) + 1 by omega, e]
    omega
theorem tS_ge {h : HH} (H : HV h) {i : Int} (h0 : 0 ≤ i) (h1 : i ≤ h.1) : i ≤ tS h i := by
  obtain ⟨m, rfl⟩ := Int.eq_ofNat_of_zero_le h0
  exact tS_lo H m h1
theorem tS_mo {h : HH} (H : HV h) {i : Int} (h0 : 0 ≤ i) : ∀ m : Nat, i + m ≤ h.1 → tS h i + m ≤ tS h (i + m) := by
  intro m
  induction m with
  | zero => intro _; rw [show i + ((0 : Nat) : Int) = i by omega]; omega
  | succ m ih =>
    intro hm
    have e := tS_s h (i := i + (m : Int)) (by omega)
    have x := (H.2 (i + (m : Int)) (by omega) (by omega)).2
    have := ih (by omega)
    rw [show i + ((m + 1 : Nat) : Int) = i + (m : Int) + 1 by omega, e]
    omega
theorem tS_lt {h : HH} (H : HV h) {i j : Int} (h0 : 0 ≤ i) (h1 : i ≤ j) (h2 : j ≤ h.1) : tS h i + (j - i) ≤ tS h j := by
  have := tS_mo H h0 (j - i).toNat (by omega)
  rw [show i + ((j - i).toNat : Int) = j by omega] at this
  omega
/-- hold i has frame x -/
def isIx (h : HH) (x i : Int) : Prop := (0 ≤ i ∧ i < h.1) ∧ tS h i ≤ x ∧ x < tS h (i + 1)
theorem isIx_eq {h : HH} (H : HV h) {x i j : Int} (a : isIx h x i) (b : isIx h x j) : i = j := by
  unfold isIx at a b
  by_cases q : i < j
  · have := tS_lt H (i := i + 1) (j := j) (by omega) (by omega) (by omega); omega
  · by_cases q2 : j < i
    · have := tS_lt H (i := j + 1) (j := i) (by omega) (by omega) (by omega); omega
    · omega
/-- what a line tells for frame f: e 0 goes on, 1 again, 2 blank -/
def rowIs (h : HH) (e f v : Int) : Prop := (∃ i x : Int, ((f < tS h h.1 ∧ x = f) ∨ (e = 1 ∧ tS h h.1 ≤ f ∧ x = f % tS h h.1)) ∧ isIx h x i ∧ v = h.2.1 i) ∨ (tS h h.1 ≤ f ∧ e = 0 ∧ v = h.2.1 (h.1 - 1)) ∨ (tS h h.1 ≤ f ∧ e = 2 ∧ v = 0)
theorem rowIs_eq {h : HH} (H : HV h) {e f v w : Int} (a : rowIs h e f v) (b : rowIs h e f w) : v = w := by
  rcases a with ⟨i, x, a1, a2, a3⟩ | ⟨a1, a2, a3⟩ | ⟨a1, a2, a3⟩
  · rcases b with ⟨j, y, b1, b2, b3⟩ | ⟨b1, b2, b3⟩ | ⟨b1, b2, b3⟩
    · have e : x = y := by
        rcases a1 with ⟨p, q⟩ | ⟨p, q, r⟩
        · rcases b1 with ⟨p2, q2⟩ | ⟨p2, q2, r2⟩ <;> omega
        · rcases b1 with ⟨p2, q2⟩ | ⟨p2, q2, r2⟩
          · omega
          · rw [r, r2]
      rw [← e] at b2
      rw [a3, b3, isIx_eq H a2 b2]
    · rcases a1 with h1 | h1 <;> omega
    · rcases a1 with h1 | h1 <;> omega
  · rcases b with ⟨j, y, b1, b2, b3⟩ | ⟨b1, b2, b3⟩ | ⟨b1, b2, b3⟩
    · rcases b1 with h1 | h1 <;> omega
    · rw [a3, b3]
    · omega
  · rcases b with ⟨j, y, b1, b2, b3⟩ | ⟨b1, b2, b3⟩ | ⟨b1, b2, b3⟩
    · rcases b1 with h1 | h1 <;> omega
    · omega
    · rw [a3, b3]
noncomputable def rowV (h : HH) (e f : Int) : Int := @Classical.epsilon Int ⟨0⟩ (rowIs h e f)
theorem rowV_eq {h : HH} (H : HV h) {e f v : Int} (a : rowIs h e f v) : rowV h e f = v := rowIs_eq H (@Classical.epsilon_spec Int (rowIs h e f) ⟨v, a⟩) a
/-- the first n frames of layer l are laid -/
noncomputable def ltF (S : Int → Int) (h : HH) (l e n : Int) : Int → Int := fun j => if 430 + 96 * l ≤ j ∧ j < 430 + 96 * l + n then rowV h e (j - (430 + 96 * l)) else S j
theorem ltF_0 {S : Int → Int} {h : HH} {l e : Int} : ltF S h l e 0 = S := by
  funext j
  unfold ltF
  rw [if_neg (by omega)]
theorem ltF_up {S : Int → Int} {h : HH} {l e n v : Int} (H : HV h) (hn : 0 ≤ n) (hv : rowIs h e n v) : up (ltF S h l e n) (430 + 96 * l + n) v = ltF S h l e (n + 1) := by
  funext j
  unfold up ltF
  by_cases q : j = 430 + 96 * l + n
  · rw [if_pos q, if_pos (by omega), q, ← rowV_eq H hv]
    congr 1; omega
  · rw [if_neg q]
    by_cases q2 : 430 + 96 * l ≤ j ∧ j < 430 + 96 * l + n
    · rw [if_pos q2, if_pos (by omega)]
    · rw [if_neg q2, if_neg (by omega)]
/-- hold k is on, v frames of it are left -/
def ltI (h : HH) (e f k v : Int) : Prop := (∃ b : Int, f = b + (tS h k + h.2.2 k - v) ∧ (b = 0 ∨ (e = 1 ∧ tS h h.1 ≤ b ∧ b % tS h h.1 = 0))) ∧ (0 ≤ k ∧ k < h.1) ∧ (0 ≤ v ∧ v ≤ h.2.2 k)
def ltJ (h : HH) (e f k v : Int) : Prop := ltI h e f k v ∨ (k = h.1 ∧ v = 0 ∧ tS h h.1 ≤ f ∧ (e = 1 → f % tS h h.1 = 0))
theorem ltJ_in {h : HH} (H : HV h) {e f k v : Int} (a : ltJ h e f k v) : (0 ≤ k ∧ k ≤ h.1 ∧ k ≤ f) ∧ (0 ≤ v ∧ v ≤ 96) ∧ (k = h.1 → v = 0) := by
  have h0 := H.1
  have t0 := tS_ge H h0 (Int.le_refl _)
  rcases a with ⟨⟨b, b1, b2⟩, a2, a3⟩ | ⟨a1, a2, a3, a4⟩
  · have t := tS_ge H a2.1 (by omega)
    have x := (H.2 k a2.1 a2.2).2
    exact ⟨⟨a2.1, by omega, by omega⟩, by omega, fun _ => by omega⟩
  · exact ⟨by omega, by omega, fun _ => a2⟩
theorem lt_start {h : HH} (H : HV h) (h1 : 1 ≤ h.1) {e : Int} : ltJ h e 0 0 (h.2.2 0) := Or.inl ⟨⟨0, by rw [tS_0]; omega, Or.inl rfl⟩, by omega, by have := (H.2 0 (by omega) (by omega)).2; omega⟩
theorem lt_next {h : HH} (H : HV h) {e f k : Int} (a : ltI h e f k 0) : (k + 1 < h.1 → ltI h e f (k + 1) (h.2.2 (k + 1))) ∧ (k + 1 = h.1 → ltJ h e f (k + 1) 0) := by
  obtain ⟨⟨b, b1, b2⟩, a2, a3⟩ := a
  have e1 := tS_s h (i := k) a2.1
  refine ⟨fun q => ⟨⟨b, by omega, b2⟩, by omega, by have := (H.2 (k + 1) (by omega) q).2; omega⟩, fun q => Or.inr ⟨q, rfl, ?_, fun _ => ?_⟩⟩
  · rw [← q]
    have t := tS_ge H (i := k + 1) (by omega) (by omega)
    rcases b2 with b2 | b2
    · omega
    · have := b2.2.1; rw [← q] at this; omega
  · rw [b1, show b + (tS h k + h.2.2 k - 0) = b + tS h h.1 by rw [← q]; omega]
    rw [Int.add_emod_right]
    rcases b2 with b2 | b2
    · rw [b2]; exact Int.zero_emod _
    · exact b2.2.2
theorem lt_re {h : HH} (H : HV h) (h1 : 1 ≤ h.1) {f v : Int} (a : ltJ h 1 f h.1 v) : ltI h 1 f 0 (h.2.2 0) := by
  rcases a with a | a
  · have := a.2.1; omega
  · exact ⟨⟨f, by rw [tS_0]; omega, Or.inr ⟨rfl, a.2.2.1, a.2.2.2 rfl⟩⟩, by omega, by have := (H.2 0 (by omega) (by omega)).2; omega⟩
theorem lt_val {h : HH} (H : HV h) {e f k v : Int} (a : ltI h e f k v) (hv : 1 ≤ v) : rowIs h e f (h.2.1 k) := by
  obtain ⟨⟨b, b1, b2⟩, a2, a3⟩ := a
  have e1 := tS_s h (i := k) a2.1
  have t0 := tS_ge H a2.1 (by omega)
  have t1 := tS_lt H (i := k + 1) (j := h.1) (by omega) (by omega) (Int.le_refl _)
  refine Or.inl ⟨k, tS h k + h.2.2 k - v, ?_, ⟨a2, by omega, by omega⟩, rfl⟩
  rcases b2 with b2 | ⟨c1, c2, c3⟩
  · exact Or.inl ⟨by omega, by omega⟩
  · refine Or.inr ⟨c1, by omega, ?_⟩
    rw [b1, Int.add_emod, c3, Int.zero_add, Int.emod_emod, Int.emod_eq_of_lt (by omega) (by omega)]
theorem lt_e0 {h : HH} {f v : Int} (a : ltJ h 0 f h.1 v) : rowIs h 0 f (h.2.1 (h.1 - 1)) := by
  rcases a with a | a
  · have := a.2.1; omega
  · exact Or.inr (Or.inl ⟨a.2.2.1, rfl, rfl⟩)
theorem lt_e2 {h : HH} {f v : Int} (a : ltJ h 2 f h.1 v) : rowIs h 2 f 0 := by
  rcases a with a | a
  · have := a.2.1; omega
  · exact Or.inr (Or.inr ⟨a.2.2.1, rfl, rfl⟩)
theorem lt_one {h : HH} {e f k v : Int} (a : ltI h e f k v) (hv : 1 ≤ v) : ltI h e (f + 1) k (v - 1) := by
  obtain ⟨⟨b, b1, b2⟩, a2, a3⟩ := a
  exact ⟨⟨b, by omega, b2⟩, a2, by omega⟩
theorem lt_stay {h : HH} {e f v : Int} (a : ltJ h e f h.1 v) (he : e ≠ 1) : ltJ h e (f + 1) h.1 (v - 0) := by
  rcases a with a | a
  · have := a.2.1; omega
  · exact Or.inr ⟨rfl, by omega, by have := a.2.2.1; omega, fun k => absurd k he⟩
theorem ltJ_I {h : HH} {e f k v : Int} (a : ltJ h e f k v) (hk : k < h.1) : ltI h e f k v := by
  rcases a with a | a
  · exact a
  · have := a.1; omega
theorem HR_8 {N : abMem} {h : HH} {k x : Int} (H : HR N h) : HR (sI N 568 k x) h := by
  refine ⟨by rw [gI_sI_ne (by decide)]; exact H.1, H.2.1, fun j h1 h2 h3 => ?_⟩
  rw [gI_sI_ne (by decide), gI_sI_ne (by decide)]
  exact H.2.2 j h1 h2 h3
set_option maxRecDepth 20000 in
set_option maxHeartbeats 4000000 in
theorem m_laysTold {d L : Nat} {M : abMem} {r : abRf} (hR : RF r M) {S : Int → Int} (hS : SIm (gI M 568) 1006 S) {h : HH} (H : HR M h) (hV : HV h) (h1 : 1 ≤ h.1) {l e : Int} (hl : 0 ≤ l ∧ l ≤ 5) (he : e = 0 ∨ e = 1 ∨ e = 2) (h0 : 1 ≤ S 0 ∧ S 0 ≤ 96) : abW d (0, 0) 175 0 (abEnt (abL 175) [vr (some 567), vi l, vi e]) [] (0, 0) (A0 L) M (qV (A0 L) (fun N => s5 p8 qNo M N ∧ SC M N (ltF S h l e (S 0)))) := by
  have L23 : ∀ (kf : Nat) (N : abMem) (f k v : Int), (s5 p8 qNo M N) → (SC M N (ltF S h l e f)) → (ltJ h e f k v) → (0 ≤ f ∧ f ≤ S 0) → (HR N h) → ((S 0 - f).toNat) < kf → abW d (0, 0) 175 23 [some (vr (some 567)), some (vi l), some (vi e), some (vi (S 0)), some (vi k), some (vi v), some (vi f)] [] (0, 0) (A0 L) (N) (qV (A0 L) (fun N => s5 p8 qNo M N ∧ SC M N (ltF S h l e (S 0)))) := by
    intro kf
    induction kf with
    | zero => intro N  f k v  g1 g2 g3 g4 g5 hm9; exact absurd hm9 (Nat.not_lt_zero _)
    | succ kf ih23 =>
      intro N  f k v  g1 g2 g3 g4 g5 hm23
      have ih := ih23
      have hR := g1.RF hR
      have j17 := g5.1
      have L29 : ∀ (kf : Nat) (k v : Int), (ltJ h e f k v) → (f < S 0) → ((h.1 - k).toNat) < kf → abW d (0, 0) 175 29 [some (vr (some 567)), some (vi l), some (vi e), some (vi (S 0)), some (vi k), some (vi v), some (vi f)] [] (0, 0) (A0 L) (N) (qV (A0 L) (fun N => s5 p8 qNo M N ∧ SC M N (ltF S h l e (S 0)))) := by
        intro kf
        induction kf with
        | zero => intro k v  k1 k2 hm9; exact absurd hm9 (Nat.not_lt_zero _)
        | succ kf ih29 =>
          intro k v  k1 k2 hm29
          have ih := ih29
          have ki := ltJ_in hV k1
          have kt : 0 ≤ k → k < h.1 → 1 ≤ h.2.2 k ∧ h.2.2 k ≤ 96 := fun a b => (hV.2 k a b).2
          have k00 := (hV.2 0 (by omega) (by omega)).2
          refine bw_iload rfl rfl ?_
          refine bw_ifne rfl (fun c31 => ?_) (fun c31 => ?_)
          · skip
            refine bw_iload rfl rfl ?_
            refine bw_aload rfl rfl ?_
            refine bw_getI rfl rfl ?_
            refine bw_icne rfl (fun c77 => ?_) (fun c77 => ?_)
            · skip
              refine bw_aload rfl rfl ?_
              refine bw_getr rfl rfl (hR _ _) ?_
              refine bw_push rfl ?_
              refine bw_push rfl ?_
              refine bw_iload rfl rfl ?_
              refine bw_imul rfl ⟨by omega, by omega⟩ ?_
              refine bw_iadd rfl ⟨by omega, by omega⟩ ?_
              refine bw_iload rfl rfl ?_
              refine bw_iadd rfl ⟨by omega, by omega⟩ ?_
              refine bw_iload rfl rfl ?_
              refine bw_aload rfl rfl ?_
              refine bw_getI rfl rfl ?_
              refine bw_icge rfl (fun c117 => ?_) (fun c117 => ?_)
              · first
                | (exfalso; omega)
                | (refine bw_iload rfl rfl ?_
                   refine bw_ifne rfl (fun c131 => ?_) (fun c131 => ?_)
                   · first
                     | (exfalso; omega)
                     | (refine bw_push rfl ?_
                        refine bw_asti rfl (by first | rfl | assumption) (by omega) (by omega) ?_
                        refine bw_iload rfl rfl ?_
                        refine bw_iload rfl rfl ?_
                        refine bw_aload rfl rfl ?_
                        refine bw_getI rfl rfl ?_
                        rw [gI_sI_ne (show 567 ≠ 568 by decide)]
                        refine bw_icge rfl (fun c158 => ?_) (fun c158 => ?_)
                        · first
                          | (exfalso; omega)
                          | (refine bw_push rfl ?_
                             refine bw_isub rfl ⟨by omega, by omega⟩ ?_
                             refine bw_istore (ls2 := [_, _, _, _, _, _, _]) rfl rfl (Nat.le_of_ble_eq_true rfl) rfl ?_
                             refine bw_iinc (ls2 := [_, _, _, _, _, _, _]) rfl rfl rfl ⟨by omega, by omega⟩ rfl ?_
                             refine bw_goto rfl ?_
                             first
                             | (have kl := ltJ_I k1 (by omega)
                                refine ih23 _ _ _ _ (g1.wr _ _ rfl (by decide)) ?_ (Or.inl (lt_one kl (by omega))) (by omega) (HR_8 g5) (by omega)
                                have hc := SC.w (k := 1436 + 96 * l + f) (j := 430 + 96 * l + f) (x := h.2.1 k) g2 (by omega) (by omega)
                                rw [ltF_up hV (by omega) (lt_val hV kl (by omega))] at hc
                                exact hc)
                             | (obtain rfl : e = 1 := by omega
                                obtain rfl : k = h.1 := by omega
                                have kl := lt_re hV h1 k1
                                have k0 := (hV.2 0 (by omega) (by omega)).2
                                refine ih23 _ _ _ _ (g1.wr _ _ rfl (by decide)) ?_ (Or.inl (lt_one kl (by omega))) (by omega) (HR_8 g5) (by omega)
                                have hc := SC.w (k := 1436 + 96 * l + f) (j := 430 + 96 * l + f) (x := h.2.1 0) g2 (by omega) (by omega)
                                rw [ltF_up hV (by omega) (lt_val hV kl (by omega))] at hc
                                exact hc)
                             | (obtain rfl : e = 0 := by omega
                                obtain rfl : k = h.1 := by omega
                                refine ih23 _ _ _ _ (g1.wr _ _ rfl (by decide)) ?_ (lt_stay k1 (by decide)) (by omega) (HR_8 g5) (by omega)
                                have hc := SC.w (k := 1436 + 96 * l + f) (j := 430 + 96 * l + f) (x := h.2.1 (h.1 - 1)) g2 (by omega) (by omega)
                                rw [ltF_up hV (by omega) (lt_e0 k1)] at hc
                                exact hc)
                             | (obtain rfl : e = 2 := by omega
                                obtain rfl : k = h.1 := by omega
                                refine ih23 _ _ _ _ (g1.wr _ _ rfl (by decide)) ?_ (lt_stay k1 (by decide)) (by omega) (HR_8 g5) (by omega)
                                have hc := SC.w (k := 1436 + 96 * l + f) (j := 430 + 96 * l + f) (x := 0) g2 (by omega) (by omega)
                                rw [ltF_up hV (by omega) (lt_e2 k1)] at hc
                                exact hc))
                        · first
                          | (exfalso; omega)
                          | (refine bw_push rfl ?_
                             refine bw_goto rfl ?_
                             refine bw_isub rfl ⟨by omega, by omega⟩ ?_
                             refine bw_istore (ls2 := [_, _, _, _, _, _, _]) rfl rfl (Nat.le_of_ble_eq_true rfl) rfl ?_
                             refine bw_iinc (ls2 := [_, _, _, _, _, _, _]) rfl rfl rfl ⟨by omega, by omega⟩ rfl ?_
                             refine bw_goto rfl ?_
                             first
                             | (have kl := ltJ_I k1 (by omega)
                                refine ih23 _ _ _ _ (g1.wr _ _ rfl (by decide)) ?_ (Or.inl (lt_one kl (by omega))) (by omega) (HR_8 g5) (by omega)
                                have hc := SC.w (k := 1436 + 96 * l + f) (j := 430 + 96 * l + f) (x := h.2.1 k) g2 (by omega) (by omega)
                                rw [ltF_up hV (by omega) (lt_val hV kl (by omega))] at hc
                                exact hc)
                             | (obtain rfl : e = 1 := by omega
                                obtain rfl : k = h.1 := by omega
                                have kl := lt_re hV h1 k1
                                have k0 := (hV.2 0 (by omega) (by omega)).2
                                refine ih23 _ _ _ _ (g1.wr _ _ rfl (by decide)) ?_ (Or.inl (lt_one kl (by omega))) (by omega) (HR_8 g5) (by omega)
                                have hc := SC.w (k := 1436 + 96 * l + f) (j := 430 + 96 * l + f) (x := h.2.1 0) g2 (by omega) (by omega)
                                rw [ltF_up hV (by omega) (lt_val hV kl (by omega))] at hc
                                exact hc)
                             | (obtain rfl : e = 0 := by omega
                                obtain rfl : k = h.1 := by omega
                                refine ih23 _ _ _ _ (g1.wr _ _ rfl (by decide)) ?_ (lt_stay k1 (by decide)) (by omega) (HR_8 g5) (by omega)
                                have hc := SC.w (k := 1436 + 96 * l + f) (j := 430 + 96 * l + f) (x := h.2.1 (h.1 - 1)) g2 (by omega) (by omega)
                                rw [ltF_up hV (by omega) (lt_e0 k1)] at hc
                                exact hc)
                             | (obtain rfl : e = 2 := by omega
                                obtain rfl : k = h.1 := by omega
                                refine ih23 _ _ _ _ (g1.wr _ _ rfl (by decide)) ?_ (lt_stay k1 (by decide)) (by omega) (HR_8 g5) (by omega)
                                have hc := SC.w (k := 1436 + 96 * l + f) (j := 430 + 96 * l + f) (x := 0) g2 (by omega) (by omega)
                                rw [ltF_up hV (by omega) (lt_e2 k1)] at hc
                                exact hc)))
                   · first
                     | (exfalso; omega)
                     | (refine bw_aload rfl rfl ?_
                        refine bw_getr rfl rfl (hR _ _) ?_
                        refine bw_aload rfl rfl ?_
                        refine bw_getI rfl rfl ?_
                        refine bw_push rfl ?_
                        refine bw_isub rfl ⟨by omega, by omega⟩ ?_
                        refine bw_aldi rfl (by first | rfl | assumption) (by omega) (by omega) ?_
                        rw [show gI N 567 16 - 1 = h.1 - 1 by omega, (g5.2.2 (h.1 - 1) (by omega) (by omega) (by omega)).1]
                        refine bw_goto rfl ?_
                        refine bw_asti rfl (by first | rfl | assumption) (by omega) (by omega) ?_
                        refine bw_iload rfl rfl ?_
                        refine bw_iload rfl rfl ?_
                        refine bw_aload rfl rfl ?_
                        refine bw_getI rfl rfl ?_
                        rw [gI_sI_ne (show 567 ≠ 568 by decide)]
                        refine bw_icge rfl (fun c158 => ?_) (fun c158 => ?_)
                        · first
                          | (exfalso; omega)
                          | (refine bw_push rfl ?_
                             refine bw_isub rfl ⟨by omega, by omega⟩ ?_
                             refine bw_istore (ls2 := [_, _, _, _, _, _, _]) rfl rfl (Nat.le_of_ble_eq_true rfl) rfl ?_
                             refine bw_iinc (ls2 := [_, _, _, _, _, _, _]) rfl rfl rfl ⟨by omega, by omega⟩ rfl ?_
                             refine bw_goto rfl ?_
                             first
                             | (have kl := ltJ_I k1 (by omega)
                                refine ih23 _ _ _ _ (g1.wr _ _ rfl (by decide)) ?_ (Or.inl (lt_one kl (by omega))) (by omega) (HR_8 g5) (by omega)
                                have hc := SC.w (k := 1436 + 96 * l + f) (j := 430 + 96 * l + f) (x := h.2.1 k) g2 (by omega) (by omega)
                                rw [ltF_up hV (by omega) (lt_val hV kl (by omega))] at hc
                                exact hc)
                             | (obtain rfl : e = 1 := by omega
                                obtain rfl : k = h.1 := by omega
                                have kl := lt_re hV h1 k1
                                have k0 := (hV.2 0 (by omega) (by omega)).2
                                refine ih23 _ _ _ _ (g1.wr _ _ rfl (by decide)) ?_ (Or.inl (lt_one kl (by omega))) (by omega) (HR_8 g5) (by omega)
                                have hc := SC.w (k := 1436 + 96 * l + f) (j := 430 + 96 * l + f) (x := h.2.1 0) g2 (by omega) (by omega)
                                rw [ltF_up hV (by omega) (lt_val hV kl (by omega))] at hc
                                exact hc)
                             | (obtain rfl : e = 0 := by omega
                                obtain rfl : k = h.1 := by omega
                                refine ih23 _ _ _ _ (g1.wr _ _ rfl (by decide)) ?_ (lt_stay k1 (by decide)) (by omega) (HR_8 g5) (by omega)
                                have hc := SC.w (k := 1436 + 96 * l + f) (j := 430 + 96 * l + f) (x := h.2.1 (h.1 - 1)) g2 (by omega) (by omega)
                                rw [ltF_up hV (by omega) (lt_e0 k1)] at hc
                                exact hc)
                             | (obtain rfl : e = 2 := by omega
                                obtain rfl : k = h.1 := by omega
                                refine ih23 _ _ _ _ (g1.wr _ _ rfl (by decide)) ?_ (lt_stay k1 (by decide)) (by omega) (HR_8 g5) (by omega)
                                have hc := SC.w (k := 1436 + 96 * l + f) (j := 430 + 96 * l + f) (x := 0) g2 (by omega) (by omega)
                                rw [ltF_up hV (by omega) (lt_e2 k1)] at hc
                                exact hc))
                        · first
                          | (exfalso; omega)
                          | (refine bw_push rfl ?_
                             refine bw_goto rfl ?_
                             refine bw_isub rfl ⟨by omega, by omega⟩ ?_
                             refine bw_istore (ls2 := [_, _, _, _, _, _, _]) rfl rfl (Nat.le_of_ble_eq_true rfl) rfl ?_
                             refine bw_iinc (ls2 := [_, _, _, _, _, _, _]) rfl rfl rfl ⟨by omega, by omega⟩ rfl ?_
                             refine bw_goto rfl ?_
                             first
                             | (have kl := ltJ_I k1 (by omega)
                                refine ih23 _ _ _ _ (g1.wr _ _ rfl (by decide)) ?_ (Or.inl (lt_one kl (by omega))) (by omega) (HR_8 g5) (by omega)
                                have hc := SC.w (k := 1436 + 96 * l + f) (j := 430 + 96 * l + f) (x := h.2.1 k) g2 (by omega) (by omega)
                                rw [ltF_up hV (by omega) (lt_val hV kl (by omega))] at hc
                                exact hc)
                             | (obtain rfl : e = 1 := by omega
                                obtain rfl : k = h.1 := by omega
                                have kl := lt_re hV h1 k1
                                have k0 := (hV.2 0 (by omega) (by omega)).2
                                refine ih23 _ _ _ _ (g1.wr _ _ rfl (by decide)) ?_ (Or.inl (lt_one kl (by omega))) (by omega) (HR_8 g5) (by omega)
                                have hc := SC.w (k := 1436 + 96 * l + f) (j := 430 + 96 * l + f) (x := h.2.1 0) g2 (by omega) (by omega)
                                rw [ltF_up hV (by omega) (lt_val hV kl (by omega))] at hc
                                exact hc)
                             | (obtain rfl : e = 0 := by omega
                                obtain rfl : k = h.1 := by omega
                                refine ih23 _ _ _ _ (g1.wr _ _ rfl (by decide)) ?_ (lt_stay k1 (by decide)) (by omega) (HR_8 g5) (by omega)
                                have hc := SC.w (k := 1436 + 96 * l + f) (j := 430 + 96 * l + f) (x := h.2.1 (h.1 - 1)) g2 (by omega) (by omega)
                                rw [ltF_up hV (by omega) (lt_e0 k1)] at hc
                                exact hc)
                             | (obtain rfl : e = 2 := by omega
                                obtain rfl : k = h.1 := by omega
                                refine ih23 _ _ _ _ (g1.wr _ _ rfl (by decide)) ?_ (lt_stay k1 (by decide)) (by omega) (HR_8 g5) (by omega)
                                have hc := SC.w (k := 1436 + 96 * l + f) (j := 430 + 96 * l + f) (x := 0) g2 (by omega) (by omega)
                                rw [ltF_up hV (by omega) (lt_e2 k1)] at hc
                                exact hc))))
              · first
                | (exfalso; omega)
                | (refine bw_aload rfl rfl ?_
                   refine bw_getr rfl rfl (hR _ _) ?_
                   refine bw_iload rfl rfl ?_
                   refine bw_aldi rfl (by first | rfl | assumption) (by omega) (by omega) ?_
                   rw [(g5.2.2 _ (by omega) (by omega) (by omega)).1]
                   refine bw_goto rfl ?_
                   refine bw_asti rfl (by first | rfl | assumption) (by omega) (by omega) ?_
                   refine bw_iload rfl rfl ?_
                   refine bw_iload rfl rfl ?_
                   refine bw_aload rfl rfl ?_
                   refine bw_getI rfl rfl ?_
                   rw [gI_sI_ne (show 567 ≠ 568 by decide)]
                   refine bw_icge rfl (fun c158 => ?_) (fun c158 => ?_)
                   · first
                     | (exfalso; omega)
                     | (refine bw_push rfl ?_
                        refine bw_isub rfl ⟨by omega, by omega⟩ ?_
                        refine bw_istore (ls2 := [_, _, _, _, _, _, _]) rfl rfl (Nat.le_of_ble_eq_true rfl) rfl ?_
                        refine bw_iinc (ls2 := [_, _, _, _, _, _, _]) rfl rfl rfl ⟨by omega, by omega⟩ rfl ?_
                        refine bw_goto rfl ?_
                        first
                        | (have kl := ltJ_I k1 (by omega)
                           refine ih23 _ _ _ _ (g1.wr _ _ rfl (by decide)) ?_ (Or.inl (lt_one kl (by omega))) (by omega) (HR_8 g5) (by omega)
                           have hc := SC.w (k := 1436 + 96 * l + f) (j := 430 + 96 * l + f) (x := h.2.1 k) g2 (by omega) (by omega)
                           rw [ltF_up hV (by omega) (lt_val hV kl (by omega))] at hc
                           exact hc)
                        | (obtain rfl : e = 1 := by omega
                           obtain rfl : k = h.1 := by omega
                           have kl := lt_re hV h1 k1
                           have k0 := (hV.2 0 (by omega) (by omega)).2
                           refine ih23 _ _ _ _ (g1.wr _ _ rfl (by decide)) ?_ (Or.inl (lt_one kl (by omega))) (by omega) (HR_8 g5) (by omega)
                           have hc := SC.w (k := 1436 + 96 * l + f) (j := 430 + 96 * l + f) (x := h.2.1 0) g2 (by omega) (by omega)
                           rw [ltF_up hV (by omega) (lt_val hV kl (by omega))] at hc
                           exact hc)
                        | (obtain rfl : e = 0 := by omega
                           obtain rfl : k = h.1 := by omega
                           refine ih23 _ _ _ _ (g1.wr _ _ rfl (by decide)) ?_ (lt_stay k1 (by decide)) (by omega) (HR_8 g5) (by omega)
                           have hc := SC.w (k := 1436 + 96 * l + f) (j := 430 + 96 * l + f) (x := h.2.1 (h.1 - 1)) g2 (by omega) (by omega)
                           rw [ltF_up hV (by omega) (lt_e0 k1)] at hc
                           exact hc)
                        | (obtain rfl : e = 2 := by omega
                           obtain rfl : k = h.1 := by omega
                           refine ih23 _ _ _ _ (g1.wr _ _ rfl (by decide)) ?_ (lt_stay k1 (by decide)) (by omega) (HR_8 g5) (by omega)
                           have hc := SC.w (k := 1436 + 96 * l + f) (j := 430 + 96 * l + f) (x := 0) g2 (by omega) (by omega)
                           rw [ltF_up hV (by omega) (lt_e2 k1)] at hc
                           exact hc))
                   · first
                     | (exfalso; omega)
                     | (refine bw_push rfl ?_
                        refine bw_goto rfl ?_
                        refine bw_isub rfl ⟨by omega, by omega⟩ ?_
                        refine bw_istore (ls2 := [_, _, _, _, _, _, _]) rfl rfl (Nat.le_of_ble_eq_true rfl) rfl ?_
                        refine bw_iinc (ls2 := [_, _, _, _, _, _, _]) rfl rfl rfl ⟨by omega, by omega⟩ rfl ?_
                        refine bw_goto rfl ?_
                        first
                        | (have kl := ltJ_I k1 (by omega)
                           refine ih23 _ _ _ _ (g1.wr _ _ rfl (by decide)) ?_ (Or.inl (lt_one kl (by omega))) (by omega) (HR_8 g5) (by omega)
                           have hc := SC.w (k := 1436 + 96 * l + f) (j := 430 + 96 * l + f) (x := h.2.1 k) g2 (by omega) (by omega)
                           rw [ltF_up hV (by omega) (lt_val hV kl (by omega))] at hc
                           exact hc)
                        | (obtain rfl : e = 1 := by omega
                           obtain rfl : k = h.1 := by omega
                           have kl := lt_re hV h1 k1
                           have k0 := (hV.2 0 (by omega) (by omega)).2
                           refine ih23 _ _ _ _ (g1.wr _ _ rfl (by decide)) ?_ (Or.inl (lt_one kl (by omega))) (by omega) (HR_8 g5) (by omega)
                           have hc := SC.w (k := 1436 + 96 * l + f) (j := 430 + 96 * l + f) (x := h.2.1 0) g2 (by omega) (by omega)
                           rw [ltF_up hV (by omega) (lt_val hV kl (by omega))] at hc
                           exact hc)
                        | (obtain rfl : e = 0 := by omega
                           obtain rfl : k = h.1 := by omega
                           refine ih23 _ _ _ _ (g1.wr _ _ rfl (by decide)) ?_ (lt_stay k1 (by decide)) (by omega) (HR_8 g5) (by omega)
                           have hc := SC.w (k := 1436 + 96 * l + f) (j := 430 + 96 * l + f) (x := h.2.1 (h.1 - 1)) g2 (by omega) (by omega)
                           rw [ltF_up hV (by omega) (lt_e0 k1)] at hc
                           exact hc)
                        | (obtain rfl : e = 2 := by omega
                           obtain rfl : k = h.1 := by omega
                           refine ih23 _ _ _ _ (g1.wr _ _ rfl (by decide)) ?_ (lt_stay k1 (by decide)) (by omega) (HR_8 g5) (by omega)
                           have hc := SC.w (k := 1436 + 96 * l + f) (j := 430 + 96 * l + f) (x := 0) g2 (by omega) (by omega)
                           rw [ltF_up hV (by omega) (lt_e2 k1)] at hc
                           exact hc)))
            · skip
              refine bw_iload rfl rfl ?_
              refine bw_push rfl ?_
              refine bw_icne rfl (fun c82 => ?_) (fun c82 => ?_)
              · skip
                refine bw_aload rfl rfl ?_
                refine bw_getr rfl rfl (hR _ _) ?_
                refine bw_push rfl ?_
                refine bw_push rfl ?_
                refine bw_iload rfl rfl ?_
                refine bw_imul rfl ⟨by omega, by omega⟩ ?_
                refine bw_iadd rfl ⟨by omega, by omega⟩ ?_
                refine bw_iload rfl rfl ?_
                refine bw_iadd rfl ⟨by omega, by omega⟩ ?_
                refine bw_iload rfl rfl ?_
                refine bw_aload rfl rfl ?_
                refine bw_getI rfl rfl ?_
                refine bw_icge rfl (fun c117 => ?_) (fun c117 => ?_)
                · first
                  | (exfalso; omega)
                  | (refine bw_iload rfl rfl ?_
                     refine bw_ifne rfl (fun c131 => ?_) (fun c131 => ?_)
                     · first
                       | (exfalso; omega)
                       | (refine bw_push rfl ?_
                          refine bw_asti rfl (by first | rfl | assumption) (by omega) (by omega) ?_
                          refine bw_iload rfl rfl ?_
                          refine bw_iload rfl rfl ?_
                          refine bw_aload rfl rfl ?_
                          refine bw_getI rfl rfl ?_
                          rw [gI_sI_ne (show 567 ≠ 568 by decide)]
                          refine bw_icge rfl (fun c158 => ?_) (fun c158 => ?_)
                          · first
                            | (exfalso; omega)
                            | (refine bw_push rfl ?_
                               refine bw_isub rfl ⟨by omega, by omega⟩ ?_
                               refine bw_istore (ls2 := [_, _, _, _, _, _, _]) rfl rfl (Nat.le_of_ble_eq_true rfl) rfl ?_
                               refine bw_iinc (ls2 := [_, _, _, _, _, _, _]) rfl rfl rfl ⟨by omega, by omega⟩ rfl ?_
                               refine bw_goto rfl ?_
                               first
                               | (have kl := ltJ_I k1 (by omega)
                                  refine ih23 _ _ _ _ (g1.wr _ _ rfl (by decide)) ?_ (Or.inl (lt_one kl (by omega))) (by omega) (HR_8 g5) (by omega)
                                  have hc := SC.w (k := 1436 + 96 * l + f) (j := 430 + 96 * l + f) (x := h.2.1 k) g2 (by omega) (by omega)
                                  rw [ltF_up hV (by omega) (lt_val hV kl (by omega))] at hc
                                  exact hc)
                               | (obtain rfl : e = 1 := by omega
                                  obtain rfl : k = h.1 := by omega
                                  have kl := lt_re hV h1 k1
                                  have k0 := (hV.2 0 (by omega) (by omega)).2
                                  refine ih23 _ _ _ _ (g1.wr _ _ rfl (by decide)) ?_ (Or.inl (lt_one kl (by omega))) (by omega) (HR_8 g5) (by omega)
                                  have hc := SC.w (k := 1436 + 96 * l + f) (j := 430 + 96 * l + f) (x := h.2.1 0) g2 (by omega) (by omega)
                                  rw [ltF_up hV (by omega) (lt_val hV kl (by omega))] at hc
                                  exact hc)
                               | (obtain rfl : e = 0 := by omega
                                  obtain rfl : k = h.1 := by omega
                                  refine ih23 _ _ _ _ (g1.wr _ _ rfl (by decide)) ?_ (lt_stay k1 (by decide)) (by omega) (HR_8 g5) (by omega)
                                  have hc := SC.w (k := 1436 + 96 * l + f) (j := 430 + 96 * l + f) (x := h.2.1 (h.1 - 1)) g2 (by omega) (by omega)
                                  rw [ltF_up hV (by omega) (lt_e0 k1)] at hc
                                  exact hc)
                               | (obtain rfl : e = 2 := by omega
                                  obtain rfl : k = h.1 := by omega
                                  refine ih23 _ _ _ _ (g1.wr _ _ rfl (by decide)) ?_ (lt_stay k1 (by decide)) (by omega) (HR_8 g5) (by omega)
                                  have hc := SC.w (k := 1436 + 96 * l + f) (j := 430 + 96 * l + f) (x := 0) g2 (by omega) (by omega)
                                  rw [ltF_up hV (by omega) (lt_e2 k1)] at hc
                                  exact hc))
                          · first
                            | (exfalso; omega)
                            | (refine bw_push rfl ?_
                               refine bw_goto rfl ?_
                               refine bw_isub rfl ⟨by omega, by omega⟩ ?_
                               refine bw_istore (ls2 := [_, _, _, _, _, _, _]) rfl rfl (Nat.le_of_ble_eq_true rfl) rfl ?_
                               refine bw_iinc (ls2 := [_, _, _, _, _, _, _]) rfl rfl rfl ⟨by omega, by omega⟩ rfl ?_
                               refine bw_goto rfl ?_
                               first
                               | (have kl := ltJ_I k1 (by omega)
                                  refine ih23 _ _ _ _ (g1.wr _ _ rfl (by decide)) ?_ (Or.inl (lt_one kl (by omega))) (by omega) (HR_8 g5) (by omega)
                                  have hc := SC.w (k := 1436 + 96 * l + f) (j := 430 + 96 * l + f) (x := h.2.1 k) g2 (by omega) (by omega)
                                  rw [ltF_up hV (by omega) (lt_val hV kl (by omega))] at hc
                                  exact hc)
                               | (obtain rfl : e = 1 := by omega
                                  obtain rfl : k = h.1 := by omega
                                  have kl := lt_re hV h1 k1
                                  have k0 := (hV.2 0 (by omega) (by omega)).2
                                  refine ih23 _ _ _ _ (g1.wr _ _ rfl (by decide)) ?_ (Or.inl (lt_one kl (by omega))) (by omega) (HR_8 g5) (by omega)
                                  have hc := SC.w (k := 1436 + 96 * l + f) (j := 430 + 96 * l + f) (x := h.2.1 0) g2 (by omega) (by omega)
                                  rw [ltF_up hV (by omega) (lt_val hV kl (by omega))] at hc
                                  exact hc)
                               | (obtain rfl : e = 0 := by omega
                                  obtain rfl : k = h.1 := by omega
                                  refine ih23 _ _ _ _ (g1.wr _ _ rfl (by decide)) ?_ (lt_stay k1 (by decide)) (by omega) (HR_8 g5) (by omega)
                                  have hc := SC.w (k := 1436 + 96 * l + f) (j := 430 + 96 * l + f) (x := h.2.1 (h.1 - 1)) g2 (by omega) (by omega)
                                  rw [ltF_up hV (by omega) (lt_e0 k1)] at hc
                                  exact hc)
                               | (obtain rfl : e = 2 := by omega
                                  obtain rfl : k = h.1 := by omega
                                  refine ih23 _ _ _ _ (g1.wr _ _ rfl (by decide)) ?_ (lt_stay k1 (by decide)) (by omega) (HR_8 g5) (by omega)
                                  have hc := SC.w (k := 1436 + 96 * l + f) (j := 430 + 96 * l + f) (x := 0) g2 (by omega) (by omega)
                                  rw [ltF_up hV (by omega) (lt_e2 k1)] at hc
                                  exact hc)))
                     · first
                       | (exfalso; omega)
                       | (refine bw_aload rfl rfl ?_
                          refine bw_getr rfl rfl (hR _ _) ?_
                          refine bw_aload rfl rfl ?_
                          refine bw_getI rfl rfl ?_
                          refine bw_push rfl ?_
                          refine bw_isub rfl ⟨by omega, by omega⟩ ?_
                          refine bw_aldi rfl (by first | rfl | assumption) (by omega) (by omega) ?_
                          rw [show gI N 567 16 - 1 = h.1 - 1 by omega, (g5.2.2 (h.1 - 1) (by omega) (by omega) (by omega)).1]
                          refine bw_goto rfl ?_
                          refine bw_asti rfl (by first | rfl | assumption) (by omega) (by omega) ?_
                          refine bw_iload rfl rfl ?_
                          refine bw_iload rfl rfl ?_
                          refine bw_aload rfl rfl ?_
                          refine bw_getI rfl rfl ?_
                          rw [gI_sI_ne (show 567 ≠ 568 by decide)]
                          refine bw_icge rfl (fun c158 => ?_) (fun c158 => ?_)
                          · first
                            | (exfalso; omega)
                            | (refine bw_push rfl ?_
                               refine bw_isub rfl ⟨by omega, by omega⟩ ?_
                               refine bw_istore (ls2 := [_, _, _, _, _, _, _]) rfl rfl (Nat.le_of_ble_eq_true rfl) rfl ?_
                               refine bw_iinc (ls2 := [_, _, _, _, _, _, _]) rfl rfl rfl ⟨by omega, by omega⟩ rfl ?_
                               refine bw_goto rfl ?_
                               first
                               | (have kl := ltJ_I k1 (by omega)
                                  refine ih23 _ _ _ _ (g1.wr _ _ rfl (by decide)) ?_ (Or.inl (lt_one kl (by omega))) (by omega) (HR_8 g5) (by omega)
                                  have hc := SC.w (k := 1436 + 96 * l + f) (j := 430 + 96 * l + f) (x := h.2.1 k) g2 (by omega) (by omega)
                                  rw [ltF_up hV (by omega) (lt_val hV kl (by omega))] at hc
                                  exact hc)
                               | (obtain rfl : e = 1 := by omega
                                  obtain rfl : k = h.1 := by omega
                                  have kl := lt_re hV h1 k1
                                  have k0 := (hV.2 0 (by omega) (by omega)).2
                                  refine ih23 _ _ _ _ (g1.wr _ _ rfl (by decide)) ?_ (Or.inl (lt_one kl (by omega))) (by omega) (HR_8 g5) (by omega)
                                  have hc := SC.w (k := 1436 + 96 * l + f) (j := 430 + 96 * l + f) (x := h.2.1 0) g2 (by omega) (by omega)
                                  rw [ltF_up hV (by omega) (lt_val hV kl (by omega))] at hc
                                  exact hc)
                               | (obtain rfl : e = 0 := by omega
                                  obtain rfl : k = h.1 := by omega
                                  refine ih23 _ _ _ _ (g1.wr _ _ rfl (by decide)) ?_ (lt_stay k1 (by decide)) (by omega) (HR_8 g5) (by omega)
                                  have hc := SC.w (k := 1436 + 96 * l + f) (j := 430 + 96 * l + f) (x := h.2.1 (h.1 - 1)) g2 (by omega) (by omega)
                                  rw [ltF_up hV (by omega) (lt_e0 k1)] at hc
                                  exact hc)
                               | (obtain rfl : e = 2 := by omega
                                  obtain rfl : k = h.1 := by omega
                                  refine ih23 _ _ _ _ (g1.wr _ _ rfl (by decide)) ?_ (lt_stay k1 (by decide)) (by omega) (HR_8 g5) (by omega)
                                  have hc := SC.w (k := 1436 + 96 * l + f) (j := 430 + 96 * l + f) (x := 0) g2 (by omega) (by omega)
                                  rw [ltF_up hV (by omega) (lt_e2 k1)] at hc
                                  exact hc))
                          · first
                            | (exfalso; omega)
                            | (refine bw_push rfl ?_
                               refine bw_goto rfl ?_
                               refine bw_isub rfl ⟨by omega, by omega⟩ ?_
                               refine bw_istore (ls2 := [_, _, _, _, _, _, _]) rfl rfl (Nat.le_of_ble_eq_true rfl) rfl ?_
                               refine bw_iinc (ls2 := [_, _, _, _, _, _, _]) rfl rfl rfl ⟨by omega, by omega⟩ rfl ?_
                               refine bw_goto rfl ?_
                               first
                               | (have kl := ltJ_I k1 (by omega)
                                  refine ih23 _ _ _ _ (g1.wr _ _ rfl (by decide)) ?_ (Or.inl (lt_one kl (by omega))) (by omega) (HR_8 g5) (by omega)
                                  have hc := SC.w (k := 1436 + 96 * l + f) (j := 430 + 96 * l + f) (x := h.2.1 k) g2 (by omega) (by omega)
                                  rw [ltF_up hV (by omega) (lt_val hV kl (by omega))] at hc
                                  exact hc)
                               | (obtain rfl : e = 1 := by omega
                                  obtain rfl : k = h.1 := by omega
                                  have kl := lt_re hV h1 k1
                                  have k0 := (hV.2 0 (by omega) (by omega)).2
                                  refine ih23 _ _ _ _ (g1.wr _ _ rfl (by decide)) ?_ (Or.inl (lt_one kl (by omega))) (by omega) (HR_8 g5) (by omega)
                                  have hc := SC.w (k := 1436 + 96 * l + f) (j := 430 + 96 * l + f) (x := h.2.1 0) g2 (by omega) (by omega)
                                  rw [ltF_up hV (by omega) (lt_val hV kl (by omega))] at hc
                                  exact hc)
                               | (obtain rfl : e = 0 := by omega
                                  obtain rfl : k = h.1 := by omega
                                  refine ih23 _ _ _ _ (g1.wr _ _ rfl (by decide)) ?_ (lt_stay k1 (by decide)) (by omega) (HR_8 g5) (by omega)
                                  have hc := SC.w (k := 1436 + 96 * l + f) (j := 430 + 96 * l + f) (x := h.2.1 (h.1 - 1)) g2 (by omega) (by omega)
                                  rw [ltF_up hV (by omega) (lt_e0 k1)] at hc
                                  exact hc)
                               | (obtain rfl : e = 2 := by omega
                                  obtain rfl : k = h.1 := by omega
                                  refine ih23 _ _ _ _ (g1.wr _ _ rfl (by decide)) ?_ (lt_stay k1 (by decide)) (by omega) (HR_8 g5) (by omega)
                                  have hc := SC.w (k := 1436 + 96 * l + f) (j := 430 + 96 * l + f) (x := 0) g2 (by omega) (by omega)
                                  rw [ltF_up hV (by omega) (lt_e2 k1)] at hc
                                  exact hc))))
                · first
                  | (exfalso; omega)
                  | (refine bw_aload rfl rfl ?_
                     refine bw_getr rfl rfl (hR _ _) ?_
                     refine bw_iload rfl rfl ?_
                     refine bw_aldi rfl (by first | rfl | assumption) (by omega) (by omega) ?_
                     rw [(g5.2.2 _ (by omega) (by omega) (by omega)).1]
                     refine bw_goto rfl ?_
                     refine bw_asti rfl (by first | rfl | assumption) (by omega) (by omega) ?_
                     refine bw_iload rfl rfl ?_
                     refine bw_iload rfl rfl ?_
                     refine bw_aload rfl rfl ?_
                     refine bw_getI rfl rfl ?_
                     rw [gI_sI_ne (show 567 ≠ 568 by decide)]
                     refine bw_icge rfl (fun c158 => ?_) (fun c158 => ?_)
                     · first
                       | (exfalso; omega)
                       | (refine bw_push rfl ?_
                          refine bw_isub rfl ⟨by omega, by omega⟩ ?_
                          refine bw_istore (ls2 := [_, _, _, _, _, _, _]) rfl rfl (Nat.le_of_ble_eq_true rfl) rfl ?_
                          refine bw_iinc (ls2 := [_, _, _, _, _, _, _]) rfl rfl rfl ⟨by omega, by omega⟩ rfl ?_
                          refine bw_goto rfl ?_
                          first
                          | (have kl := ltJ_I k1 (by omega)
                             refine ih23 _ _ _ _ (g1.wr _ _ rfl (by decide)) ?_ (Or.inl (lt_one kl (by omega))) (by omega) (HR_8 g5) (by omega)
                             have hc := SC.w (k := 1436 + 96 * l + f) (j := 430 + 96 * l + f) (x := h.2.1 k) g2 (by omega) (by omega)
                             rw [ltF_up hV (by omega) (lt_val hV kl (by omega))] at hc
                             exact hc)
                          | (obtain rfl : e = 1 := by omega
                             obtain rfl : k = h.1 := by omega
                             have kl := lt_re hV h1 k1
                             have k0 := (hV.2 0 (by omega) (by omega)).2
                             refine ih23 _ _ _ _ (g1.wr _ _ rfl (by decide)) ?_ (Or.inl (lt_one kl (by omega))) (by omega) (HR_8 g5) (by omega)
                             have hc := SC.w (k := 1436 + 96 * l + f) (j := 430 + 96 * l + f) (x := h.2.1 0) g2 (by omega) (by omega)
                             rw [ltF_up hV (by omega) (lt_val hV kl (by omega))] at hc
                             exact hc)
                          | (obtain rfl : e = 0 := by omega
                             obtain rfl : k = h.1 := by omega
                             refine ih23 _ _ _ _ (g1.wr _ _ rfl (by decide)) ?_ (lt_stay k1 (by decide)) (by omega) (HR_8 g5) (by omega)
                             have hc := SC.w (k := 1436 + 96 * l + f) (j := 430 + 96 * l + f) (x := h.2.1 (h.1 - 1)) g2 (by omega) (by omega)
                             rw [ltF_up hV (by omega) (lt_e0 k1)] at hc
                             exact hc)
                          | (obtain rfl : e = 2 := by omega
                             obtain rfl : k = h.1 := by omega
                             refine ih23 _ _ _ _ (g1.wr _ _ rfl (by decide)) ?_ (lt_stay k1 (by decide)) (by omega) (HR_8 g5) (by omega)
                             have hc := SC.w (k := 1436 + 96 * l + f) (j := 430 + 96 * l + f) (x := 0) g2 (by omega) (by omega)
                             rw [ltF_up hV (by omega) (lt_e2 k1)] at hc
                             exact hc))
                     · first
                       | (exfalso; omega)
                       | (refine bw_push rfl ?_
                          refine bw_goto rfl ?_
                          refine bw_isub rfl ⟨by omega, by omega⟩ ?_
                          refine bw_istore (ls2 := [_, _, _, _, _, _, _]) rfl rfl (Nat.le_of_ble_eq_true rfl) rfl ?_
                          refine bw_iinc (ls2 := [_, _, _, _, _, _, _]) rfl rfl rfl ⟨by omega, by omega⟩ rfl ?_
                          refine bw_goto rfl ?_
                          first
                          | (have kl := ltJ_I k1 (by omega)
                             refine ih23 _ _ _ _ (g1.wr _ _ rfl (by decide)) ?_ (Or.inl (lt_one kl (by omega))) (by omega) (HR_8 g5) (by omega)
                             have hc := SC.w (k := 1436 + 96 * l + f) (j := 430 + 96 * l + f) (x := h.2.1 k) g2 (by omega) (by omega)
                             rw [ltF_up hV (by omega) (lt_val hV kl (by omega))] at hc
                             exact hc)
                          | (obtain rfl : e = 1 := by omega
                             obtain rfl : k = h.1 := by omega
                             have kl := lt_re hV h1 k1
                             have k0 := (hV.2 0 (by omega) (by omega)).2
                             refine ih23 _ _ _ _ (g1.wr _ _ rfl (by decide)) ?_ (Or.inl (lt_one kl (by omega))) (by omega) (HR_8 g5) (by omega)
                             have hc := SC.w (k := 1436 + 96 * l + f) (j := 430 + 96 * l + f) (x := h.2.1 0) g2 (by omega) (by omega)
                             rw [ltF_up hV (by omega) (lt_val hV kl (by omega))] at hc
                             exact hc)
                          | (obtain rfl : e = 0 := by omega
                             obtain rfl : k = h.1 := by omega
                             refine ih23 _ _ _ _ (g1.wr _ _ rfl (by decide)) ?_ (lt_stay k1 (by decide)) (by omega) (HR_8 g5) (by omega)
                             have hc := SC.w (k := 1436 + 96 * l + f) (j := 430 + 96 * l + f) (x := h.2.1 (h.1 - 1)) g2 (by omega) (by omega)
                             rw [ltF_up hV (by omega) (lt_e0 k1)] at hc
                             exact hc)
                          | (obtain rfl : e = 2 := by omega
                             obtain rfl : k = h.1 := by omega
                             refine ih23 _ _ _ _ (g1.wr _ _ rfl (by decide)) ?_ (lt_stay k1 (by decide)) (by omega) (HR_8 g5) (by omega)
                             have hc := SC.w (k := 1436 + 96 * l + f) (j := 430 + 96 * l + f) (x := 0) g2 (by omega) (by omega)
                             rw [ltF_up hV (by omega) (lt_e2 k1)] at hc
                             exact hc)))
              · skip
                refine bw_push rfl ?_
                refine bw_istore (ls2 := [_, _, _, _, _, _, _]) rfl rfl (Nat.le_of_ble_eq_true rfl) rfl ?_
                refine bw_aload rfl rfl ?_
                refine bw_getr rfl rfl (hR _ _) ?_
                refine bw_push rfl ?_
                refine bw_aldi rfl (by first | rfl | assumption) (by omega) (by omega) ?_
                rw [(g5.2.2 0 (by omega) (by omega) (by omega)).2]
                refine bw_istore (ls2 := [_, _, _, _, _, _, _]) rfl rfl (Nat.le_of_ble_eq_true rfl) rfl ?_
                refine bw_aload rfl rfl ?_
                refine bw_getr rfl rfl (hR _ _) ?_
                refine bw_push rfl ?_
                refine bw_push rfl ?_
                refine bw_iload rfl rfl ?_
                refine bw_imul rfl ⟨by omega, by omega⟩ ?_
                refine bw_iadd rfl ⟨by omega, by omega⟩ ?_
                refine bw_iload rfl rfl ?_
                refine bw_iadd rfl ⟨by omega, by omega⟩ ?_
                refine bw_iload rfl rfl ?_
                refine bw_aload rfl rfl ?_
                refine bw_getI rfl rfl ?_
                refine bw_icge rfl (fun c117 => ?_) (fun c117 => ?_)
                · first
                  | (exfalso; omega)
                  | (refine bw_iload rfl rfl ?_
                     refine bw_ifne rfl (fun c131 => ?_) (fun c131 => ?_)
                     · first
                       | (exfalso; omega)
                       | (refine bw_push rfl ?_
                          refine bw_asti rfl (by first | rfl | assumption) (by omega) (by omega) ?_
                          refine bw_iload rfl rfl ?_
                          refine bw_iload rfl rfl ?_
                          refine bw_aload rfl rfl ?_
                          refine bw_getI rfl rfl ?_
                          rw [gI_sI_ne (show 567 ≠ 568 by decide)]
                          refine bw_icge rfl (fun c158 => ?_) (fun c158 => ?_)
                          · first
                            | (exfalso; omega)
                            | (refine bw_push rfl ?_
                               refine bw_isub rfl ⟨by omega, by omega⟩ ?_
                               refine bw_istore (ls2 := [_, _, _, _, _, _, _]) rfl rfl (Nat.le_of_ble_eq_true rfl) rfl ?_
                               refine bw_iinc (ls2 := [_, _, _, _, _, _, _]) rfl rfl rfl ⟨by omega, by omega⟩ rfl ?_
                               refine bw_goto rfl ?_
                               first
                               | (have kl := ltJ_I k1 (by omega)
                                  refine ih23 _ _ _ _ (g1.wr _ _ rfl (by decide)) ?_ (Or.inl (lt_one kl (by omega))) (by omega) (HR_8 g5) (by omega)
                                  have hc := SC.w (k := 1436 + 96 * l + f) (j := 430 + 96 * l + f) (x := h.2.1 k) g2 (by omega) (by omega)
                                  rw [ltF_up hV (by omega) (lt_val hV kl (by omega))] at hc
                                  exact hc)
                               | (obtain rfl : e = 1 := by omega
                                  obtain rfl : k = h.1 := by omega
                                  have kl := lt_re hV h1 k1
                                  have k0 := (hV.2 0 (by omega) (by omega)).2
                                  refine ih23 _ _ _ _ (g1.wr _ _ rfl (by decide)) ?_ (Or.inl (lt_one kl (by omega))) (by omega) (HR_8 g5) (by omega)
                                  have hc := SC.w (k := 1436 + 96 * l + f) (j := 430 + 96 * l + f) (x := h.2.1 0) g2 (by omega) (by omega)
                                  rw [ltF_up hV (by omega) (lt_val hV kl (by omega))] at hc
                                  exact hc)
                               | (obtain rfl : e = 0 := by omega
                                  obtain rfl : k = h.1 := by omega
                                  refine ih23 _ _ _ _ (g1.wr _ _ rfl (by decide)) ?_ (lt_stay k1 (by decide)) (by omega) (HR_8 g5) (by omega)
                                  have hc := SC.w (k := 1436 + 96 * l + f) (j := 430 + 96 * l + f) (x := h.2.1 (h.1 - 1)) g2 (by omega) (by omega)
                                  rw [ltF_up hV (by omega) (lt_e0 k1)] at hc
                                  exact hc)
                               | (obtain rfl : e = 2 := by omega
                                  obtain rfl : k = h.1 := by omega
                                  refine ih23 _ _ _ _ (g1.wr _ _ rfl (by decide)) ?_ (lt_stay k1 (by decide)) (by omega) (HR_8 g5) (by omega)
                                  have hc := SC.w (k := 1436 + 96 * l + f) (j := 430 + 96 * l + f) (x := 0) g2 (by omega) (by omega)
                                  rw [ltF_up hV (by omega) (lt_e2 k1)] at hc
                                  exact hc))
                          · first
                            | (exfalso; omega)
                            | (refine bw_push rfl ?_
                               refine bw_goto rfl ?_
                               refine bw_isub rfl ⟨by omega, by omega⟩ ?_
                               refine bw_istore (ls2 := [_, _, _, _, _, _, _]) rfl rfl (Nat.le_of_ble_eq_true rfl) rfl ?_
                               refine bw_iinc (ls2 := [_, _, _, _, _, _, _]) rfl rfl rfl ⟨by omega, by omega⟩ rfl ?_
                               refine bw_goto rfl ?_
                               first
                               | (have kl := ltJ_I k1 (by omega)
                                  refine ih23 _ _ _ _ (g1.wr _ _ rfl (by decide)) ?_ (Or.inl (lt_one kl (by omega))) (by omega) (HR_8 g5) (by omega)
                                  have hc := SC.w (k := 1436 + 96 * l + f) (j := 430 + 96 * l + f) (x := h.2.1 k) g2 (by omega) (by omega)
                                  rw [ltF_up hV (by omega) (lt_val hV kl (by omega))] at hc
                                  exact hc)
                               | (obtain rfl : e = 1 := by omega
                                  obtain rfl : k = h.1 := by omega
                                  have kl := lt_re hV h1 k1
                                  have k0 := (hV.2 0 (by omega) (by omega)).2
                                  refine ih23 _ _ _ _ (g1.wr _ _ rfl (by decide)) ?_ (Or.inl (lt_one kl (by omega))) (by omega) (HR_8 g5) (by omega)
                                  have hc := SC.w (k := 1436 + 96 * l + f) (j := 430 + 96 * l + f) (x := h.2.1 0) g2 (by omega) (by omega)
                                  rw [ltF_up hV (by omega) (lt_val hV kl (by omega))] at hc
                                  exact hc)
                               | (obtain rfl : e = 0 := by omega
                                  obtain rfl : k = h.1 := by omega
                                  refine ih23 _ _ _ _ (g1.wr _ _ rfl (by decide)) ?_ (lt_stay k1 (by decide)) (by omega) (HR_8 g5) (by omega)
                                  have hc := SC.w (k := 1436 + 96 * l + f) (j := 430 + 96 * l + f) (x := h.2.1 (h.1 - 1)) g2 (by omega) (by omega)
                                  rw [ltF_up hV (by omega) (lt_e0 k1)] at hc
                                  exact hc)
                               | (obtain rfl : e = 2 := by omega
                                  obtain rfl : k = h.1 := by omega
                                  refine ih23 _ _ _ _ (g1.wr _ _ rfl (by decide)) ?_ (lt_stay k1 (by decide)) (by omega) (HR_8 g5) (by omega)
                                  have hc := SC.w (k := 1436 + 96 * l + f) (j := 430 + 96 * l + f) (x := 0) g2 (by omega) (by omega)
                                  rw [ltF_up hV (by omega) (lt_e2 k1)] at hc
                                  exact hc)))
                     · first
                       | (exfalso; omega)
                       | (refine bw_aload rfl rfl ?_
                          refine bw_getr rfl rfl (hR _ _) ?_
                          refine bw_aload rfl rfl ?_
                          refine bw_getI rfl rfl ?_
                          refine bw_push rfl ?_
                          refine bw_isub rfl ⟨by omega, by omega⟩ ?_
                          refine bw_aldi rfl (by first | rfl | assumption) (by omega) (by omega) ?_
                          rw [show gI N 567 16 - 1 = h.1 - 1 by omega, (g5.2.2 (h.1 - 1) (by omega) (by omega) (by omega)).1]
                          refine bw_goto rfl ?_
                          refine bw_asti rfl (by first | rfl | assumption) (by omega) (by omega) ?_
                          refine bw_iload rfl rfl ?_
                          refine bw_iload rfl rfl ?_
                          refine bw_aload rfl rfl ?_
                          refine bw_getI rfl rfl ?_
                          rw [gI_sI_ne (show 567 ≠ 568 by decide)]
                          refine bw_icge rfl (fun c158 => ?_) (fun c158 => ?_)
                          · first
                            | (exfalso; omega)
                            | (refine bw_push rfl ?_
                               refine bw_isub rfl ⟨by omega, by omega⟩ ?_
                               refine bw_istore (ls2 := [_, _, _, _, _, _, _]) rfl rfl (Nat.le_of_ble_eq_true rfl) rfl ?_
                               refine bw_iinc (ls2 := [_, _, _, _, _, _, _]) rfl rfl rfl ⟨by omega, by omega⟩ rfl ?_
                               refine bw_goto rfl ?_
                               first
                               | (have kl := ltJ_I k1 (by omega)
                                  refine ih23 _ _ _ _ (g1.wr _ _ rfl (by decide)) ?_ (Or.inl (lt_one kl (by omega))) (by omega) (HR_8 g5) (by omega)
                                  have hc := SC.w (k := 1436 + 96 * l + f) (j := 430 + 96 * l + f) (x := h.2.1 k) g2 (by omega) (by omega)
                                  rw [ltF_up hV (by omega) (lt_val hV kl (by omega))] at hc
                                  exact hc)
                               | (obtain rfl : e = 1 := by omega
                                  obtain rfl : k = h.1 := by omega
                                  have kl := lt_re hV h1 k1
                                  have k0 := (hV.2 0 (by omega) (by omega)).2
                                  refine ih23 _ _ _ _ (g1.wr _ _ rfl (by decide)) ?_ (Or.inl (lt_one kl (by omega))) (by omega) (HR_8 g5) (by omega)
                                  have hc := SC.w (k := 1436 + 96 * l + f) (j := 430 + 96 * l + f) (x := h.2.1 0) g2 (by omega) (by omega)
                                  rw [ltF_up hV (by omega) (lt_val hV kl (by omega))] at hc
                                  exact hc)
                               | (obtain rfl : e = 0 := by omega
                                  obtain rfl : k = h.1 := by omega
                                  refine ih23 _ _ _ _ (g1.wr _ _ rfl (by decide)) ?_ (lt_stay k1 (by decide)) (by omega) (HR_8 g5) (by omega)
                                  have hc := SC.w (k := 1436 + 96 * l + f) (j := 430 + 96 * l + f) (x := h.2.1 (h.1 - 1)) g2 (by omega) (by omega)
                                  rw [ltF_up hV (by omega) (lt_e0 k1)] at hc
                                  exact hc)
                               | (obtain rfl : e = 2 := by omega
                                  obtain rfl : k = h.1 := by omega
                                  refine ih23 _ _ _ _ (g1.wr _ _ rfl (by decide)) ?_ (lt_stay k1 (by decide)) (by omega) (HR_8 g5) (by omega)
                                  have hc := SC.w (k := 1436 + 96 * l + f) (j := 430 + 96 * l + f) (x := 0) g2 (by omega) (by omega)
                                  rw [ltF_up hV (by omega) (lt_e2 k1)] at hc
                                  exact hc))
                          · first
                            | (exfalso; omega)
                            | (refine bw_push rfl ?_
                               refine bw_goto rfl ?_
                               refine bw_isub rfl ⟨by omega, by omega⟩ ?_
                               refine bw_istore (ls2 := [_, _, _, _, _, _, _]) rfl rfl (Nat.le_of_ble_eq_true rfl) rfl ?_
                               refine bw_iinc (ls2 := [_, _, _, _, _, _, _]) rfl rfl rfl ⟨by omega, by omega⟩ rfl ?_
                               refine bw_goto rfl ?_
                               first
                               | (have kl := ltJ_I k1 (by omega)
                                  refine ih23 _ _ _ _ (g1.wr _ _ rfl (by decide)) ?_ (Or.inl (lt_one kl (by omega))) (by omega) (HR_8 g5) (by omega)
                                  have hc := SC.w (k := 1436 + 96 * l + f) (j := 430 + 96 * l + f) (x := h.2.1 k) g2 (by omega) (by omega)
                                  rw [ltF_up hV (by omega) (lt_val hV kl (by omega))] at hc
                                  exact hc)
                               | (obtain rfl : e = 1 := by omega
                                  obtain rfl : k = h.1 := by omega
                                  have kl := lt_re hV h1 k1
                                  have k0 := (hV.2 0 (by omega) (by omega)).2
                                  refine ih23 _ _ _ _ (g1.wr _ _ rfl (by decide)) ?_ (Or.inl (lt_one kl (by omega))) (by omega) (HR_8 g5) (by omega)
                                  have hc := SC.w (k := 1436 + 96 * l + f) (j := 430 + 96 * l + f) (x := h.2.1 0) g2 (by omega) (by omega)
                                  rw [ltF_up hV (by omega) (lt_val hV kl (by omega))] at hc
                                  exact hc)
                               | (obtain rfl : e = 0 := by omega
                                  obtain rfl : k = h.1 := by omega
                                  refine ih23 _ _ _ _ (g1.wr _ _ rfl (by decide)) ?_ (lt_stay k1 (by decide)) (by omega) (HR_8 g5) (by omega)
                                  have hc := SC.w (k := 1436 + 96 * l + f) (j := 430 + 96 * l + f) (x := h.2.1 (h.1 - 1)) g2 (by omega) (by omega)
                                  rw [ltF_up hV (by omega) (lt_e0 k1)] at hc
                                  exact hc)
                               | (obtain rfl : e = 2 := by omega
                                  obtain rfl : k = h.1 := by omega
                                  refine ih23 _ _ _ _ (g1.wr _ _ rfl (by decide)) ?_ (lt_stay k1 (by decide)) (by omega) (HR_8 g5) (by omega)
                                  have hc := SC.w (k := 1436 + 96 * l + f) (j := 430 + 96 * l + f) (x := 0) g2 (by omega) (by omega)
                                  rw [ltF_up hV (by omega) (lt_e2 k1)] at hc
                                  exact hc))))
                · first
                  | (exfalso; omega)
                  | (refine bw_aload rfl rfl ?_
                     refine bw_getr rfl rfl (hR _ _) ?_
                     refine bw_iload rfl rfl ?_
                     refine bw_aldi rfl (by first | rfl | assumption) (by omega) (by omega) ?_
                     rw [(g5.2.2 _ (by omega) (by omega) (by omega)).1]
                     refine bw_goto rfl ?_
                     refine bw_asti rfl (by first | rfl | assumption) (by omega) (by omega) ?_
                     refine bw_iload rfl rfl ?_
                     refine bw_iload rfl rfl ?_
                     refine bw_aload rfl rfl ?_
                     refine bw_getI rfl rfl ?_
                     rw [gI_sI_ne (show 567 ≠ 568 by decide)]
                     refine bw_icge rfl (fun c158 => ?_) (fun c158 => ?_)
                     · first
                       | (exfalso; omega)
                       | (refine bw_push rfl ?_
                          refine bw_isub rfl ⟨by omega, by omega⟩ ?_
                          refine bw_istore (ls2 := [_, _, _, _, _, _, _]) rfl rfl (Nat.le_of_ble_eq_true rfl) rfl ?_
                          refine bw_iinc (ls2 := [_, _, _, _, _, _, _]) rfl rfl rfl ⟨by omega, by omega⟩ rfl ?_
                          refine bw_goto rfl ?_
                          first
                          | (have kl := ltJ_I k1 (by omega)
                             refine ih23 _ _ _ _ (g1.wr _ _ rfl (by decide)) ?_ (Or.inl (lt_one kl (by omega))) (by omega) (HR_8 g5) (by omega)
                             have hc := SC.w (k := 1436 + 96 * l + f) (j := 430 + 96 * l + f) (x := h.2.1 k) g2 (by omega) (by omega)
                             rw [ltF_up hV (by omega) (lt_val hV kl (by omega))] at hc
                             exact hc)
                          | (obtain rfl : e = 1 := by omega
                             obtain rfl : k = h.1 := by omega
                             have kl := lt_re hV h1 k1
                             have k0 := (hV.2 0 (by omega) (by omega)).2
                             refine ih23 _ _ _ _ (g1.wr _ _ rfl (by decide)) ?_ (Or.inl (lt_one kl (by omega))) (by omega) (HR_8 g5) (by omega)
                             have hc := SC.w (k := 1436 + 96 * l + f) (j := 430 + 96 * l + f) (x := h.2.1 0) g2 (by omega) (by omega)
                             rw [ltF_up hV (by omega) (lt_val hV kl (by omega))] at hc
                             exact hc)
                          | (obtain rfl : e = 0 := by omega
                             obtain rfl : k = h.1 := by omega
                             refine ih23 _ _ _ _ (g1.wr _ _ rfl (by decide)) ?_ (lt_stay k1 (by decide)) (by omega) (HR_8 g5) (by omega)
                             have hc := SC.w (k := 1436 + 96 * l + f) (j := 430 + 96 * l + f) (x := h.2.1 (h.1 - 1)) g2 (by omega) (by omega)
                             rw [ltF_up hV (by omega) (lt_e0 k1)] at hc
                             exact hc)
                          | (obtain rfl : e = 2 := by omega
                             obtain rfl : k = h.1 := by omega
                             refine ih23 _ _ _ _ (g1.wr _ _ rfl (by decide)) ?_ (lt_stay k1 (by decide)) (by omega) (HR_8 g5) (by omega)
                             have hc := SC.w (k := 1436 + 96 * l + f) (j := 430 + 96 * l + f) (x := 0) g2 (by omega) (by omega)
                             rw [ltF_up hV (by omega) (lt_e2 k1)] at hc
                             exact hc))
                     · first
                       | (exfalso; omega)
                       | (refine bw_push rfl ?_
                          refine bw_goto rfl ?_
                          refine bw_isub rfl ⟨by omega, by omega⟩ ?_
                          refine bw_istore (ls2 := [_, _, _, _, _, _, _]) rfl rfl (Nat.le_of_ble_eq_true rfl) rfl ?_
                          refine bw_iinc (ls2 := [_, _, _, _, _, _, _]) rfl rfl rfl ⟨by omega, by omega⟩ rfl ?_
                          refine bw_goto rfl ?_
                          first
                          | (have kl := ltJ_I k1 (by omega)
                             refine ih23 _ _ _ _ (g1.wr _ _ rfl (by decide)) ?_ (Or.inl (lt_one kl (by omega))) (by omega) (HR_8 g5) (by omega)
                             have hc := SC.w (k := 1436 + 96 * l + f) (j := 430 + 96 * l + f) (x := h.2.1 k) g2 (by omega) (by omega)
                             rw [ltF_up hV (by omega) (lt_val hV kl (by omega))] at hc
                             exact hc)
                          | (obtain rfl : e = 1 := by omega
                             obtain rfl : k = h.1 := by omega
                             have kl := lt_re hV h1 k1
                             have k0 := (hV.2 0 (by omega) (by omega)).2
                             refine ih23 _ _ _ _ (g1.wr _ _ rfl (by decide)) ?_ (Or.inl (lt_one kl (by omega))) (by omega) (HR_8 g5) (by omega)
                             have hc := SC.w (k := 1436 + 96 * l + f) (j := 430 + 96 * l + f) (x := h.2.1 0) g2 (by omega) (by omega)
                             rw [ltF_up hV (by omega) (lt_val hV kl (by omega))] at hc
                             exact hc)
                          | (obtain rfl : e = 0 := by omega
                             obtain rfl : k = h.1 := by omega
                             refine ih23 _ _ _ _ (g1.wr _ _ rfl (by decide)) ?_ (lt_stay k1 (by decide)) (by omega) (HR_8 g5) (by omega)
                             have hc := SC.w (k := 1436 + 96 * l + f) (j := 430 + 96 * l + f) (x := h.2.1 (h.1 - 1)) g2 (by omega) (by omega)
                             rw [ltF_up hV (by omega) (lt_e0 k1)] at hc
                             exact hc)
                          | (obtain rfl : e = 2 := by omega
                             obtain rfl : k = h.1 := by omega
                             refine ih23 _ _ _ _ (g1.wr _ _ rfl (by decide)) ?_ (lt_stay k1 (by decide)) (by omega) (HR_8 g5) (by omega)
                             have hc := SC.w (k := 1436 + 96 * l + f) (j := 430 + 96 * l + f) (x := 0) g2 (by omega) (by omega)
                             rw [ltF_up hV (by omega) (lt_e2 k1)] at hc
                             exact hc)))
          · skip
            refine bw_iload rfl rfl ?_
            refine bw_aload rfl rfl ?_
            refine bw_getI rfl rfl ?_
            refine bw_icge rfl (fun c40 => ?_) (fun c40 => ?_)
            · skip
              refine bw_iload rfl rfl ?_
              refine bw_aload rfl rfl ?_
              refine bw_getI rfl rfl ?_
              refine bw_icne rfl (fun c77 => ?_) (fun c77 => ?_)
              · skip
                refine bw_aload rfl rfl ?_
                refine bw_getr rfl rfl (hR _ _) ?_
                refine bw_push rfl ?_
                refine bw_push rfl ?_
                refine bw_iload rfl rfl ?_
                refine bw_imul rfl ⟨by omega, by omega⟩ ?_
                refine bw_iadd rfl ⟨by omega, by omega⟩ ?_
                refine bw_iload rfl rfl ?_
                refine bw_iadd rfl ⟨by omega, by omega⟩ ?_
                refine bw_iload rfl rfl ?_
                refine bw_aload rfl rfl ?_
                refine bw_getI rfl rfl ?_
                refine bw_icge rfl (fun c117 => ?_) (fun c117 => ?_)
                · first
                  | (exfalso; omega)
                  | (refine bw_iload rfl rfl ?_
                     refine bw_ifne rfl (fun c131 => ?_) (fun c131 => ?_)
                     · first
                       | (exfalso; omega)
                       | (refine bw_push rfl ?_
                          refine bw_asti rfl (by first | rfl | assumption) (by omega) (by omega) ?_
                          refine bw_iload rfl rfl ?_
                          refine bw_iload rfl rfl ?_
                          refine bw_aload rfl rfl ?_
                          refine bw_getI rfl rfl ?_
                          rw [gI_sI_ne (show 567 ≠ 568 by decide)]
                          refine bw_icge rfl (fun c158 => ?_) (fun c158 => ?_)
                          · first
                            | (exfalso; omega)
                            | (refine bw_push rfl ?_
                               refine bw_isub rfl ⟨by omega, by omega⟩ ?_
                               refine bw_istore (ls2 := [_, _, _, _, _, _, _]) rfl rfl (Nat.le_of_ble_eq_true rfl) rfl ?_
                               refine bw_iinc (ls2 := [_, _, _, _, _, _, _]) rfl rfl rfl ⟨by omega, by omega⟩ rfl ?_
                               refine bw_goto rfl ?_
                               first
                               | (have kl := ltJ_I k1 (by omega)
                                  refine ih23 _ _ _ _ (g1.wr _ _ rfl (by decide)) ?_ (Or.inl (lt_one kl (by omega))) (by omega) (HR_8 g5) (by omega)
                                  have hc := SC.w (k := 1436 + 96 * l + f) (j := 430 + 96 * l + f) (x := h.2.1 k) g2 (by omega) (by omega)
                                  rw [ltF_up hV (by omega) (lt_val hV kl (by omega))] at hc
                                  exact hc)
                               | (obtain rfl : e = 1 := by omega
                                  obtain rfl : k = h.1 := by omega
                                  have kl := lt_re hV h1 k1
                                  have k0 := (hV.2 0 (by omega) (by omega)).2
                                  refine ih23 _ _ _ _ (g1.wr _ _ rfl (by decide)) ?_ (Or.inl (lt_one kl (by omega))) (by omega) (HR_8 g5) (by omega)
                                  have hc := SC.w (k := 1436 + 96 * l + f) (j := 430 + 96 * l + f) (x := h.2.1 0) g2 (by omega) (by omega)
                                  rw [ltF_up hV (by omega) (lt_val hV kl (by omega))] at hc
                                  exact hc)
                               | (obtain rfl : e = 0 := by omega
                                  obtain rfl : k = h.1 := by omega
                                  refine ih23 _ _ _ _ (g1.wr _ _ rfl (by decide)) ?_ (lt_stay k1 (by decide)) (by omega) (HR_8 g5) (by omega)
                                  have hc := SC.w (k := 1436 + 96 * l + f) (j := 430 + 96 * l + f) (x := h.2.1 (h.1 - 1)) g2 (by omega) (by omega)
                                  rw [ltF_up hV (by omega) (lt_e0 k1)] at hc
                                  exact hc)
                               | (obtain rfl : e = 2 := by omega
                                  obtain rfl : k = h.1 := by omega
                                  refine ih23 _ _ _ _ (g1.wr _ _ rfl (by decide)) ?_ (lt_stay k1 (by decide)) (by omega) (HR_8 g5) (by omega)
                                  have hc := SC.w (k := 1436 + 96 * l + f) (j := 430 + 96 * l + f) (x := 0) g2 (by omega) (by omega)
                                  rw [ltF_up hV (by omega) (lt_e2 k1)] at hc
                                  exact hc))
                          · first
                            | (exfalso; omega)
                            | (refine bw_push rfl ?_
                               refine bw_goto rfl ?_
                               refine bw_isub rfl ⟨by omega, by omega⟩ ?_
                               refine bw_istore (ls2 := [_, _, _, _, _, _, _]) rfl rfl (Nat.le_of_ble_eq_true rfl) rfl ?_
                               refine bw_iinc (ls2 := [_, _, _, _, _, _, _]) rfl rfl rfl ⟨by omega, by omega⟩ rfl ?_
                               refine bw_goto rfl ?_
                               first
                               | (have kl := ltJ_I k1 (by omega)
                                  refine ih23 _ _ _ _ (g1.wr _ _ rfl (by decide)) ?_ (Or.inl (lt_one kl (by omega))) (by omega) (HR_8 g5) (by omega)
                                  have hc := SC.w (k := 1436 + 96 * l + f) (j := 430 + 96 * l + f) (x := h.2.1 k) g2 (by omega) (by omega)
                                  rw [ltF_up hV (by omega) (lt_val hV kl (by omega))] at hc
                                  exact hc)
                               | (obtain rfl : e = 1 := by omega
                                  obtain rfl : k = h.1 := by omega
                                  have kl := lt_re hV h1 k1
                                  have k0 := (hV.2 0 (by omega) (by omega)).2
                                  refine ih23 _ _ _ _ (g1.wr _ _ rfl (by decide)) ?_ (Or.inl (lt_one kl (by omega))) (by omega) (HR_8 g5) (by omega)
                                  have hc := SC.w (k := 1436 + 96 * l + f) (j := 430 + 96 * l + f) (x := h.2.1 0) g2 (by omega) (by omega)
                                  rw [ltF_up hV (by omega) (lt_val hV kl (by omega))] at hc
                                  exact hc)
                               | (obtain rfl : e = 0 := by omega
                                  obtain rfl : k = h.1 := by omega
                                  refine ih23 _ _ _ _ (g1.wr _ _ rfl (by decide)) ?_ (lt_stay k1 (by decide)) (by omega) (HR_8 g5) (by omega)
                                  have hc := SC.w (k := 1436 + 96 * l + f) (j := 430 + 96 * l + f) (x := h.2.1 (h.1 - 1)) g2 (by omega) (by omega)
                                  rw [ltF_up hV (by omega) (lt_e0 k1)] at hc
                                  exact hc)
                               | (obtain rfl : e = 2 := by omega
                                  obtain rfl : k = h.1 := by omega
                                  refine ih23 _ _ _ _ (g1.wr _ _ rfl (by decide)) ?_ (lt_stay k1 (by decide)) (by omega) (HR_8 g5) (by omega)
                                  have hc := SC.w (k := 1436 + 96 * l + f) (j := 430 + 96 * l + f) (x := 0) g2 (by omega) (by omega)
                                  rw [ltF_up hV (by omega) (lt_e2 k1)] at hc
                                  exact hc)))
                     · first
                       | (exfalso; omega)
                       | (refine bw_aload rfl rfl ?_
                          refine bw_getr rfl rfl (hR _ _) ?_
                          refine bw_aload rfl rfl ?_
                          refine bw_getI rfl rfl ?_
                          refine bw_push rfl ?_
                          refine bw_isub rfl ⟨by omega, by omega⟩ ?_
                          refine bw_aldi rfl (by first | rfl | assumption) (by omega) (by omega) ?_
                          rw [show gI N 567 16 - 1 = h.1 - 1 by omega, (g5.2.2 (h.1 - 1) (by omega) (by omega) (by omega)).1]
                          refine bw_goto rfl ?_
                          refine bw_asti rfl (by first | rfl | assumption) (by omega) (by omega) ?_
                          refine bw_iload rfl rfl ?_
                          refine bw_iload rfl rfl ?_
                          refine bw_aload rfl rfl ?_
                          refine bw_getI rfl rfl ?_
                          rw [gI_sI_ne (show 567 ≠ 568 by decide)]
                          refine bw_icge rfl (fun c158 => ?_) (fun c158 => ?_)
                          · first
                            | (exfalso; omega)
                            | (refine bw_push rfl ?_
                               refine bw_isub rfl ⟨by omega, by omega⟩ ?_
                               refine bw_istore (ls2 := [_, _, _, _, _, _, _]) rfl rfl (Nat.le_of_ble_eq_true rfl) rfl ?_
                               refine bw_iinc (ls2 := [_, _, _, _, _, _, _]) rfl rfl rfl ⟨by omega, by omega⟩ rfl ?_
                               refine bw_goto rfl ?_
                               first
                               | (have kl := ltJ_I k1 (by omega)
                                  refine ih23 _ _ _ _ (g1.wr _ _ rfl (by decide)) ?_ (Or.inl (lt_one kl (by omega))) (by omega) (HR_8 g5) (by omega)
                                  have hc := SC.w (k := 1436 + 96 * l + f) (j := 430 + 96 * l + f) (x := h.2.1 k) g2 (by omega) (by omega)
                                  rw [ltF_up hV (by omega) (lt_val hV kl (by omega))] at hc
                                  exact hc)
                               | (obtain rfl : e = 1 := by omega
                                  obtain rfl : k = h.1 := by omega
                                  have kl := lt_re hV h1 k1
                                  have k0 := (hV.2 0 (by omega) (by omega)).2
                                  refine ih23 _ _ _ _ (g1.wr _ _ rfl (by decide)) ?_ (Or.inl (lt_one kl (by omega))) (by omega) (HR_8 g5) (by omega)
                                  have hc := SC.w (k := 1436 + 96 * l + f) (j := 430 + 96 * l + f) (x := h.2.1 0) g2 (by omega) (by omega)
                                  rw [ltF_up hV (by omega) (lt_val hV kl (by omega))] at hc
                                  exact hc)
                               | (obtain rfl : e = 0 := by omega
                                  obtain rfl : k = h.1 := by omega
                                  refine ih23 _ _ _ _ (g1.wr _ _ rfl (by decide)) ?_ (lt_stay k1 (by decide)) (by omega) (HR_8 g5) (by omega)
                                  have hc := SC.w (k := 1436 + 96 * l + f) (j := 430 + 96 * l + f) (x := h.2.1 (h.1 - 1)) g2 (by omega) (by omega)
                                  rw [ltF_up hV (by omega) (lt_e0 k1)] at hc
                                  exact hc)
                               | (obtain rfl : e = 2 := by omega
                                  obtain rfl : k = h.1 := by omega
                                  refine ih23 _ _ _ _ (g1.wr _ _ rfl (by decide)) ?_ (lt_stay k1 (by decide)) (by omega) (HR_8 g5) (by omega)
                                  have hc := SC.w (k := 1436 + 96 * l + f) (j := 430 + 96 * l + f) (x := 0) g2 (by omega) (by omega)
                                  rw [ltF_up hV (by omega) (lt_e2 k1)] at hc
                                  exact hc))
                          · first
                            | (exfalso; omega)
                            | (refine bw_push rfl ?_
                               refine bw_goto rfl ?_
                               refine bw_isub rfl ⟨by omega, by omega⟩ ?_
                               refine bw_istore (ls2 := [_, _, _, _, _, _, _]) rfl rfl (Nat.le_of_ble_eq_true rfl) rfl ?_
                               refine bw_iinc (ls2 := [_, _, _, _, _, _, _]) rfl rfl rfl ⟨by omega, by omega⟩ rfl ?_
                               refine bw_goto rfl ?_
                               first
                               | (have kl := ltJ_I k1 (by omega)
                                  refine ih23 _ _ _ _ (g1.wr _ _ rfl (by decide)) ?_ (Or.inl (lt_one kl (by omega))) (by omega) (HR_8 g5) (by omega)
                                  have hc := SC.w (k := 1436 + 96 * l + f) (j := 430 + 96 * l + f) (x := h.2.1 k) g2 (by omega) (by omega)
                                  rw [ltF_up hV (by omega) (lt_val hV kl (by omega))] at hc
                                  exact hc)
                               | (obtain rfl : e = 1 := by omega
                                  obtain rfl : k = h.1 := by omega
                                  have kl := lt_re hV h1 k1
                                  have k0 := (hV.2 0 (by omega) (by omega)).2
                                  refine ih23 _ _ _ _ (g1.wr _ _ rfl (by decide)) ?_ (Or.inl (lt_one kl (by omega))) (by omega) (HR_8 g5) (by omega)
                                  have hc := SC.w (k := 1436 + 96 * l + f) (j := 430 + 96 * l + f) (x := h.2.1 0) g2 (by omega) (by omega)
                                  rw [ltF_up hV (by omega) (lt_val hV kl (by omega))] at hc
                                  exact hc)
                               | (obtain rfl : e = 0 := by omega
                                  obtain rfl : k = h.1 := by omega
                                  refine ih23 _ _ _ _ (g1.wr _ _ rfl (by decide)) ?_ (lt_stay k1 (by decide)) (by omega) (HR_8 g5) (by omega)
                                  have hc := SC.w (k := 1436 + 96 * l + f) (j := 430 + 96 * l + f) (x := h.2.1 (h.1 - 1)) g2 (by omega) (by omega)
                                  rw [ltF_up hV (by omega) (lt_e0 k1)] at hc
                                  exact hc)
                               | (obtain rfl : e = 2 := by omega
                                  obtain rfl : k = h.1 := by omega
                                  refine ih23 _ _ _ _ (g1.wr _ _ rfl (by decide)) ?_ (lt_stay k1 (by decide)) (by omega) (HR_8 g5) (by omega)
                                  have hc := SC.w (k := 1436 + 96 * l + f) (j := 430 + 96 * l + f) (x := 0) g2 (by omega) (by omega)
                                  rw [ltF_up hV (by omega) (lt_e2 k1)] at hc
                                  exact hc))))
                · first
                  | (exfalso; omega)
                  | (refine bw_aload rfl rfl ?_
                     refine bw_getr rfl rfl (hR _ _) ?_
                     refine bw_iload rfl rfl ?_
                     refine bw_aldi rfl (by first | rfl | assumption) (by omega) (by omega) ?_
                     rw [(g5.2.2 _ (by omega) (by omega) (by omega)).1]
                     refine bw_goto rfl ?_
                     refine bw_asti rfl (by first | rfl | assumption) (by omega) (by omega) ?_
                     refine bw_iload rfl rfl ?_
                     refine bw_iload rfl rfl ?_
                     refine bw_aload rfl rfl ?_
                     refine bw_getI rfl rfl ?_
                     rw [gI_sI_ne (show 567 ≠ 568 by decide)]
                     refine bw_icge rfl (fun c158 => ?_) (fun c158 => ?_)
                     · first
                       | (exfalso; omega)
                       | (refine bw_push rfl ?_
                          refine bw_isub rfl ⟨by omega, by omega⟩ ?_
                          refine bw_istore (ls2 := [_, _, _, _, _, _, _]) rfl rfl (Nat.le_of_ble_eq_true rfl) rfl ?_
                          refine bw_iinc (ls2 := [_, _, _, _, _, _, _]) rfl rfl rfl ⟨by omega, by omega⟩ rfl ?_
                          refine bw_goto rfl ?_
                          first
                          | (have kl := ltJ_I k1 (by omega)
                             refine ih23 _ _ _ _ (g1.wr _ _ rfl (by decide)) ?_ (Or.inl (lt_one kl (by omega))) (by omega) (HR_8 g5) (by omega)
                             have hc := SC.w (k := 1436 + 96 * l + f) (j := 430 + 96 * l + f) (x := h.2.1 k) g2 (by omega) (by omega)
                             rw [ltF_up hV (by omega) (lt_val hV kl (by omega))] at hc
                             exact hc)
                          | (obtain rfl : e = 1 := by omega
                             obtain rfl : k = h.1 := by omega
                             have kl := lt_re hV h1 k1
                             have k0 := (hV.2 0 (by omega) (by omega)).2
                             refine ih23 _ _ _ _ (g1.wr _ _ rfl (by decide)) ?_ (Or.inl (lt_one kl (by omega))) (by omega) (HR_8 g5) (by omega)
                             have hc := SC.w (k := 1436 + 96 * l + f) (j := 430 + 96 * l + f) (x := h.2.1 0) g2 (by omega) (by omega)
                             rw [ltF_up hV (by omega) (lt_val hV kl (by omega))] at hc
                             exact hc)
                          | (obtain rfl : e = 0 := by omega
                             obtain rfl : k = h.1 := by omega
                             refine ih23 _ _ _ _ (g1.wr _ _ rfl (by decide)) ?_ (lt_stay k1 (by decide)) (by omega) (HR_8 g5) (by omega)
                             have hc := SC.w (k := 1436 + 96 * l + f) (j := 430 + 96 * l + f) (x := h.2.1 (h.1 - 1)) g2 (by omega) (by omega)
                             rw [ltF_up hV (by omega) (lt_e0 k1)] at hc
                             exact hc)
                          | (obtain rfl : e = 2 := by omega
                             obtain rfl : k = h.1 := by omega
                             refine ih23 _ _ _ _ (g1.wr _ _ rfl (by decide)) ?_ (lt_stay k1 (by decide)) (by omega) (HR_8 g5) (by omega)
                             have hc := SC.w (k := 1436 + 96 * l + f) (j := 430 + 96 * l + f) (x := 0) g2 (by omega) (by omega)
                             rw [ltF_up hV (by omega) (lt_e2 k1)] at hc
                             exact hc))
                     · first
                       | (exfalso; omega)
                       | (refine bw_push rfl ?_
                          refine bw_goto rfl ?_
                          refine bw_isub rfl ⟨by omega, by omega⟩ ?_
                          refine bw_istore (ls2 := [_, _, _, _, _, _, _]) rfl rfl (Nat.le_of_ble_eq_true rfl) rfl ?_
                          refine bw_iinc (ls2 := [_, _, _, _, _, _, _]) rfl rfl rfl ⟨by omega, by omega⟩ rfl ?_
                          refine bw_goto rfl ?_
                          first
                          | (have kl := ltJ_I k1 (by omega)
                             refine ih23 _ _ _ _ (g1.wr _ _ rfl (by decide)) ?_ (Or.inl (lt_one kl (by omega))) (by omega) (HR_8 g5) (by omega)
                             have hc := SC.w (k := 1436 + 96 * l + f) (j := 430 + 96 * l + f) (x := h.2.1 k) g2 (by omega) (by omega)
                             rw [ltF_up hV (by omega) (lt_val hV kl (by omega))] at hc
                             exact hc)
                          | (obtain rfl : e = 1 := by omega
                             obtain rfl : k = h.1 := by omega
                             have kl := lt_re hV h1 k1
                             have k0 := (hV.2 0 (by omega) (by omega)).2
                             refine ih23 _ _ _ _ (g1.wr _ _ rfl (by decide)) ?_ (Or.inl (lt_one kl (by omega))) (by omega) (HR_8 g5) (by omega)
                             have hc := SC.w (k := 1436 + 96 * l + f) (j := 430 + 96 * l + f) (x := h.2.1 0) g2 (by omega) (by omega)
                             rw [ltF_up hV (by omega) (lt_val hV kl (by omega))] at hc
                             exact hc)
                          | (obtain rfl : e = 0 := by omega
                             obtain rfl : k = h.1 := by omega
                             refine ih23 _ _ _ _ (g1.wr _ _ rfl (by decide)) ?_ (lt_stay k1 (by decide)) (by omega) (HR_8 g5) (by omega)
                             have hc := SC.w (k := 1436 + 96 * l + f) (j := 430 + 96 * l + f) (x := h.2.1 (h.1 - 1)) g2 (by omega) (by omega)
                             rw [ltF_up hV (by omega) (lt_e0 k1)] at hc
                             exact hc)
                          | (obtain rfl : e = 2 := by omega
                             obtain rfl : k = h.1 := by omega
                             refine ih23 _ _ _ _ (g1.wr _ _ rfl (by decide)) ?_ (lt_stay k1 (by decide)) (by omega) (HR_8 g5) (by omega)
                             have hc := SC.w (k := 1436 + 96 * l + f) (j := 430 + 96 * l + f) (x := 0) g2 (by omega) (by omega)
                             rw [ltF_up hV (by omega) (lt_e2 k1)] at hc
                             exact hc)))
              · skip
                refine bw_iload rfl rfl ?_
                refine bw_push rfl ?_
                refine bw_icne rfl (fun c82 => ?_) (fun c82 => ?_)
                · skip
                  refine bw_aload rfl rfl ?_
                  refine bw_getr rfl rfl (hR _ _) ?_
                  refine bw_push rfl ?_
                  refine bw_push rfl ?_
                  refine bw_iload rfl rfl ?_
                  refine bw_imul rfl ⟨by omega, by omega⟩ ?_
                  refine bw_iadd rfl ⟨by omega, by omega⟩ ?_
                  refine bw_iload rfl rfl ?_
                  refine bw_iadd rfl ⟨by omega, by omega⟩ ?_
                  refine bw_iload rfl rfl ?_
                  refine bw_aload rfl rfl ?_
                  refine bw_getI rfl rfl ?_
                  refine bw_icge rfl (fun c117 => ?_) (fun c117 => ?_)
                  · first
                    | (exfalso; omega)
                    | (refine bw_iload rfl rfl ?_
                       refine bw_ifne rfl (fun c131 => ?_) (fun c131 => ?_)
                       · first
                         | (exfalso; omega)
                         | (refine bw_push rfl ?_
                            refine bw_asti rfl (by first | rfl | assumption) (by omega) (by omega) ?_
                            refine bw_iload rfl rfl ?_
                            refine bw_iload rfl rfl ?_
                            refine bw_aload rfl rfl ?_
                            refine bw_getI rfl rfl ?_
                            rw [gI_sI_ne (show 567 ≠ 568 by decide)]
                            refine bw_icge rfl (fun c158 => ?_) (fun c158 => ?_)
                            · first
                              | (exfalso; omega)
                              | (refine bw_push rfl ?_
                                 refine bw_isub rfl ⟨by omega, by omega⟩ ?_
                                 refine bw_istore (ls2 := [_, _, _, _, _, _, _]) rfl rfl (Nat.le_of_ble_eq_true rfl) rfl ?_
                                 refine bw_iinc (ls2 := [_, _, _, _, _, _, _]) rfl rfl rfl ⟨by omega, by omega⟩ rfl ?_
                                 refine bw_goto rfl ?_
                                 first
                                 | (have kl := ltJ_I k1 (by omega)
                                    refine ih23 _ _ _ _ (g1.wr _ _ rfl (by decide)) ?_ (Or.inl (lt_one kl (by omega))) (by omega) (HR_8 g5) (by omega)
                                    have hc := SC.w (k := 1436 + 96 * l + f) (j := 430 + 96 * l + f) (x := h.2.1 k) g2 (by omega) (by omega)
                                    rw [ltF_up hV (by omega) (lt_val hV kl (by omega))] at hc
                                    exact hc)
                                 | (obtain rfl : e = 1 := by omega
                                    obtain rfl : k = h.1 := by omega
                                    have kl := lt_re hV h1 k1
                                    have k0 := (hV.2 0 (by omega) (by omega)).2
                                    refine ih23 _ _ _ _ (g1.wr _ _ rfl (by decide)) ?_ (Or.inl (lt_one kl (by omega))) (by omega) (HR_8 g5) (by omega)
                                    have hc := SC.w (k := 1436 + 96 * l + f) (j := 430 + 96 * l + f) (x := h.2.1 0) g2 (by omega) (by omega)
                                    rw [ltF_up hV (by omega) (lt_val hV kl (by omega))] at hc
                                    exact hc)
                                 | (obtain rfl : e = 0 := by omega
                                    obtain rfl : k = h.1 := by omega
                                    refine ih23 _ _ _ _ (g1.wr _ _ rfl (by decide)) ?_ (lt_stay k1 (by decide)) (by omega) (HR_8 g5) (by omega)
                                    have hc := SC.w (k := 1436 + 96 * l + f) (j := 430 + 96 * l + f) (x := h.2.1 (h.1 - 1)) g2 (by omega) (by omega)
                                    rw [ltF_up hV (by omega) (lt_e0 k1)] at hc
                                    exact hc)
                                 | (obtain rfl : e = 2 := by omega
                                    obtain rfl : k = h.1 := by omega
                                    refine ih23 _ _ _ _ (g1.wr _ _ rfl (by decide)) ?_ (lt_stay k1 (by decide)) (by omega) (HR_8 g5) (by omega)
                                    have hc := SC.w (k := 1436 + 96 * l + f) (j := 430 + 96 * l + f) (x := 0) g2 (by omega) (by omega)
                                    rw [ltF_up hV (by omega) (lt_e2 k1)] at hc
                                    exact hc))
                            · first
                              | (exfalso; omega)
                              | (refine bw_push rfl ?_
                                 refine bw_goto rfl ?_
                                 refine bw_isub rfl ⟨by omega, by omega⟩ ?_
                                 refine bw_istore (ls2 := [_, _, _, _, _, _, _]) rfl rfl (Nat.le_of_ble_eq_true rfl) rfl ?_
                                 refine bw_iinc (ls2 := [_, _, _, _, _, _, _]) rfl rfl rfl ⟨by omega, by omega⟩ rfl ?_
                                 refine bw_goto rfl ?_
                                 first
                                 | (have kl := ltJ_I k1 (by omega)
                                    refine ih23 _ _ _ _ (g1.wr _ _ rfl (by decide)) ?_ (Or.inl (lt_one kl (by omega))) (by omega) (HR_8 g5) (by omega)
                                    have hc := SC.w (k := 1436 + 96 * l + f) (j := 430 + 96 * l + f) (x := h.2.1 k) g2 (by omega) (by omega)
                                    rw [ltF_up hV (by omega) (lt_val hV kl (by omega))] at hc
                                    exact hc)
                                 | (obtain rfl : e = 1 := by omega
                                    obtain rfl : k = h.1 := by omega
                                    have kl := lt_re hV h1 k1
                                    have k0 := (hV.2 0 (by omega) (by omega)).2
                                    refine ih23 _ _ _ _ (g1.wr _ _ rfl (by decide)) ?_ (Or.inl (lt_one kl (by omega))) (by omega) (HR_8 g5) (by omega)
                                    have hc := SC.w (k := 1436 + 96 * l + f) (j := 430 + 96 * l + f) (x := h.2.1 0) g2 (by omega) (by omega)
                                    rw [ltF_up hV (by omega) (lt_val hV kl (by omega))] at hc
                                    exact hc)
                                 | (obtain rfl : e = 0 := by omega
                                    obtain rfl : k = h.1 := by omega
                                    refine ih23 _ _ _ _ (g1.wr _ _ rfl (by decide)) ?_ (lt_stay k1 (by decide)) (by omega) (HR_8 g5) (by omega)
                                    have hc := SC.w (k := 1436 + 96 * l + f) (j := 430 + 96 * l + f) (x := h.2.1 (h.1 - 1)) g2 (by omega) (by omega)
                                    rw [ltF_up hV (by omega) (lt_e0 k1)] at hc
                                    exact hc)
                                 | (obtain rfl : e = 2 := by omega
                                    obtain rfl : k = h.1 := by omega
                                    refine ih23 _ _ _ _ (g1.wr _ _ rfl (by decide)) ?_ (lt_stay k1 (by decide)) (by omega) (HR_8 g5) (by omega)
                                    have hc := SC.w (k := 1436 + 96 * l + f) (j := 430 + 96 * l + f) (x := 0) g2 (by omega) (by omega)
                                    rw [ltF_up hV (by omega) (lt_e2 k1)] at hc
                                    exact hc)))
                       · first
                         | (exfalso; omega)
                         | (refine bw_aload rfl rfl ?_
                            refine bw_getr rfl rfl (hR _ _) ?_
                            refine bw_aload rfl rfl ?_
                            refine bw_getI rfl rfl ?_
                            refine bw_push rfl ?_
                            refine bw_isub rfl ⟨by omega, by omega⟩ ?_
                            refine bw_aldi rfl (by first | rfl | assumption) (by omega) (by omega) ?_
                            rw [show gI N 567 16 - 1 = h.1 - 1 by omega, (g5.2.2 (h.1 - 1) (by omega) (by omega) (by omega)).1]
                            refine bw_goto rfl ?_
                            refine bw_asti rfl (by first | rfl | assumption) (by omega) (by omega) ?_
                            refine bw_iload rfl rfl ?_
                            refine bw_iload rfl rfl ?_
                            refine bw_aload rfl rfl ?_
                            refine bw_getI rfl rfl ?_
                            rw [gI_sI_ne (show 567 ≠ 568 by decide)]
                            refine bw_icge rfl (fun c158 => ?_) (fun c158 => ?_)
                            · first
                              | (exfalso; omega)
                              | (refine bw_push rfl ?_
                                 refine bw_isub rfl ⟨by omega, by omega⟩ ?_
                                 refine bw_istore (ls2 := [_, _, _, _, _, _, _]) rfl rfl (Nat.le_of_ble_eq_true rfl) rfl ?_
                                 refine bw_iinc (ls2 := [_, _, _, _, _, _, _]) rfl rfl rfl ⟨by omega, by omega⟩ rfl ?_
                                 refine bw_goto rfl ?_
                                 first
                                 | (have kl := ltJ_I k1 (by omega)
                                    refine ih23 _ _ _ _ (g1.wr _ _ rfl (by decide)) ?_ (Or.inl (lt_one kl (by omega))) (by omega) (HR_8 g5) (by omega)
                                    have hc := SC.w (k := 1436 + 96 * l + f) (j := 430 + 96 * l + f) (x := h.2.1 k) g2 (by omega) (by omega)
                                    rw [ltF_up hV (by omega) (lt_val hV kl (by omega))] at hc
                                    exact hc)
                                 | (obtain rfl : e = 1 := by omega
                                    obtain rfl : k = h.1 := by omega
                                    have kl := lt_re hV h1 k1
                                    have k0 := (hV.2 0 (by omega) (by omega)).2
                                    refine ih23 _ _ _ _ (g1.wr _ _ rfl (by decide)) ?_ (Or.inl (lt_one kl (by omega))) (by omega) (HR_8 g5) (by omega)
                                    have hc := SC.w (k := 1436 + 96 * l + f) (j := 430 + 96 * l + f) (x := h.2.1 0) g2 (by omega) (by omega)
                                    rw [ltF_up hV (by omega) (lt_val hV kl (by omega))] at hc
                                    exact hc)
                                 | (obtain rfl : e = 0 := by omega
                                    obtain rfl : k = h.1 := by omega
                                    refine ih23 _ _ _ _ (g1.wr _ _ rfl (by decide)) ?_ (lt_stay k1 (by decide)) (by omega) (HR_8 g5) (by omega)
                                    have hc := SC.w (k := 1436 + 96 * l + f) (j := 430 + 96 * l + f) (x := h.2.1 (h.1 - 1)) g2 (by omega) (by omega)
                                    rw [ltF_up hV (by omega) (lt_e0 k1)] at hc
                                    exact hc)
                                 | (obtain rfl : e = 2 := by omega
                                    obtain rfl : k = h.1 := by omega
                                    refine ih23 _ _ _ _ (g1.wr _ _ rfl (by decide)) ?_ (lt_stay k1 (by decide)) (by omega) (HR_8 g5) (by omega)
                                    have hc := SC.w (k := 1436 + 96 * l + f) (j := 430 + 96 * l + f) (x := 0) g2 (by omega) (by omega)
                                    rw [ltF_up hV (by omega) (lt_e2 k1)] at hc
                                    exact hc))
                            · first
                              | (exfalso; omega)
                              | (refine bw_push rfl ?_
                                 refine bw_goto rfl ?_
                                 refine bw_isub rfl ⟨by omega, by omega⟩ ?_
                                 refine bw_istore (ls2 := [_, _, _, _, _, _, _]) rfl rfl (Nat.le_of_ble_eq_true rfl) rfl ?_
                                 refine bw_iinc (ls2 := [_, _, _, _, _, _, _]) rfl rfl rfl ⟨by omega, by omega⟩ rfl ?_
                                 refine bw_goto rfl ?_
                                 first
                                 | (have kl := ltJ_I k1 (by omega)
                                    refine ih23 _ _ _ _ (g1.wr _ _ rfl (by decide)) ?_ (Or.inl (lt_one kl (by omega))) (by omega) (HR_8 g5) (by omega)
                                    have hc := SC.w (k := 1436 + 96 * l + f) (j := 430 + 96 * l + f) (x := h.2.1 k) g2 (by omega) (by omega)
                                    rw [ltF_up hV (by omega) (lt_val hV kl (by omega))] at hc
                                    exact hc)
                                 | (obtain rfl : e = 1 := by omega
                                    obtain rfl : k = h.1 := by omega
                                    have kl := lt_re hV h1 k1
                                    have k0 := (hV.2 0 (by omega) (by omega)).2
                                    refine ih23 _ _ _ _ (g1.wr _ _ rfl (by decide)) ?_ (Or.inl (lt_one kl (by omega))) (by omega) (HR_8 g5) (by omega)
                                    have hc := SC.w (k := 1436 + 96 * l + f) (j := 430 + 96 * l + f) (x := h.2.1 0) g2 (by omega) (by omega)
                                    rw [ltF_up hV (by omega) (lt_val hV kl (by omega))] at hc
                                    exact hc)
                                 | (obtain rfl : e = 0 := by omega
                                    obtain rfl : k = h.1 := by omega
                                    refine ih23 _ _ _ _ (g1.wr _ _ rfl (by decide)) ?_ (lt_stay k1 (by decide)) (by omega) (HR_8 g5) (by omega)
                                    have hc := SC.w (k := 1436 + 96 * l + f) (j := 430 + 96 * l + f) (x := h.2.1 (h.1 - 1)) g2 (by omega) (by omega)
                                    rw [ltF_up hV (by omega) (lt_e0 k1)] at hc
                                    exact hc)
                                 | (obtain rfl : e = 2 := by omega
                                    obtain rfl : k = h.1 := by omega
                                    refine ih23 _ _ _ _ (g1.wr _ _ rfl (by decide)) ?_ (lt_stay k1 (by decide)) (by omega) (HR_8 g5) (by omega)
                                    have hc := SC.w (k := 1436 + 96 * l + f) (j := 430 + 96 * l + f) (x := 0) g2 (by omega) (by omega)
                                    rw [ltF_up hV (by omega) (lt_e2 k1)] at hc
                                    exact hc))))
                  · first
                    | (exfalso; omega)
                    | (refine bw_aload rfl rfl ?_
                       refine bw_getr rfl rfl (hR _ _) ?_
                       refine bw_iload rfl rfl ?_
                       refine bw_aldi rfl (by first | rfl | assumption) (by omega) (by omega) ?_
                       rw [(g5.2.2 _ (by omega) (by omega) (by omega)).1]
                       refine bw_goto rfl ?_
                       refine bw_asti rfl (by first | rfl | assumption) (by omega) (by omega) ?_
                       refine bw_iload rfl rfl ?_
                       refine bw_iload rfl rfl ?_
                       refine bw_aload rfl rfl ?_
                       refine bw_getI rfl rfl ?_
                       rw [gI_sI_ne (show 567 ≠ 568 by decide)]
                       refine bw_icge rfl (fun c158 => ?_) (fun c158 => ?_)
                       · first
                         | (exfalso; omega)
                         | (refine bw_push rfl ?_
                            refine bw_isub rfl ⟨by omega, by omega⟩ ?_
                            refine bw_istore (ls2 := [_, _, _, _, _, _, _]) rfl rfl (Nat.le_of_ble_eq_true rfl) rfl ?_
                            refine bw_iinc (ls2 := [_, _, _, _, _, _, _]) rfl rfl rfl ⟨by omega, by omega⟩ rfl ?_
                            refine bw_goto rfl ?_
                            first
                            | (have kl := ltJ_I k1 (by omega)
                               refine ih23 _ _ _ _ (g1.wr _ _ rfl (by decide)) ?_ (Or.inl (lt_one kl (by omega))) (by omega) (HR_8 g5) (by omega)
                               have hc := SC.w (k := 1436 + 96 * l + f) (j := 430 + 96 * l + f) (x := h.2.1 k) g2 (by omega) (by omega)
                               rw [ltF_up hV (by omega) (lt_val hV kl (by omega))] at hc
                               exact hc)
                            | (obtain rfl : e = 1 := by omega
                               obtain rfl : k = h.1 := by omega
                               have kl := lt_re hV h1 k1
                               have k0 := (hV.2 0 (by omega) (by omega)).2
                               refine ih23 _ _ _ _ (g1.wr _ _ rfl (by decide)) ?_ (Or.inl (lt_one kl (by omega))) (by omega) (HR_8 g5) (by omega)
                               have hc := SC.w (k := 1436 + 96 * l + f) (j := 430 + 96 * l + f) (x := h.2.1 0) g2 (by omega) (by omega)
                               rw [ltF_up hV (by omega) (lt_val hV kl (by omega))] at hc
                               exact hc)
                            | (obtain rfl : e = 0 := by omega
                               obtain rfl : k = h.1 := by omega
                               refine ih23 _ _ _ _ (g1.wr _ _ rfl (by decide)) ?_ (lt_stay k1 (by decide)) (by omega) (HR_8 g5) (by omega)
                               have hc := SC.w (k := 1436 + 96 * l + f) (j := 430 + 96 * l + f) (x := h.2.1 (h.1 - 1)) g2 (by omega) (by omega)
                               rw [ltF_up hV (by omega) (lt_e0 k1)] at hc
                               exact hc)
                            | (obtain rfl : e = 2 := by omega
                               obtain rfl : k = h.1 := by omega
                               refine ih23 _ _ _ _ (g1.wr _ _ rfl (by decide)) ?_ (lt_stay k1 (by decide)) (by omega) (HR_8 g5) (by omega)
                               have hc := SC.w (k := 1436 + 96 * l + f) (j := 430 + 96 * l + f) (x := 0) g2 (by omega) (by omega)
                               rw [ltF_up hV (by omega) (lt_e2 k1)] at hc
                               exact hc))
                       · first
                         | (exfalso; omega)
                         | (refine bw_push rfl ?_
                            refine bw_goto rfl ?_
                            refine bw_isub rfl ⟨by omega, by omega⟩ ?_
                            refine bw_istore (ls2 := [_, _, _, _, _, _, _]) rfl rfl (Nat.le_of_ble_eq_true rfl) rfl ?_
                            refine bw_iinc (ls2 := [_, _, _, _, _, _, _]) rfl rfl rfl ⟨by omega, by omega⟩ rfl ?_
                            refine bw_goto rfl ?_
                            first
                            | (have kl := ltJ_I k1 (by omega)
                               refine ih23 _ _ _ _ (g1.wr _ _ rfl (by decide)) ?_ (Or.inl (lt_one kl (by omega))) (by omega) (HR_8 g5) (by omega)
                               have hc := SC.w (k := 1436 + 96 * l + f) (j := 430 + 96 * l + f) (x := h.2.1 k) g2 (by omega) (by omega)
                               rw [ltF_up hV (by omega) (lt_val hV kl (by omega))] at hc
                               exact hc)
                            | (obtain rfl : e = 1 := by omega
                               obtain rfl : k = h.1 := by omega
                               have kl := lt_re hV h1 k1
                               have k0 := (hV.2 0 (by omega) (by omega)).2
                               refine ih23 _ _ _ _ (g1.wr _ _ rfl (by decide)) ?_ (Or.inl (lt_one kl (by omega))) (by omega) (HR_8 g5) (by omega)
                               have hc := SC.w (k := 1436 + 96 * l + f) (j := 430 + 96 * l + f) (x := h.2.1 0) g2 (by omega) (by omega)
                               rw [ltF_up hV (by omega) (lt_val hV kl (by omega))] at hc
                               exact hc)
                            | (obtain rfl : e = 0 := by omega
                               obtain rfl : k = h.1 := by omega
                               refine ih23 _ _ _ _ (g1.wr _ _ rfl (by decide)) ?_ (lt_stay k1 (by decide)) (by omega) (HR_8 g5) (by omega)
                               have hc := SC.w (k := 1436 + 96 * l + f) (j := 430 + 96 * l + f) (x := h.2.1 (h.1 - 1)) g2 (by omega) (by omega)
                               rw [ltF_up hV (by omega) (lt_e0 k1)] at hc
                               exact hc)
                            | (obtain rfl : e = 2 := by omega
                               obtain rfl : k = h.1 := by omega
                               refine ih23 _ _ _ _ (g1.wr _ _ rfl (by decide)) ?_ (lt_stay k1 (by decide)) (by omega) (HR_8 g5) (by omega)
                               have hc := SC.w (k := 1436 + 96 * l + f) (j := 430 + 96 * l + f) (x := 0) g2 (by omega) (by omega)
                               rw [ltF_up hV (by omega) (lt_e2 k1)] at hc
                               exact hc)))
                · skip
                  refine bw_push rfl ?_
                  refine bw_istore (ls2 := [_, _, _, _, _, _, _]) rfl rfl (Nat.le_of_ble_eq_true rfl) rfl ?_
                  refine bw_aload rfl rfl ?_
                  refine bw_getr rfl rfl (hR _ _) ?_
                  refine bw_push rfl ?_
                  refine bw_aldi rfl (by first | rfl | assumption) (by omega) (by omega) ?_
                  rw [(g5.2.2 0 (by omega) (by omega) (by omega)).2]
                  refine bw_istore (ls2 := [_, _, _, _, _, _, _]) rfl rfl (Nat.le_of_ble_eq_true rfl) rfl ?_
                  refine bw_aload rfl rfl ?_
                  refine bw_getr rfl rfl (hR _ _) ?_
                  refine bw_push rfl ?_
                  refine bw_push rfl ?_
                  refine bw_iload rfl rfl ?_
                  refine bw_imul rfl ⟨by omega, by omega⟩ ?_
                  refine bw_iadd rfl ⟨by omega, by omega⟩ ?_
                  refine bw_iload rfl rfl ?_
                  refine bw_iadd rfl ⟨by omega, by omega⟩ ?_
                  refine bw_iload rfl rfl ?_
                  refine bw_aload rfl rfl ?_
                  refine bw_getI rfl rfl ?_
                  refine bw_icge rfl (fun c117 => ?_) (fun c117 => ?_)
                  · first
                    | (exfalso; omega)
                    | (refine bw_iload rfl rfl ?_
                       refine bw_ifne rfl (fun c131 => ?_) (fun c131 => ?_)
                       · first
                         | (exfalso; omega)
                         | (refine bw_push rfl ?_
                            refine bw_asti rfl (by first | rfl | assumption) (by omega) (by omega) ?_
                            refine bw_iload rfl rfl ?_
                            refine bw_iload rfl rfl ?_
                            refine bw_aload rfl rfl ?_
                            refine bw_getI rfl rfl ?_
                            rw [gI_sI_ne (show 567 ≠ 568 by decide)]
                            refine bw_icge rfl (fun c158 => ?_) (fun c158 => ?_)
                            · first
                              | (exfalso; omega)
                              | (refine bw_push rfl ?_
                                 refine bw_isub rfl ⟨by omega, by omega⟩ ?_
                                 refine bw_istore (ls2 := [_, _, _, _, _, _, _]) rfl rfl (Nat.le_of_ble_eq_true rfl) rfl ?_
                                 refine bw_iinc (ls2 := [_, _, _, _, _, _, _]) rfl rfl rfl ⟨by omega, by omega⟩ rfl ?_
                                 refine bw_goto rfl ?_
                                 first
                                 | (have kl := ltJ_I k1 (by omega)
                                    refine ih23 _ _ _ _ (g1.wr _ _ rfl (by decide)) ?_ (Or.inl (lt_one kl (by omega))) (by omega) (HR_8 g5) (by omega)
                                    have hc := SC.w (k := 1436 + 96 * l + f) (j := 430 + 96 * l + f) (x := h.2.1 k) g2 (by omega) (by omega)
                                    rw [ltF_up hV (by omega) (lt_val hV kl (by omega))] at hc
                                    exact hc)
                                 | (obtain rfl : e = 1 := by omega
                                    obtain rfl : k = h.1 := by omega
                                    have kl := lt_re hV h1 k1
                                    have k0 := (hV.2 0 (by omega) (by omega)).2
                                    refine ih23 _ _ _ _ (g1.wr _ _ rfl (by decide)) ?_ (Or.inl (lt_one kl (by omega))) (by omega) (HR_8 g5) (by omega)
                                    have hc := SC.w (k := 1436 + 96 * l + f) (j := 430 + 96 * l + f) (x := h.2.1 0) g2 (by omega) (by omega)
                                    rw [ltF_up hV (by omega) (lt_val hV kl (by omega))] at hc
                                    exact hc)
                                 | (obtain rfl : e = 0 := by omega
                                    obtain rfl : k = h.1 := by omega
                                    refine ih23 _ _ _ _ (g1.wr _ _ rfl (by decide)) ?_ (lt_stay k1 (by decide)) (by omega) (HR_8 g5) (by omega)
                                    have hc := SC.w (k := 1436 + 96 * l + f) (j := 430 + 96 * l + f) (x := h.2.1 (h.1 - 1)) g2 (by omega) (by omega)
                                    rw [ltF_up hV (by omega) (lt_e0 k1)] at hc
                                    exact hc)
                                 | (obtain rfl : e = 2 := by omega
                                    obtain rfl : k = h.1 := by omega
                                    refine ih23 _ _ _ _ (g1.wr _ _ rfl (by decide)) ?_ (lt_stay k1 (by decide)) (by omega) (HR_8 g5) (by omega)
                                    have hc := SC.w (k := 1436 + 96 * l + f) (j := 430 + 96 * l + f) (x := 0) g2 (by omega) (by omega)
                                    rw [ltF_up hV (by omega) (lt_e2 k1)] at hc
                                    exact hc))
                            · first
                              | (exfalso; omega)
                              | (refine bw_push rfl ?_
                                 refine bw_goto rfl ?_
                                 refine bw_isub rfl ⟨by omega, by omega⟩ ?_
                                 refine bw_istore (ls2 := [_, _, _, _, _, _, _]) rfl rfl (Nat.le_of_ble_eq_true rfl) rfl ?_
                                 refine bw_iinc (ls2 := [_, _, _, _, _, _, _]) rfl rfl rfl ⟨by omega, by omega⟩ rfl ?_
                                 refine bw_goto rfl ?_
                                 first
                                 | (have kl := ltJ_I k1 (by omega)
                                    refine ih23 _ _ _ _ (g1.wr _ _ rfl (by decide)) ?_ (Or.inl (lt_one kl (by omega))) (by omega) (HR_8 g5) (by omega)
                                    have hc := SC.w (k := 1436 + 96 * l + f) (j := 430 + 96 * l + f) (x := h.2.1 k) g2 (by omega) (by omega)
                                    rw [ltF_up hV (by omega) (lt_val hV kl (by omega))] at hc
                                    exact hc)
                                 | (obtain rfl : e = 1 := by omega
                                    obtain rfl : k = h.1 := by omega
                                    have kl := lt_re hV h1 k1
                                    have k0 := (hV.2 0 (by omega) (by omega)).2
                                    refine ih23 _ _ _ _ (g1.wr _ _ rfl (by decide)) ?_ (Or.inl (lt_one kl (by omega))) (by omega) (HR_8 g5) (by omega)
                                    have hc := SC.w (k := 1436 + 96 * l + f) (j := 430 + 96 * l + f) (x := h.2.1 0) g2 (by omega) (by omega)
                                    rw [ltF_up hV (by omega) (lt_val hV kl (by omega))] at hc
                                    exact hc)
                                 | (obtain rfl : e = 0 := by omega
                                    obtain rfl : k = h.1 := by omega
                                    refine ih23 _ _ _ _ (g1.wr _ _ rfl (by decide)) ?_ (lt_stay k1 (by decide)) (by omega) (HR_8 g5) (by omega)
                                    have hc := SC.w (k := 1436 + 96 * l + f) (j := 430 + 96 * l + f) (x := h.2.1 (h.1 - 1)) g2 (by omega) (by omega)
                                    rw [ltF_up hV (by omega) (lt_e0 k1)] at hc
                                    exact hc)
                                 | (obtain rfl : e = 2 := by omega
                                    obtain rfl : k = h.1 := by omega
                                    refine ih23 _ _ _ _ (g1.wr _ _ rfl (by decide)) ?_ (lt_stay k1 (by decide)) (by omega) (HR_8 g5) (by omega)
                                    have hc := SC.w (k := 1436 + 96 * l + f) (j := 430 + 96 * l + f) (x := 0) g2 (by omega) (by omega)
                                    rw [ltF_up hV (by omega) (lt_e2 k1)] at hc
                                    exact hc)))
                       · first
                         | (exfalso; omega)
                         | (refine bw_aload rfl rfl ?_
                            refine bw_getr rfl rfl (hR _ _) ?_
                            refine bw_aload rfl rfl ?_
                            refine bw_getI rfl rfl ?_
                            refine bw_push rfl ?_
                            refine bw_isub rfl ⟨by omega, by omega⟩ ?_
                            refine bw_aldi rfl (by first | rfl | assumption) (by omega) (by omega) ?_
                            rw [show gI N 567 16 - 1 = h.1 - 1 by omega, (g5.2.2 (h.1 - 1) (by omega) (by omega) (by omega)).1]
                            refine bw_goto rfl ?_
                            refine bw_asti rfl (by first | rfl | assumption) (by omega) (by omega) ?_
                            refine bw_iload rfl rfl ?_
                            refine bw_iload rfl rfl ?_
                            refine bw_aload rfl rfl ?_
                            refine bw_getI rfl rfl ?_
                            rw [gI_sI_ne (show 567 ≠ 568 by decide)]
                            refine bw_icge rfl (fun c158 => ?_) (fun c158 => ?_)
                            · first
                              | (exfalso; omega)
                              | (refine bw_push rfl ?_
                                 refine bw_isub rfl ⟨by omega, by omega⟩ ?_
                                 refine bw_istore (ls2 := [_, _, _, _, _, _, _]) rfl rfl (Nat.le_of_ble_eq_true rfl) rfl ?_
                                 refine bw_iinc (ls2 := [_, _, _, _, _, _, _]) rfl rfl rfl ⟨by omega, by omega⟩ rfl ?_
                                 refine bw_goto rfl ?_
                                 first
                                 | (have kl := ltJ_I k1 (by omega)
                                    refine ih23 _ _ _ _ (g1.wr _ _ rfl (by decide)) ?_ (Or.inl (lt_one kl (by omega))) (by omega) (HR_8 g5) (by omega)
                                    have hc := SC.w (k := 1436 + 96 * l + f) (j := 430 + 96 * l + f) (x := h.2.1 k) g2 (by omega) (by omega)
                                    rw [ltF_up hV (by omega) (lt_val hV kl (by omega))] at hc
                                    exact hc)
                                 | (obtain rfl : e = 1 := by omega
                                    obtain rfl : k = h.1 := by omega
                                    have kl := lt_re hV h1 k1
                                    have k0 := (hV.2 0 (by omega) (by omega)).2
                                    refine ih23 _ _ _ _ (g1.wr _ _ rfl (by decide)) ?_ (Or.inl (lt_one kl (by omega))) (by omega) (HR_8 g5) (by omega)
                                    have hc := SC.w (k := 1436 + 96 * l + f) (j := 430 + 96 * l + f) (x := h.2.1 0) g2 (by omega) (by omega)
                                    rw [ltF_up hV (by omega) (lt_val hV kl (by omega))] at hc
                                    exact hc)
                                 | (obtain rfl : e = 0 := by omega
                                    obtain rfl : k = h.1 := by omega
                                    refine ih23 _ _ _ _ (g1.wr _ _ rfl (by decide)) ?_ (lt_stay k1 (by decide)) (by omega) (HR_8 g5) (by omega)
                                    have hc := SC.w (k := 1436 + 96 * l + f) (j := 430 + 96 * l + f) (x := h.2.1 (h.1 - 1)) g2 (by omega) (by omega)
                                    rw [ltF_up hV (by omega) (lt_e0 k1)] at hc
                                    exact hc)
                                 | (obtain rfl : e = 2 := by omega
                                    obtain rfl : k = h.1 := by omega
                                    refine ih23 _ _ _ _ (g1.wr _ _ rfl (by decide)) ?_ (lt_stay k1 (by decide)) (by omega) (HR_8 g5) (by omega)
                                    have hc := SC.w (k := 1436 + 96 * l + f) (j := 430 + 96 * l + f) (x := 0) g2 (by omega) (by omega)
                                    rw [ltF_up hV (by omega) (lt_e2 k1)] at hc
                                    exact hc))
                            · first
                              | (exfalso; omega)
                              | (refine bw_push rfl ?_
                                 refine bw_goto rfl ?_
                                 refine bw_isub rfl ⟨by omega, by omega⟩ ?_
                                 refine bw_istore (ls2 := [_, _, _, _, _, _, _]) rfl rfl (Nat.le_of_ble_eq_true rfl) rfl ?_
                                 refine bw_iinc (ls2 := [_, _, _, _, _, _, _]) rfl rfl rfl ⟨by omega, by omega⟩ rfl ?_
                                 refine bw_goto rfl ?_
                                 first
                                 | (have kl := ltJ_I k1 (by omega)
                                    refine ih23 _ _ _ _ (g1.wr _ _ rfl (by decide)) ?_ (Or.inl (lt_one kl (by omega))) (by omega) (HR_8 g5) (by omega)
                                    have hc := SC.w (k := 1436 + 96 * l + f) (j := 430 + 96 * l + f) (x := h.2.1 k) g2 (by omega) (by omega)
                                    rw [ltF_up hV (by omega) (lt_val hV kl (by omega))] at hc
                                    exact hc)
                                 | (obtain rfl : e = 1 := by omega
                                    obtain rfl : k = h.1 := by omega
                                    have kl := lt_re hV h1 k1
                                    have k0 := (hV.2 0 (by omega) (by omega)).2
                                    refine ih23 _ _ _ _ (g1.wr _ _ rfl (by decide)) ?_ (Or.inl (lt_one kl (by omega))) (by omega) (HR_8 g5) (by omega)
                                    have hc := SC.w (k := 1436 + 96 * l + f) (j := 430 + 96 * l + f) (x := h.2.1 0) g2 (by omega) (by omega)
                                    rw [ltF_up hV (by omega) (lt_val hV kl (by omega))] at hc
                                    exact hc)
                                 | (obtain rfl : e = 0 := by omega
                                    obtain rfl : k = h.1 := by omega
                                    refine ih23 _ _ _ _ (g1.wr _ _ rfl (by decide)) ?_ (lt_stay k1 (by decide)) (by omega) (HR_8 g5) (by omega)
                                    have hc := SC.w (k := 1436 + 96 * l + f) (j := 430 + 96 * l + f) (x := h.2.1 (h.1 - 1)) g2 (by omega) (by omega)
                                    rw [ltF_up hV (by omega) (lt_e0 k1)] at hc
                                    exact hc)
                                 | (obtain rfl : e = 2 := by omega
                                    obtain rfl : k = h.1 := by omega
                                    refine ih23 _ _ _ _ (g1.wr _ _ rfl (by decide)) ?_ (lt_stay k1 (by decide)) (by omega) (HR_8 g5) (by omega)
                                    have hc := SC.w (k := 1436 + 96 * l + f) (j := 430 + 96 * l + f) (x := 0) g2 (by omega) (by omega)
                                    rw [ltF_up hV (by omega) (lt_e2 k1)] at hc
                                    exact hc))))
                  · first
                    | (exfalso; omega)
                    | (refine bw_aload rfl rfl ?_
                       refine bw_getr rfl rfl (hR _ _) ?_
                       refine bw_iload rfl rfl ?_
                       refine bw_aldi rfl (by first | rfl | assumption) (by omega) (by omega) ?_
                       rw [(g5.2.2 _ (by omega) (by omega) (by omega)).1]
                       refine bw_goto rfl ?_
                       refine bw_asti rfl (by first | rfl | assumption) (by omega) (by omega) ?_
                       refine bw_iload rfl rfl ?_
                       refine bw_iload rfl rfl ?_
                       refine bw_aload rfl rfl ?_
                       refine bw_getI rfl rfl ?_
                       rw [gI_sI_ne (show 567 ≠ 568 by decide)]
                       refine bw_icge rfl (fun c158 => ?_) (fun c158 => ?_)
                       · first
                         | (exfalso; omega)
                         | (refine bw_push rfl ?_
                            refine bw_isub rfl ⟨by omega, by omega⟩ ?_
                            refine bw_istore (ls2 := [_, _, _, _, _, _, _]) rfl rfl (Nat.le_of_ble_eq_true rfl) rfl ?_
                            refine bw_iinc (ls2 := [_, _, _, _, _, _, _]) rfl rfl rfl ⟨by omega, by omega⟩ rfl ?_
                            refine bw_goto rfl ?_
                            first
                            | (have kl := ltJ_I k1 (by omega)
                               refine ih23 _ _ _ _ (g1.wr _ _ rfl (by decide)) ?_ (Or.inl (lt_one kl (by omega))) (by omega) (HR_8 g5) (by omega)
                               have hc := SC.w (k := 1436 + 96 * l + f) (j := 430 + 96 * l + f) (x := h.2.1 k) g2 (by omega) (by omega)
                               rw [ltF_up hV (by omega) (lt_val hV kl (by omega))] at hc
                               exact hc)
                            | (obtain rfl : e = 1 := by omega
                               obtain rfl : k = h.1 := by omega
                               have kl := lt_re hV h1 k1
                               have k0 := (hV.2 0 (by omega) (by omega)).2
                               refine ih23 _ _ _ _ (g1.wr _ _ rfl (by decide)) ?_ (Or.inl (lt_one kl (by omega))) (by omega) (HR_8 g5) (by omega)
                               have hc := SC.w (k := 1436 + 96 * l + f) (j := 430 + 96 * l + f) (x := h.2.1 0) g2 (by omega) (by omega)
                               rw [ltF_up hV (by omega) (lt_val hV kl (by omega))] at hc
                               exact hc)
                            | (obtain rfl : e = 0 := by omega
                               obtain rfl : k = h.1 := by omega
                               refine ih23 _ _ _ _ (g1.wr _ _ rfl (by decide)) ?_ (lt_stay k1 (by decide)) (by omega) (HR_8 g5) (by omega)
                               have hc := SC.w (k := 1436 + 96 * l + f) (j := 430 + 96 * l + f) (x := h.2.1 (h.1 - 1)) g2 (by omega) (by omega)
                               rw [ltF_up hV (by omega) (lt_e0 k1)] at hc
                               exact hc)
                            | (obtain rfl : e = 2 := by omega
                               obtain rfl : k = h.1 := by omega
                               refine ih23 _ _ _ _ (g1.wr _ _ rfl (by decide)) ?_ (lt_stay k1 (by decide)) (by omega) (HR_8 g5) (by omega)
                               have hc := SC.w (k := 1436 + 96 * l + f) (j := 430 + 96 * l + f) (x := 0) g2 (by omega) (by omega)
                               rw [ltF_up hV (by omega) (lt_e2 k1)] at hc
                               exact hc))
                       · first
                         | (exfalso; omega)
                         | (refine bw_push rfl ?_
                            refine bw_goto rfl ?_
                            refine bw_isub rfl ⟨by omega, by omega⟩ ?_
                            refine bw_istore (ls2 := [_, _, _, _, _, _, _]) rfl rfl (Nat.le_of_ble_eq_true rfl) rfl ?_
                            refine bw_iinc (ls2 := [_, _, _, _, _, _, _]) rfl rfl rfl ⟨by omega, by omega⟩ rfl ?_
                            refine bw_goto rfl ?_
                            first
                            | (have kl := ltJ_I k1 (by omega)
                               refine ih23 _ _ _ _ (g1.wr _ _ rfl (by decide)) ?_ (Or.inl (lt_one kl (by omega))) (by omega) (HR_8 g5) (by omega)
                               have hc := SC.w (k := 1436 + 96 * l + f) (j := 430 + 96 * l + f) (x := h.2.1 k) g2 (by omega) (by omega)
                               rw [ltF_up hV (by omega) (lt_val hV kl (by omega))] at hc
                               exact hc)
                            | (obtain rfl : e = 1 := by omega
                               obtain rfl : k = h.1 := by omega
                               have kl := lt_re hV h1 k1
                               have k0 := (hV.2 0 (by omega) (by omega)).2
                               refine ih23 _ _ _ _ (g1.wr _ _ rfl (by decide)) ?_ (Or.inl (lt_one kl (by omega))) (by omega) (HR_8 g5) (by omega)
                               have hc := SC.w (k := 1436 + 96 * l + f) (j := 430 + 96 * l + f) (x := h.2.1 0) g2 (by omega) (by omega)
                               rw [ltF_up hV (by omega) (lt_val hV kl (by omega))] at hc
                               exact hc)
                            | (obtain rfl : e = 0 := by omega
                               obtain rfl : k = h.1 := by omega
                               refine ih23 _ _ _ _ (g1.wr _ _ rfl (by decide)) ?_ (lt_stay k1 (by decide)) (by omega) (HR_8 g5) (by omega)
                               have hc := SC.w (k := 1436 + 96 * l + f) (j := 430 + 96 * l + f) (x := h.2.1 (h.1 - 1)) g2 (by omega) (by omega)
                               rw [ltF_up hV (by omega) (lt_e0 k1)] at hc
                               exact hc)
                            | (obtain rfl : e = 2 := by omega
                               obtain rfl : k = h.1 := by omega
                               refine ih23 _ _ _ _ (g1.wr _ _ rfl (by decide)) ?_ (lt_stay k1 (by decide)) (by omega) (HR_8 g5) (by omega)
                               have hc := SC.w (k := 1436 + 96 * l + f) (j := 430 + 96 * l + f) (x := 0) g2 (by omega) (by omega)
                               rw [ltF_up hV (by omega) (lt_e2 k1)] at hc
                               exact hc)))
            · skip
              refine bw_iinc (ls2 := [_, _, _, _, _, _, _]) rfl rfl rfl ⟨by omega, by omega⟩ rfl ?_
              refine bw_iload rfl rfl ?_
              refine bw_aload rfl rfl ?_
              refine bw_getI rfl rfl ?_
              refine bw_icge rfl (fun c52 => ?_) (fun c52 => ?_)
              · skip
                refine bw_push rfl ?_
                refine bw_istore (ls2 := [_, _, _, _, _, _, _]) rfl rfl (Nat.le_of_ble_eq_true rfl) rfl ?_
                refine bw_goto rfl ?_
                obtain rfl : v = 0 := by omega
                have kn := lt_next hV (ltJ_I k1 (by omega))
                first
                | exact ih (k + 1) _ (Or.inl (kn.1 (by omega))) k2 (by omega)
                | exact ih (k + 1) 0 (kn.2 (by omega)) k2 (by omega)
              · skip
                refine bw_aload rfl rfl ?_
                refine bw_getr rfl rfl (hR _ _) ?_
                refine bw_iload rfl rfl ?_
                refine bw_aldi rfl (by first | rfl | assumption) (by omega) (by omega) ?_
                rw [(g5.2.2 (k + 1) (by omega) (by omega) (by omega)).2]
                refine bw_goto rfl ?_
                refine bw_istore (ls2 := [_, _, _, _, _, _, _]) rfl rfl (Nat.le_of_ble_eq_true rfl) rfl ?_
                refine bw_goto rfl ?_
                obtain rfl : v = 0 := by omega
                have kn := lt_next hV (ltJ_I k1 (by omega))
                first
                | exact ih (k + 1) _ (Or.inl (kn.1 (by omega))) k2 (by omega)
                | exact ih (k + 1) 0 (kn.2 (by omega)) k2 (by omega)
      refine bw_iload rfl rfl ?_
      refine bw_iload rfl rfl ?_
      refine bw_icge rfl (fun c26 => ?_) (fun c26 => ?_)
      · skip
        refine bw_retv rfl rfl ?_
        obtain rfl : f = S 0 := by omega
        exact ⟨rfl, rfl, g1, g2⟩
      · skip
        exact L29 ((h.1 - k).toNat + 1) k v g3 (by omega) (by omega)
  show abW d (0, 0) 175 0 [some (vr (some 567)), some (vi l), some (vi e), none, none, none, none] [] (0, 0) (A0 L) M (qV (A0 L) (fun N => s5 p8 qNo M N ∧ SC M N (ltF S h l e (S 0))))
  refine bw_aload rfl rfl ?_
  refine bw_getr rfl rfl (hR _ _) ?_
  refine bw_push rfl ?_
  refine bw_aldi rfl (by first | rfl | assumption) (by omega) (by omega) ?_
  rw [show gI M 568 1006 = S 0 from hS 0 (by decide) (by decide)]
  refine bw_istore (ls2 := [_, _, _, _, _, _, _]) rfl rfl (Nat.le_of_ble_eq_true rfl) rfl ?_
  refine bw_push rfl ?_
  refine bw_istore (ls2 := [_, _, _, _, _, _, _]) rfl rfl (Nat.le_of_ble_eq_true rfl) rfl ?_
  refine bw_aload rfl rfl ?_
  refine bw_getr rfl rfl (hR _ _) ?_
  refine bw_push rfl ?_
  refine bw_aldi rfl (by first | rfl | assumption) (by omega) (by omega) ?_
  rw [(H.2.2 0 (by omega) (by omega) (by omega)).2]
  refine bw_istore (ls2 := [_, _, _, _, _, _, _]) rfl rfl (Nat.le_of_ble_eq_true rfl) rfl ?_
  refine bw_push rfl ?_
  refine bw_istore (ls2 := [_, _, _, _, _, _, _]) rfl rfl (Nat.le_of_ble_eq_true rfl) rfl ?_
  refine L23 ((S 0).toNat + 1) M 0 0 (h.2.2 0) (s5_refl _ _ _) (by rw [ltF_0]; exact ⟨hS, fun _ _ => rfl⟩) (lt_start hV h1) (by omega) H (by omega)
