/-- without a fault there is no place of one -/
def WA (M : abMem) : Prop := gI M 567 11 = 0 → gI M 567 12 = -1
theorem WA_of {M N : abMem} (h : gI N 567 11 = gI M 567 11) (g : gI N 567 12 = gI M 567 12) (w : WA M) : WA N := fun k => g.trans (w (h.symm.trans k))
/-- the memory is the same but for the ints of the cells with p and the slots with q of 567 -/
def s5 (p : Nat → Prop) (q : Int → Prop) (M N : abMem) : Prop := N.2 = M.2 ∧ (∀ a : Nat, ¬ p a → a ≠ 567 → gI N a = gI M a) ∧ (∀ j : Int, ¬ q j → gI N 567 j = gI M 567 j) ∧ (WA M → WA N)
theorem s5_refl (p : Nat → Prop) (q : Int → Prop) (M : abMem) : s5 p q M M := ⟨rfl, fun _ _ _ => rfl, fun _ _ => rfl, fun w => w⟩
theorem sm.s5 {p : Nat → Prop} {M N : abMem} (h : sm p M N) (h5 : ¬ p 567) (q : Int → Prop) : s5 p q M N := ⟨h.1, fun a ha _ => h.2 a ha, fun j _ => by rw [h.2 567 h5], WA_of (by rw [h.2 567 h5]) (by rw [h.2 567 h5])⟩
theorem s5.at {p : Nat → Prop} {q : Int → Prop} {M N : abMem} (h : s5 p q M N) (a : Nat) (hp : ¬ p a) (h7 : a ≠ 567) : gI N a = gI M a := h.2.1 a hp h7
theorem s5.sl {p : Nat → Prop} {q : Int → Prop} {M N : abMem} (h : s5 p q M N) (j : Int) (hq : ¬ q j) : gI N 567 j = gI M 567 j := h.2.2.1 j hq
theorem s5.trans {p : Nat → Prop} {q : Int → Prop} {M N K : abMem} (h : s5 p q M N) (k : s5 p q N K) : s5 p q M K := ⟨k.1.trans h.1, fun a ha h7 => (k.2.1 a ha h7).trans (h.2.1 a ha h7), fun j hj => (k.2.2.1 j hj).trans (h.2.2.1 j hj), fun w => k.2.2.2 (h.2.2.2 w)⟩
theorem s5.mono {p p2 : Nat → Prop} {q q2 : Int → Prop} {M N : abMem} (h : s5 p q M N) (hp : ∀ a, p a → p2 a) (hq : ∀ j, q j → q2 j) : s5 p2 q2 M N := ⟨h.1, fun a ha h7 => h.2.1 a (fun k => ha (hp a k)) h7, fun j hj => h.2.2.1 j (fun k => hj (hq j k)), h.2.2.2⟩
theorem s5.wr {p : Nat → Prop} {q : Int → Prop} {M N : abMem} (h : s5 p q M N) {a : Nat} (j x : Int) (ha : p a) (h7 : a ≠ 567) : s5 p q M (sI N a j x) := ⟨h.1, fun b hb b7 => by rw [gI_sI_ne (fun hh => hb (by rw [hh]; exact ha))]; exact h.2.1 b hb b7, fun k hk => by rw [gI_sI_ne (fun hh => h7 hh.symm)]; exact h.2.2.1 k hk, fun w => WA_of (by rw [gI_sI_ne (fun hh => h7 hh.symm)]) (by rw [gI_sI_ne (fun hh => h7 hh.symm)]) (h.2.2.2 w)⟩
theorem s5.sI7 {p : Nat → Prop} {q : Int → Prop} {M N : abMem} (h : s5 p q M N) (j x : Int) (hj : q j) (hw : j ≠ 11 ∧ j ≠ 12 := by decide) : s5 p q M (sI N 567 j x) := ⟨h.1, fun b hb b7 => by rw [gI_sI_ne b7]; exact h.2.1 b hb b7, fun k hk => by rw [gI_sI_nj (fun hh => hk (by rw [hh]; exact hj))]; exact h.2.2.1 k hk, fun w => WA_of (gI_sI_nj (fun e => hw.1 e.symm)) (gI_sI_nj (fun e => hw.2 e.symm)) (h.2.2.2 w)⟩
theorem s5.fl {p : Nat → Prop} {q : Int → Prop} {M N : abMem} (h : s5 p q M N) (k x : Int) (hk : k ≠ 0) (h1 : q 11) (h2 : q 12) : s5 p q M (sI (sI N 567 11 k) 567 12 x) := ⟨h.1, fun b hb b7 => by rw [gI_sI_ne b7, gI_sI_ne b7]; exact h.2.1 b hb b7, fun i hi => by rw [gI_sI_nj (fun hh => hi (by rw [hh]; exact h2)), gI_sI_nj (fun hh => hi (by rw [hh]; exact h1))]; exact h.2.2.1 i hi, fun _ w => by rw [gI_sI_nj (by decide), gI_sI_eq] at w; exact absurd w hk⟩
theorem s5.RF {p : Nat → Prop} {q : Int → Prop} {M N : abMem} {r : abRf} (h : s5 p q M N) (hR : RF r M) : RF r N := fun a j => by
  show N.2.2 a j = _
  rw [h.1]
  exact hR a j
theorem s5.mR {p : Nat → Prop} {q : Int → Prop} {M N : abMem} (h : s5 p q M N) (hp : ¬ p 569) (i l : Int) : mR N i l = mR M i l := by
  funext f
  show gI N 569 _ = gI M 569 _
  rw [h.at 569 hp (by decide)]
theorem s5.RB {p : Nat → Prop} {q : Int → Prop} {M N : abMem} (h : s5 p q M N) (h1 : ¬ p 568) (h2 : ¬ p 569) (hB : RB M) : RB N := ⟨by rw [h.at 568 h1 (by decide)]; exact hB.sw, by rw [h.at 569 h2 (by decide)]; exact hB.sh⟩
theorem cAll_7 {M N : abMem} {a n j x : Int} (h : cAll M N a n) : cAll M (sI N 567 j x) a n := by
  intro f f0 f1 k k0 k1
  rw [gI_sI_ne (by decide), gI_sI_ne (by decide)]
  exact h f f0 f1 k k0 k1
theorem alk_refl (M : abMem) (a f : Int) : alk M a f f := fun _ _ _ => rfl
theorem alk_symm {M : abMem} {a f e : Int} (h : alk M a f e) : alk M a e f := fun k h1 h2 => (h k h1 h2).symm
theorem alk_trans {M : abMem} {a f e g : Int} (h : alk M a f e) (k : alk M a e g) : alk M a f g := fun j h1 h2 => (h j h1 h2).trans (k j h1 h2)
/-- alike from x on, y frames -/
def runE (E : Int → Int → Prop) (x y : Int) : Prop := ∀ j : Int, x ≤ j → j < x + y → E j x
/-- the longest row of like frames, the first such -/
def isStl (E : Int → Int → Prop) (n m b : Int) : Prop := (1 ≤ m ∧ 0 ≤ b ∧ b + m ≤ n ∧ runE E b m) ∧ ∀ x y : Int, 1 ≤ y → 0 ≤ x → x + y ≤ n → runE E x y → y ≤ m ∧ (y = m → b ≤ x)
theorem isStl_eq {E : Int → Int → Prop} {n m b u v : Int} (h : isStl E n m b) (k : isStl E n u v) : m = u ∧ b = v := by
  have h1 := h.2 v u k.1.1 k.1.2.1 k.1.2.2.1 k.1.2.2.2
  have k1 := k.2 b m h.1.1 h.1.2.1 h.1.2.2.1 h.1.2.2.2
  omega
theorem isStl_congr {E D : Int → Int → Prop} {n m b : Int} (h : isStl E n m b) (e : ∀ i j : Int, 0 ≤ i → i < n → 0 ≤ j → j < n → (E i j ↔ D i j)) : isStl D n m b := by
  refine ⟨⟨h.1.1, h.1.2.1, h.1.2.2.1, fun j h1 h2 => (e j b (by have := h.1; omega) (by have := h.1; omega) (by have := h.1; omega) (by have := h.1; omega)).mp (h.1.2.2.2 j h1 h2)⟩, fun x y h1 h2 h3 h4 => h.2 x y h1 h2 h3 (fun j h5 h6 => (e j x (by omega) (by omega) (by omega) (by omega)).mpr (h4 j h5 h6))⟩
def stI (E : Int → Int → Prop) (n s f m b : Int) : Prop := (∀ j : Int, s ≤ j → j < f → j < n → E j s) ∧ (∀ x y : Int, 1 ≤ y → 0 ≤ x → x + y ≤ s → runE E x y → y ≤ m ∧ (y = m → b ≤ x)) ∧ (m = 0 ∧ b = 0 ∧ s = 0 ∨ 1 ≤ m ∧ 0 ≤ b ∧ b + m ≤ s ∧ runE E b m) ∧ (∀ x : Int, 0 ≤ x → x < s → s < n → ¬ ∀ j : Int, x ≤ j → j ≤ s → E j x)
theorem stI_0 {E : Int → Int → Prop} {n : Int} (hr : ∀ j, E j j) : stI E n 0 1 0 0 := ⟨fun j h1 h2 _ => by rw [show j = 0 by omega]; exact hr 0, fun x y h1 h2 h3 _ => by omega, Or.inl ⟨rfl, rfl, rfl⟩, fun x h1 h2 _ => by omega⟩
theorem stI_ext {E : Int → Int → Prop} {n s f m b : Int} (h : stI E n s f m b) (he : E f s) : stI E n s (f + 1) m b := ⟨fun j h1 h2 h3 => by
  by_cases q : j = f
  · rw [q]; exact he
  · exact h.1 j h1 (by omega) h3, h.2⟩
theorem stI_brk {E : Int → Int → Prop} (hr : ∀ j, E j j) (hs : ∀ i j, E i j → E j i) (ht : ∀ i j k, E i j → E j k → E i k) {n s f m b : Int} (h : stI E n s f m b) (h0 : 0 ≤ s ∧ s < f ∧ f ≤ n) (hf : f = n ∨ ¬ E f s) {m2 b2 : Int} (hc : (m < f - s ∧ m2 = f - s ∧ b2 = s) ∨ (f - s ≤ m ∧ m2 = m ∧ b2 = b)) : stI E n f (f + 1) m2 b2 := by
  obtain ⟨hA, hB, hC, hD⟩ := h
  refine ⟨fun j h1 h2 _ => by rw [show j = f by omega]; exact hr f, fun x y h1 h2 h3 h4 => ?_, ?_, fun x h1 h2 h3 h4 => ?_⟩
  · by_cases q : x + y ≤ s
    · have := hB x y h1 h2 q h4; omega
    · have hx : s ≤ x := by
        by_cases q2 : s ≤ x
        · exact q2
        · exact absurd (fun j h5 h6 => h4 j h5 (by omega)) (hD x h2 (by omega) (by omega))
      omega
  · rcases hc with ⟨c1, c2, c3⟩ | ⟨c1, c2, c3⟩
    · refine Or.inr ⟨by omega, by omega, by omega, ?_⟩
      rw [c3]
      exact fun j h1 h2 => hA j h1 (by omega) (by omega)
    · rcases hC with hC | hC
      · omega
      · rw [c2, c3]
        exact Or.inr ⟨by omega, by omega, by omega, hC.2.2.2⟩
  · have hnE : ¬ E f s := hf.elim (fun e => absurd e (by omega)) id
    by_cases q : s ≤ x
    · exact hnE (ht _ _ _ (h4 f (by omega) (Int.le_refl _)) (hA x q h2 (by omega)))
    · exact hD x h1 (by omega) (by omega) (fun j h5 h6 => h4 j h5 (by omega))
theorem stI_end {E : Int → Int → Prop} {n f m b : Int} (h : stI E n n f m b) (hn : 1 ≤ n) : isStl E n m b := ⟨by
  rcases h.2.2.1 with q | q
  · omega
  · exact q, fun x y h1 h2 h3 h4 => h.2.1 x y h1 h2 h3 h4⟩
abbrev q29 (j : Int) : Prop := j = 29 ∨ j = 30
theorem q29_no {j : Int} (h : j ≠ 29 ∧ j ≠ 30) : ¬ q29 j := fun k => k.elim h.1 h.2
set_option maxRecDepth 20000 in
set_option maxHeartbeats 4000000 in
theorem m_findsStill {d L : Nat} {M : abMem} {r : abRf} (hR : RF r M) (hB : RB M) (hS : ∀ p : Int, 0 ≤ p → p < gI M 568 1 → 0 ≤ gI M 569 (0 + 576 + p) ∧ gI M 569 (0 + 576 + p) ≤ 5) (h1 : 1 ≤ gI M 568 0) (hd : 4 ≤ d) : abW d (0, 0) 243 0 (abEnt (abL 243) [vr (some 567)]) [] (0, 0) (A0 L) M (qV (A0 L) (fun N => s5 p58 q29 M N ∧ isStl (alk M 0) (gI M 568 0) (gI N 567 29) (gI N 567 30))) := by
  have b1 := hB.fr
  have b2 := hB.la
  have L19 : ∀ (kf : Nat) (N : abMem) (s f : Int), (s5 p58 q29 M N) → (cAll M N 0 (gI M 568 0)) → (stI (alk M 0) (gI M 568 0) s f (gI N 567 29) (gI N 567 30)) → (0 ≤ s ∧ s < f ∧ f ≤ gI M 568 0 + 1) → (f = gI M 568 0 + 1 → s = gI M 568 0) → ((gI M 568 0 + 1 - f).toNat) < kf → abW d (0, 0) 243 19 [some (vr (some 567)), some (vi s), some (vi f)] [] (0, 0) (A0 L) (N) (qV (A0 L) (fun N => s5 p58 q29 M N ∧ isStl (alk M 0) (gI M 568 0) (gI N 567 29) (gI N 567 30))) := by
    intro kf
    induction kf with
    | zero => intro N  s f  g1 g2 g3 g4 g5 hm9; exact absurd hm9 (Nat.not_lt_zero _)
    | succ kf ih19 =>
      intro N  s f  g1 g2 g3 g4 g5 hm19
      have ih := ih19
      have hR := g1.RF hR
      have hB := g1.RB (p58_no (by decide) (by decide)) (p58_no (by decide) (by decide)) hB
      have e568 := g1.at 568 (p58_no (by decide) (by decide)) (by decide)
      have e569 := g1.at 569 (p58_no (by decide) (by decide)) (by decide)
      have eR : ∀ i l : Int, mR N i l = mR M i l := g1.mR (p58_no (by decide) (by decide))
      refine bw_iload rfl rfl ?_
      refine bw_aload rfl rfl ?_
      refine bw_callVe (e := d - 1) (as := []) rfl (by omega) rfl rfl (Nat.le_of_ble_eq_true rfl) (Nat.le_of_ble_eq_true rfl) rfl (m_frames hR) ?_
      try simp only [e568, e569, eR]
      refine bw_icgt rfl (fun c24 => ?_) (fun c24 => ?_)
      · skip
        refine bw_retv rfl rfl ?_
        obtain rfl : s = gI M 568 0 := by omega
        exact ⟨rfl, rfl, g1, stI_end g3 h1⟩
      · skip
        refine bw_iload rfl rfl ?_
        refine bw_aload rfl rfl ?_
        refine bw_callVe (e := d - 1) (as := []) rfl (by omega) rfl rfl (Nat.le_of_ble_eq_true rfl) (Nat.le_of_ble_eq_true rfl) rfl (m_frames hR) ?_
        try simp only [e568, e569, eR]
        refine bw_icge rfl (fun c32 => ?_) (fun c32 => ?_)
        · skip
          refine bw_iload rfl rfl ?_
          refine bw_iload rfl rfl ?_
          refine bw_isub rfl ⟨by omega, by omega⟩ ?_
          refine bw_aload rfl rfl ?_
          refine bw_getI rfl rfl ?_
          try simp only [e568, e569, eR]
          refine bw_icle rfl (fun c54 => ?_) (fun c54 => ?_)
          · skip
            refine bw_iload rfl rfl ?_
            refine bw_istore (ls2 := [_, _, _]) rfl rfl (Nat.le_of_ble_eq_true rfl) rfl ?_
            refine bw_iinc (ls2 := [_, _, _]) rfl rfl rfl ⟨by omega, by omega⟩ rfl ?_
            refine bw_goto rfl ?_
            first
            | exact ih _ _ _ g1 g2 (stI_ext g3 ((alN_alk g2 ⟨by omega, by omega⟩ ⟨by omega, by omega⟩).mp (hr38.elim (fun q => q.1) (fun q => absurd q.2 (by omega))))) (by omega) (by omega) (by omega)
            | exact ih _ _ _ ((g1.sI7 29 _ (Or.inl rfl)).sI7 30 _ (Or.inr rfl)) (cAll_7 (cAll_7 g2)) (by rw [gI_sI_eq, gI_sI_nj (by decide), gI_sI_eq]; exact stI_brk (alk_refl M 0) (fun _ _ => alk_symm) (fun _ _ _ => alk_trans) g3 (by omega) (Or.inl (by omega)) (Or.inl ⟨by omega, rfl, rfl⟩)) (by omega) (by omega) (by omega)
            | exact ih _ _ _ ((g1.sI7 29 _ (Or.inl rfl)).sI7 30 _ (Or.inr rfl)) (cAll_7 (cAll_7 g2)) (by rw [gI_sI_eq, gI_sI_nj (by decide), gI_sI_eq]; exact stI_brk (alk_refl M 0) (fun _ _ => alk_symm) (fun _ _ _ => alk_trans) g3 (by omega) (Or.inr (fun h => hr38.elim (fun q => absurd q.2 (by omega)) (fun q => q.1 ((alN_alk g2 ⟨by omega, by omega⟩ ⟨by omega, by omega⟩).mpr h)))) (Or.inl ⟨by omega, rfl, rfl⟩)) (by omega) (by omega) (by omega)
            | exact ih _ _ _ g1 g2 (stI_brk (alk_refl M 0) (fun _ _ => alk_symm) (fun _ _ _ => alk_trans) g3 (by omega) (Or.inl (by omega)) (Or.inr ⟨by omega, rfl, rfl⟩)) (by omega) (by omega) (by omega)
            | exact ih _ _ _ g1 g2 (stI_brk (alk_refl M 0) (fun _ _ => alk_symm) (fun _ _ _ => alk_trans) g3 (by omega) (Or.inr (fun h => hr38.elim (fun q => absurd q.2 (by omega)) (fun q => q.1 ((alN_alk g2 ⟨by omega, by omega⟩ ⟨by omega, by omega⟩).mpr h)))) (Or.inr ⟨by omega, rfl, rfl⟩)) (by omega) (by omega) (by omega)
          · skip
            refine bw_aload rfl rfl ?_
            refine bw_iload rfl rfl ?_
            refine bw_iload rfl rfl ?_
            refine bw_isub rfl ⟨by omega, by omega⟩ ?_
            refine bw_putI rfl rfl ?_
            refine bw_aload rfl rfl ?_
            refine bw_iload rfl rfl ?_
            refine bw_putI rfl rfl ?_
            refine bw_iload rfl rfl ?_
            refine bw_istore (ls2 := [_, _, _]) rfl rfl (Nat.le_of_ble_eq_true rfl) rfl ?_
            refine bw_iinc (ls2 := [_, _, _]) rfl rfl rfl ⟨by omega, by omega⟩ rfl ?_
            refine bw_goto rfl ?_
            first
            | exact ih _ _ _ g1 g2 (stI_ext g3 ((alN_alk g2 ⟨by omega, by omega⟩ ⟨by omega, by omega⟩).mp (hr38.elim (fun q => q.1) (fun q => absurd q.2 (by omega))))) (by omega) (by omega) (by omega)
            | exact ih _ _ _ ((g1.sI7 29 _ (Or.inl rfl)).sI7 30 _ (Or.inr rfl)) (cAll_7 (cAll_7 g2)) (by rw [gI_sI_eq, gI_sI_nj (by decide), gI_sI_eq]; exact stI_brk (alk_refl M 0) (fun _ _ => alk_symm) (fun _ _ _ => alk_trans) g3 (by omega) (Or.inl (by omega)) (Or.inl ⟨by omega, rfl, rfl⟩)) (by omega) (by omega) (by omega)
            | exact ih _ _ _ ((g1.sI7 29 _ (Or.inl rfl)).sI7 30 _ (Or.inr rfl)) (cAll_7 (cAll_7 g2)) (by rw [gI_sI_eq, gI_sI_nj (by decide), gI_sI_eq]; exact stI_brk (alk_refl M 0) (fun _ _ => alk_symm) (fun _ _ _ => alk_trans) g3 (by omega) (Or.inr (fun h => hr38.elim (fun q => absurd q.2 (by omega)) (fun q => q.1 ((alN_alk g2 ⟨by omega, by omega⟩ ⟨by omega, by omega⟩).mpr h)))) (Or.inl ⟨by omega, rfl, rfl⟩)) (by omega) (by omega) (by omega)
            | exact ih _ _ _ g1 g2 (stI_brk (alk_refl M 0) (fun _ _ => alk_symm) (fun _ _ _ => alk_trans) g3 (by omega) (Or.inl (by omega)) (Or.inr ⟨by omega, rfl, rfl⟩)) (by omega) (by omega) (by omega)
            | exact ih _ _ _ g1 g2 (stI_brk (alk_refl M 0) (fun _ _ => alk_symm) (fun _ _ _ => alk_trans) g3 (by omega) (Or.inr (fun h => hr38.elim (fun q => absurd q.2 (by omega)) (fun q => q.1 ((alN_alk g2 ⟨by omega, by omega⟩ ⟨by omega, by omega⟩).mpr h)))) (Or.inr ⟨by omega, rfl, rfl⟩)) (by omega) (by omega) (by omega)
        · skip
          refine bw_aload rfl rfl ?_
          refine bw_iload rfl rfl ?_
          refine bw_iload rfl rfl ?_
          refine bw_callVj (e := d - 1) (as := [_, _]) rfl (by omega) rfl rfl (Nat.le_of_ble_eq_true rfl) (Nat.le_of_ble_eq_true rfl) rfl (m_areAlike hR (by omega) (by omega)) (fun r38 hr38 => ?_)
          try simp only [e568, e569, eR]
          refine bw_ifeq rfl (fun c41 => ?_) (fun c41 => ?_)
          · skip
            refine bw_iload rfl rfl ?_
            refine bw_iload rfl rfl ?_
            refine bw_isub rfl ⟨by omega, by omega⟩ ?_
            refine bw_aload rfl rfl ?_
            refine bw_getI rfl rfl ?_
            try simp only [e568, e569, eR]
            refine bw_icle rfl (fun c54 => ?_) (fun c54 => ?_)
            · skip
              refine bw_iload rfl rfl ?_
              refine bw_istore (ls2 := [_, _, _]) rfl rfl (Nat.le_of_ble_eq_true rfl) rfl ?_
              refine bw_iinc (ls2 := [_, _, _]) rfl rfl rfl ⟨by omega, by omega⟩ rfl ?_
              refine bw_goto rfl ?_
              first
              | exact ih _ _ _ g1 g2 (stI_ext g3 ((alN_alk g2 ⟨by omega, by omega⟩ ⟨by omega, by omega⟩).mp (hr38.elim (fun q => q.1) (fun q => absurd q.2 (by omega))))) (by omega) (by omega) (by omega)
              | exact ih _ _ _ ((g1.sI7 29 _ (Or.inl rfl)).sI7 30 _ (Or.inr rfl)) (cAll_7 (cAll_7 g2)) (by rw [gI_sI_eq, gI_sI_nj (by decide), gI_sI_eq]; exact stI_brk (alk_refl M 0) (fun _ _ => alk_symm) (fun _ _ _ => alk_trans) g3 (by omega) (Or.inl (by omega)) (Or.inl ⟨by omega, rfl, rfl⟩)) (by omega) (by omega) (by omega)
              | exact ih _ _ _ ((g1.sI7 29 _ (Or.inl rfl)).sI7 30 _ (Or.inr rfl)) (cAll_7 (cAll_7 g2)) (by rw [gI_sI_eq, gI_sI_nj (by decide), gI_sI_eq]; exact stI_brk (alk_refl M 0) (fun _ _ => alk_symm) (fun _ _ _ => alk_trans) g3 (by omega) (Or.inr (fun h => hr38.elim (fun q => absurd q.2 (by omega)) (fun q => q.1 ((alN_alk g2 ⟨by omega, by omega⟩ ⟨by omega, by omega⟩).mpr h)))) (Or.inl ⟨by omega, rfl, rfl⟩)) (by omega) (by omega) (by omega)
              | exact ih _ _ _ g1 g2 (stI_brk (alk_refl M 0) (fun _ _ => alk_symm) (fun _ _ _ => alk_trans) g3 (by omega) (Or.inl (by omega)) (Or.inr ⟨by omega, rfl, rfl⟩)) (by omega) (by omega) (by omega)
              | exact ih _ _ _ g1 g2 (stI_brk (alk_refl M 0) (fun _ _ => alk_symm) (fun _ _ _ => alk_trans) g3 (by omega) (Or.inr (fun h => hr38.elim (fun q => absurd q.2 (by omega)) (fun q => q.1 ((alN_alk g2 ⟨by omega, by omega⟩ ⟨by omega, by omega⟩).mpr h)))) (Or.inr ⟨by omega, rfl, rfl⟩)) (by omega) (by omega) (by omega)
            · skip
              refine bw_aload rfl rfl ?_
              refine bw_iload rfl rfl ?_
              refine bw_iload rfl rfl ?_
              refine bw_isub rfl ⟨by omega, by omega⟩ ?_
              refine bw_putI rfl rfl ?_
              refine bw_aload rfl rfl ?_
              refine bw_iload rfl rfl ?_
              refine bw_putI rfl rfl ?_
              refine bw_iload rfl rfl ?_
              refine bw_istore (ls2 := [_, _, _]) rfl rfl (Nat.le_of_ble_eq_true rfl) rfl ?_
              refine bw_iinc (ls2 := [_, _, _]) rfl rfl rfl ⟨by omega, by omega⟩ rfl ?_
              refine bw_goto rfl ?_
              first
              | exact ih _ _ _ g1 g2 (stI_ext g3 ((alN_alk g2 ⟨by omega, by omega⟩ ⟨by omega, by omega⟩).mp (hr38.elim (fun q => q.1) (fun q => absurd q.2 (by omega))))) (by omega) (by omega) (by omega)
              | exact ih _ _ _ ((g1.sI7 29 _ (Or.inl rfl)).sI7 30 _ (Or.inr rfl)) (cAll_7 (cAll_7 g2)) (by rw [gI_sI_eq, gI_sI_nj (by decide), gI_sI_eq]; exact stI_brk (alk_refl M 0) (fun _ _ => alk_symm) (fun _ _ _ => alk_trans) g3 (by omega) (Or.inl (by omega)) (Or.inl ⟨by omega, rfl, rfl⟩)) (by omega) (by omega) (by omega)
              | exact ih _ _ _ ((g1.sI7 29 _ (Or.inl rfl)).sI7 30 _ (Or.inr rfl)) (cAll_7 (cAll_7 g2)) (by rw [gI_sI_eq, gI_sI_nj (by decide), gI_sI_eq]; exact stI_brk (alk_refl M 0) (fun _ _ => alk_symm) (fun _ _ _ => alk_trans) g3 (by omega) (Or.inr (fun h => hr38.elim (fun q => absurd q.2 (by omega)) (fun q => q.1 ((alN_alk g2 ⟨by omega, by omega⟩ ⟨by omega, by omega⟩).mpr h)))) (Or.inl ⟨by omega, rfl, rfl⟩)) (by omega) (by omega) (by omega)
              | exact ih _ _ _ g1 g2 (stI_brk (alk_refl M 0) (fun _ _ => alk_symm) (fun _ _ _ => alk_trans) g3 (by omega) (Or.inl (by omega)) (Or.inr ⟨by omega, rfl, rfl⟩)) (by omega) (by omega) (by omega)
              | exact ih _ _ _ g1 g2 (stI_brk (alk_refl M 0) (fun _ _ => alk_symm) (fun _ _ _ => alk_trans) g3 (by omega) (Or.inr (fun h => hr38.elim (fun q => absurd q.2 (by omega)) (fun q => q.1 ((alN_alk g2 ⟨by omega, by omega⟩ ⟨by omega, by omega⟩).mpr h)))) (Or.inr ⟨by omega, rfl, rfl⟩)) (by omega) (by omega) (by omega)
          · skip
            refine bw_goto rfl ?_
            refine bw_iinc (ls2 := [_, _, _]) rfl rfl rfl ⟨by omega, by omega⟩ rfl ?_
            refine bw_goto rfl ?_
            first
            | exact ih _ _ _ g1 g2 (stI_ext g3 ((alN_alk g2 ⟨by omega, by omega⟩ ⟨by omega, by omega⟩).mp (hr38.elim (fun q => q.1) (fun q => absurd q.2 (by omega))))) (by omega) (by omega) (by omega)
            | exact ih _ _ _ ((g1.sI7 29 _ (Or.inl rfl)).sI7 30 _ (Or.inr rfl)) (cAll_7 (cAll_7 g2)) (by rw [gI_sI_eq, gI_sI_nj (by decide), gI_sI_eq]; exact stI_brk (alk_refl M 0) (fun _ _ => alk_symm) (fun _ _ _ => alk_trans) g3 (by omega) (Or.inl (by omega)) (Or.inl ⟨by omega, rfl, rfl⟩)) (by omega) (by omega) (by omega)
            | exact ih _ _ _ ((g1.sI7 29 _ (Or.inl rfl)).sI7 30 _ (Or.inr rfl)) (cAll_7 (cAll_7 g2)) (by rw [gI_sI_eq, gI_sI_nj (by decide), gI_sI_eq]; exact stI_brk (alk_refl M 0) (fun _ _ => alk_symm) (fun _ _ _ => alk_trans) g3 (by omega) (Or.inr (fun h => hr38.elim (fun q => absurd q.2 (by omega)) (fun q => q.1 ((alN_alk g2 ⟨by omega, by omega⟩ ⟨by omega, by omega⟩).mpr h)))) (Or.inl ⟨by omega, rfl, rfl⟩)) (by omega) (by omega) (by omega)
            | exact ih _ _ _ g1 g2 (stI_brk (alk_refl M 0) (fun _ _ => alk_symm) (fun _ _ _ => alk_trans) g3 (by omega) (Or.inl (by omega)) (Or.inr ⟨by omega, rfl, rfl⟩)) (by omega) (by omega) (by omega)
            | exact ih _ _ _ g1 g2 (stI_brk (alk_refl M 0) (fun _ _ => alk_symm) (fun _ _ _ => alk_trans) g3 (by omega) (Or.inr (fun h => hr38.elim (fun q => absurd q.2 (by omega)) (fun q => q.1 ((alN_alk g2 ⟨by omega, by omega⟩ ⟨by omega, by omega⟩).mpr h)))) (Or.inr ⟨by omega, rfl, rfl⟩)) (by omega) (by omega) (by omega)
  show abW d (0, 0) 243 0 [some (vr (some 567)), none, none] [] (0, 0) (A0 L) M (qV (A0 L) (fun N => s5 p58 q29 M N ∧ isStl (alk M 0) (gI M 568 0) (gI N 567 29) (gI N 567 30)))
  refine bw_aload rfl rfl ?_
  refine bw_push rfl ?_
  refine bw_callVv (e := d - 1) (as := [_]) rfl (by omega) rfl rfl (Nat.le_of_ble_eq_true rfl) (Nat.le_of_ble_eq_true rfl) rfl (m_composesAll hR hB (by omega) hS (by omega)) (fun M2 hM2 => ?_)
  obtain ⟨u2, v2⟩ := hM2
  have hR := u2.RF hR
  have hB := u2.RB (p58_no (by decide) (by decide)) (p58_no (by decide) (by decide)) hB
  have e568 := u2.at 568 (p58_no (by decide) (by decide))
  have e569 := u2.at 569 (p58_no (by decide) (by decide))
  have eR : ∀ i l : Int, mR M2 i l = mR M i l := u2.mR (p58_no (by decide) (by decide))
  refine bw_aload rfl rfl ?_
  refine bw_push rfl ?_
  refine bw_putI rfl rfl ?_
  refine bw_aload rfl rfl ?_
  refine bw_push rfl ?_
  refine bw_putI rfl rfl ?_
  refine bw_push rfl ?_
  refine bw_istore (ls2 := [_, _, _]) rfl rfl (Nat.le_of_ble_eq_true rfl) rfl ?_
  refine bw_push rfl ?_
  refine bw_istore (ls2 := [_, _, _]) rfl rfl (Nat.le_of_ble_eq_true rfl) rfl ?_
  exact L19 ((gI M 568 0).toNat + 1) (sI (sI M2 567 29 0) 567 30 0) 0 1 (((u2.s5 (p58_no (by decide) (by decide)) q29).sI7 29 0 (Or.inl rfl)).sI7 30 0 (Or.inr rfl)) (cAll_7 (cAll_7 v2)) (by rw [gI_sI_eq, gI_sI_nj (by decide), gI_sI_eq]; exact stI_0 (alk_refl M 0)) (by omega) (by omega) (by omega)
set_option maxRecDepth 20000 in
set_option maxHeartbeats 4000000 in
theorem m_still {d L : Nat} {M : abMem} {r : abRf} (hR : RF r M) (hB : RB M) (hS : ∀ p : Int, 0 ≤ p → p < gI M 568 1 → 0 ≤ gI M 569 (0 + 576 + p) ∧ gI M 569 (0 + 576 + p) ≤ 5) {w : Int} (hd : 5 ≤ d) : abW d (0, 0) 244 0 (abEnt (abL 244) [vr (some 567), vi w]) [] (0, 0) (A0 L) M (qI (A0 L) (fun x N => s5 p58 q29 M N ∧ ((1 ≤ gI M 568 0 ∧ 0 ≤ w ∧ w ≤ 1) ∧ (∃ m b : Int, isStl (alk M 0) (gI M 568 0) m b ∧ (w = 0 ∧ x = m ∨ w = 1 ∧ x = b)) ∨ ¬ (1 ≤ gI M 568 0 ∧ 0 ≤ w ∧ w ≤ 1) ∧ x = -1))) := by
  have b1 := hB.fr
  have b2 := hB.la
  show abW d (0, 0) 244 0 [some (vr (some 567)), some (vi w)] [] (0, 0) (A0 L) M (qI (A0 L) (fun x N => s5 p58 q29 M N ∧ ((1 ≤ gI M 568 0 ∧ 0 ≤ w ∧ w ≤ 1) ∧ (∃ m b : Int, isStl (alk M 0) (gI M 568 0) m b ∧ (w = 0 ∧ x = m ∨ w = 1 ∧ x = b)) ∨ ¬ (1 ≤ gI M 568 0 ∧ 0 ≤ w ∧ w ≤ 1) ∧ x = -1)))
  refine bw_aload rfl rfl ?_
  refine bw_callVe (e := d - 1) (as := []) rfl (by omega) rfl rfl (Nat.le_of_ble_eq_true rfl) (Nat.le_of_ble_eq_true rfl) rfl (m_frames hR) ?_
  refine bw_ifeq rfl (fun c4 => ?_) (fun c4 => ?_)
  · skip
    refine bw_push rfl ?_
    refine bw_ret rfl rfl ?_
    exact ⟨rfl, _, rfl, s5_refl _ _ _, Or.inr ⟨by omega, rfl⟩⟩
  · skip
    refine bw_iload rfl rfl ?_
    refine bw_push rfl ?_
    refine bw_push rfl ?_
    refine bw_callSj (e := d - 1) (as := [_, _, _]) rfl (by omega) rfl rfl (Nat.le_of_ble_eq_true rfl) (Nat.le_of_ble_eq_true rfl) (m_isIn hR) (fun r10 hr10 => ?_)
    refine bw_ifne rfl (fun c13 => ?_) (fun c13 => ?_)
    · skip
      refine bw_aload rfl rfl ?_
      refine bw_callVv (e := d - 1) (as := []) rfl (by omega) rfl rfl (Nat.le_of_ble_eq_true rfl) (Nat.le_of_ble_eq_true rfl) rfl (m_findsStill hR hB hS (by omega) (by omega)) (fun M19 hM19 => ?_)
      obtain ⟨u19, v19⟩ := hM19
      refine bw_iload rfl rfl ?_
      refine bw_ifne rfl (fun c23 => ?_) (fun c23 => ?_)
      · skip
        refine bw_aload rfl rfl ?_
        refine bw_getI rfl rfl ?_
        refine bw_ret rfl rfl ?_
        first
        | exact ⟨rfl, _, rfl, u19, Or.inl ⟨by omega, _, _, v19, Or.inl ⟨by omega, rfl⟩⟩⟩
        | exact ⟨rfl, _, rfl, u19, Or.inl ⟨by omega, _, _, v19, Or.inr ⟨by omega, rfl⟩⟩⟩
      · skip
        refine bw_aload rfl rfl ?_
        refine bw_getI rfl rfl ?_
        refine bw_goto rfl ?_
        refine bw_ret rfl rfl ?_
        first
        | exact ⟨rfl, _, rfl, u19, Or.inl ⟨by omega, _, _, v19, Or.inl ⟨by omega, rfl⟩⟩⟩
        | exact ⟨rfl, _, rfl, u19, Or.inl ⟨by omega, _, _, v19, Or.inr ⟨by omega, rfl⟩⟩⟩
    · skip
      refine bw_push rfl ?_
      refine bw_ret rfl rfl ?_
      exact ⟨rfl, _, rfl, s5_refl _ _ _, Or.inr ⟨by omega, rfl⟩⟩
