/-- the text on the tape -/
abbrev TX (M : abMem) (a : Int → Int) (n : Int) : Prop := (okA a n) ∧ (gI M 567 5 = n) ∧ (∀ k : Int, 0 ≤ k → k < n → gI M 571 k = a k) ∧ (∀ j : Int, 0 ≤ j → j < 94 → gI M 572 j = ownT j)
theorem TX.ok {M : abMem} {a : Int → Int} {n : Int} (h : TX M a n) : okA a n := h.1
theorem TX.tp {M : abMem} {a : Int → Int} {n : Int} (h : TX M a n) : gI M 567 5 = n := h.2.1
theorem TX.by {M : abMem} {a : Int → Int} {n : Int} (h : TX M a n) : ∀ k : Int, 0 ≤ k → k < n → gI M 571 k = a k := h.2.2.1
theorem TX.ow {M : abMem} {a : Int → Int} {n : Int} (h : TX M a n) : ∀ j : Int, 0 ≤ j → j < 94 → gI M 572 j = ownT j := h.2.2.2
/-- the memory is the same but for the ints of the cells with p and the slots with q of 567 -/
def f5 (p : Nat → Prop) (q : Int → Prop) (M N : abMem) : Prop := N.2 = M.2 ∧ (∀ a : Nat, ¬ p a → a ≠ 567 → gI N a = gI M a) ∧ (∀ j : Int, ¬ q j → gI N 567 j = gI M 567 j)
theorem s5.f {p : Nat → Prop} {q : Int → Prop} {M N : abMem} (h : s5 p q M N) : f5 p q M N := ⟨h.1, h.2.1, h.2.2.1⟩
theorem f5_refl (p : Nat → Prop) (q : Int → Prop) (M : abMem) : f5 p q M M := ⟨rfl, fun _ _ _ => rfl, fun _ _ => rfl⟩
theorem f5.at {p : Nat → Prop} {q : Int → Prop} {M N : abMem} (h : f5 p q M N) (a : Nat) (hp : ¬ p a) (h7 : a ≠ 567) : gI N a = gI M a := h.2.1 a hp h7
theorem f5.sl {p : Nat → Prop} {q : Int → Prop} {M N : abMem} (h : f5 p q M N) (j : Int) (hq : ¬ q j) : gI N 567 j = gI M 567 j := h.2.2 j hq
theorem f5.trans {p : Nat → Prop} {q : Int → Prop} {M N K : abMem} (h : f5 p q M N) (k : f5 p q N K) : f5 p q M K := ⟨k.1.trans h.1, fun a ha h7 => (k.2.1 a ha h7).trans (h.2.1 a ha h7), fun j hj => (k.2.2 j hj).trans (h.2.2 j hj)⟩
theorem f5.mono {p p2 : Nat → Prop} {q q2 : Int → Prop} {M N : abMem} (h : f5 p q M N) (hp : ∀ a, p a → p2 a) (hq : ∀ j, q j → q2 j) : f5 p2 q2 M N := ⟨h.1, fun a ha h7 => h.2.1 a (fun k => ha (hp a k)) h7, fun j hj => h.2.2 j (fun k => hj (hq j k))⟩
theorem f5.wr {p : Nat → Prop} {q : Int → Prop} {M N : abMem} (h : f5 p q M N) {a : Nat} (j x : Int) (ha : p a) (h7 : a ≠ 567) : f5 p q M (sI N a j x) := ⟨h.1, fun b hb b7 => by rw [gI_sI_ne (fun hh => hb (by rw [hh]; exact ha))]; exact h.2.1 b hb b7, fun k hk => by rw [gI_sI_ne (fun hh => h7 hh.symm)]; exact h.2.2 k hk⟩
theorem f5.s7 {p : Nat → Prop} {q : Int → Prop} {M N : abMem} (h : f5 p q M N) (j x : Int) (hj : q j) : f5 p q M (sI N 567 j x) := ⟨h.1, fun b hb b7 => by rw [gI_sI_ne b7]; exact h.2.1 b hb b7, fun k hk => by rw [gI_sI_nj (fun hh => hk (by rw [hh]; exact hj))]; exact h.2.2 k hk⟩
theorem f5.RF {p : Nat → Prop} {q : Int → Prop} {M N : abMem} {r : abRf} (h : f5 p q M N) (hR : RF r M) : RF r N := fun a j => by
  show N.2.2 a j = _
  rw [h.1]
  exact hR a j
abbrev qB (j : Int) : Prop := j = 5 ∨ j = 8 ∨ j = 9 ∨ j = 11 ∨ j = 12
abbrev qZ (j : Int) : Prop := j = 3 ∨ j = 5 ∨ j = 6 ∨ j = 7 ∨ j = 8 ∨ qR j
theorem qZ_R {j : Int} (h : qR j) : qZ j := Or.inr (Or.inr (Or.inr (Or.inr (Or.inr h))))
theorem qZ_B {j : Int} (h : qB j) : qZ j := by
  rcases h with h | h | h | h | h
  · exact Or.inr (Or.inl h)
  · exact Or.inr (Or.inr (Or.inr (Or.inr (Or.inl h))))
  · exact qZ_R (Or.inl h)
  · exact qZ_R (Or.inr (Or.inr (Or.inl h)))
  · exact qZ_R (Or.inr (Or.inr (Or.inr (Or.inl h))))
abbrev pZ (a : Nat) : Prop := a = 569 ∨ a = 570 ∨ pR a
theorem pZ_no {a : Nat} (h : a ≠ 568 ∧ a ≠ 569 ∧ a ≠ 570 ∧ a ≠ 573 ∧ a ≠ 574 ∧ a ≠ 575 ∧ a ≠ 576) : ¬ pZ a := fun k => k.elim h.2.1 (fun k => k.elim h.2.2.1 (fun k => pR_no ⟨h.1, h.2.2.2⟩ k))
theorem s5.fR {M N : abMem} (h : s5 pR qR M N) : f5 pZ qZ M N := h.f.mono (fun _ k => Or.inr (Or.inr k)) (fun _ k => qZ_R k)
theorem rs_wa {M : abMem} {a : Int → Int} {n p : Int} (h : rs M a n (.inr p)) (w : WA M) : gI M 567 12 = -1 := w h.1
set_option maxRecDepth 20000 in
set_option maxHeartbeats 4000000 in
theorem m_begins {d L : Nat} {M : abMem} {r : abRf} (hR : RF r M) {a : Int → Int} {n : Int} (hX : TX M a n) (hd : 2 ≤ d) : abW d (0, 0) 149 0 (abEnt (abL 149) [vr (some 567)]) [] (0, 0) (A0 L) M (qV (A0 L) (fun N => f5 pNo qB M N ∧ PS N a n ∧ gI N 567 5 = 0 ∧ gI N 567 11 = 0 ∧ gI N 567 12 = -1 ∧ gI N 567 9 = sk a n 0)) := by
  have x0 := hX.ok.1
  have x1 := hX.tp
  show abW d (0, 0) 149 0 [some (vr (some 567))] [] (0, 0) (A0 L) M (qV (A0 L) (fun N => f5 pNo qB M N ∧ PS N a n ∧ gI N 567 5 = 0 ∧ gI N 567 11 = 0 ∧ gI N 567 12 = -1 ∧ gI N 567 9 = sk a n 0))
  refine bw_aload rfl rfl ?_
  refine bw_aload rfl rfl ?_
  refine bw_getI rfl rfl ?_
  rw [x1]
  refine bw_putI rfl rfl ?_
  refine bw_aload rfl rfl ?_
  refine bw_push rfl ?_
  refine bw_putI rfl rfl ?_
  refine bw_aload rfl rfl ?_
  refine bw_push rfl ?_
  refine bw_putI rfl rfl ?_
  refine bw_aload rfl rfl ?_
  refine bw_push rfl ?_
  refine bw_putI rfl rfl ?_
  refine bw_aload rfl rfl ?_
  refine bw_push rfl ?_
  refine bw_putI rfl rfl ?_
  generalize hG : sI (sI (sI (sI (sI M 567 8 n) 567 5 0) 567 9 0) 567 11 0) 567 12 (-1) = G
  have hR : RF r G := by rw [← hG]; exact hR
  have g7 : f5 pNo qB M G := by rw [← hG]; exact (((((f5_refl _ _ _).s7 8 n (Or.inr (Or.inl rfl))).s7 5 0 (Or.inl rfl)).s7 9 0 (Or.inr (Or.inr (Or.inl rfl)))).s7 11 0 (Or.inr (Or.inr (Or.inr (Or.inl rfl))))).s7 12 (-1) (Or.inr (Or.inr (Or.inr (Or.inr rfl))))
  have e12 : gI G 567 12 = -1 := by rw [← hG, gI_sI_eq]
  have e11 : gI G 567 11 = 0 := by rw [← hG, gI_sI_nj (by decide), gI_sI_eq]
  have e9 : gI G 567 9 = 0 := by rw [← hG, gI_sI_nj (by decide), gI_sI_nj (by decide), gI_sI_eq]
  have e5 : gI G 567 5 = 0 := by rw [← hG, gI_sI_nj (by decide), gI_sI_nj (by decide), gI_sI_nj (by decide), gI_sI_eq]
  have e8 : gI G 567 8 = n := by rw [← hG, gI_sI_nj (by decide), gI_sI_nj (by decide), gI_sI_nj (by decide), gI_sI_nj (by decide), gI_sI_eq]
  have hP : PS G a n := ⟨hX.ok, e8, by rw [g7.at 571 (fun k => k) (by decide)]; exact hX.by, by rw [g7.at 572 (fun k => k) (by decide)]; exact hX.ow, by omega⟩
  refine bw_aload rfl rfl ?_
  refine bw_callVi (e := d - 1) (as := []) rfl (by omega) rfl rfl (Nat.le_of_ble_eq_true rfl) (Nat.le_of_ble_eq_true rfl) rfl (m_sees hR hP (by omega)) (fun r29 M29 hM29 => ?_)
  obtain ⟨u29, v29, w29⟩ := hM29
  rw [e9] at v29
  have s9 := sk_in hX.ok (k := 0) (by omega)
  refine bw_pop rfl ?_
  refine bw_retv rfl rfl ?_
  have t := s59_11 u29
  exact ⟨rfl, rfl, g7.trans (u29.f.mono (fun _ k => k) (fun _ k => Or.inr (Or.inr (Or.inl k)))), hP.to9 u29 (by omega), (u29.sl 5 (fun k => by have : (5 : Int) = 9 := k; omega)).trans e5, t.1.trans e11, t.2.1.trans e12, v29⟩
/-- what a text did -/
def scQ (M : abMem) (a : Int → Int) (n x : Int) (N : abMem) : Prop := (∃ e : Int × Int, isTx a n (.inl e) ∧ x = -1 ∧ (gI N 567 6 = e.1 ∧ gI N 567 7 = e.2) ∧ (∀ j : Int, j < 1006 → gI N 568 j = gI M 568 j) ∧ (gI N 569 = gI M 569 ∧ gI N 570 = gI M 570 ∧ gI N 567 3 = gI M 567 3)) ∨ (∃ S : Int → Int, isTx a n (.inr S) ∧ x = S 5 ∧ (gI N 567 6 = 0 ∧ gI N 567 7 = -1) ∧ SIm (gI N 568) 0 S ∧ (∀ j : Int, 0 ≤ j → j < 576 → gI N 569 j = S (430 + j)) ∧ (∀ k : Int, 0 ≤ k → k < 6 → gI N 569 (576 + k) = k) ∧ (∀ j : Int, 582 ≤ j → gI N 569 j = gI M 569 j) ∧ gI N 567 3 = 0 ∧ gI N 570 0 = 0 ∧ gI N 570 1 = 0)
set_option maxRecDepth 20000 in
set_option maxHeartbeats 4000000 in
theorem m_scene {d L : Nat} {M : abMem} {r : abRf} (hR : RF r M) {a : Int → Int} {n : Int} (hX : TX M a n) (hd : 11 ≤ d) : abW d (0, 0) 187 0 (abEnt (abL 187) [vr (some 567)]) [] (0, 0) (A0 L) M (qI (A0 L) (fun x N => f5 pZ qZ M N ∧ gI N 567 5 = 0 ∧ scQ M a n x N)) := by
  have hRM := hR
  have x0 := hX.ok.1
  have L177 : ∀ (kf : Nat) (K : abMem) (S : Int → Int) (k : Int), (f5 pZ qZ M K) → (isTx a n (.inr S)) → ((gI K 567 5 = 0 ∧ gI K 567 6 = 0 ∧ gI K 567 7 = -1)) → (SIm (gI K 568) 0 S) → (∀ j : Int, 0 ≤ j → j < 576 → gI K 569 j = S (430 + j)) → (0 ≤ k ∧ k ≤ 6) → (∀ j : Int, 582 ≤ j → gI K 569 j = gI M 569 j) → (∀ j : Int, 0 ≤ j → j < k → gI K 569 (576 + j) = j) → ((6 - k).toNat) < kf → abW d (0, 0) 187 177 [some (vr (some 567)), some (vi k)] [] (0, 0) (A0 L) (K) (qI (A0 L) (fun x N => f5 pZ qZ M N ∧ gI N 567 5 = 0 ∧ scQ M a n x N)) := by
    intro kf
    induction kf with
    | zero => intro K  S  k  g1 g2 g3 g4 g5 g6 g7 g8 hm9; exact absurd hm9 (Nat.not_lt_zero _)
    | succ kf ih177 =>
      intro K  S  k  g1 g2 g3 g4 g5 g6 g7 g8 hm177
      have ih := ih177
      have hR := g1.RF hRM
      refine bw_iload rfl rfl ?_
      refine bw_push rfl ?_
      refine bw_icge rfl (fun c180 => ?_) (fun c180 => ?_)
      · skip
        refine bw_aload rfl rfl ?_
        refine bw_push rfl ?_
        refine bw_putI rfl rfl ?_
        refine bw_aload rfl rfl ?_
        refine bw_getr rfl rfl (hR _ _) ?_
        refine bw_push rfl ?_
        refine bw_push rfl ?_
        refine bw_astz rfl (by first | rfl | assumption) (by omega) (by omega) (Or.inl rfl) ?_
        refine bw_aload rfl rfl ?_
        refine bw_getr rfl rfl (hR _ _) ?_
        refine bw_push rfl ?_
        refine bw_push rfl ?_
        refine bw_astz rfl (by first | rfl | assumption) (by omega) (by omega) (Or.inl rfl) ?_
        refine bw_aload rfl rfl ?_
        refine bw_getr rfl rfl (hR _ _) ?_
        refine bw_push rfl ?_
        refine bw_aldi rfl (by first | rfl | assumption) (by omega) (by omega) ?_
        rw [gI_sI_ne (show 568 ≠ 570 by decide), gI_sI_ne (show 568 ≠ 570 by decide), gI_sI_ne (show 568 ≠ 567 by decide), show gI K 568 5 = S 5 from g4 5 (by decide) (by decide)]
        refine bw_ret rfl rfl ?_
        obtain rfl : k = 6 := by omega
        refine ⟨rfl, _, rfl, ((g1.s7 3 _ (Or.inl rfl)).wr _ _ (Or.inr (Or.inl rfl)) (by decide)).wr _ _ (Or.inr (Or.inl rfl)) (by decide), ?_, Or.inr ⟨S, g2, rfl, ⟨?_, ?_⟩, ?_, fun j j1 j2 => ?_, fun j j1 j2 => ?_, fun j hj => ?_, ?_, ?_, ?_⟩⟩
        · rw [gI_sI_ne (by decide), gI_sI_ne (by decide), gI_sI_nj (by decide)]; exact g3.1
        · rw [gI_sI_ne (by decide), gI_sI_ne (by decide), gI_sI_nj (by decide)]; exact g3.2.1
        · rw [gI_sI_ne (by decide), gI_sI_ne (by decide), gI_sI_nj (by decide)]; exact g3.2.2
        · rw [gI_sI_ne (by decide), gI_sI_ne (by decide), gI_sI_ne (by decide)]; exact g4
        · rw [gI_sI_ne (by decide), gI_sI_ne (by decide), gI_sI_ne (by decide)]; exact g5 j j1 j2
        · rw [gI_sI_ne (by decide), gI_sI_ne (by decide), gI_sI_ne (by decide)]; exact g8 j j1 j2
        · rw [gI_sI_ne (by decide), gI_sI_ne (by decide), gI_sI_ne (by decide)]; exact g7 j hj
        · rw [gI_sI_ne (by decide), gI_sI_ne (by decide), gI_sI_eq]
        · rw [gI_sI_nj (by decide), gI_sI_eq]
        · rw [gI_sI_eq]
      · skip
        refine bw_aload rfl rfl ?_
        refine bw_getr rfl rfl (hR _ _) ?_
        refine bw_push rfl ?_
        refine bw_iload rfl rfl ?_
        refine bw_iadd rfl ⟨by omega, by omega⟩ ?_
        refine bw_iload rfl rfl ?_
        refine bw_asti rfl (by first | rfl | assumption) (by omega) (by omega) ?_
        refine bw_iinc (ls2 := [_, _]) rfl rfl rfl ⟨by omega, by omega⟩ rfl ?_
        refine bw_goto rfl ?_
        refine ih _ S (k + 1) (g1.wr _ _ (Or.inl rfl) (by decide)) g2 (by rw [gI_sI_ne (by decide)]; exact g3) (by rw [gI_sI_ne (by decide)]; exact g4) (fun j j1 j2 => by rw [gI_sI_nj (by omega)]; exact g5 j j1 j2) (by omega) (fun j hj => by rw [gI_sI_nj (by omega)]; exact g7 j hj) (fun j j1 j2 => ?_) (by omega)
        by_cases q : j = k
        · rw [q, gI_sI_eq]
        · rw [gI_sI_nj (by omega)]; exact g8 j j1 (by omega)
  have L146 : ∀ (kf : Nat) (K : abMem) (S : Int → Int) (k : Int), (f5 pZ qZ M K) → (isTx a n (.inr S)) → ((gI K 567 5 = 0 ∧ gI K 567 6 = 0 ∧ gI K 567 7 = -1)) → (SIm (gI K 568) 0 S) → (∀ j : Int, 0 ≤ j → j < k → gI K 569 j = S (430 + j)) → (0 ≤ k ∧ k ≤ 576) → (∀ j : Int, 582 ≤ j → gI K 569 j = gI M 569 j) → ((576 - k).toNat) < kf → abW d (0, 0) 187 146 [some (vr (some 567)), some (vi k)] [] (0, 0) (A0 L) (K) (qI (A0 L) (fun x N => f5 pZ qZ M N ∧ gI N 567 5 = 0 ∧ scQ M a n x N)) := by
    intro kf
    induction kf with
    | zero => intro K  S  k  g1 g2 g3 g4 g5 g6 g7 hm9; exact absurd hm9 (Nat.not_lt_zero _)
    | succ kf ih146 =>
      intro K  S  k  g1 g2 g3 g4 g5 g6 g7 hm146
      have ih := ih146
      have hR := g1.RF hRM
      refine bw_iload rfl rfl ?_
      refine bw_push rfl ?_
      refine bw_icge rfl (fun c150 => ?_) (fun c150 => ?_)
      · skip
        refine bw_push rfl ?_
        refine bw_istore (ls2 := [_, _]) rfl rfl (Nat.le_of_ble_eq_true rfl) rfl ?_
        obtain rfl : k = 576 := by omega
        refine L177 7 K S 0 g1 g2 g3 g4 g5 (by omega) g7 (fun j j1 j2 => by omega) (by omega)
      · skip
        refine bw_aload rfl rfl ?_
        refine bw_getr rfl rfl (hR _ _) ?_
        refine bw_iload rfl rfl ?_
        refine bw_aload rfl rfl ?_
        refine bw_getr rfl rfl (hR _ _) ?_
        refine bw_push rfl ?_
        refine bw_iload rfl rfl ?_
        refine bw_iadd rfl ⟨by omega, by omega⟩ ?_
        refine bw_aldi rfl (by first | rfl | assumption) (by omega) (by omega) ?_
        rw [show gI K 568 (430 + k) = S (430 + k) from by have := g4 (430 + k) (by omega) (by omega); rw [Int.zero_add] at this; exact this]
        refine bw_asti rfl (by first | rfl | assumption) (by omega) (by omega) ?_
        refine bw_iinc (ls2 := [_, _]) rfl rfl rfl ⟨by omega, by omega⟩ rfl ?_
        refine bw_goto rfl ?_
        refine ih _ S (k + 1) (g1.wr _ _ (Or.inl rfl) (by decide)) g2 (by rw [gI_sI_ne (by decide)]; exact g3) (by rw [gI_sI_ne (by decide)]; exact g4) (fun j j1 j2 => ?_) (by omega) (fun j hj => by rw [gI_sI_nj (by omega)]; exact g7 j hj) (by omega)
        by_cases q : j = k
        · rw [q, gI_sI_eq]
        · rw [gI_sI_nj q]; exact g5 j j1 (by omega)
  have L115 : ∀ (kf : Nat) (K : abMem) (S : Int → Int) (k : Int), (f5 pZ qZ M K) → (isTx a n (.inr S)) → ((gI K 567 5 = 0 ∧ gI K 567 6 = 0 ∧ gI K 567 7 = -1)) → (SIm (gI K 568) 1006 S) → (∀ j : Int, 0 ≤ j → j < k → gI K 568 (0 + j) = S j) → (0 ≤ k ∧ k ≤ 1006) → (gI K 569 = gI M 569) → ((1006 - k).toNat) < kf → abW d (0, 0) 187 115 [some (vr (some 567)), some (vi k)] [] (0, 0) (A0 L) (K) (qI (A0 L) (fun x N => f5 pZ qZ M N ∧ gI N 567 5 = 0 ∧ scQ M a n x N)) := by
    intro kf
    induction kf with
    | zero => intro K  S  k  g1 g2 g3 g4 g5 g6 g7 hm9; exact absurd hm9 (Nat.not_lt_zero _)
    | succ kf ih115 =>
      intro K  S  k  g1 g2 g3 g4 g5 g6 g7 hm115
      have ih := ih115
      have hR := g1.RF hRM
      refine bw_iload rfl rfl ?_
      refine bw_push rfl ?_
      refine bw_icge rfl (fun c119 => ?_) (fun c119 => ?_)
      · skip
        refine bw_push rfl ?_
        refine bw_istore (ls2 := [_, _]) rfl rfl (Nat.le_of_ble_eq_true rfl) rfl ?_
        obtain rfl : k = 1006 := by omega
        refine L146 577 K S 0 g1 g2 g3 g5 (fun j j1 j2 => by omega) (by omega) (fun j _ => by rw [g7]) (by omega)
      · skip
        refine bw_aload rfl rfl ?_
        refine bw_getr rfl rfl (hR _ _) ?_
        refine bw_iload rfl rfl ?_
        refine bw_aload rfl rfl ?_
        refine bw_getr rfl rfl (hR _ _) ?_
        refine bw_push rfl ?_
        refine bw_iload rfl rfl ?_
        refine bw_iadd rfl ⟨by omega, by omega⟩ ?_
        refine bw_aldi rfl (by first | rfl | assumption) (by omega) (by omega) ?_
        rw [g4 k (by omega) (by omega)]
        refine bw_asti rfl (by first | rfl | assumption) (by omega) (by omega) ?_
        refine bw_iinc (ls2 := [_, _]) rfl rfl rfl ⟨by omega, by omega⟩ rfl ?_
        refine bw_goto rfl ?_
        refine ih _ S (k + 1) (g1.wr _ _ (Or.inr (Or.inr (Or.inl rfl))) (by decide)) g2 (by rw [gI_sI_ne (by decide)]; exact g3) (fun j j1 j2 => by rw [gI_sI_nj (by omega)]; exact g4 j j1 j2) (fun j j1 j2 => ?_) (by omega) (by rw [gI_sI_ne (by decide)]; exact g7) (by omega)
        by_cases q : j = k
        · rw [show 0 + j = k by omega, gI_sI_eq, q]
        · rw [gI_sI_nj (by omega)]; exact g5 j j1 (by omega)
  have L88 : ∀ (kf : Nat) (K : abMem), (f5 pZ qZ M K) → ((∀ j : Int, j < 1006 → gI K 568 j = gI M 568 j)) → ((gI K 567 5 = 0 ∧ (gI K 569 = gI M 569 ∧ gI K 570 = gI M 570 ∧ gI K 567 3 = gI M 567 3))) → ((∃ e : Int × Int, isTx a n (.inl e) ∧ gI K 567 11 = e.1 ∧ gI K 567 12 = e.2 ∧ e.1 ≠ 0) ∨ (∃ S : Int → Int, isTx a n (.inr S) ∧ gI K 567 11 = 0 ∧ gI K 567 12 = -1 ∧ SIm (gI K 568) 1006 S)) → (0) < kf → abW d (0, 0) 187 88 [some (vr (some 567)), none] [] (0, 0) (A0 L) (K) (qI (A0 L) (fun x N => f5 pZ qZ M N ∧ gI N 567 5 = 0 ∧ scQ M a n x N)) := by
    intro kf
    induction kf with
    | zero => intro K  g1 g2 g3 g4 hm9; exact absurd hm9 (Nat.not_lt_zero _)
    | succ kf ih88 =>
      intro K  g1 g2 g3 g4 hm88
      have ih := ih88
      have hR := g1.RF hRM
      rcases g4 with ⟨e, k5, k6, k7, k8⟩ | ⟨S, k5, k6, k7, k8⟩
      · refine bw_aload rfl rfl ?_
        refine bw_aload rfl rfl ?_
        refine bw_getI rfl rfl ?_
        refine bw_putI rfl rfl ?_
        refine bw_aload rfl rfl ?_
        refine bw_aload rfl rfl ?_
        refine bw_getI rfl rfl ?_
        rw [gI_sI_nj (show (12 : Int) ≠ 6 by decide)]
        refine bw_putI rfl rfl ?_
        refine bw_aload rfl rfl ?_
        refine bw_getI rfl rfl ?_
        rw [gI_sI_nj (show (11 : Int) ≠ 7 by decide), gI_sI_nj (show (11 : Int) ≠ 6 by decide)]
        refine bw_ifeq rfl (fun c108 => ?_) (fun c108 => ?_)
        · first
          | (exfalso; omega)
          | (refine bw_push rfl ?_
             refine bw_istore (ls2 := [_, _]) rfl rfl (Nat.le_of_ble_eq_true rfl) rfl ?_
             refine L115 1007 _ S 0 ((g1.s7 6 _ (Or.inr (Or.inr (Or.inl rfl)))).s7 7 _ (Or.inr (Or.inr (Or.inr (Or.inl rfl))))) k5 ⟨by rw [gI_sI_nj (by decide), gI_sI_nj (by decide)]; exact g3.1, by rw [gI_sI_nj (by decide), gI_sI_eq]; exact k6, by rw [gI_sI_eq]; exact k7⟩ (by rw [gI_sI_ne (by decide), gI_sI_ne (by decide)]; exact k8) (fun j j1 j2 => by omega) (by omega) (by rw [gI_sI_ne (by decide), gI_sI_ne (by decide)]; exact g3.2.1) (by omega))
        · first
          | (exfalso; omega)
          | (refine bw_push rfl ?_
             refine bw_ret rfl rfl ?_
             first
             | (exfalso; omega)
             | (refine ⟨rfl, _, rfl, (g1.s7 6 _ (Or.inr (Or.inr (Or.inl rfl)))).s7 7 _ (Or.inr (Or.inr (Or.inr (Or.inl rfl)))), by rw [gI_sI_nj (by decide), gI_sI_nj (by decide)]; exact g3.1, Or.inl ⟨e, k5, rfl, ⟨by rw [gI_sI_nj (by decide), gI_sI_eq]; exact k6, by rw [gI_sI_eq]; exact k7⟩, fun j hj => by rw [gI_sI_ne (by decide), gI_sI_ne (by decide)]; exact g2 j hj, ?_, ?_, ?_⟩⟩
                · rw [gI_sI_ne (by decide), gI_sI_ne (by decide)]; exact g3.2.1
                · rw [gI_sI_ne (by decide), gI_sI_ne (by decide)]; exact g3.2.2.1
                · rw [gI_sI_nj (by decide), gI_sI_nj (by decide)]; exact g3.2.2.2))
      · refine bw_aload rfl rfl ?_
        refine bw_aload rfl rfl ?_
        refine bw_getI rfl rfl ?_
        refine bw_putI rfl rfl ?_
        refine bw_aload rfl rfl ?_
        refine bw_aload rfl rfl ?_
        refine bw_getI rfl rfl ?_
        rw [gI_sI_nj (show (12 : Int) ≠ 6 by decide)]
        refine bw_putI rfl rfl ?_
        refine bw_aload rfl rfl ?_
        refine bw_getI rfl rfl ?_
        rw [gI_sI_nj (show (11 : Int) ≠ 7 by decide), gI_sI_nj (show (11 : Int) ≠ 6 by decide)]
        refine bw_ifeq rfl (fun c108 => ?_) (fun c108 => ?_)
        · first
          | (exfalso; omega)
          | (refine bw_push rfl ?_
             refine bw_istore (ls2 := [_, _]) rfl rfl (Nat.le_of_ble_eq_true rfl) rfl ?_
             refine L115 1007 _ S 0 ((g1.s7 6 _ (Or.inr (Or.inr (Or.inl rfl)))).s7 7 _ (Or.inr (Or.inr (Or.inr (Or.inl rfl))))) k5 ⟨by rw [gI_sI_nj (by decide), gI_sI_nj (by decide)]; exact g3.1, by rw [gI_sI_nj (by decide), gI_sI_eq]; exact k6, by rw [gI_sI_eq]; exact k7⟩ (by rw [gI_sI_ne (by decide), gI_sI_ne (by decide)]; exact k8) (fun j j1 j2 => by omega) (by omega) (by rw [gI_sI_ne (by decide), gI_sI_ne (by decide)]; exact g3.2.1) (by omega))
        · first
          | (exfalso; omega)
          | (refine bw_push rfl ?_
             refine bw_ret rfl rfl ?_
             first
             | (exfalso; omega)
             | (refine ⟨rfl, _, rfl, (g1.s7 6 _ (Or.inr (Or.inr (Or.inl rfl)))).s7 7 _ (Or.inr (Or.inr (Or.inr (Or.inl rfl)))), by rw [gI_sI_nj (by decide), gI_sI_nj (by decide)]; exact g3.1, Or.inl ⟨e, k5, rfl, ⟨by rw [gI_sI_nj (by decide), gI_sI_eq]; exact k6, by rw [gI_sI_eq]; exact k7⟩, fun j hj => by rw [gI_sI_ne (by decide), gI_sI_ne (by decide)]; exact g2 j hj, ?_, ?_, ?_⟩⟩
                · rw [gI_sI_ne (by decide), gI_sI_ne (by decide)]; exact g3.2.1
                · rw [gI_sI_ne (by decide), gI_sI_ne (by decide)]; exact g3.2.2.1
                · rw [gI_sI_nj (by decide), gI_sI_nj (by decide)]; exact g3.2.2.2))
  have L38 : ∀ (kf : Nat) (N : abMem) (z : Rp) (S : Int → Int), (f5 pZ qZ M N) → (PS N a n ∧ rs N a n z ∧ WA N) → (SC M N S) → ((∃ p : Int, z = .inr p) → CT S) → (∀ x : Sc, isSc a n z S x → isTx a n x) → ((gI N 567 5 = 0 ∧ (gI N 569 = gI M 569 ∧ gI N 570 = gI M 570 ∧ gI N 567 3 = gI M 567 3))) → ((61 - S 5).toNat) < kf → abW d (0, 0) 187 38 [some (vr (some 567)), none] [] (0, 0) (A0 L) (N) (qI (A0 L) (fun x N => f5 pZ qZ M N ∧ gI N 567 5 = 0 ∧ scQ M a n x N)) := by
    intro kf
    induction kf with
    | zero => intro N  z  S  g1 g2 g3 g4 g5 g6 hm9; exact absurd hm9 (Nat.not_lt_zero _)
    | succ kf ih38 =>
      intro N  z  S  g1 g2 g3 g4 g5 g6 hm38
      have ih := ih38
      have hR := g1.RF hRM
      have g0 := rs_0 g2.2.1
      refine bw_aload rfl rfl ?_
      refine bw_callVj (e := d - 1) (as := []) rfl (by omega) rfl rfl (Nat.le_of_ble_eq_true rfl) (Nat.le_of_ble_eq_true rfl) rfl (m_goesWell hR) (fun r39 hr39 => ?_)
      refine bw_ifeq rfl (fun c42 => ?_) (fun c42 => ?_)
      · skip
        refine bw_aload rfl rfl ?_
        refine bw_callVj (e := d - 1) (as := []) rfl (by omega) rfl rfl (Nat.le_of_ble_eq_true rfl) (Nat.le_of_ble_eq_true rfl) rfl (m_goesWell (by assumption)) (fun r65 hr65 => ?_)
        refine bw_ifeq rfl (fun c68 => ?_) (fun c68 => ?_)
        · first
          | (exfalso; omega)
          | (first
             | (obtain ⟨e, rfl, he⟩ := rs_l g2.2.1 (by omega)
                exact L88 1 N g1 g3.2 g6 (Or.inl ⟨e, g5 _ isSc_f, he.1, he.2.1, he.2.2⟩) (by decide))
             | (have U := (u46.toP.trans hM85.f5).toL.toR
                have f6 : f5 pZ qZ M M85 := g1.trans U.fR
                have f7 : gI M85 567 5 = 0 := (U.sl 5 (qR_no (by omega))).trans g6.1
                have f8 : gI M85 569 = gI M 569 := (U.at 569 (pR_no (by decide)) (by decide)).trans g6.2.1
                have f9 : gI M85 570 = gI M 570 := (U.at 570 (pR_no (by decide)) (by decide)).trans g6.2.2.1
                have f10 : gI M85 567 3 = gI M 567 3 := (U.sl 3 (qR_no (by omega))).trans g6.2.2.2
                have f85 := hM85.RSn (a := a) (n := n) hP46 (by omega) (by decide)
                have e85 := f85.2.1
                have e86 := f85.2.2.1
                exact L88 1 M85 f6 (fun j hj => by rw [s5_8 (u46.toP.trans hM85.f5)]; exact g3.2 j hj) ⟨f7, f8, f9, f10⟩ (Or.inl ⟨(5, n), g5 _ (isSc_5 (by omega) (by omega)), e85, by rw [e86]; exact hP46.sz, by show (5 : Int) ≠ 0; decide⟩) (by decide))
             | (have U := u46.toP.toL.toR
                have f6 : f5 pZ qZ M M46 := g1.trans U.fR
                have f7 : gI M46 567 5 = 0 := (U.sl 5 (qR_no (by omega))).trans g6.1
                have f8 : gI M46 569 = gI M 569 := (U.at 569 (pR_no (by decide)) (by decide)).trans g6.2.1
                have f9 : gI M46 570 = gI M 570 := (U.at 570 (pR_no (by decide)) (by decide)).trans g6.2.2.1
                have f10 : gI M46 567 3 = gI M 567 3 := (U.sl 3 (qR_no (by omega))).trans g6.2.2.2
                have WA46 := U.2.2.2 g2.2.2
                exact L88 1 M46 f6 (fun j hj => by rw [s5_8 u46]; exact g3.2 j hj) ⟨f7, f8, f9, f10⟩ (Or.inr ⟨S, g5 _ (isSc_d (by omega) (by omega)), kw, rs_wa hz46 WA46, by rw [s5_8 u46]; exact g3.1⟩) (by decide)))
        · first
          | (exfalso; omega)
          | (refine bw_aload rfl rfl ?_
             refine bw_push rfl ?_
             refine bw_callVe (e := d - 1) (as := [_]) rfl (by omega) rfl rfl (Nat.le_of_ble_eq_true rfl) (Nat.le_of_ble_eq_true rfl) rfl (m_readOf (S := S) hR (by rw [s5_8 u46]; exact g3.1) (by omega)) ?_
             refine bw_ifne rfl (fun c76 => ?_) (fun c76 => ?_)
             · skip
               first
               | (obtain ⟨e, rfl, he⟩ := rs_l g2.2.1 (by omega)
                  exact L88 1 N g1 g3.2 g6 (Or.inl ⟨e, g5 _ isSc_f, he.1, he.2.1, he.2.2⟩) (by decide))
               | (have U := (u46.toP.trans hM85.f5).toL.toR
                  have f6 : f5 pZ qZ M M85 := g1.trans U.fR
                  have f7 : gI M85 567 5 = 0 := (U.sl 5 (qR_no (by omega))).trans g6.1
                  have f8 : gI M85 569 = gI M 569 := (U.at 569 (pR_no (by decide)) (by decide)).trans g6.2.1
                  have f9 : gI M85 570 = gI M 570 := (U.at 570 (pR_no (by decide)) (by decide)).trans g6.2.2.1
                  have f10 : gI M85 567 3 = gI M 567 3 := (U.sl 3 (qR_no (by omega))).trans g6.2.2.2
                  have f85 := hM85.RSn (a := a) (n := n) hP46 (by omega) (by decide)
                  have e85 := f85.2.1
                  have e86 := f85.2.2.1
                  exact L88 1 M85 f6 (fun j hj => by rw [s5_8 (u46.toP.trans hM85.f5)]; exact g3.2 j hj) ⟨f7, f8, f9, f10⟩ (Or.inl ⟨(5, n), g5 _ (isSc_5 (by omega) (by omega)), e85, by rw [e86]; exact hP46.sz, by show (5 : Int) ≠ 0; decide⟩) (by decide))
               | (have U := u46.toP.toL.toR
                  have f6 : f5 pZ qZ M M46 := g1.trans U.fR
                  have f7 : gI M46 567 5 = 0 := (U.sl 5 (qR_no (by omega))).trans g6.1
                  have f8 : gI M46 569 = gI M 569 := (U.at 569 (pR_no (by decide)) (by decide)).trans g6.2.1
                  have f9 : gI M46 570 = gI M 570 := (U.at 570 (pR_no (by decide)) (by decide)).trans g6.2.2.1
                  have f10 : gI M46 567 3 = gI M 567 3 := (U.sl 3 (qR_no (by omega))).trans g6.2.2.2
                  have WA46 := U.2.2.2 g2.2.2
                  exact L88 1 M46 f6 (fun j hj => by rw [s5_8 u46]; exact g3.2 j hj) ⟨f7, f8, f9, f10⟩ (Or.inr ⟨S, g5 _ (isSc_d (by omega) (by omega)), kw, rs_wa hz46 WA46, by rw [s5_8 u46]; exact g3.1⟩) (by decide))
             · skip
               refine bw_aload rfl rfl ?_
               refine bw_push rfl ?_
               refine bw_aload rfl rfl ?_
               refine bw_getI rfl rfl ?_
               refine bw_callVv (e := d - 1) (as := [_, _]) rfl (by omega) rfl rfl (Nat.le_of_ble_eq_true rfl) (Nat.le_of_ble_eq_true rfl) rfl (m_faults hR) (fun M85 hM85 => ?_)
               first
               | (obtain ⟨e, rfl, he⟩ := rs_l g2.2.1 (by omega)
                  exact L88 1 N g1 g3.2 g6 (Or.inl ⟨e, g5 _ isSc_f, he.1, he.2.1, he.2.2⟩) (by decide))
               | (have U := (u46.toP.trans hM85.f5).toL.toR
                  have f6 : f5 pZ qZ M M85 := g1.trans U.fR
                  have f7 : gI M85 567 5 = 0 := (U.sl 5 (qR_no (by omega))).trans g6.1
                  have f8 : gI M85 569 = gI M 569 := (U.at 569 (pR_no (by decide)) (by decide)).trans g6.2.1
                  have f9 : gI M85 570 = gI M 570 := (U.at 570 (pR_no (by decide)) (by decide)).trans g6.2.2.1
                  have f10 : gI M85 567 3 = gI M 567 3 := (U.sl 3 (qR_no (by omega))).trans g6.2.2.2
                  have f85 := hM85.RSn (a := a) (n := n) hP46 (by omega) (by decide)
                  have e85 := f85.2.1
                  have e86 := f85.2.2.1
                  exact L88 1 M85 f6 (fun j hj => by rw [s5_8 (u46.toP.trans hM85.f5)]; exact g3.2 j hj) ⟨f7, f8, f9, f10⟩ (Or.inl ⟨(5, n), g5 _ (isSc_5 (by omega) (by omega)), e85, by rw [e86]; exact hP46.sz, by show (5 : Int) ≠ 0; decide⟩) (by decide))
               | (have U := u46.toP.toL.toR
                  have f6 : f5 pZ qZ M M46 := g1.trans U.fR
                  have f7 : gI M46 567 5 = 0 := (U.sl 5 (qR_no (by omega))).trans g6.1
                  have f8 : gI M46 569 = gI M 569 := (U.at 569 (pR_no (by decide)) (by decide)).trans g6.2.1
                  have f9 : gI M46 570 = gI M 570 := (U.at 570 (pR_no (by decide)) (by decide)).trans g6.2.2.1
                  have f10 : gI M46 567 3 = gI M 567 3 := (U.sl 3 (qR_no (by omega))).trans g6.2.2.2
                  have WA46 := U.2.2.2 g2.2.2
                  exact L88 1 M46 f6 (fun j hj => by rw [s5_8 u46]; exact g3.2 j hj) ⟨f7, f8, f9, f10⟩ (Or.inr ⟨S, g5 _ (isSc_d (by omega) (by omega)), kw, rs_wa hz46 WA46, by rw [s5_8 u46]; exact g3.1⟩) (by decide)))
      · skip
        refine bw_aload rfl rfl ?_
        refine bw_callVi (e := d - 1) (as := []) rfl (by omega) rfl rfl (Nat.le_of_ble_eq_true rfl) (Nat.le_of_ble_eq_true rfl) rfl (m_sees hR g2.1 (by omega)) (fun r46 M46 hM46 => ?_)
        obtain ⟨u46, v46, w46⟩ := hM46
        have hR := u46.RF hR
        obtain ⟨p, rfl⟩ := g0.mp (by omega)
        have s1 : skM N a n = p := g2.2.1.2
        have s8 := skM_in g2.1
        rw [s1] at s8
        rw [show sk a n (gI N 567 9) = p from s1] at v46 w46
        have hP46 := g2.1.to9 u46 (by omega)
        have hz46 := rs_p9 g2.1 g2.2.1 u46 v46
        have kw := hz46.1
        have ct := g4 ⟨p, rfl⟩
        have c1 := ct.2.1
        have c5 := ct.2.2.2.2.2
        refine bw_push rfl ?_
        refine bw_iceq rfl (fun c50 => ?_) (fun c50 => ?_)
        · skip
          refine bw_aload rfl rfl ?_
          refine bw_callVj (e := d - 1) (as := []) rfl (by omega) rfl rfl (Nat.le_of_ble_eq_true rfl) (Nat.le_of_ble_eq_true rfl) rfl (m_goesWell (by assumption)) (fun r65 hr65 => ?_)
          refine bw_ifeq rfl (fun c68 => ?_) (fun c68 => ?_)
          · first
            | (exfalso; omega)
            | (first
               | (obtain ⟨e, rfl, he⟩ := rs_l g2.2.1 (by omega)
                  exact L88 1 N g1 g3.2 g6 (Or.inl ⟨e, g5 _ isSc_f, he.1, he.2.1, he.2.2⟩) (by decide))
               | (have U := (u46.toP.trans hM85.f5).toL.toR
                  have f6 : f5 pZ qZ M M85 := g1.trans U.fR
                  have f7 : gI M85 567 5 = 0 := (U.sl 5 (qR_no (by omega))).trans g6.1
                  have f8 : gI M85 569 = gI M 569 := (U.at 569 (pR_no (by decide)) (by decide)).trans g6.2.1
                  have f9 : gI M85 570 = gI M 570 := (U.at 570 (pR_no (by decide)) (by decide)).trans g6.2.2.1
                  have f10 : gI M85 567 3 = gI M 567 3 := (U.sl 3 (qR_no (by omega))).trans g6.2.2.2
                  have f85 := hM85.RSn (a := a) (n := n) hP46 (by omega) (by decide)
                  have e85 := f85.2.1
                  have e86 := f85.2.2.1
                  exact L88 1 M85 f6 (fun j hj => by rw [s5_8 (u46.toP.trans hM85.f5)]; exact g3.2 j hj) ⟨f7, f8, f9, f10⟩ (Or.inl ⟨(5, n), g5 _ (isSc_5 (by omega) (by omega)), e85, by rw [e86]; exact hP46.sz, by show (5 : Int) ≠ 0; decide⟩) (by decide))
               | (have U := u46.toP.toL.toR
                  have f6 : f5 pZ qZ M M46 := g1.trans U.fR
                  have f7 : gI M46 567 5 = 0 := (U.sl 5 (qR_no (by omega))).trans g6.1
                  have f8 : gI M46 569 = gI M 569 := (U.at 569 (pR_no (by decide)) (by decide)).trans g6.2.1
                  have f9 : gI M46 570 = gI M 570 := (U.at 570 (pR_no (by decide)) (by decide)).trans g6.2.2.1
                  have f10 : gI M46 567 3 = gI M 567 3 := (U.sl 3 (qR_no (by omega))).trans g6.2.2.2
                  have WA46 := U.2.2.2 g2.2.2
                  exact L88 1 M46 f6 (fun j hj => by rw [s5_8 u46]; exact g3.2 j hj) ⟨f7, f8, f9, f10⟩ (Or.inr ⟨S, g5 _ (isSc_d (by omega) (by omega)), kw, rs_wa hz46 WA46, by rw [s5_8 u46]; exact g3.1⟩) (by decide)))
          · first
            | (exfalso; omega)
            | (refine bw_aload rfl rfl ?_
               refine bw_push rfl ?_
               refine bw_callVe (e := d - 1) (as := [_]) rfl (by omega) rfl rfl (Nat.le_of_ble_eq_true rfl) (Nat.le_of_ble_eq_true rfl) rfl (m_readOf (S := S) hR (by rw [s5_8 u46]; exact g3.1) (by omega)) ?_
               refine bw_ifne rfl (fun c76 => ?_) (fun c76 => ?_)
               · skip
                 first
                 | (obtain ⟨e, rfl, he⟩ := rs_l g2.2.1 (by omega)
                    exact L88 1 N g1 g3.2 g6 (Or.inl ⟨e, g5 _ isSc_f, he.1, he.2.1, he.2.2⟩) (by decide))
                 | (have U := (u46.toP.trans hM85.f5).toL.toR
                    have f6 : f5 pZ qZ M M85 := g1.trans U.fR
                    have f7 : gI M85 567 5 = 0 := (U.sl 5 (qR_no (by omega))).trans g6.1
                    have f8 : gI M85 569 = gI M 569 := (U.at 569 (pR_no (by decide)) (by decide)).trans g6.2.1
                    have f9 : gI M85 570 = gI M 570 := (U.at 570 (pR_no (by decide)) (by decide)).trans g6.2.2.1
                    have f10 : gI M85 567 3 = gI M 567 3 := (U.sl 3 (qR_no (by omega))).trans g6.2.2.2
                    have f85 := hM85.RSn (a := a) (n := n) hP46 (by omega) (by decide)
                    have e85 := f85.2.1
                    have e86 := f85.2.2.1
                    exact L88 1 M85 f6 (fun j hj => by rw [s5_8 (u46.toP.trans hM85.f5)]; exact g3.2 j hj) ⟨f7, f8, f9, f10⟩ (Or.inl ⟨(5, n), g5 _ (isSc_5 (by omega) (by omega)), e85, by rw [e86]; exact hP46.sz, by show (5 : Int) ≠ 0; decide⟩) (by decide))
                 | (have U := u46.toP.toL.toR
                    have f6 : f5 pZ qZ M M46 := g1.trans U.fR
                    have f7 : gI M46 567 5 = 0 := (U.sl 5 (qR_no (by omega))).trans g6.1
                    have f8 : gI M46 569 = gI M 569 := (U.at 569 (pR_no (by decide)) (by decide)).trans g6.2.1
                    have f9 : gI M46 570 = gI M 570 := (U.at 570 (pR_no (by decide)) (by decide)).trans g6.2.2.1
                    have f10 : gI M46 567 3 = gI M 567 3 := (U.sl 3 (qR_no (by omega))).trans g6.2.2.2
                    have WA46 := U.2.2.2 g2.2.2
                    exact L88 1 M46 f6 (fun j hj => by rw [s5_8 u46]; exact g3.2 j hj) ⟨f7, f8, f9, f10⟩ (Or.inr ⟨S, g5 _ (isSc_d (by omega) (by omega)), kw, rs_wa hz46 WA46, by rw [s5_8 u46]; exact g3.1⟩) (by decide))
               · skip
                 refine bw_aload rfl rfl ?_
                 refine bw_push rfl ?_
                 refine bw_aload rfl rfl ?_
                 refine bw_getI rfl rfl ?_
                 refine bw_callVv (e := d - 1) (as := [_, _]) rfl (by omega) rfl rfl (Nat.le_of_ble_eq_true rfl) (Nat.le_of_ble_eq_true rfl) rfl (m_faults hR) (fun M85 hM85 => ?_)
                 first
                 | (obtain ⟨e, rfl, he⟩ := rs_l g2.2.1 (by omega)
                    exact L88 1 N g1 g3.2 g6 (Or.inl ⟨e, g5 _ isSc_f, he.1, he.2.1, he.2.2⟩) (by decide))
                 | (have U := (u46.toP.trans hM85.f5).toL.toR
                    have f6 : f5 pZ qZ M M85 := g1.trans U.fR
                    have f7 : gI M85 567 5 = 0 := (U.sl 5 (qR_no (by omega))).trans g6.1
                    have f8 : gI M85 569 = gI M 569 := (U.at 569 (pR_no (by decide)) (by decide)).trans g6.2.1
                    have f9 : gI M85 570 = gI M 570 := (U.at 570 (pR_no (by decide)) (by decide)).trans g6.2.2.1
                    have f10 : gI M85 567 3 = gI M 567 3 := (U.sl 3 (qR_no (by omega))).trans g6.2.2.2
                    have f85 := hM85.RSn (a := a) (n := n) hP46 (by omega) (by decide)
                    have e85 := f85.2.1
                    have e86 := f85.2.2.1
                    exact L88 1 M85 f6 (fun j hj => by rw [s5_8 (u46.toP.trans hM85.f5)]; exact g3.2 j hj) ⟨f7, f8, f9, f10⟩ (Or.inl ⟨(5, n), g5 _ (isSc_5 (by omega) (by omega)), e85, by rw [e86]; exact hP46.sz, by show (5 : Int) ≠ 0; decide⟩) (by decide))
                 | (have U := u46.toP.toL.toR
                    have f6 : f5 pZ qZ M M46 := g1.trans U.fR
                    have f7 : gI M46 567 5 = 0 := (U.sl 5 (qR_no (by omega))).trans g6.1
                    have f8 : gI M46 569 = gI M 569 := (U.at 569 (pR_no (by decide)) (by decide)).trans g6.2.1
                    have f9 : gI M46 570 = gI M 570 := (U.at 570 (pR_no (by decide)) (by decide)).trans g6.2.2.1
                    have f10 : gI M46 567 3 = gI M 567 3 := (U.sl 3 (qR_no (by omega))).trans g6.2.2.2
                    have WA46 := U.2.2.2 g2.2.2
                    exact L88 1 M46 f6 (fun j hj => by rw [s5_8 u46]; exact g3.2 j hj) ⟨f7, f8, f9, f10⟩ (Or.inr ⟨S, g5 _ (isSc_d (by omega) (by omega)), kw, rs_wa hz46 WA46, by rw [s5_8 u46]; exact g3.1⟩) (by decide)))
        · skip
          refine bw_aload rfl rfl ?_
          refine bw_callVv (e := d - 1) (as := []) rfl (by omega) rfl rfl (Nat.le_of_ble_eq_true rfl) (Nat.le_of_ble_eq_true rfl) rfl (m_readsStatement (S := S) hR hP46 hz46 (by rw [s5_8 u46]; exact g3.1) ct (by omega)) (fun M54 hM54 => ?_)
          obtain ⟨u54, v54, w54⟩ := hM54
          have hR := u54.RF hR
          have l5 := st_lo (a := a) (n := n) (p := p) ct (Or.inr rfl)
          refine bw_aload rfl rfl ?_
          refine bw_callVv (e := d - 1) (as := []) rfl (by omega) rfl rfl (Nat.le_of_ble_eq_true rfl) (Nat.le_of_ble_eq_true rfl) rfl (m_ends (S := (stS S a n p).2) hR v54.1 v54.2 w54.1 (by omega) (by omega)) (fun M58 hM58 => ?_)
          refine bw_goto rfl ?_
          obtain ⟨u58, v58, w58⟩ := hM58
          have U := (u46.toP.toL.toR).trans (u54.trans u58.p8R)
          have f6 : f5 pZ qZ M M58 := g1.trans U.fR
          have f7 : gI M58 567 5 = 0 := (U.sl 5 (qR_no (by omega))).trans g6.1
          have f8 : gI M58 569 = gI M 569 := (U.at 569 (pR_no (by decide)) (by decide)).trans g6.2.1
          have f9 : gI M58 570 = gI M 570 := (U.at 570 (pR_no (by decide)) (by decide)).trans g6.2.2.1
          have f10 : gI M58 567 3 = gI M 567 3 := (U.sl 3 (qR_no (by omega))).trans g6.2.2.2
          have e5 : (enS (stS S a n p).2 a n (stS S a n p).1).2 5 = S 5 + 1 := by
            show up (stS S a n p).2 5 ((stS S a n p).2 5 + 1) 5 = _
            rw [up_eq rfl, l5]
          refine ih M58 (enS (stS S a n p).2 a n (stS S a n p).1).1 (enS (stS S a n p).2 a n (stS S a n p).1).2 f6 ⟨v58.1, v58.2, U.2.2.2 g2.2.2⟩ ⟨w58.1, fun j hj => ?_⟩ (fun hq => ?_) (fun x h => g5 x (isSc_s (by omega) h)) ⟨f7, f8, f9, f10⟩ (by omega)
          · rw [w58.2 j hj, w54.2 j hj, s5_8 u46]; exact g3.2 j hj
          · obtain ⟨q, hq⟩ := hq
            obtain ⟨q2, hq2⟩ := en_ok hq
            have sc := st_ct ct hq2
            exact en_ct sc.1 (by omega)
  have L6 : ∀ (kf : Nat) (N : abMem) (k : Int), (f5 pZ qZ M N) → (PS N a n ∧ rs N a n (.inr (sk a n 0)) ∧ WA N) → (∀ j : Int, 0 ≤ j → j < k → gI N 568 (1006 + j) = 0) → ((∀ j : Int, j < 1006 → gI N 568 j = gI M 568 j)) → (0 ≤ k ∧ k ≤ 1006) → ((gI N 567 5 = 0 ∧ (gI N 569 = gI M 569 ∧ gI N 570 = gI M 570 ∧ gI N 567 3 = gI M 567 3))) → ((1006 - k).toNat) < kf → abW d (0, 0) 187 6 [some (vr (some 567)), some (vi k)] [] (0, 0) (A0 L) (N) (qI (A0 L) (fun x N => f5 pZ qZ M N ∧ gI N 567 5 = 0 ∧ scQ M a n x N)) := by
    intro kf
    induction kf with
    | zero => intro N  k  g1 g2 g3 g4 g5 g6 hm9; exact absurd hm9 (Nat.not_lt_zero _)
    | succ kf ih6 =>
      intro N  k  g1 g2 g3 g4 g5 g6 hm6
      have ih := ih6
      have hR := g1.RF hRM
      refine bw_iload rfl rfl ?_
      refine bw_push rfl ?_
      refine bw_icge rfl (fun c10 => ?_) (fun c10 => ?_)
      · skip
        refine bw_aload rfl rfl ?_
        refine bw_callVv (e := d - 1) (as := []) rfl (by omega) rfl rfl (Nat.le_of_ble_eq_true rfl) (Nat.le_of_ble_eq_true rfl) rfl (m_readsFrames hR g2.1 g2.2.1 (S := fun _ => 0) (fun j j1 j2 => g3 j j1 (by omega)) (by omega)) (fun M31 hM31 => ?_)
        refine bw_aload rfl rfl ?_
        refine bw_callVv (e := d - 1) (as := []) rfl (by omega) rfl rfl (Nat.le_of_ble_eq_true rfl) (Nat.le_of_ble_eq_true rfl) rfl (m_ends (M := M31) (S := (sc0 a n).2) (by exact hM31.1.RF hR) hM31.2.1.1 hM31.2.1.2 hM31.2.2.1 (by have := (sc0_ct (a := a) (n := n)).2; omega) (by omega)) (fun M35 hM35 => ?_)
        refine bw_forget (ls2 := [some (vr (some 567)), none]) ⟨rfl, trivial⟩ ?_
        obtain ⟨u31, v31, w31⟩ := hM31
        obtain ⟨u35, v35, w35⟩ := hM35
        have U := (u31.p8R).trans (u35.p8R)
        have ct := sc0_ct (a := a) (n := n)
        have f6 : f5 pZ qZ M M35 := g1.trans U.fR
        have f7 : gI M35 567 5 = 0 := (U.sl 5 (qR_no (by omega))).trans g6.1
        have f8 : gI M35 569 = gI M 569 := (U.at 569 (pR_no (by decide)) (by decide)).trans g6.2.1
        have f9 : gI M35 570 = gI M 570 := (U.at 570 (pR_no (by decide)) (by decide)).trans g6.2.2.1
        have f10 : gI M35 567 3 = gI M 567 3 := (U.sl 3 (qR_no (by omega))).trans g6.2.2.2
        refine L38 ((61 - (sc1 a n).2 5).toNat + 1) M35 (sc1 a n).1 (sc1 a n).2 f6 ⟨v35.1, v35.2, U.2.2.2 g2.2.2⟩ ⟨w35.1, fun j hj => ((w35.2 j hj).trans (w31.2 j hj)).trans (g4 j hj)⟩ (fun _ => en_ct ct.1 (by omega)) (fun x h => h) ⟨f7, f8, f9, f10⟩ (by omega)
      · skip
        refine bw_aload rfl rfl ?_
        refine bw_getr rfl rfl (hR _ _) ?_
        refine bw_push rfl ?_
        refine bw_iload rfl rfl ?_
        refine bw_iadd rfl ⟨by omega, by omega⟩ ?_
        refine bw_push rfl ?_
        refine bw_asti rfl (by first | rfl | assumption) (by omega) (by omega) ?_
        refine bw_iinc (ls2 := [_, _]) rfl rfl rfl ⟨by omega, by omega⟩ rfl ?_
        refine bw_goto rfl ?_
        refine ih _ (k + 1) (g1.wr _ _ (Or.inr (Or.inr (Or.inl rfl))) (by decide)) ⟨PS_8 g2.1, rs_8 g2.2.1, WA_of (by rw [gI_sI_ne (by decide)]) (by rw [gI_sI_ne (by decide)]) g2.2.2⟩ (fun j j1 j2 => ?_) (fun j hj => by rw [gI_sI_nj (by omega)]; exact g4 j hj) (by omega) ⟨by rw [gI_sI_ne (by decide)]; exact g6.1, by rw [gI_sI_ne (by decide)]; exact g6.2.1, by rw [gI_sI_ne (by decide)]; exact g6.2.2.1, by rw [gI_sI_ne (by decide)]; exact g6.2.2.2⟩ (by omega)
        by_cases q : j = k
        · rw [q, gI_sI_eq]
        · rw [gI_sI_nj (by omega)]; exact g3 j j1 (by omega)
  show abW d (0, 0) 187 0 [some (vr (some 567)), none] [] (0, 0) (A0 L) M (qI (A0 L) (fun x N => f5 pZ qZ M N ∧ gI N 567 5 = 0 ∧ scQ M a n x N))
  refine bw_aload rfl rfl ?_
  refine bw_callVv (e := d - 1) (as := []) rfl (by omega) rfl rfl (Nat.le_of_ble_eq_true rfl) (Nat.le_of_ble_eq_true rfl) rfl (m_begins hR hX (by omega)) (fun M1 hM1 => ?_)
  refine bw_push rfl ?_
  refine bw_istore (ls2 := [_, _]) rfl rfl (Nat.le_of_ble_eq_true rfl) rfl ?_
  obtain ⟨b1, P1, t1, f1, w1, h1⟩ := hM1
  have u1 : f5 pZ qZ M M1 := b1.mono (fun _ k => k.elim) (fun _ k => qZ_B k)
  refine L6 1007 M1 0 u1 ⟨P1, ⟨f1, by rw [h1]; exact sk_sk hX.ok (by omega)⟩, fun _ => w1⟩ (fun j j1 j2 => by omega) (fun j _ => by rw [b1.at 568 (fun k => k) (by decide)]) (by omega) ⟨t1, by rw [b1.at 569 (fun k => k) (by decide)], by rw [b1.at 570 (fun k => k) (by decide)], b1.sl 3 (fun k => by rcases k with k | k | k | k | k <;> omega)⟩ (by omega)
