/-- a sheet of the class lies from b on -/
def isSh (b : Nat) : Prop := b + 9 ≤ 567 ∧ kT b = (7, 2) ∧ kT (b + 1) = (24, 6) ∧ (∀ j : Nat, j < 6 → kT (b + 2 + j) = (20, 96)) ∧ kT (b + 8) = (20, 6) ∧ (∀ r : abRf, rT r b 0 = some (b + 1) ∧ rT r b 1 = some (b + 8) ∧ ∀ k : Nat, rT r (b + 1) k = bif Nat.blt k 6 then some (b + 2 + k) else none)
theorem sh_10 : isSh 10 := ⟨by decide, rfl, rfl, by decide, rfl, fun r => ⟨rfl, rfl, fun k => rfl⟩⟩
theorem sh_549 : isSh 549 := ⟨by decide, rfl, rfl, by decide, rfl, fun r => ⟨rfl, rfl, fun k => rfl⟩⟩
theorem sh_558 : isSh 558 := ⟨by decide, rfl, rfl, by decide, rfl, fun r => ⟨rfl, rfl, fun k => rfl⟩⟩
theorem sh_f {n : Int} (h : 0 ≤ n ∧ n < 20) : isSh (21 + 9 * n.toNat) := by
  have hn : n = 0 ∨ n = 1 ∨ n = 2 ∨ n = 3 ∨ n = 4 ∨ n = 5 ∨ n = 6 ∨ n = 7 ∨ n = 8 ∨ n = 9 ∨ n = 10 ∨ n = 11 ∨ n = 12 ∨ n = 13 ∨ n = 14 ∨ n = 15 ∨ n = 16 ∨ n = 17 ∨ n = 18 ∨ n = 19 := by omega
  rcases hn with rfl | rfl | rfl | rfl | rfl | rfl | rfl | rfl | rfl | rfl | rfl | rfl | rfl | rfl | rfl | rfl | rfl | rfl | rfl | rfl
  · exact (⟨by decide, rfl, rfl, by decide, rfl, fun r => ⟨rfl, rfl, fun k => rfl⟩⟩ : isSh 21)
  · exact (⟨by decide, rfl, rfl, by decide, rfl, fun r => ⟨rfl, rfl, fun k => rfl⟩⟩ : isSh 30)
  · exact (⟨by decide, rfl, rfl, by decide, rfl, fun r => ⟨rfl, rfl, fun k => rfl⟩⟩ : isSh 39)
  · exact (⟨by decide, rfl, rfl, by decide, rfl, fun r => ⟨rfl, rfl, fun k => rfl⟩⟩ : isSh 48)
  · exact (⟨by decide, rfl, rfl, by decide, rfl, fun r => ⟨rfl, rfl, fun k => rfl⟩⟩ : isSh 57)
  · exact (⟨by decide, rfl, rfl, by decide, rfl, fun r => ⟨rfl, rfl, fun k => rfl⟩⟩ : isSh 66)
  · exact (⟨by decide, rfl, rfl, by decide, rfl, fun r => ⟨rfl, rfl, fun k => rfl⟩⟩ : isSh 75)
  · exact (⟨by decide, rfl, rfl, by decide, rfl, fun r => ⟨rfl, rfl, fun k => rfl⟩⟩ : isSh 84)
  · exact (⟨by decide, rfl, rfl, by decide, rfl, fun r => ⟨rfl, rfl, fun k => rfl⟩⟩ : isSh 93)
  · exact (⟨by decide, rfl, rfl, by decide, rfl, fun r => ⟨rfl, rfl, fun k => rfl⟩⟩ : isSh 102)
  · exact (⟨by decide, rfl, rfl, by decide, rfl, fun r => ⟨rfl, rfl, fun k => rfl⟩⟩ : isSh 111)
  · exact (⟨by decide, rfl, rfl, by decide, rfl, fun r => ⟨rfl, rfl, fun k => rfl⟩⟩ : isSh 120)
  · exact (⟨by decide, rfl, rfl, by decide, rfl, fun r => ⟨rfl, rfl, fun k => rfl⟩⟩ : isSh 129)
  · exact (⟨by decide, rfl, rfl, by decide, rfl, fun r => ⟨rfl, rfl, fun k => rfl⟩⟩ : isSh 138)
  · exact (⟨by decide, rfl, rfl, by decide, rfl, fun r => ⟨rfl, rfl, fun k => rfl⟩⟩ : isSh 147)
  · exact (⟨by decide, rfl, rfl, by decide, rfl, fun r => ⟨rfl, rfl, fun k => rfl⟩⟩ : isSh 156)
  · exact (⟨by decide, rfl, rfl, by decide, rfl, fun r => ⟨rfl, rfl, fun k => rfl⟩⟩ : isSh 165)
  · exact (⟨by decide, rfl, rfl, by decide, rfl, fun r => ⟨rfl, rfl, fun k => rfl⟩⟩ : isSh 174)
  · exact (⟨by decide, rfl, rfl, by decide, rfl, fun r => ⟨rfl, rfl, fun k => rfl⟩⟩ : isSh 183)
  · exact (⟨by decide, rfl, rfl, by decide, rfl, fun r => ⟨rfl, rfl, fun k => rfl⟩⟩ : isSh 192)
theorem sh_k {n : Int} (h : 0 ≤ n ∧ n ≤ 1) : isSh (549 + 9 * n.toNat) := by
  have hn : n = 0 ∨ n = 1 := by omega
  rcases hn with rfl | rfl
  · exact sh_549
  · exact sh_558
section
variable {b L : Nat} {r : abRf} {M : abMem}
theorem isSh.le (h : isSh b) : b + 9 ≤ 567 := h.1
theorem isSh.k (h : isSh b) : ((A0 L).2 b).1 = 7 := by rw [show (A0 L).2 b = kT b from kk_in (by have := h.1; omega), h.2.1]
theorem isSh.k1 (h : isSh b) : (A0 L).2 (b + 1) = (24, 6) := (kk_in (by have := h.1; omega)).trans h.2.2.1
theorem isSh.kr (h : isSh b) {l : Int} (hl : 0 ≤ l ∧ l < 6) : (A0 L).2 (b + 2 + l.toNat) = (20, 96) := (kk_in (by have := h.1; omega)).trans (h.2.2.2.1 l.toNat (by omega))
theorem isSh.ks (h : isSh b) : (A0 L).2 (b + 8) = (20, 6) := (kk_in (by have := h.1; omega)).trans h.2.2.2.2.1
theorem isSh.r0 (h : isSh b) (hR : RF r M) : gR M b 0 = some (b + 1) := (hR _ _).trans ((rr_of (by decide) (by have := h.1; omega)).trans (h.2.2.2.2.2 r).1)
theorem isSh.r1 (h : isSh b) (hR : RF r M) : gR M b 1 = some (b + 8) := (hR _ _).trans ((rr_of (by decide) (by have := h.1; omega)).trans (h.2.2.2.2.2 r).2.1)
theorem isSh.rw (h : isSh b) (hR : RF r M) {l : Int} (hl : 0 ≤ l ∧ l < 6) : gR M (b + 1) l = some (b + 2 + l.toNat) := (hR _ _).trans (rr_row (h.2.2.2.2.2 r).2.2 (by have := h.1; omega) hl.1 hl.2)
end
theorem rr_rowm {r : abRf} {a ln base st : Nat} {j : Int} (hT : ∀ k, rT r a k = bif Nat.blt k ln then some (base + st * k) else none) (ha : a < 582) (h0 : 0 ≤ j) (h1 : j < (ln : Int)) : rr r a j = some (base + st * j.toNat) := by
  rw [rr_of h0 ha, hT, Nat.blt_eq.mpr (show j.toNat < ln by omega)]
  rfl
abbrev pSh (b a : Nat) : Prop := b ≤ a ∧ a < b + 9
/-- the sheet at b is now as the one at c was -/
def shE (M N : abMem) (b c : Nat) : Prop := (∀ l f : Int, 0 ≤ l → l < 6 → 0 ≤ f → f < 96 → gI N (b + 2 + l.toNat) f = gI M (c + 2 + l.toNat) f) ∧ (∀ p : Int, 0 ≤ p → p < 6 → gI N (b + 8) p = gI M (c + 8) p)
/-- the first l rows are -/
def shI (M N : abMem) (b c : Nat) (l : Int) : Prop := ∀ i f : Int, 0 ≤ i → i < l → 0 ≤ f → f < 96 → gI N (b + 2 + i.toNat) f = gI M (c + 2 + i.toNat) f
theorem shI_s {M N : abMem} {b c : Nat} {l : Int} {g : Int → Int} (h : shI M N b c l) (hl : 0 ≤ l) (hg : ∀ f : Int, 0 ≤ f → f < 96 → g f = gI M (c + 2 + l.toNat) f) : shI M (wI N (b + 2 + l.toNat) g) b c (l + 1) := by
  intro i f i0 i1 f0 f1
  by_cases q : i = l
  · rw [q, gI_wI_eq]; exact hg f f0 f1
  · rw [gI_wI_ne (by omega)]; exact h i f i0 (by omega) f0 f1
theorem ac_if {f g : Int → Int} {k j : Int} (h : 0 ≤ j ∧ j < k) : (if 0 ≤ j ∧ j < 0 + k then f (0 + (j - 0)) else g j) = f j := by
  rw [if_pos (by omega)]
  congr 1; omega
set_option maxRecDepth 20000 in
set_option maxHeartbeats 4000000 in
theorem c_startAs {d L : Nat} {M : abMem} {r : abRf} (hR : RF r M) {s : Nat} (hs : s = 372 ∨ s = 459) (hd : 1 ≤ d) : abW d (0, 0) 69 0 (abEnt (abL 69) [vr (some 10), vr (some s)]) [] (0, 0) (A0 L) M (qV (A0 L) (fun N => sm (pSh 10) M N ∧ shI M N 10 (s + 9) 6 ∧ ∀ p : Int, 0 ≤ p → p < 6 → gI N 18 p = p)) := by
  rcases hs with rfl | rfl
  · have L2 : ∀ (kf : Nat) (N : abMem) (l : Int), (sm (pSh 10) M N) → (shI M N 10 (372 + 9) l) → (∀ p : Int, 0 ≤ p → p < l → gI N 18 p = p) → (0 ≤ l ∧ l ≤ 6) → ((6 - l).toNat) < kf → abW d (0, 0) 69 2 [some (vr (some 10)), some (vr (some 372)), some (vi l)] [] (0, 0) (A0 L) (N) (qV (A0 L) (fun N => sm (pSh 10) M N ∧ shI M N 10 (372 + 9) 6 ∧ ∀ p : Int, 0 ≤ p → p < 6 → gI N 18 p = p)) := by
      intro kf
      induction kf with
      | zero => intro N  l  g1 g2 g3 g4 hm9; exact absurd hm9 (Nat.not_lt_zero _)
      | succ kf ih2 =>
        intro N  l  g1 g2 g3 g4 hm2
        have ih := ih2
        have hR := g1.RF hR
        refine bw_iload rfl rfl ?_
        refine bw_push rfl ?_
        refine bw_icge rfl (fun c5 => ?_) (fun c5 => ?_)
        · skip
          refine bw_retv rfl rfl ?_
          obtain rfl : l = 6 := by omega
          exact ⟨rfl, rfl, g1, g2, g3⟩
        · skip
          refine bw_aload rfl rfl ?_
          refine bw_getr rfl rfl (hR _ _) ?_
          refine bw_iload rfl rfl ?_
          refine bw_aldr rfl (by first | rfl | assumption) (by decide) (by omega) (by omega) ((hR _ _).trans (rr_row (fun _ => rfl) (by omega) (by omega) (by omega))) ?_
          refine bw_push rfl ?_
          refine bw_aload rfl rfl ?_
          refine bw_getr rfl rfl (hR _ _) ?_
          refine bw_iload rfl rfl ?_
          refine bw_aldr rfl (by first | rfl | assumption) (by decide) (by omega) (by omega) ((hR _ _).trans (rr_row (fun _ => rfl) (by omega) (by omega) (by omega))) ?_
          refine bw_push rfl ?_
          refine bw_push rfl ?_
          refine bw_acopy rfl (congrArg Prod.fst (kfa (b := 383) (n := 6) (v := (20, 96)) (by decide) (by decide) ⟨by omega, by omega⟩)) (congrArg Prod.fst (sh_10.kr ⟨by omega, by omega⟩)) (by decide) (by decide) (by decide) (by rw [show (A0 L).2 (383 + l.toNat) = (20, 96) from (kfa (b := 383) (n := 6) (v := (20, 96)) (by decide) (by decide) ⟨by omega, by omega⟩)]; decide) (by rw [show (A0 L).2 (12 + l.toNat) = (20, 96) from sh_10.kr ⟨by omega, by omega⟩]; decide) (by omega) (Nat.le_of_ble_eq_true rfl) ?_
          refine bw_aload rfl rfl ?_
          refine bw_getr rfl rfl (hR _ _) ?_
          refine bw_iload rfl rfl ?_
          refine bw_iload rfl rfl ?_
          refine bw_asti rfl (by first | rfl | assumption) (by omega) (by omega) ?_
          refine bw_iinc (ls2 := [_, _, _]) rfl rfl rfl ⟨by omega, by omega⟩ rfl ?_
          refine bw_goto rfl ?_
          refine ih _ _ ((g1.wI _ ⟨by omega, by omega⟩).sI _ _ ⟨by omega, by omega⟩) ?_ ?_ (by omega) (by omega)
          · intro i f i0 i1 f0 f1
            rw [gI_sI_ne (by omega)]
            exact shI_s (b := 10) (c := 381) g2 (by omega) (fun f f0 f1 => by rw [ac_if ⟨f0, f1⟩]; exact congrFun (g1.at _ (fun k => by have := k.1; have := k.2; omega)) f) i f i0 i1 f0 f1
          · intro p p0 p1
            by_cases q : p = l
            · rw [q, gI_sI_eq]
            · rw [gI_sI_nj q, gI_wI_ne (by omega)]; exact g3 p p0 (by omega)
    show abW d (0, 0) 69 0 [some (vr (some 10)), some (vr (some 372)), none] [] (0, 0) (A0 L) M (qV (A0 L) (fun N => sm (pSh 10) M N ∧ shI M N 10 (372 + 9) 6 ∧ ∀ p : Int, 0 ≤ p → p < 6 → gI N 18 p = p))
    refine bw_push rfl ?_
    refine bw_istore (ls2 := [_, _, _]) rfl rfl (Nat.le_of_ble_eq_true rfl) rfl ?_
    exact L2 7 M 0 (sm_refl _ _) (fun i f i0 i1 => by omega) (fun p p0 p1 => by omega) (by omega) (by omega)
  · have L2 : ∀ (kf : Nat) (N : abMem) (l : Int), (sm (pSh 10) M N) → (shI M N 10 (459 + 9) l) → (∀ p : Int, 0 ≤ p → p < l → gI N 18 p = p) → (0 ≤ l ∧ l ≤ 6) → ((6 - l).toNat) < kf → abW d (0, 0) 69 2 [some (vr (some 10)), some (vr (some 459)), some (vi l)] [] (0, 0) (A0 L) (N) (qV (A0 L) (fun N => sm (pSh 10) M N ∧ shI M N 10 (459 + 9) 6 ∧ ∀ p : Int, 0 ≤ p → p < 6 → gI N 18 p = p)) := by
      intro kf
      induction kf with
      | zero => intro N  l  g1 g2 g3 g4 hm9; exact absurd hm9 (Nat.not_lt_zero _)
      | succ kf ih2 =>
        intro N  l  g1 g2 g3 g4 hm2
        have ih := ih2
        have hR := g1.RF hR
        refine bw_iload rfl rfl ?_
        refine bw_push rfl ?_
        refine bw_icge rfl (fun c5 => ?_) (fun c5 => ?_)
        · skip
          refine bw_retv rfl rfl ?_
          obtain rfl : l = 6 := by omega
          exact ⟨rfl, rfl, g1, g2, g3⟩
        · skip
          refine bw_aload rfl rfl ?_
          refine bw_getr rfl rfl (hR _ _) ?_
          refine bw_iload rfl rfl ?_
          refine bw_aldr rfl (by first | rfl | assumption) (by decide) (by omega) (by omega) ((hR _ _).trans (rr_row (fun _ => rfl) (by omega) (by omega) (by omega))) ?_
          refine bw_push rfl ?_
          refine bw_aload rfl rfl ?_
          refine bw_getr rfl rfl (hR _ _) ?_
          refine bw_iload rfl rfl ?_
          refine bw_aldr rfl (by first | rfl | assumption) (by decide) (by omega) (by omega) ((hR _ _).trans (rr_row (fun _ => rfl) (by omega) (by omega) (by omega))) ?_
          refine bw_push rfl ?_
          refine bw_push rfl ?_
          refine bw_acopy rfl (congrArg Prod.fst (kfa (b := 470) (n := 6) (v := (20, 96)) (by decide) (by decide) ⟨by omega, by omega⟩)) (congrArg Prod.fst (sh_10.kr ⟨by omega, by omega⟩)) (by decide) (by decide) (by decide) (by rw [show (A0 L).2 (470 + l.toNat) = (20, 96) from (kfa (b := 470) (n := 6) (v := (20, 96)) (by decide) (by decide) ⟨by omega, by omega⟩)]; decide) (by rw [show (A0 L).2 (12 + l.toNat) = (20, 96) from sh_10.kr ⟨by omega, by omega⟩]; decide) (by omega) (Nat.le_of_ble_eq_true rfl) ?_
          refine bw_aload rfl rfl ?_
          refine bw_getr rfl rfl (hR _ _) ?_
          refine bw_iload rfl rfl ?_
          refine bw_iload rfl rfl ?_
          refine bw_asti rfl (by first | rfl | assumption) (by omega) (by omega) ?_
          refine bw_iinc (ls2 := [_, _, _]) rfl rfl rfl ⟨by omega, by omega⟩ rfl ?_
          refine bw_goto rfl ?_
          refine ih _ _ ((g1.wI _ ⟨by omega, by omega⟩).sI _ _ ⟨by omega, by omega⟩) ?_ ?_ (by omega) (by omega)
          · intro i f i0 i1 f0 f1
            rw [gI_sI_ne (by omega)]
            exact shI_s (b := 10) (c := 468) g2 (by omega) (fun f f0 f1 => by rw [ac_if ⟨f0, f1⟩]; exact congrFun (g1.at _ (fun k => by have := k.1; have := k.2; omega)) f) i f i0 i1 f0 f1
          · intro p p0 p1
            by_cases q : p = l
            · rw [q, gI_sI_eq]
            · rw [gI_sI_nj q, gI_wI_ne (by omega)]; exact g3 p p0 (by omega)
    show abW d (0, 0) 69 0 [some (vr (some 10)), some (vr (some 459)), none] [] (0, 0) (A0 L) M (qV (A0 L) (fun N => sm (pSh 10) M N ∧ shI M N 10 (459 + 9) 6 ∧ ∀ p : Int, 0 ≤ p → p < 6 → gI N 18 p = p))
    refine bw_push rfl ?_
    refine bw_istore (ls2 := [_, _, _]) rfl rfl (Nat.le_of_ble_eq_true rfl) rfl ?_
    exact L2 7 M 0 (sm_refl _ _) (fun i f i0 i1 => by omega) (fun p p0 p1 => by omega) (by omega) (by omega)
set_option maxRecDepth 20000 in
set_option maxHeartbeats 4000000 in
theorem c_copyFrom {d L : Nat} {M : abMem} {r : abRf} (hR : RF r M) {b c : Nat} (hb : isSh b) (hc : isSh c) (hbc : b + 9 ≤ c ∨ c + 9 ≤ b) (hd : 1 ≤ d) : abW d (0, 0) 70 0 (abEnt (abL 70) [vr (some b), vr (some c)]) [] (0, 0) (A0 L) M (qV (A0 L) (fun N => sm (pSh b) M N ∧ shE M N b c)) := by
  have z1 := hb.le
  have z2 := hc.le
  have L2 : ∀ (kf : Nat) (N : abMem) (l : Int), (sm (pSh b) M N) → (shI M N b c l) → (0 ≤ l ∧ l ≤ 6) → ((6 - l).toNat) < kf → abW d (0, 0) 70 2 [some (vr (some b)), some (vr (some c)), some (vi l)] [] (0, 0) (A0 L) (N) (qV (A0 L) (fun N => sm (pSh b) M N ∧ shE M N b c)) := by
    intro kf
    induction kf with
    | zero => intro N  l  g1 g2 g3 hm9; exact absurd hm9 (Nat.not_lt_zero _)
    | succ kf ih2 =>
      intro N  l  g1 g2 g3 hm2
      have ih := ih2
      have hR := g1.RF hR
      refine bw_iload rfl rfl ?_
      refine bw_push rfl ?_
      refine bw_icge rfl (fun c5 => ?_) (fun c5 => ?_)
      · skip
        refine bw_aload rfl rfl ?_
        refine bw_getr rfl hc.k (hc.r1 hR) ?_
        refine bw_push rfl ?_
        refine bw_aload rfl rfl ?_
        refine bw_getr rfl hb.k (hb.r1 hR) ?_
        refine bw_push rfl ?_
        refine bw_push rfl ?_
        refine bw_acopy rfl (congrArg Prod.fst hc.ks) (congrArg Prod.fst hb.ks) (by decide) (by decide) (by decide) (by rw [hc.ks]; decide) (by rw [hb.ks]; decide) (by omega) (Nat.le_of_ble_eq_true rfl) ?_
        refine bw_retv rfl rfl ?_
        obtain rfl : l = 6 := by omega
        refine ⟨rfl, rfl, g1.wI _ ⟨by omega, by omega⟩, fun i f i0 i1 f0 f1 => ?_, fun p p0 p1 => ?_⟩
        · rw [gI_wI_ne (by omega)]; exact g2 i f i0 i1 f0 f1
        · rw [gI_wI_eq, ac_if ⟨p0, p1⟩]; exact congrFun (g1.at _ (fun k => by have := k.1; have := k.2; omega)) p
      · skip
        refine bw_aload rfl rfl ?_
        refine bw_getr rfl hc.k (hc.r0 hR) ?_
        refine bw_iload rfl rfl ?_
        refine bw_aldr rfl (hc.k1) (by decide) (by omega) (by omega) (hc.rw hR ⟨by omega, by omega⟩) ?_
        refine bw_push rfl ?_
        refine bw_aload rfl rfl ?_
        refine bw_getr rfl hb.k (hb.r0 hR) ?_
        refine bw_iload rfl rfl ?_
        refine bw_aldr rfl (hb.k1) (by decide) (by omega) (by omega) (hb.rw hR ⟨by omega, by omega⟩) ?_
        refine bw_push rfl ?_
        refine bw_push rfl ?_
        refine bw_acopy rfl (congrArg Prod.fst (hc.kr ⟨by omega, by omega⟩)) (congrArg Prod.fst (hb.kr ⟨by omega, by omega⟩)) (by decide) (by decide) (by decide) (by rw [hc.kr ⟨by omega, by omega⟩]; decide) (by rw [hb.kr ⟨by omega, by omega⟩]; decide) (by omega) (Nat.le_of_ble_eq_true rfl) ?_
        refine bw_iinc (ls2 := [_, _, _]) rfl rfl rfl ⟨by omega, by omega⟩ rfl ?_
        refine bw_goto rfl ?_
        refine ih _ _ (g1.wI _ ⟨by omega, by omega⟩) (shI_s g2 (by omega) (fun f f0 f1 => by rw [ac_if ⟨f0, f1⟩]; exact congrFun (g1.at _ (fun k => by have := k.1; have := k.2; omega)) f)) (by omega) (by omega)
  show abW d (0, 0) 70 0 [some (vr (some b)), some (vr (some c)), none] [] (0, 0) (A0 L) M (qV (A0 L) (fun N => sm (pSh b) M N ∧ shE M N b c))
  refine bw_push rfl ?_
  refine bw_istore (ls2 := [_, _, _]) rfl rfl (Nat.le_of_ble_eq_true rfl) rfl ?_
  exact L2 7 M 0 (sm_refl _ _) (fun i f i0 i1 => by omega) (by omega) (by omega)
set_option maxRecDepth 20000 in
set_option maxHeartbeats 4000000 in
theorem c_placeOf {d L : Nat} {M : abMem} {r : abRf} (hR : RF r M) {l : Int} : abW d (0, 0) 71 0 (abEnt (abL 71) [vr (some 10), vi l]) [] (0, 0) (A0 L) M (qE (some (vi (plc (gI M 18) l))) (A0 L) M) := by
  have L2 : ∀ (kf : Nat) (p : Int), (0 ≤ p ∧ p ≤ 6) → (∀ j : Int, 0 ≤ j → j < p → gI M 18 j ≠ l) → ((6 - p).toNat) < kf → abW d (0, 0) 71 2 [some (vr (some 10)), some (vi l), some (vi p)] [] (0, 0) (A0 L) (M) (qE (some (vi (plc (gI M 18) l))) (A0 L) M) := by
    intro kf
    induction kf with
    | zero => intro p  g1 g2 hm9; exact absurd hm9 (Nat.not_lt_zero _)
    | succ kf ih2 =>
      intro p  g1 g2 hm2
      have ih := ih2
      refine bw_iload rfl rfl ?_
      refine bw_push rfl ?_
      refine bw_icge rfl (fun c5 => ?_) (fun c5 => ?_)
      · skip
        refine bw_push rfl ?_
        refine bw_ret rfl rfl ?_
        exact ⟨congrArg (fun x => some (vi x)) (plc_no (fun j h1 h2 => g2 j h1 (by omega))).symm, rfl, rfl⟩
      · skip
        refine bw_aload rfl rfl ?_
        refine bw_getr rfl rfl (hR _ _) ?_
        refine bw_iload rfl rfl ?_
        refine bw_aldi rfl (by first | rfl | assumption) (by omega) (by omega) ?_
        refine bw_iload rfl rfl ?_
        refine bw_icne rfl (fun c15 => ?_) (fun c15 => ?_)
        · skip
          refine bw_iinc (ls2 := [_, _, _]) rfl rfl rfl ⟨by omega, by omega⟩ rfl ?_
          refine bw_goto rfl ?_
          refine ih _ (by omega) (fun j h1 h2 => ?_) (by omega)
          by_cases q : j = p
          · rw [q]; assumption
          · exact g2 j h1 (by omega)
        · skip
          refine bw_iload rfl rfl ?_
          refine bw_ret rfl rfl ?_
          exact ⟨congrArg (fun x => some (vi x)) (plc_of (by omega) (by omega) g2).symm, rfl, rfl⟩
  show abW d (0, 0) 71 0 [some (vr (some 10)), some (vi l), none] [] (0, 0) (A0 L) M (qE (some (vi (plc (gI M 18) l))) (A0 L) M)
  refine bw_push rfl ?_
  refine bw_istore (ls2 := [_, _, _]) rfl rfl (Nat.le_of_ble_eq_true rfl) rfl ?_
  exact L2 7 0 (by omega) (fun j h1 h2 => by omega) (by omega)
set_option maxRecDepth 20000 in
set_option maxHeartbeats 4000000 in
theorem c_hclear {d L : Nat} {M : abMem} {r : abRf} (hR : RF r M) : abW d (0, 0) 15 0 (abEnt (abL 15) [vr (some 19)]) [] (0, 0) (A0 L) M (qE none (A0 L) (sI M 19 2 0)) := by
  show abW d (0, 0) 15 0 [some (vr (some 19))] [] (0, 0) (A0 L) M (qE none (A0 L) (sI M 19 2 0))
  refine bw_aload rfl rfl ?_
  refine bw_push rfl ?_
  refine bw_putI rfl rfl ?_
  refine bw_retv rfl rfl ?_
  exact ⟨rfl, rfl, rfl⟩
theorem fo_r {r : abRf} {M : abMem} (hR : RF r M) {n : Int} (h : 0 ≤ n ∧ n < 20) : gR M 20 n = some (21 + 9 * n.toNat) := (hR _ _).trans (rr_rowm (fun _ => rfl) (by decide) h.1 h.2)
theorem ke_r {r : abRf} {M : abMem} (hR : RF r M) {n : Int} (h : 0 ≤ n ∧ n ≤ 1) : gR M 201 n = some (549 + 9 * n.toNat) := (hR _ _).trans (rr_rowm (ln := 2) (fun _ => rfl) (by decide) h.1 (by omega))
abbrev pHi (n : Int) (a : Nat) : Prop := a = 19 ∨ pSh (21 + 9 * n.toNat) a
abbrev pHb (a : Nat) : Prop := a = 19 ∨ pSh 10 a
def nxU (n : Int) : Int := if n + 1 < 20 then n + 1 else 0
def nxD (n : Int) : Int := if 0 < n then n - 1 else 19
set_option maxRecDepth 20000 in
set_option maxHeartbeats 4000000 in
theorem c_remember {d L : Nat} {M : abMem} {r : abRf} (hR : RF r M) {n k : Int} (hn : gI M 19 1 = n ∧ 0 ≤ n ∧ n < 20) (hk : gI M 19 2 = k ∧ 0 ≤ k ∧ k ≤ 20) (hd : 2 ≤ d) : abW d (0, 0) 16 0 (abEnt (abL 16) [vr (some 19), vr (some 10)]) [] (0, 0) (A0 L) M (qV (A0 L) (fun N => sm (pHi n) M N ∧ shE M N (21 + 9 * n.toNat) 10 ∧ gI N 19 1 = nxU n ∧ gI N 19 2 = min (k + 1) 20)) := by
  obtain ⟨n0, n1, n2⟩ := hn
  obtain ⟨k0, k1, k2⟩ := hk
  show abW d (0, 0) 16 0 [some (vr (some 19)), some (vr (some 10))] [] (0, 0) (A0 L) M (qV (A0 L) (fun N => sm (pHi n) M N ∧ shE M N (21 + 9 * n.toNat) 10 ∧ gI N 19 1 = nxU n ∧ gI N 19 2 = min (k + 1) 20))
  refine bw_aload rfl rfl ?_
  refine bw_getr rfl rfl (hR _ _) ?_
  refine bw_aload rfl rfl ?_
  refine bw_getI rfl rfl ?_
  rw [n0]
  refine bw_aldr rfl (by first | rfl | assumption) (by decide) (by omega) (by omega) (fo_r hR ⟨by omega, by omega⟩) ?_
  refine bw_aload rfl rfl ?_
  refine bw_callVNv (e := d - 1) (as := [_]) rfl (by omega) rfl rfl (Nat.le_of_ble_eq_true rfl) (Nat.le_of_ble_eq_true rfl) ((sh_f ⟨n1, n2⟩).k) (c_copyFrom hR (sh_f ⟨n1, n2⟩) sh_10 (by omega) (by omega)) (fun M10 hM10 => ?_)
  obtain ⟨u10, v10⟩ := hM10
  have hR := u10.RF hR
  have e1 : gI M10 19 1 = n := by rw [u10.at 19 (fun k => by have := k.1; omega)]; exact n0
  have e2 : gI M10 19 2 = k := by rw [u10.at 19 (fun k => by have := k.1; omega)]; exact k0
  refine bw_aload rfl rfl ?_
  refine bw_aload rfl rfl ?_
  refine bw_getI rfl rfl ?_
  rw [e1]
  refine bw_push rfl ?_
  refine bw_iadd rfl ⟨by omega, by omega⟩ ?_
  refine bw_push rfl ?_
  refine bw_icge rfl (fun c22 => ?_) (fun c22 => ?_)
  · skip
    refine bw_push rfl ?_
    refine bw_putI rfl rfl ?_
    refine bw_aload rfl rfl ?_
    refine bw_aload rfl rfl ?_
    refine bw_getI rfl rfl ?_
    rw [gI_sI_nj (by decide), e2]
    refine bw_push rfl ?_
    refine bw_iadd rfl ⟨by omega, by omega⟩ ?_
    refine bw_push rfl ?_
    refine bw_min rfl (by omega) (Nat.le_of_ble_eq_true rfl) (by decide) (by decide) ?_
    refine bw_putI rfl rfl ?_
    refine bw_retv rfl rfl ?_
    refine ⟨rfl, rfl, ((u10.mono (q := pHi n) (fun a h => Or.inr h)).sI _ _ (Or.inl rfl)).sI _ _ (Or.inl rfl), ⟨fun l f l0 l1 f0 f1 => ?_, fun p p0 p1 => ?_⟩, ?_, ?_⟩
    · rw [gI_sI_ne (by omega), gI_sI_ne (by omega)]; exact v10.1 l f l0 l1 f0 f1
    · rw [gI_sI_ne (by omega), gI_sI_ne (by omega)]; exact v10.2 p p0 p1
    · rw [gI_sI_nj (by decide), gI_sI_eq]; unfold nxU; first | rw [if_pos (by omega)] | rw [if_neg (by omega)]
    · rw [gI_sI_eq]
  · skip
    refine bw_aload rfl rfl ?_
    refine bw_getI rfl rfl ?_
    rw [e1]
    refine bw_push rfl ?_
    refine bw_iadd rfl ⟨by omega, by omega⟩ ?_
    refine bw_goto rfl ?_
    refine bw_putI rfl rfl ?_
    refine bw_aload rfl rfl ?_
    refine bw_aload rfl rfl ?_
    refine bw_getI rfl rfl ?_
    rw [gI_sI_nj (by decide), e2]
    refine bw_push rfl ?_
    refine bw_iadd rfl ⟨by omega, by omega⟩ ?_
    refine bw_push rfl ?_
    refine bw_min rfl (by omega) (Nat.le_of_ble_eq_true rfl) (by decide) (by decide) ?_
    refine bw_putI rfl rfl ?_
    refine bw_retv rfl rfl ?_
    refine ⟨rfl, rfl, ((u10.mono (q := pHi n) (fun a h => Or.inr h)).sI _ _ (Or.inl rfl)).sI _ _ (Or.inl rfl), ⟨fun l f l0 l1 f0 f1 => ?_, fun p p0 p1 => ?_⟩, ?_, ?_⟩
    · rw [gI_sI_ne (by omega), gI_sI_ne (by omega)]; exact v10.1 l f l0 l1 f0 f1
    · rw [gI_sI_ne (by omega), gI_sI_ne (by omega)]; exact v10.2 p p0 p1
    · rw [gI_sI_nj (by decide), gI_sI_eq]; unfold nxU; first | rw [if_pos (by omega)] | rw [if_neg (by omega)]
    · rw [gI_sI_eq]
set_option maxRecDepth 20000 in
set_option maxHeartbeats 4000000 in
theorem c_takeBack {d L : Nat} {M : abMem} {r : abRf} (hR : RF r M) {n k : Int} (hn : gI M 19 1 = n ∧ 0 ≤ n ∧ n < 20) (hk : gI M 19 2 = k ∧ 0 ≤ k ∧ k ≤ 20) (h1 : 1 ≤ k) (hd : 2 ≤ d) : abW d (0, 0) 17 0 (abEnt (abL 17) [vr (some 19), vr (some 10)]) [] (0, 0) (A0 L) M (qV (A0 L) (fun N => sm pHb M N ∧ shE M N 10 (21 + 9 * (nxD n).toNat) ∧ gI N 19 1 = nxD n ∧ gI N 19 2 = k - 1)) := by
  obtain ⟨n0, n1, n2⟩ := hn
  obtain ⟨k0, k1, k2⟩ := hk
  show abW d (0, 0) 17 0 [some (vr (some 19)), some (vr (some 10))] [] (0, 0) (A0 L) M (qV (A0 L) (fun N => sm pHb M N ∧ shE M N 10 (21 + 9 * (nxD n).toNat) ∧ gI N 19 1 = nxD n ∧ gI N 19 2 = k - 1))
  refine bw_aload rfl rfl ?_
  refine bw_getI rfl rfl ?_
  rw [k0]
  refine bw_ifle rfl (fun c => absurd c (by omega)) (fun _ => ?_)
  refine bw_aload rfl rfl ?_
  refine bw_aload rfl rfl ?_
  refine bw_getI rfl rfl ?_
  rw [n0]
  refine bw_ifle rfl (fun c12 => ?_) (fun c12 => ?_)
  · skip
    refine bw_push rfl ?_
    refine bw_putI rfl rfl ?_
    refine bw_cast (M2 := sI M 19 1 (nxD n)) ?_ rfl rfl (by first | rw [show nxD n = n - 1 from if_pos (by omega)] | rw [show nxD n = 19 from if_neg (by omega)])
    refine bw_aload rfl rfl ?_
    first | refine bw_dup rfl ?_ | refine bw_dupi rfl ?_
    refine bw_getI rfl rfl ?_
    rw [gI_sI_nj (by decide), k0]
    refine bw_push rfl ?_
    refine bw_isub rfl ⟨by omega, by omega⟩ ?_
    refine bw_putI rfl rfl ?_
    refine bw_aload rfl rfl ?_
    refine bw_aload rfl rfl ?_
    refine bw_getr rfl rfl (hR _ _) ?_
    refine bw_aload rfl rfl ?_
    refine bw_getI rfl rfl ?_
    rw [gI_sI_nj (by decide), gI_sI_eq]
    have hy : 0 ≤ nxD n ∧ nxD n < 20 := by unfold nxD; split <;> omega
    refine bw_aldr rfl (by first | rfl | assumption) (by decide) (by omega) (by omega) (fo_r hR ⟨by omega, by omega⟩) ?_
    refine bw_callVNv (e := d - 1) (as := [_]) rfl (by omega) rfl rfl (Nat.le_of_ble_eq_true rfl) (Nat.le_of_ble_eq_true rfl) (rfl) (c_copyFrom (M := sI (sI M 19 1 (nxD n)) 19 2 (k - 1)) hR sh_10 (sh_f hy) (by omega) (by omega)) (fun M49 hM49 => ?_)
    obtain ⟨u49, v49⟩ := hM49
    refine bw_retv rfl rfl ?_
    have w : sm pHb M (sI (sI M 19 1 (nxD n)) 19 2 (k - 1)) := ((sm_refl _ _).sI _ _ (Or.inl rfl)).sI _ _ (Or.inl rfl)
    refine ⟨rfl, rfl, w.trans (u49.mono (fun a h => Or.inr h)), ⟨fun l f l0 l1 f0 f1 => ?_, fun p p0 p1 => ?_⟩, ?_, ?_⟩
    · rw [v49.1 l f l0 l1 f0 f1, gI_sI_ne (by omega), gI_sI_ne (by omega)]
    · rw [v49.2 p p0 p1, gI_sI_ne (by omega), gI_sI_ne (by omega)]
    · rw [u49.at 19 (fun k => by have := k.1; omega), gI_sI_nj (by decide), gI_sI_eq]
    · rw [u49.at 19 (fun k => by have := k.1; omega), gI_sI_eq]
  · skip
    refine bw_aload rfl rfl ?_
    refine bw_getI rfl rfl ?_
    rw [n0]
    refine bw_push rfl ?_
    refine bw_isub rfl ⟨by omega, by omega⟩ ?_
    refine bw_goto rfl ?_
    refine bw_putI rfl rfl ?_
    refine bw_cast (M2 := sI M 19 1 (nxD n)) ?_ rfl rfl (by first | rw [show nxD n = n - 1 from if_pos (by omega)] | rw [show nxD n = 19 from if_neg (by omega)])
    refine bw_aload rfl rfl ?_
    first | refine bw_dup rfl ?_ | refine bw_dupi rfl ?_
    refine bw_getI rfl rfl ?_
    rw [gI_sI_nj (by decide), k0]
    refine bw_push rfl ?_
    refine bw_isub rfl ⟨by omega, by omega⟩ ?_
    refine bw_putI rfl rfl ?_
    refine bw_aload rfl rfl ?_
    refine bw_aload rfl rfl ?_
    refine bw_getr rfl rfl (hR _ _) ?_
    refine bw_aload rfl rfl ?_
    refine bw_getI rfl rfl ?_
    rw [gI_sI_nj (by decide), gI_sI_eq]
    have hy : 0 ≤ nxD n ∧ nxD n < 20 := by unfold nxD; split <;> omega
    refine bw_aldr rfl (by first | rfl | assumption) (by decide) (by omega) (by omega) (fo_r hR ⟨by omega, by omega⟩) ?_
    refine bw_callVNv (e := d - 1) (as := [_]) rfl (by omega) rfl rfl (Nat.le_of_ble_eq_true rfl) (Nat.le_of_ble_eq_true rfl) (rfl) (c_copyFrom (M := sI (sI M 19 1 (nxD n)) 19 2 (k - 1)) hR sh_10 (sh_f hy) (by omega) (by omega)) (fun M49 hM49 => ?_)
    obtain ⟨u49, v49⟩ := hM49
    refine bw_retv rfl rfl ?_
    have w : sm pHb M (sI (sI M 19 1 (nxD n)) 19 2 (k - 1)) := ((sm_refl _ _).sI _ _ (Or.inl rfl)).sI _ _ (Or.inl rfl)
    refine ⟨rfl, rfl, w.trans (u49.mono (fun a h => Or.inr h)), ⟨fun l f l0 l1 f0 f1 => ?_, fun p p0 p1 => ?_⟩, ?_, ?_⟩
    · rw [v49.1 l f l0 l1 f0 f1, gI_sI_ne (by omega), gI_sI_ne (by omega)]
    · rw [v49.2 p p0 p1, gI_sI_ne (by omega), gI_sI_ne (by omega)]
    · rw [u49.at 19 (fun k => by have := k.1; omega), gI_sI_nj (by decide), gI_sI_eq]
    · rw [u49.at 19 (fun k => by have := k.1; omega), gI_sI_eq]
