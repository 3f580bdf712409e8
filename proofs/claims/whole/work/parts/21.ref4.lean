/-- the ink that a layer with that drawing has at place k of frame f -/
noncomputable def lyI (s : Int → Int) (dr l f k : Int) : Int := @ite Int (dr = 0 ∨ hid s l f) (Classical.propDecidable _) 0 (ink s l dr (k % 12 - mv s l f 0) (k / 12 - mv s l f 1))
theorem lyI_0 {s : Int → Int} {dr l f k : Int} (h : dr = 0 ∨ hid s l f) : lyI s dr l f k = 0 := by unfold lyI; rw [if_pos h]
theorem lyI_1 {s : Int → Int} {dr l f k : Int} (h : ¬ (dr = 0 ∨ hid s l f)) : lyI s dr l f k = ink s l dr (k % 12 - mv s l f 0) (k / 12 - mv s l f 1) := by unfold lyI; rw [if_neg h]
theorem lyI_in {s : Int → Int} (h : SW s) {dr l f k : Int} : 0 ≤ lyI s dr l f k ∧ lyI s dr l f k ≤ 9 := by
  unfold lyI
  split
  · omega
  · exact ink_in h
/-- what is seen at place k of frame f of the lowest n of the stack: the ink, the layer -/
noncomputable def cB (s S : Int → Int) (R : Int → Int → Int) (f k : Int) : Nat → Int × Int
  | 0 => (0, -1)
  | n + 1 => if 0 < lyI s (R (S n) f) (S n) f k then (lyI s (R (S n) f) (S n) f k, S n) else cB s S R f k n
theorem cB_s {s S : Int → Int} {R : Int → Int → Int} {f k p : Int} (h : 0 ≤ p) : cB s S R f k (p + 1).toNat = if 0 < lyI s (R (S p) f) (S p) f k then (lyI s (R (S p) f) (S p) f k, S p) else cB s S R f k p.toNat := by
  have e : (p + 1).toNat = p.toNat + 1 := by omega
  rw [e]
  show (if 0 < lyI s (R (S (p.toNat : Int)) f) (S (p.toNat : Int)) f k then (lyI s (R (S (p.toNat : Int)) f) (S (p.toNat : Int)) f k, S (p.toNat : Int)) else cB s S R f k p.toNat) = _
  rw [Int.toNat_of_nonneg h]
/-- the frame as it is composed of a sheet of the reference -/
noncomputable def pcI (M : abMem) (a f k : Int) : Int × Int := cB (gI M 568) (fun p => gI M 569 (a + 576 + p)) (mR M a) f k (gI M 568 1).toNat
/-- the place, when the stack's lowest n are to come -/
def okp (W : Nat → Int × Int) (nl : Nat) (x y : Int) (n : Nat) : Prop := (0 < x ∧ W nl = (x, y)) ∨ (x = 0 ∧ y = -1 ∧ W nl = W n)
abbrev p58 (a : Nat) : Prop := a = 580 ∨ a = 581
theorem p58_no {a : Nat} (h1 : a ≠ 580) (h2 : a ≠ 581) : ¬ p58 a := fun h => h.elim h1 h2
theorem pcI_sm {p : Nat → Prop} {M N : abMem} (h : sm p M N) (h1 : ¬ p 568) (h2 : ¬ p 569) (a f k : Int) : pcI N a f k = pcI M a f k := by
  unfold pcI
  rw [h.at 568 h1, h.at 569 h2, show mR N a = mR M a from funext fun l => h.mR h2 a l]
/-- frame f is composed, the others are as they were -/
def cmpd (M N : abMem) (a f : Int) : Prop := (∀ k : Int, 0 ≤ k → k < 96 → gI N 580 (96 * f + k) = (pcI M a f k).1 ∧ gI N 581 (96 * f + k) = (pcI M a f k).2) ∧ (∀ j : Int, ¬ (96 * f ≤ j ∧ j < 96 * f + 96) → gI N 580 j = gI M 580 j ∧ gI N 581 j = gI M 581 j)
/-- what the loops keep -/
def cinv (M N : abMem) (a f : Int) (n : Int → Int) : Prop := (∀ k : Int, 0 ≤ k → k < 96 → okp (cB (gI M 568) (fun p => gI M 569 (a + 576 + p)) (mR M a) f k) (gI M 568 1).toNat (gI N 580 (96 * f + k)) (gI N 581 (96 * f + k)) (n k).toNat) ∧ (∀ j : Int, ¬ (96 * f ≤ j ∧ j < 96 * f + 96) → gI N 580 j = gI M 580 j ∧ gI N 581 j = gI M 581 j)
theorem cinv_end {M N : abMem} {a f : Int} {n : Int → Int} (h : cinv M N a f n) (h0 : ∀ k, n k ≤ 0) : cmpd M N a f := by
  refine ⟨fun k h1 h2 => ?_, h.2⟩
  have q := h.1 k h1 h2
  rw [show (n k).toNat = 0 by have := h0 k; omega] at q
  unfold pcI
  rcases q with q | q
  · rw [q.2]; exact ⟨rfl, rfl⟩
  · rw [q.2.2]; exact ⟨q.1, q.2.1⟩
theorem cinv_congr {M N : abMem} {a f : Int} {n m : Int → Int} (h : cinv M N a f n) (e : ∀ k : Int, 0 ≤ k → k < 96 → n k = m k) : cinv M N a f m := ⟨fun k h1 h2 => by rw [← e k h1 h2]; exact h.1 k h1 h2, h.2⟩
/-- a layer without ink there, or the place has ink: nothing is written -/
theorem cinv_skip {M N : abMem} {a f p : Int} {n m : Int → Int} (h : cinv M N a f n) (e : ∀ k : Int, 0 ≤ k → k < 96 → m k = n k ∨ (n k = p + 1 ∧ m k = p ∧ 0 ≤ p ∧ (0 < gI N 580 (96 * f + k) ∨ lyI (gI M 568) (mR M a (gI M 569 (a + 576 + p)) f) (gI M 569 (a + 576 + p)) f k = 0))) : cinv M N a f m := by
  refine ⟨fun k h1 h2 => ?_, h.2⟩
  have q := h.1 k h1 h2
  rcases e k h1 h2 with e1 | ⟨e1, e2, e3, e4⟩
  · rw [e1]; exact q
  · rw [e1] at q
    rw [e2]
    rcases q with q | q
    · exact Or.inl q
    · rcases e4 with e4 | e4
      · exact absurd e4 (by rw [q.1]; decide)
      · refine Or.inr ⟨q.1, q.2.1, ?_⟩
        rw [q.2.2, cB_s e3, e4]
        rfl
theorem cinv_write {M N : abMem} {a f p k0 v t : Int} {n m : Int → Int} (h : cinv M N a f n) (hk : 0 ≤ k0 ∧ k0 < 96) (hn : n k0 = p + 1) (hm : m k0 = p) (hp : 0 ≤ p) (he : ∀ k : Int, 0 ≤ k → k < 96 → k ≠ k0 → m k = n k) (hx : ¬ 0 < gI N 580 (96 * f + k0)) (hv : lyI (gI M 568) (mR M a (gI M 569 (a + 576 + p)) f) (gI M 569 (a + 576 + p)) f k0 = v) (hv0 : 0 ≤ v) (ht : (0 < v ∧ t = gI M 569 (a + 576 + p)) ∨ (¬ 0 < v ∧ t = -1)) : cinv M (sI (sI N 580 (96 * f + k0) v) 581 (96 * f + k0) t) a f m := by
  refine ⟨fun k h1 h2 => ?_, fun j hj => ?_⟩
  · by_cases q : k = k0
    · subst q
      rw [gI_sI_eq, gI_sI_ne (by decide), gI_sI_eq, hm]
      have q := h.1 k h1 h2
      rw [hn] at q
      rcases q with q | q
      · exact absurd q.1 hx
      · have e := q.2.2
        rw [cB_s hp] at e
        simp only [hv] at e
        rcases ht with ⟨t1, t2⟩ | ⟨t1, t2⟩
        · rw [if_pos t1] at e
          exact Or.inl ⟨t1, by rw [e, t2]⟩
        · rw [if_neg t1] at e
          exact Or.inr ⟨by omega, t2, e⟩
    · rw [gI_sI_nj (by omega), gI_sI_ne (by decide), gI_sI_nj (by omega), gI_sI_ne (by decide), he k h1 h2 q]
      exact h.1 k h1 h2
  · rw [gI_sI_nj (by omega), gI_sI_ne (by decide), gI_sI_nj (by omega), gI_sI_ne (by decide)]
    exact h.2 j hj
theorem cinv_start {M N : abMem} {a f : Int} (h : ∀ k : Int, 0 ≤ k → k < 96 → gI N 580 (96 * f + k) = 0 ∧ gI N 581 (96 * f + k) = -1) (h2 : ∀ j : Int, ¬ (96 * f ≤ j ∧ j < 96 * f + 96) → gI N 580 j = gI M 580 j ∧ gI N 581 j = gI M 581 j) : cinv M N a f (fun _ => gI M 568 1) := ⟨fun k h3 h4 => Or.inr ⟨(h k h3 h4).1, (h k h3 h4).2, rfl⟩, h2⟩
theorem stp_ne {p k j : Int} (h : j ≠ k) : (if j < k + 1 then p else p + 1) = if j < k then p else p + 1 := by
  by_cases q : j < k
  · rw [if_pos q, if_pos (by omega)]
  · rw [if_neg q, if_neg (by omega)]
theorem stp_or {p k j : Int} {P : Int → Prop} (h : P k) (hp : 0 ≤ p) : ((if j < k + 1 then p else p + 1) = if j < k then p else p + 1) ∨ (if j < k then p else p + 1) = p + 1 ∧ (if j < k + 1 then p else p + 1) = p ∧ 0 ≤ p ∧ P j := by
  by_cases q : j = k
  · subst q; exact Or.inr ⟨by rw [if_neg (by omega)], by rw [if_pos (by omega)], hp, h⟩
  · exact Or.inl (stp_ne q)
set_option maxRecDepth 20000 in
set_option maxHeartbeats 4000000 in
theorem m_composes {d L : Nat} {M : abMem} {r : abRf} (hR : RF r M) (hB : RB M) {a f : Int} (ha : 0 ≤ a ∧ a ≤ 12000) (hS : ∀ p : Int, 0 ≤ p → p < gI M 568 1 → 0 ≤ gI M 569 (a + 576 + p) ∧ gI M 569 (a + 576 + p) ≤ 5) (hf : 0 ≤ f ∧ f ≤ 95) (hd : 2 ≤ d) : abW d (0, 0) 230 0 (abEnt (abL 230) [vr (some 567), vi a, vi f]) [] (0, 0) (A0 L) M (qV (A0 L) (fun N => sm p58 M N ∧ cmpd M N a f)) := by
  have b1 := hB.fr
  have b2 := hB.la
  have L49 : ∀ (kf : Nat) (N : abMem) (p : Int), (sm p58 M N) → (cinv M N a f (fun _ => p + 1)) → (-1 ≤ p ∧ p < gI M 568 1) → ((p + 1).toNat) < kf → abW d (0, 0) 230 49 [some (vr (some 567)), some (vi a), some (vi f), some (vi (96 * f)), some (vi p), none, none, none, none, none, none] [] (0, 0) (A0 L) (N) (qV (A0 L) (fun N => sm p58 M N ∧ cmpd M N a f)) := by
    intro kf
    induction kf with
    | zero => intro N  p  g1 g2 g3 hm9; exact absurd hm9 (Nat.not_lt_zero _)
    | succ kf ih49 =>
      intro N  p  g1 g2 g3 hm49
      have ih := ih49
      have hR0 := hR
      have hB0 := hB
      have hR := g1.RF hR
      have hB := g1.RB (p58_no (by decide) (by decide)) (p58_no (by decide) (by decide)) hB
      have e568 := g1.at 568 (p58_no (by decide) (by decide))
      have e569 := g1.at 569 (p58_no (by decide) (by decide))
      have eR : ∀ i l : Int, mR N i l = mR M i l := g1.mR (p58_no (by decide) (by decide))
      
      have L120 : ∀ (kf : Nat) (K : abMem) (k : Int), (sm p58 M K) → (cinv M K a f (fun j => if j < k then p else p + 1)) → (0 ≤ p ∧ p < gI M 568 1) → (0 ≤ k ∧ k ≤ 96) → (¬ (mR M a (gI M 569 (a + 576 + p)) f = 0 ∨ hid (gI M 568) (gI M 569 (a + 576 + p)) f)) → ((96 - k).toNat) < kf → abW d (0, 0) 230 120 [some (vr (some 567)), some (vi a), some (vi f), some (vi (96 * f)), some (vi p), some (vi (gI M 569 (a + 576 + p))), some (vi (mR M a (gI M 569 (a + 576 + p)) f)), some (vi (mv (gI M 568) (gI M 569 (a + 576 + p)) f 0)), some (vi (mv (gI M 568) (gI M 569 (a + 576 + p)) f 1)), some (vi k), none] [] (0, 0) (A0 L) (K) (qV (A0 L) (fun N => sm p58 M N ∧ cmpd M N a f)) := by
        intro kf
        induction kf with
        | zero => intro K  k  k1 k2 k3 k4 k5 hm9; exact absurd hm9 (Nat.not_lt_zero _)
        | succ kf ih120 =>
          intro K  k  k1 k2 k3 k4 k5 hm120
          have ih := ih120
          have hR := k1.RF hR0
          have hB := k1.RB (p58_no (by decide) (by decide)) (p58_no (by decide) (by decide)) hB0
          have e568 := k1.at 568 (p58_no (by decide) (by decide))
          have e569 := k1.at 569 (p58_no (by decide) (by decide))
          have eR : ∀ i l : Int, mR K i l = mR M i l := k1.mR (p58_no (by decide) (by decide))
          have n0 := mv_in hB0.sw (l := gI M 569 (a + 576 + p)) (f := f) (t := 0) (by omega) (by omega) (gI M 568 3) (by have := hB0.sw.sl; omega) (Int.le_refl _)
          have n1 := mv_in hB0.sw (l := gI M 569 (a + 576 + p)) (f := f) (t := 1) (by omega) (by omega) (gI M 568 3) (by have := hB0.sw.sl; omega) (Int.le_refl _)
          have m0 : -10368 ≤ mv (gI M 568) (gI M 569 (a + 576 + p)) f 0 ∧ mv (gI M 568) (gI M 569 (a + 576 + p)) f 0 ≤ 10368 := n0
          have m1 : -10368 ≤ mv (gI M 568) (gI M 569 (a + 576 + p)) f 1 ∧ mv (gI M 568) (gI M 569 (a + 576 + p)) f 1 ≤ 10368 := n1
          clear n0 n1
          refine bw_iload rfl rfl ?_
          refine bw_push rfl ?_
          refine bw_icge rfl (fun c124 => ?_) (fun c124 => ?_)
          · skip
            refine bw_iinc (ls2 := [_, _, _, _, _, _, _, _, _, _, _]) rfl rfl rfl ⟨by omega, by omega⟩ rfl ?_
            refine bw_goto rfl ?_
            refine bw_forget (ls2 := [some (vr (some 567)), some (vi a), some (vi f), some (vi (96 * f)), some (vi _), none, none, none, none, none, none]) ⟨rfl, rfl, rfl, rfl, rfl, trivial⟩ ?_
            exact ih49 _ _ k1 (cinv_congr k2 (fun j h1 h2 => by rw [if_pos (by omega)]; omega)) (by omega) (by omega)
          · skip
            refine bw_aload rfl rfl ?_
            refine bw_getr rfl rfl (hR _ _) ?_
            refine bw_iload rfl rfl ?_
            refine bw_iload rfl rfl ?_
            refine bw_iadd rfl ⟨by omega, by omega⟩ ?_
            refine bw_aldi rfl (by first | rfl | assumption) (by omega) (by omega) ?_
            try simp only [e568, e569, eR]
            refine bw_ifle rfl (fun c136 => ?_) (fun c136 => ?_)
            · skip
              refine bw_aload rfl rfl ?_
              refine bw_iload rfl rfl ?_
              refine bw_iload rfl rfl ?_
              refine bw_iload rfl rfl ?_
              refine bw_push rfl ?_
              refine bw_irem rfl (by omega) (by omega) ?_
              refine bw_iload rfl rfl ?_
              refine bw_isub rfl ⟨by omega, by omega⟩ ?_
              refine bw_iload rfl rfl ?_
              refine bw_push rfl ?_
              refine bw_idiv rfl (by omega) (by omega) ?_
              refine bw_iload rfl rfl ?_
              refine bw_isub rfl ⟨by omega, by omega⟩ ?_
              refine bw_callVe (e := d - 1) (as := [_, _, _, _]) rfl (by omega) rfl rfl (Nat.le_of_ble_eq_true rfl) (Nat.le_of_ble_eq_true rfl) rfl (m_inkOf hR hB (by omega) (by omega) (by omega)) ?_
              try simp only [e568, e569, eR]
              refine bw_istore (ls2 := [_, _, _, _, _, _, _, _, _, _, _]) rfl rfl (Nat.le_of_ble_eq_true rfl) rfl ?_
              refine bw_aload rfl rfl ?_
              refine bw_getr rfl rfl (hR _ _) ?_
              refine bw_iload rfl rfl ?_
              refine bw_iload rfl rfl ?_
              refine bw_iadd rfl ⟨by omega, by omega⟩ ?_
              refine bw_iload rfl rfl ?_
              refine bw_asti rfl (by first | rfl | assumption) (by omega) (by omega) ?_
              refine bw_aload rfl rfl ?_
              refine bw_getr rfl rfl (hR _ _) ?_
              refine bw_iload rfl rfl ?_
              refine bw_iload rfl rfl ?_
              refine bw_iadd rfl ⟨by omega, by omega⟩ ?_
              refine bw_iload rfl rfl ?_
              refine bw_ifle rfl (fun c189 => ?_) (fun c189 => ?_)
              · skip
                refine bw_push rfl ?_
                refine bw_asti rfl (by first | rfl | assumption) (by omega) (by omega) ?_
                refine bw_iinc (ls2 := [_, _, _, _, _, _, _, _, _, _, _]) rfl rfl rfl ⟨by omega, by omega⟩ rfl ?_
                refine bw_goto rfl ?_
                refine bw_forget (ls2 := [some (vr (some 567)), some (vi a), some (vi f), some (vi (96 * f)), some (vi p), some (vi (gI M 569 (a + 576 + p))), some (vi (mR M a (gI M 569 (a + 576 + p)) f)), some (vi (mv (gI M 568) (gI M 569 (a + 576 + p)) f 0)), some (vi (mv (gI M 568) (gI M 569 (a + 576 + p)) f 1)), some (vi _), none]) ⟨rfl, rfl, rfl, rfl, rfl, rfl, rfl, rfl, rfl, rfl, trivial⟩ ?_
                first
                | exact ih _ _ ((k1.sI _ _ (Or.inl rfl)).sI _ _ (Or.inr rfl)) (cinv_write (p := p) k2 (by omega) (by rw [if_neg (by omega)]) (by rw [if_pos (by omega)]) (by omega) (fun j h1 h2 h3 => stp_ne h3) (by omega) (lyI_1 k5) (ink_in hB0.sw).1 (Or.inl ⟨by omega, rfl⟩)) k3 (by omega) k5 (by omega)
                | exact ih _ _ ((k1.sI _ _ (Or.inl rfl)).sI _ _ (Or.inr rfl)) (cinv_write (p := p) k2 (by omega) (by rw [if_neg (by omega)]) (by rw [if_pos (by omega)]) (by omega) (fun j h1 h2 h3 => stp_ne h3) (by omega) (lyI_1 k5) (ink_in hB0.sw).1 (Or.inr ⟨by omega, rfl⟩)) k3 (by omega) k5 (by omega)
                | exact ih _ _ k1 (cinv_skip (p := p) k2 (fun j h1 h2 => stp_or (P := fun j => 0 < gI K 580 (96 * f + j) ∨ lyI (gI M 568) (mR M a (gI M 569 (a + 576 + p)) f) (gI M 569 (a + 576 + p)) f j = 0) (Or.inl (by omega)) (by omega))) k3 (by omega) k5 (by omega)
              · skip
                refine bw_iload rfl rfl ?_
                refine bw_goto rfl ?_
                refine bw_asti rfl (by first | rfl | assumption) (by omega) (by omega) ?_
                refine bw_iinc (ls2 := [_, _, _, _, _, _, _, _, _, _, _]) rfl rfl rfl ⟨by omega, by omega⟩ rfl ?_
                refine bw_goto rfl ?_
                refine bw_forget (ls2 := [some (vr (some 567)), some (vi a), some (vi f), some (vi (96 * f)), some (vi p), some (vi (gI M 569 (a + 576 + p))), some (vi (mR M a (gI M 569 (a + 576 + p)) f)), some (vi (mv (gI M 568) (gI M 569 (a + 576 + p)) f 0)), some (vi (mv (gI M 568) (gI M 569 (a + 576 + p)) f 1)), some (vi _), none]) ⟨rfl, rfl, rfl, rfl, rfl, rfl, rfl, rfl, rfl, rfl, trivial⟩ ?_
                first
                | exact ih _ _ ((k1.sI _ _ (Or.inl rfl)).sI _ _ (Or.inr rfl)) (cinv_write (p := p) k2 (by omega) (by rw [if_neg (by omega)]) (by rw [if_pos (by omega)]) (by omega) (fun j h1 h2 h3 => stp_ne h3) (by omega) (lyI_1 k5) (ink_in hB0.sw).1 (Or.inl ⟨by omega, rfl⟩)) k3 (by omega) k5 (by omega)
                | exact ih _ _ ((k1.sI _ _ (Or.inl rfl)).sI _ _ (Or.inr rfl)) (cinv_write (p := p) k2 (by omega) (by rw [if_neg (by omega)]) (by rw [if_pos (by omega)]) (by omega) (fun j h1 h2 h3 => stp_ne h3) (by omega) (lyI_1 k5) (ink_in hB0.sw).1 (Or.inr ⟨by omega, rfl⟩)) k3 (by omega) k5 (by omega)
                | exact ih _ _ k1 (cinv_skip (p := p) k2 (fun j h1 h2 => stp_or (P := fun j => 0 < gI K 580 (96 * f + j) ∨ lyI (gI M 568) (mR M a (gI M 569 (a + 576 + p)) f) (gI M 569 (a + 576 + p)) f j = 0) (Or.inl (by omega)) (by omega))) k3 (by omega) k5 (by omega)
            · skip
              refine bw_goto rfl ?_
              refine bw_iinc (ls2 := [_, _, _, _, _, _, _, _, _, _, _]) rfl rfl rfl ⟨by omega, by omega⟩ rfl ?_
              refine bw_goto rfl ?_
              refine bw_forget (ls2 := [some (vr (some 567)), some (vi a), some (vi f), some (vi (96 * f)), some (vi p), some (vi (gI M 569 (a + 576 + p))), some (vi (mR M a (gI M 569 (a + 576 + p)) f)), some (vi (mv (gI M 568) (gI M 569 (a + 576 + p)) f 0)), some (vi (mv (gI M 568) (gI M 569 (a + 576 + p)) f 1)), some (vi _), none]) ⟨rfl, rfl, rfl, rfl, rfl, rfl, rfl, rfl, rfl, rfl, trivial⟩ ?_
              first
              | exact ih _ _ ((k1.sI _ _ (Or.inl rfl)).sI _ _ (Or.inr rfl)) (cinv_write (p := p) k2 (by omega) (by rw [if_neg (by omega)]) (by rw [if_pos (by omega)]) (by omega) (fun j h1 h2 h3 => stp_ne h3) (by omega) (lyI_1 k5) (ink_in hB0.sw).1 (Or.inl ⟨by omega, rfl⟩)) k3 (by omega) k5 (by omega)
              | exact ih _ _ ((k1.sI _ _ (Or.inl rfl)).sI _ _ (Or.inr rfl)) (cinv_write (p := p) k2 (by omega) (by rw [if_neg (by omega)]) (by rw [if_pos (by omega)]) (by omega) (fun j h1 h2 h3 => stp_ne h3) (by omega) (lyI_1 k5) (ink_in hB0.sw).1 (Or.inr ⟨by omega, rfl⟩)) k3 (by omega) k5 (by omega)
              | exact ih _ _ k1 (cinv_skip (p := p) k2 (fun j h1 h2 => stp_or (P := fun j => 0 < gI K 580 (96 * f + j) ∨ lyI (gI M 568) (mR M a (gI M 569 (a + 576 + p)) f) (gI M 569 (a + 576 + p)) f j = 0) (Or.inl (by omega)) (by omega))) k3 (by omega) k5 (by omega)
      refine bw_iload rfl rfl ?_
      refine bw_iflt rfl (fun c51 => ?_) (fun c51 => ?_)
      · skip
        refine bw_retv rfl rfl ?_
        exact ⟨rfl, rfl, g1, cinv_end g2 (fun _ => by omega)⟩
      · skip
        have q := hS p (by omega) (by omega)
        refine bw_aload rfl rfl ?_
        refine bw_getr rfl rfl (hR _ _) ?_
        refine bw_iload rfl rfl ?_
        refine bw_push rfl ?_
        refine bw_iadd rfl ⟨by omega, by omega⟩ ?_
        refine bw_iload rfl rfl ?_
        refine bw_iadd rfl ⟨by omega, by omega⟩ ?_
        refine bw_aldi rfl (by first | rfl | assumption) (by omega) (by omega) ?_
        try simp only [e568, e569, eR]
        refine bw_istore (ls2 := [_, _, _, _, _, _, _, _, _, _, _]) rfl rfl (Nat.le_of_ble_eq_true rfl) rfl ?_
        refine bw_aload rfl rfl ?_
        refine bw_iload rfl rfl ?_
        refine bw_iload rfl rfl ?_
        refine bw_iload rfl rfl ?_
        refine bw_callVe (e := d - 1) (as := [_, _, _]) rfl (by omega) rfl rfl (Nat.le_of_ble_eq_true rfl) (Nat.le_of_ble_eq_true rfl) rfl (m_has hR (by omega) (by omega) (by omega)) ?_
        try simp only [e568, e569, eR]
        refine bw_istore (ls2 := [_, _, _, _, _, _, _, _, _, _, _]) rfl rfl (Nat.le_of_ble_eq_true rfl) rfl ?_
        refine bw_iload rfl rfl ?_
        refine bw_ifeq rfl (fun c81 => ?_) (fun c81 => ?_)
        · skip
          refine bw_iinc (ls2 := [_, _, _, _, _, _, _, _, _, _, _]) rfl rfl rfl ⟨by omega, by omega⟩ rfl ?_
          refine bw_goto rfl ?_
          refine bw_forget (ls2 := [some (vr (some 567)), some (vi a), some (vi f), some (vi (96 * f)), some (vi _), none, none, none, none, none, none]) ⟨rfl, rfl, rfl, rfl, rfl, trivial⟩ ?_
          first
          | exact ih _ _ g1 (cinv_skip (p := p) g2 (fun j h1 h2 => Or.inr ⟨rfl, by omega, by omega, Or.inr (lyI_0 (Or.inl c81))⟩)) (by omega) (by omega)
          | exact ih _ _ g1 (cinv_skip (p := p) g2 (fun j h1 h2 => Or.inr ⟨rfl, by omega, by omega, Or.inr (lyI_0 (Or.inr (hr88.elim (fun q => q.1) (fun q => absurd q.2 (by omega)))))⟩)) (by omega) (by omega)
        · skip
          refine bw_aload rfl rfl ?_
          refine bw_iload rfl rfl ?_
          refine bw_iload rfl rfl ?_
          refine bw_callVj (e := d - 1) (as := [_, _]) rfl (by omega) rfl rfl (Nat.le_of_ble_eq_true rfl) (Nat.le_of_ble_eq_true rfl) rfl (m_isHidden hR hB (by omega)) (fun r88 hr88 => ?_)
          rw [e568] at hr88
          refine bw_ifeq rfl (fun c91 => ?_) (fun c91 => ?_)
          · skip
            refine bw_aload rfl rfl ?_
            refine bw_iload rfl rfl ?_
            refine bw_iload rfl rfl ?_
            refine bw_push rfl ?_
            refine bw_callVe (e := d - 1) (as := [_, _, _]) rfl (by omega) rfl rfl (Nat.le_of_ble_eq_true rfl) (Nat.le_of_ble_eq_true rfl) rfl (m_moved hR hB (by omega) (by omega) (by omega) (by omega)) ?_
            try simp only [e568, e569, eR]
            refine bw_istore (ls2 := [_, _, _, _, _, _, _, _, _, _, _]) rfl rfl (Nat.le_of_ble_eq_true rfl) rfl ?_
            refine bw_aload rfl rfl ?_
            refine bw_iload rfl rfl ?_
            refine bw_iload rfl rfl ?_
            refine bw_push rfl ?_
            refine bw_callVe (e := d - 1) (as := [_, _, _]) rfl (by omega) rfl rfl (Nat.le_of_ble_eq_true rfl) (Nat.le_of_ble_eq_true rfl) rfl (m_moved hR hB (by omega) (by omega) (by omega) (by omega)) ?_
            try simp only [e568, e569, eR]
            refine bw_istore (ls2 := [_, _, _, _, _, _, _, _, _, _, _]) rfl rfl (Nat.le_of_ble_eq_true rfl) rfl ?_
            refine bw_push rfl ?_
            refine bw_istore (ls2 := [_, _, _, _, _, _, _, _, _, _, _]) rfl rfl (Nat.le_of_ble_eq_true rfl) rfl ?_
            exact L120 97 N 0 g1 (cinv_congr g2 (fun j h1 h2 => by rw [if_neg (by omega)])) (by omega) (by omega) (fun hh => hh.elim c81 (fun h2 => hr88.elim (fun q => absurd q.2 (by omega)) (fun q => q.1 h2))) (by omega)
          · skip
            refine bw_goto rfl ?_
            refine bw_iinc (ls2 := [_, _, _, _, _, _, _, _, _, _, _]) rfl rfl rfl ⟨by omega, by omega⟩ rfl ?_
            refine bw_goto rfl ?_
            refine bw_forget (ls2 := [some (vr (some 567)), some (vi a), some (vi f), some (vi (96 * f)), some (vi _), none, none, none, none, none, none]) ⟨rfl, rfl, rfl, rfl, rfl, trivial⟩ ?_
            first
            | exact ih _ _ g1 (cinv_skip (p := p) g2 (fun j h1 h2 => Or.inr ⟨rfl, by omega, by omega, Or.inr (lyI_0 (Or.inl c81))⟩)) (by omega) (by omega)
            | exact ih _ _ g1 (cinv_skip (p := p) g2 (fun j h1 h2 => Or.inr ⟨rfl, by omega, by omega, Or.inr (lyI_0 (Or.inr (hr88.elim (fun q => q.1) (fun q => absurd q.2 (by omega)))))⟩)) (by omega) (by omega)
  have L8 : ∀ (kf : Nat) (N : abMem) (k : Int), (sm p58 M N) → (∀ j : Int, 0 ≤ j → j < k → gI N 580 (96 * f + j) = 0 ∧ gI N 581 (96 * f + j) = -1) → (∀ j : Int, ¬ (96 * f ≤ j ∧ j < 96 * f + 96) → gI N 580 j = gI M 580 j ∧ gI N 581 j = gI M 581 j) → (0 ≤ k ∧ k ≤ 96) → ((96 - k).toNat) < kf → abW d (0, 0) 230 8 [some (vr (some 567)), some (vi a), some (vi f), some (vi (96 * f)), some (vi k), none, none, none, none, none, none] [] (0, 0) (A0 L) (N) (qV (A0 L) (fun N => sm p58 M N ∧ cmpd M N a f)) := by
    intro kf
    induction kf with
    | zero => intro N  k  g1 g2 g3 g4 hm9; exact absurd hm9 (Nat.not_lt_zero _)
    | succ kf ih8 =>
      intro N  k  g1 g2 g3 g4 hm8
      have ih := ih8
      have hR0 := hR
      have hB0 := hB
      have hR := g1.RF hR
      have hB := g1.RB (p58_no (by decide) (by decide)) (p58_no (by decide) (by decide)) hB
      have e568 := g1.at 568 (p58_no (by decide) (by decide))
      have e569 := g1.at 569 (p58_no (by decide) (by decide))
      have eR : ∀ i l : Int, mR N i l = mR M i l := g1.mR (p58_no (by decide) (by decide))
      
      refine bw_iload rfl rfl ?_
      refine bw_push rfl ?_
      refine bw_icge rfl (fun c12 => ?_) (fun c12 => ?_)
      · skip
        refine bw_aload rfl rfl ?_
        refine bw_callVe (e := d - 1) (as := []) rfl (by omega) rfl rfl (Nat.le_of_ble_eq_true rfl) (Nat.le_of_ble_eq_true rfl) rfl (m_layers hR) ?_
        try simp only [e568, e569, eR]
        refine bw_push rfl ?_
        refine bw_isub rfl ⟨by omega, by omega⟩ ?_
        refine bw_istore (ls2 := [_, _, _, _, _, _, _, _, _, _, _]) rfl rfl (Nat.le_of_ble_eq_true rfl) rfl ?_
        exact L49 ((gI M 568 1).toNat + 1) N (gI M 568 1 - 1) g1 (cinv_congr (cinv_start (fun j h1 h2 => g2 j h1 (by omega)) g3) (fun j h1 h2 => by omega)) (by omega) (by omega)
      · skip
        refine bw_aload rfl rfl ?_
        refine bw_getr rfl rfl (hR _ _) ?_
        refine bw_iload rfl rfl ?_
        refine bw_iload rfl rfl ?_
        refine bw_iadd rfl ⟨by omega, by omega⟩ ?_
        refine bw_push rfl ?_
        refine bw_asti rfl (by first | rfl | assumption) (by omega) (by omega) ?_
        refine bw_aload rfl rfl ?_
        refine bw_getr rfl rfl (hR _ _) ?_
        refine bw_iload rfl rfl ?_
        refine bw_iload rfl rfl ?_
        refine bw_iadd rfl ⟨by omega, by omega⟩ ?_
        refine bw_push rfl ?_
        refine bw_asti rfl (by first | rfl | assumption) (by omega) (by omega) ?_
        refine bw_iinc (ls2 := [_, _, _, _, _, _, _, _, _, _, _]) rfl rfl rfl ⟨by omega, by omega⟩ rfl ?_
        refine bw_goto rfl ?_
        refine ih _ _ ((g1.sI _ _ (Or.inl rfl)).sI _ _ (Or.inr rfl)) (fun j h1 h2 => ?_) (fun j h => ?_) (by omega) (by omega)
        · by_cases q : j = k
          · subst q; simp [gI_sI]
          · have q2 : ¬ 96 * f + j = 96 * f + k := by omega
            simpa [gI_sI, q, q2] using g2 j h1 (by omega)
        · have q : ¬ j = 96 * f + k := by omega
          simpa [gI_sI, q] using g3 j h
  show abW d (0, 0) 230 0 [some (vr (some 567)), some (vi a), some (vi f), none, none, none, none, none, none, none, none] [] (0, 0) (A0 L) M (qV (A0 L) (fun N => sm p58 M N ∧ cmpd M N a f))
  refine bw_push rfl ?_
  refine bw_iload rfl rfl ?_
  refine bw_imul rfl ⟨by omega, by omega⟩ ?_
  refine bw_istore (ls2 := [_, _, _, _, _, _, _, _, _, _, _]) rfl rfl (Nat.le_of_ble_eq_true rfl) rfl ?_
  refine bw_push rfl ?_
  refine bw_istore (ls2 := [_, _, _, _, _, _, _, _, _, _, _]) rfl rfl (Nat.le_of_ble_eq_true rfl) rfl ?_
  exact L8 97 M 0 (sm_refl _ _) (fun j h1 h2 => by omega) (fun j h => ⟨rfl, rfl⟩) (by omega) (by omega)
