theorem nxT_keep {S T : Int → Int} {l dr b i v k x : Int} (hb : S 2 = b ∧ 0 ≤ b) (o : ∀ j : Int, 54 ≤ j → j < 54 + 7 * b → T j = S j) (t2 : T 2 = b + 1) (t0 : T (54 + 7 * b) = l) (t1 : T (54 + 7 * b + 1) = dr) (h : isNx S i v k x) (q : x ≠ -1 ∨ ¬ (l = i ∧ dr = v)) : isNx T i v k x := by
  rcases h with ⟨h1, h3⟩ | ⟨h1, h3, h4⟩
  · refine Or.inl ⟨h1, fun j j0 j1 j2 => ?_⟩
    by_cases z : j = b
    · rw [z, t0, t1]; exact q.elim (fun k => absurd h1 k) (fun k => k)
    · rw [o _ (by omega) (by omega), o _ (by omega) (by omega)]
      exact h3 j j0 j1 (by omega)
  · refine Or.inr ⟨by omega, ?_, fun j j0 j1 j2 => ?_⟩
    · rw [o _ (by omega) (by omega), o _ (by omega) (by omega)]; exact h3
    · rw [o _ (by omega) (by omega), o _ (by omega) (by omega)]; exact h4 j j0 j1 j2
theorem nxT_new {S T : Int → Int} {l dr b k : Int} (hb : 0 ≤ b) (o : ∀ j : Int, 54 ≤ j → j < 54 + 7 * b → T j = S j) (t2 : T 2 = b + 1) (t0 : T (54 + 7 * b) = l) (t1 : T (54 + 7 * b + 1) = dr) (hk : k < b) (h : ∀ j : Int, k < j → 0 ≤ j → j < b → ¬ (S (54 + 7 * j) = l ∧ S (54 + 7 * j + 1) = dr)) : isNx T l dr k b := by
  refine Or.inr ⟨by omega, ⟨t0, t1⟩, fun j j0 j1 j2 => ?_⟩
  rw [o _ (by omega) (by omega), o _ (by omega) (by omega)]
  exact h j j0 j1 j2
theorem nxT_end {T : Int → Int} {b i v : Int} (t2 : T 2 = b + 1) : isNx T i v b (-1) := Or.inl ⟨rfl, fun j j0 j1 j2 => by omega⟩
def bxQ (s : Nat) (b : Int) (M N : abMem) : Prop := sm (pSc s) M N ∧ (∀ c : Nat, c ≠ s → c ≠ s + 39 + b.toNat → c ≠ s + 86 → gI N c = gI M c) ∧ (∀ j : Int, j ≠ 3 → gI N s j = gI M s j) ∧ gI N s 3 = b + 1 ∧ (∀ c : Int, 0 ≤ c → c < 7 → gI N (s + 39 + b.toNat) c = gI M 9 c) ∧ gI N (s + 86) = up (gI M (s + 86)) b (-1)
theorem SR_box {M N : abMem} {s : Nat} {S F : Int → Int} (hS : SR M s S) (hT : SW (up (bxU S (F 0) (F 1) (F 2) (F 3) (F 4) (F 5) (F 6)) 2 (S 2 + 1))) (h2 : S 2 ≤ 39) (hl : 0 ≤ F 0 ∧ F 0 < S 1) (hd : 0 ≤ F 1 ∧ F 1 ≤ 99) (hc : ∀ c : Nat, (c ≠ s ∧ c ≠ s + 39 + (S 2).toNat ∧ c ≠ s + 86 ∧ c ≠ s + 80 + (F 0).toNat) → gI N c = gI M c) (h0 : ∀ j : Int, j ≠ 3 → gI N s j = gI M s j) (h3 : gI N s 3 = S 2 + 1) (hb : ∀ c : Int, 0 ≤ c → c < 7 → gI N (s + 39 + (S 2).toNat) c = F c)
  (hn : (gI M (s + 80 + (F 0).toNat) (F 1) = -1 ∧ gI N (s + 86) = up (gI M (s + 86)) (S 2) (-1) ∧ gI N (s + 80 + (F 0).toNat) = up (gI M (s + 80 + (F 0).toNat)) (F 1) (S 2)) ∨ (∃ z : Int, (0 ≤ z ∧ z < S 2) ∧ (S (54 + 7 * z) = F 0 ∧ S (54 + 7 * z + 1) = F 1) ∧ gI M (s + 86) z = -1 ∧ gI M (s + 80 + (F 0).toNat) (F 1) ≠ -1 ∧ gI N (s + 86) = up (up (gI M (s + 86)) (S 2) (-1)) z (S 2) ∧ gI N (s + 80 + (F 0).toNat) = gI M (s + 80 + (F 0).toNat))) : SR N s (up (bxU S (F 0) (F 1) (F 2) (F 3) (F 4) (F 5) (F 6)) 2 (S 2 + 1)) := by
  have w0 := hS.sw.fr
  have w1 := hS.sw.la
  have w2 := hS.sw.bo
  have w3 := hS.sw.sl
  have w4 := hS.sw.hi
  have n2 := bxN_2 (S := S) (l := F 0) (dr := F 1) (x := F 2) (y := F 3) (w := F 4) (i := F 5) (g := F 6)
  have nn := bxN_n (S := S) (l := F 0) (dr := F 1) (x := F 2) (y := F 3) (w := F 4) (i := F 5) (g := F 6) (by omega)
  have o : ∀ j : Int, (j ≠ 2 ∧ (j < 54 + 7 * S 2 ∨ 61 + 7 * S 2 ≤ j)) → (up (bxU S (F 0) (F 1) (F 2) (F 3) (F 4) (F 5) (F 6)) 2 (S 2 + 1)) j = S j := fun j hj => bxN_o hj.1 hj.2
  generalize (up (bxU S (F 0) (F 1) (F 2) (F 3) (F 4) (F 5) (F 6)) 2 (S 2 + 1)) = T at hT n2 nn o ⊢
  have em : ∀ i f t : Int, (t = 0 ∨ t = 1) → mv T i f t = mv S i f t := fun i f t ht => mv_congr (o 3 (by omega)) (fun j j0 j1 => o j (by omega)) i f t ht
  have eh : ∀ i f : Int, (hid T i f) = (hid S i f) := fun i f => propext (hid_congr (o 4 (by omega)) (fun j j0 j1 => o j (by omega)) i f)
  have kp : ∀ {i v k x : Int}, isNx S i v k x → (x ≠ -1 ∨ ¬ (F 0 = i ∧ F 1 = v)) → isNx T i v k x := fun h q => nxT_keep ⟨rfl, w2.1⟩ (fun j j0 j1 => o j (by omega)) n2 nn.1 nn.2.1 h q
  have nw : ∀ k : Int, k < S 2 → (∀ j : Int, k < j → 0 ≤ j → j < S 2 → ¬ (S (54 + 7 * j) = F 0 ∧ S (54 + 7 * j + 1) = F 1)) → isNx T (F 0) (F 1) k (S 2) := fun k hk h => nxT_new w2.1 (fun j j0 j1 => o j (by omega)) n2 nn.1 nn.2.1 hk h
  exact ⟨hT, by rw [h0 0 (by omega), o 0 (by omega)]; exact hS.c0, by rw [h0 1 (by omega), o 5 (by omega)]; exact hS.c1, by rw [h0 2 (by omega), o 1 (by omega)]; exact hS.c2, by rw [h3, n2], by rw [h0 4 (by omega), o 3 (by omega)]; exact hS.c4, by rw [h0 5 (by omega), o 4 (by omega)]; exact hS.c5, fun i i0 i1 => by rw [o 1 (by omega)] at i1; rw [hc (s + 1) (by omega), o (6 + i) (by omega)]; exact hS.on i i0 i1, fun i i0 i1 => by rw [o 1 (by omega)] at i1; rw [hc (s + 2) (by omega), o (12 + 7 * i) (by omega)]; exact hS.nl i i0 i1, fun i j i0 i1 j0 j1 => by rw [o 1 (by omega)] at i1; rw [o (12 + 7 * i) (by omega)] at j1; have := (hS.sw.nm i i0 i1).2; rw [hc (s + 4 + i.toNat) (by omega), o (13 + 7 * i + j) (by omega)]; exact hS.nm i j i0 i1 j0 j1, fun i f i0 i1 f0 f1 => by rw [o 1 (by omega)] at i1; rw [o 0 (by omega)] at f1; rw [hc (s + 11 + i.toNat) (by omega), o (430 + 96 * i + f) (by omega)]; exact hS.rw i f i0 i1 f0 f1, fun i f i0 i1 f0 f1 => by rw [o 1 (by omega)] at i1; rw [o 0 (by omega)] at f1; rw [hc (s + 18 + i.toNat) (by omega), em i f 0 (by omega)]; exact hS.rt i f i0 i1 f0 f1, fun i f i0 i1 f0 f1 => by rw [o 1 (by omega)] at i1; rw [o 0 (by omega)] at f1; rw [hc (s + 25 + i.toNat) (by omega), em i f 1 (by omega)]; exact hS.dn i f i0 i1 f0 f1, fun i f i0 i1 f0 f1 => by rw [o 1 (by omega)] at i1; rw [o 0 (by omega)] at f1; rw [hc (s + 32 + i.toNat) (by omega), eh i f]; exact hS.cv i f i0 i1 f0 f1, fun i j i0 i1 j0 j1 => by
    rw [n2] at i1
    by_cases q : i = S 2
    · rw [q, hb j j0 j1]
      obtain ⟨m0, m1, m2, m3, m4, m5, m6⟩ := nn
      have c : j = 0 ∨ j = 1 ∨ j = 2 ∨ j = 3 ∨ j = 4 ∨ j = 5 ∨ j = 6 := by omega
      rcases c with c | c | c | c | c | c | c
      · rw [c, Int.add_zero, m0]
      · rw [c, m1]
      · rw [c, m2]
      · rw [c, m3]
      · rw [c, m4]
      · rw [c, m5]
      · rw [c, m6]
    · rw [hc (s + 39 + i.toNat) (by omega), o (54 + 7 * i + j) (by omega)]; exact hS.bx i j i0 (by omega) j0 j1, fun i v i0 i1 v0 v1 => by
    rw [o 1 (by omega)] at i1
    have h := hS.fb i v i0 i1 v0 v1
    by_cases q : i = F 0
    · rw [q] at h ⊢
      rcases hn with ⟨a1, a2, a3⟩ | ⟨z, z1, z2, z3, z4, z5, z6⟩
      · rw [a3]
        by_cases q2 : v = F 1
        · rw [up_eq q2, q2]
          rw [q2, a1] at h
          rcases h with ⟨_, h⟩ | ⟨h, _⟩
          · exact nw (-1) (by omega) h
          · omega
        · rw [up_ne q2]; exact kp h (Or.inr (fun k => q2 k.2.symm))
      · rw [z6]
        by_cases q2 : v = F 1
        · rw [q2] at h ⊢; exact kp h (Or.inl z4)
        · exact kp h (Or.inr (fun k => q2 k.2.symm))
    · rw [hc (s + 80 + i.toNat) (by omega)]
      exact kp h (Or.inr (fun k => q k.1.symm)), fun i i0 i1 => by
    rw [n2] at i1
    by_cases q : i = S 2
    · have e : gI N (s + 86) i = -1 := by
        rcases hn with ⟨a1, a2, a3⟩ | ⟨z, z1, z2, z3, z4, z5, z6⟩
        · rw [a2, up_eq q]
        · rw [z5, up_ne (by omega), up_eq q]
      rw [e, q]
      exact nxT_end n2
    · have h := hS.nb i i0 (by omega)
      rw [o (54 + 7 * i) (by omega), o (54 + 7 * i + 1) (by omega)]
      rcases hn with ⟨a1, a2, a3⟩ | ⟨z, z1, z2, z3, z4, z5, z6⟩
      · rw [a2, up_ne q]
        refine kp h ?_
        have f := hS.fb (F 0) (F 1) hl.1 hl.2 hd.1 hd.2
        rw [a1] at f
        rcases f with ⟨_, f⟩ | ⟨f, _⟩
        · exact Or.inr (fun k => f i (by omega) i0 (by omega) ⟨k.1.symm, k.2.symm⟩)
        · omega
      · rw [z5]
        have hz := hS.nb z z1.1 z1.2
        rw [z3, z2.1, z2.2] at hz
        have hz : ∀ j : Int, z < j → 0 ≤ j → j < S 2 → ¬ (S (54 + 7 * j) = F 0 ∧ S (54 + 7 * j + 1) = F 1) := hz.elim (fun k => k.2) (fun k => by omega)
        by_cases q2 : i = z
        · rw [up_eq q2, q2, z2.1, z2.2]
          exact nw z z1.2 hz
        · rw [up_ne q2, up_ne q]
          refine kp h ?_
          by_cases q3 : gI M (s + 86) i = -1
          · refine Or.inr (fun k => ?_)
            rw [q3] at h
            have h : ∀ j : Int, i < j → 0 ≤ j → j < S 2 → ¬ (S (54 + 7 * j) = S (54 + 7 * i) ∧ S (54 + 7 * j + 1) = S (54 + 7 * i + 1)) := h.elim (fun k => k.2) (fun k => by omega)
            by_cases q4 : i < z
            · exact h z q4 z1.1 z1.2 ⟨by rw [z2.1]; exact k.1, by rw [z2.2]; exact k.2⟩
            · exact hz i (by omega) i0 (by omega) ⟨k.1.symm, k.2.symm⟩
          · exact Or.inl q3⟩
set_option maxRecDepth 20000 in
set_option maxHeartbeats 4000000 in
theorem c_addBox {d L : Nat} {M : abMem} {r : abRf} (hR : RF r M) {s : Nat} (hs : s = 372 ∨ s = 459) {S : Int → Int} (hS : SR M s S) (hT : SW (up (bxU S (gI M 9 0) (gI M 9 1) (gI M 9 2) (gI M 9 3) (gI M 9 4) (gI M 9 5) (gI M 9 6)) 2 (S 2 + 1))) (h2 : S 2 ≤ 39) (hl : 0 ≤ gI M 9 0 ∧ gI M 9 0 < S 1) (hv : 1 ≤ gI M 9 1 ∧ gI M 9 1 ≤ 99) (hd : 1 ≤ d) : abW d (0, 0) 65 0 (abEnt (abL 65) [vr (some s), vr (some 9)]) [] (0, 0) (A0 L) M (qV (A0 L) (fun N => sm (pSc s) M N ∧ SR N s (up (bxU S (gI M 9 0) (gI M 9 1) (gI M 9 2) (gI M 9 3) (gI M 9 4) (gI M 9 5) (gI M 9 6)) 2 (S 2 + 1)))) := by
  rcases hs with rfl | rfl
  · have w0 := hS.sw.fr
    have w1 := hS.sw.la
    have w2 := hS.sw.bo
    have w3 := hS.sw.sl
    have w4 := hS.sw.hi
    have w5 := hS.sw.st
    have k3 : gI M 375 0 = gI M 375 0 := rfl
    have e3 : gI M 372 3 = S 2 := hS.c3
    have fb := hS.fb (gI M 9 0) (gI M 9 1) hl.1 hl.2 (by omega) (by omega)
    have hRM := hR
    have L83 : ∀ (kf : Nat) (N : abMem) (i z : Int), (bxQ 372 (S 2) M N) → (0 ≤ i ∧ i ≤ z ∧ z < S 2) → (S (54 + 7 * z) = gI M 9 0 ∧ S (54 + 7 * z + 1) = gI M 9 1) → (gI M (452 + (gI M 9 0).toNat) (gI M 9 1) ≠ -1) → ((40 - i).toNat) < kf → abW d (0, 0) 65 83 [some (vr (some 372)), some (vr (some 9)), some (vi (S 2)), some (vr (some (452 + (gI M 9 0).toNat))), some (vi (gI M 9 1)), some (vi z), some (vi i)] [] (0, 0) (A0 L) (N) (qV (A0 L) (fun N => sm (pSc 372) M N ∧ SR N 372 (up (bxU S (gI M 9 0) (gI M 9 1) (gI M 9 2) (gI M 9 3) (gI M 9 4) (gI M 9 5) (gI M 9 6)) 2 (S 2 + 1)))) := by
      intro kf
      induction kf with
      | zero => intro N  i z  g1 g2 g3 g4 hm9; exact absurd hm9 (Nat.not_lt_zero _)
      | succ kf ih83 =>
        intro N  i z  g1 g2 g3 g4 hm83
        have ih := ih83
        have hR := g1.1.RF hRM
        have nz := hS.nb z (by omega) g2.2.2
        have ez : gI N 458 z = gI M 458 z := by rw [show gI N 458 = up (gI M 458) (S 2) (-1) from g1.2.2.2.2.2, up_ne (by omega)]
        have nz : isNx S (S (54 + 7 * z)) (S (54 + 7 * z + 1)) z (gI M 458 z) := nz
        unfold isNx at nz
        refine bw_iload rfl rfl ?_
        refine bw_push rfl ?_
        refine bw_icge rfl (fun c87 => ?_) (fun c87 => ?_)
        · first
          | (exfalso; omega)
          | (refine bw_aload rfl rfl ?_
             refine bw_getr rfl rfl (hR _ _) ?_
             refine bw_iload rfl rfl ?_
             refine bw_iload rfl rfl ?_
             refine bw_asti rfl (by first | rfl | assumption) (by omega) (by omega) ?_
             refine bw_retv rfl rfl ?_
             refine ⟨rfl, rfl, g1.1.sI _ _ ⟨by omega, by omega⟩, SR_box (F := gI M 9) hS hT h2 hl (by omega) (fun c hc => ?_) (fun j hj => ?_) ?_ (fun c c0 c1 => ?_) (Or.inr ⟨z, ⟨by omega, by omega⟩, g3, ?_, g4, ?_, ?_⟩)⟩
             · rw [gI_sI_ne hc.2.2.1]; exact g1.2.1 c hc.1 hc.2.1 hc.2.2.1
             · rw [gI_sI_ne (by omega)]; exact g1.2.2.1 j hj
             · rw [gI_sI_ne (by omega)]; exact g1.2.2.2.1
             · rw [gI_sI_ne (by omega)]; exact g1.2.2.2.2.1 c c0 c1
             · show gI M 458 z = -1; omega
             · show gI (sI N 458 z (S 2)) 458 = up (up (gI M 458) (S 2) (-1)) z (S 2)
               rw [sI_w, gI_wI_eq, show gI N 458 = up (gI M 458) (S 2) (-1) from g1.2.2.2.2.2]
             · rw [gI_sI_ne (by omega)]; exact g1.2.1 _ (by omega) (by omega) (by omega))
        · first
          | (exfalso; omega)
          | (refine bw_aload rfl rfl ?_
             refine bw_getr rfl rfl (hR _ _) ?_
             refine bw_iload rfl rfl ?_
             refine bw_aldi rfl (by first | rfl | assumption) (by omega) (by omega) ?_
             rw [ez]
             refine bw_push rfl ?_
             refine bw_iceq rfl (fun c98 => ?_) (fun c98 => ?_)
             · skip
               refine bw_aload rfl rfl ?_
               refine bw_getr rfl rfl (hR _ _) ?_
               refine bw_iload rfl rfl ?_
               refine bw_iload rfl rfl ?_
               refine bw_asti rfl (by first | rfl | assumption) (by omega) (by omega) ?_
               refine bw_retv rfl rfl ?_
               refine ⟨rfl, rfl, g1.1.sI _ _ ⟨by omega, by omega⟩, SR_box (F := gI M 9) hS hT h2 hl (by omega) (fun c hc => ?_) (fun j hj => ?_) ?_ (fun c c0 c1 => ?_) (Or.inr ⟨z, ⟨by omega, by omega⟩, g3, ?_, g4, ?_, ?_⟩)⟩
               · rw [gI_sI_ne hc.2.2.1]; exact g1.2.1 c hc.1 hc.2.1 hc.2.2.1
               · rw [gI_sI_ne (by omega)]; exact g1.2.2.1 j hj
               · rw [gI_sI_ne (by omega)]; exact g1.2.2.2.1
               · rw [gI_sI_ne (by omega)]; exact g1.2.2.2.2.1 c c0 c1
               · show gI M 458 z = -1; omega
               · show gI (sI N 458 z (S 2)) 458 = up (up (gI M 458) (S 2) (-1)) z (S 2)
                 rw [sI_w, gI_wI_eq, show gI N 458 = up (gI M 458) (S 2) (-1) from g1.2.2.2.2.2]
               · rw [gI_sI_ne (by omega)]; exact g1.2.1 _ (by omega) (by omega) (by omega)
             · skip
               refine bw_aload rfl rfl ?_
               refine bw_getr rfl rfl (hR _ _) ?_
               refine bw_iload rfl rfl ?_
               refine bw_aldi rfl (by first | rfl | assumption) (by omega) (by omega) ?_
               rw [ez]
               refine bw_istore (ls2 := [_, _, _, _, _, _, _]) rfl rfl (Nat.le_of_ble_eq_true rfl) rfl ?_
               refine bw_iinc (ls2 := [_, _, _, _, _, _, _]) rfl rfl rfl ⟨by omega, by omega⟩ rfl ?_
               refine bw_goto rfl ?_
               exact ih N (i + 1) _ g1 (by omega) (by rcases nz with h | h; omega; exact ⟨h.2.1.1.trans g3.1, h.2.1.2.trans g3.2⟩) g4 (by omega))
    show abW d (0, 0) 65 0 [some (vr (some 372)), some (vr (some 9)), none, none, none, none, none] [] (0, 0) (A0 L) M (qV (A0 L) (fun N => sm (pSc 372) M N ∧ SR N 372 (up (bxU S (gI M 9 0) (gI M 9 1) (gI M 9 2) (gI M 9 3) (gI M 9 4) (gI M 9 5) (gI M 9 6)) 2 (S 2 + 1))))
    refine bw_aload rfl rfl ?_
    refine bw_getI rfl rfl ?_
    refine bw_push rfl ?_
    refine bw_icne rfl (fun c6 => ?_) (fun c6 => ?_)
    · first
      | (exfalso; omega)
      | (refine bw_aload rfl rfl ?_
         refine bw_getI rfl rfl ?_
         rw [e3]
         refine bw_istore (ls2 := [_, _, _, _, _, _, _]) rfl rfl (Nat.le_of_ble_eq_true rfl) rfl ?_
         refine bw_aload rfl rfl ?_
         first | refine bw_dup rfl ?_ | refine bw_dupi rfl ?_
         refine bw_getI rfl rfl ?_
         rw [e3]
         refine bw_push rfl ?_
         refine bw_iadd rfl ⟨by omega, by omega⟩ ?_
         refine bw_putI rfl rfl ?_
         refine bw_aload rfl rfl ?_
         refine bw_push rfl ?_
         refine bw_aload rfl rfl ?_
         refine bw_getr rfl rfl (hR _ _) ?_
         refine bw_iload rfl rfl ?_
         refine bw_aldr rfl (by first | rfl | assumption) (by decide) (by omega) (by omega) ((hR _ _).trans (rr_row (fun _ => rfl) (by omega) (by omega) (by omega))) ?_
         refine bw_push rfl ?_
         refine bw_push rfl ?_
         refine bw_acopy rfl rfl (by rw [kfa (b := 411) (n := 40) (v := (20, 7)) (by decide) (by decide) ⟨by omega, by omega⟩]) (by decide) (by decide) (by decide) (by show (0 : Int) + 7 ≤ 7; decide) (by rw [kfa (b := 411) (n := 40) (v := (20, 7)) (by decide) (by decide) ⟨by omega, by omega⟩]; show (0 : Int) + 7 ≤ 7; decide) (by omega) (Nat.le_of_ble_eq_true rfl) ?_
         refine bw_aload rfl rfl ?_
         refine bw_getr rfl rfl (hR _ _) ?_
         refine bw_iload rfl rfl ?_
         refine bw_push rfl ?_
         refine bw_asti rfl (by first | rfl | assumption) (by omega) (by omega) ?_
         generalize hG : sI (wI (sI M 372 3 (S 2 + 1)) (411 + (S 2).toNat) (fun j => if (0 : Int) ≤ j ∧ j < 0 + 7 then gI (sI M 372 3 (S 2 + 1)) 9 (0 + (j - 0)) else gI (sI M 372 3 (S 2 + 1)) (411 + (S 2).toNat) j)) 458 (S 2) (-1) = G
         have hG1 : bxQ 372 (S 2) M G := by
           rw [← hG]
           refine ⟨((((sm_refl (pSc 372) M).sI 3 _ ⟨Nat.le_refl _, by omega⟩).wI _ ⟨by omega, by omega⟩).sI _ _ ⟨by omega, by omega⟩), fun c c1 c2 c3 => ?_, fun j hj => ?_, ?_, fun c c0 c1 => ?_, ?_⟩
           · rw [gI_sI_ne c3, gI_wI_ne c2, gI_sI_ne c1]
           · rw [gI_sI_ne (by omega), gI_wI_ne (by omega), gI_sI_nj hj]
           · rw [gI_sI_ne (by omega), gI_wI_ne (by omega), gI_sI_eq]
           · show gI _ (411 + (S 2).toNat) c = gI M 9 c
             rw [gI_sI_ne (by omega), gI_wI_eq]
             show (if (0 : Int) ≤ c ∧ c < 0 + 7 then _ else _) = _
             rw [if_pos (by omega), gI_sI_ne (by omega), show 0 + (c - 0) = c by omega]
           · show gI _ 458 = up (gI M 458) (S 2) (-1)
             rw [sI_w, gI_wI_eq, gI_wI_ne (by omega), gI_sI_ne (by omega)]
         have hR : RF r G := hG1.1.RF hRM
         have e9 : gI G 9 = gI M 9 := hG1.2.1 9 (by omega) (by omega) (by omega)
         have e8 : gI G (452 + (gI M 9 0).toNat) = gI M (452 + (gI M 9 0).toNat) := hG1.2.1 _ (by omega) (by omega) (by omega)
         have fb : isNx S (gI M 9 0) (gI M 9 1) (-1) (gI M (452 + (gI M 9 0).toNat) (gI M 9 1)) := fb
         unfold isNx at fb
         refine bw_aload rfl rfl ?_
         refine bw_getr rfl rfl (hR _ _) ?_
         refine bw_aload rfl rfl ?_
         refine bw_push rfl ?_
         refine bw_aldi rfl (by first | rfl | assumption) (by omega) (by omega) ?_
         rw [e9]
         refine bw_aldr rfl (by first | rfl | assumption) (by decide) (by omega) (by omega) ((hR _ _).trans (rr_row (fun _ => rfl) (by omega) (by omega) (by omega))) ?_
         refine bw_astore (ls2 := [_, _, _, _, _, _, _]) rfl rfl (Nat.le_of_ble_eq_true rfl) rfl ?_
         refine bw_aload rfl rfl ?_
         refine bw_push rfl ?_
         refine bw_aldi rfl (by first | rfl | assumption) (by omega) (by omega) ?_
         rw [e9]
         refine bw_istore (ls2 := [_, _, _, _, _, _, _]) rfl rfl (Nat.le_of_ble_eq_true rfl) rfl ?_
         refine bw_aload rfl rfl ?_
         refine bw_iload rfl rfl ?_
         refine bw_aldi rfl (kfa (b := 452) (n := 6) (v := (20, 100)) (by decide) (by decide) ⟨by omega, by omega⟩) (by omega) (by omega) ?_
         rw [e8]
         refine bw_push rfl ?_
         refine bw_icne rfl (fun c65 => ?_) (fun c65 => ?_)
         · skip
           refine bw_aload rfl rfl ?_
           refine bw_iload rfl rfl ?_
           refine bw_aldi rfl (kfa (b := 452) (n := 6) (v := (20, 100)) (by decide) (by decide) ⟨by omega, by omega⟩) (by omega) (by omega) ?_
           rw [e8]
           refine bw_istore (ls2 := [_, _, _, _, _, _, _]) rfl rfl (Nat.le_of_ble_eq_true rfl) rfl ?_
           refine bw_push rfl ?_
           refine bw_istore (ls2 := [_, _, _, _, _, _, _]) rfl rfl (Nat.le_of_ble_eq_true rfl) rfl ?_
           refine L83 41 G 0 _ hG1 (by omega) (by rcases fb with h | h; omega; exact h.2.1) (by omega) (by omega)
         · skip
           refine bw_aload rfl rfl ?_
           refine bw_iload rfl rfl ?_
           refine bw_iload rfl rfl ?_
           refine bw_asti rfl (kfa (b := 452) (n := 6) (v := (20, 100)) (by decide) (by decide) ⟨by omega, by omega⟩) (by omega) (by omega) ?_
           refine bw_retv rfl rfl ?_
           refine ⟨rfl, rfl, hG1.1.sI _ _ ⟨by omega, by omega⟩, SR_box (F := gI M 9) hS hT h2 hl (by omega) (fun c hc => ?_) (fun j hj => ?_) ?_ (fun c c0 c1 => ?_) (Or.inl ⟨?_, ?_, ?_⟩)⟩
           · rw [gI_sI_ne hc.2.2.2]; exact hG1.2.1 c hc.1 hc.2.1 hc.2.2.1
           · rw [gI_sI_ne (by omega)]; exact hG1.2.2.1 j hj
           · rw [gI_sI_ne (by omega)]; exact hG1.2.2.2.1
           · rw [gI_sI_ne (by omega)]; exact hG1.2.2.2.2.1 c c0 c1
           · show gI M (452 + (gI M 9 0).toNat) (gI M 9 1) = -1; omega
           · rw [gI_sI_ne (by omega)]; exact hG1.2.2.2.2.2
           · show gI (sI G (452 + (gI M 9 0).toNat) (gI M 9 1) (S 2)) (452 + (gI M 9 0).toNat) = _
             rw [sI_w, gI_wI_eq, e8])
    · first
      | (exfalso; omega)
      | (refine bw_retv rfl rfl ?_
         exfalso; omega)
  · have w0 := hS.sw.fr
    have w1 := hS.sw.la
    have w2 := hS.sw.bo
    have w3 := hS.sw.sl
    have w4 := hS.sw.hi
    have w5 := hS.sw.st
    have k3 : gI M 462 0 = gI M 462 0 := rfl
    have e3 : gI M 459 3 = S 2 := hS.c3
    have fb := hS.fb (gI M 9 0) (gI M 9 1) hl.1 hl.2 (by omega) (by omega)
    have hRM := hR
    have L83 : ∀ (kf : Nat) (N : abMem) (i z : Int), (bxQ 459 (S 2) M N) → (0 ≤ i ∧ i ≤ z ∧ z < S 2) → (S (54 + 7 * z) = gI M 9 0 ∧ S (54 + 7 * z + 1) = gI M 9 1) → (gI M (539 + (gI M 9 0).toNat) (gI M 9 1) ≠ -1) → ((40 - i).toNat) < kf → abW d (0, 0) 65 83 [some (vr (some 459)), some (vr (some 9)), some (vi (S 2)), some (vr (some (539 + (gI M 9 0).toNat))), some (vi (gI M 9 1)), some (vi z), some (vi i)] [] (0, 0) (A0 L) (N) (qV (A0 L) (fun N => sm (pSc 459) M N ∧ SR N 459 (up (bxU S (gI M 9 0) (gI M 9 1) (gI M 9 2) (gI M 9 3) (gI M 9 4) (gI M 9 5) (gI M 9 6)) 2 (S 2 + 1)))) := by
      intro kf
      induction kf with
      | zero => intro N  i z  g1 g2 g3 g4 hm9; exact absurd hm9 (Nat.not_lt_zero _)
      | succ kf ih83 =>
        intro N  i z  g1 g2 g3 g4 hm83
        have ih := ih83
        have hR := g1.1.RF hRM
        have nz := hS.nb z (by omega) g2.2.2
        have ez : gI N 545 z = gI M 545 z := by rw [show gI N 545 = up (gI M 545) (S 2) (-1) from g1.2.2.2.2.2, up_ne (by omega)]
        have nz : isNx S (S (54 + 7 * z)) (S (54 + 7 * z + 1)) z (gI M 545 z) := nz
        unfold isNx at nz
        refine bw_iload rfl rfl ?_
        refine bw_push rfl ?_
        refine bw_icge rfl (fun c87 => ?_) (fun c87 => ?_)
        · first
          | (exfalso; omega)
          | (refine bw_aload rfl rfl ?_
             refine bw_getr rfl rfl (hR _ _) ?_
             refine bw_iload rfl rfl ?_
             refine bw_iload rfl rfl ?_
             refine bw_asti rfl (by first | rfl | assumption) (by omega) (by omega) ?_
             refine bw_retv rfl rfl ?_
             refine ⟨rfl, rfl, g1.1.sI _ _ ⟨by omega, by omega⟩, SR_box (F := gI M 9) hS hT h2 hl (by omega) (fun c hc => ?_) (fun j hj => ?_) ?_ (fun c c0 c1 => ?_) (Or.inr ⟨z, ⟨by omega, by omega⟩, g3, ?_, g4, ?_, ?_⟩)⟩
             · rw [gI_sI_ne hc.2.2.1]; exact g1.2.1 c hc.1 hc.2.1 hc.2.2.1
             · rw [gI_sI_ne (by omega)]; exact g1.2.2.1 j hj
             · rw [gI_sI_ne (by omega)]; exact g1.2.2.2.1
             · rw [gI_sI_ne (by omega)]; exact g1.2.2.2.2.1 c c0 c1
             · show gI M 545 z = -1; omega
             · show gI (sI N 545 z (S 2)) 545 = up (up (gI M 545) (S 2) (-1)) z (S 2)
               rw [sI_w, gI_wI_eq, show gI N 545 = up (gI M 545) (S 2) (-1) from g1.2.2.2.2.2]
             · rw [gI_sI_ne (by omega)]; exact g1.2.1 _ (by omega) (by omega) (by omega))
        · first
          | (exfalso; omega)
          | (refine bw_aload rfl rfl ?_
             refine bw_getr rfl rfl (hR _ _) ?_
             refine bw_iload rfl rfl ?_
             refine bw_aldi rfl (by first | rfl | assumption) (by omega) (by omega) ?_
             rw [ez]
             refine bw_push rfl ?_
             refine bw_iceq rfl (fun c98 => ?_) (fun c98 => ?_)
             · skip
               refine bw_aload rfl rfl ?_
               refine bw_getr rfl rfl (hR _ _) ?_
               refine bw_iload rfl rfl ?_
               refine bw_iload rfl rfl ?_
               refine bw_asti rfl (by first | rfl | assumption) (by omega) (by omega) ?_
               refine bw_retv rfl rfl ?_
               refine ⟨rfl, rfl, g1.1.sI _ _ ⟨by omega, by omega⟩, SR_box (F := gI M 9) hS hT h2 hl (by omega) (fun c hc => ?_) (fun j hj => ?_) ?_ (fun c c0 c1 => ?_) (Or.inr ⟨z, ⟨by omega, by omega⟩, g3, ?_, g4, ?_, ?_⟩)⟩
               · rw [gI_sI_ne hc.2.2.1]; exact g1.2.1 c hc.1 hc.2.1 hc.2.2.1
               · rw [gI_sI_ne (by omega)]; exact g1.2.2.1 j hj
               · rw [gI_sI_ne (by omega)]; exact g1.2.2.2.1
               · rw [gI_sI_ne (by omega)]; exact g1.2.2.2.2.1 c c0 c1
               · show gI M 545 z = -1; omega
               · show gI (sI N 545 z (S 2)) 545 = up (up (gI M 545) (S 2) (-1)) z (S 2)
                 rw [sI_w, gI_wI_eq, show gI N 545 = up (gI M 545) (S 2) (-1) from g1.2.2.2.2.2]
               · rw [gI_sI_ne (by omega)]; exact g1.2.1 _ (by omega) (by omega) (by omega)
             · skip
               refine bw_aload rfl rfl ?_
               refine bw_getr rfl rfl (hR _ _) ?_
               refine bw_iload rfl rfl ?_
               refine bw_aldi rfl (by first | rfl | assumption) (by omega) (by omega) ?_
               rw [ez]
               refine bw_istore (ls2 := [_, _, _, _, _, _, _]) rfl rfl (Nat.le_of_ble_eq_true rfl) rfl ?_
               refine bw_iinc (ls2 := [_, _, _, _, _, _, _]) rfl rfl rfl ⟨by omega, by omega⟩ rfl ?_
               refine bw_goto rfl ?_
               exact ih N (i + 1) _ g1 (by omega) (by rcases nz with h | h; omega; exact ⟨h.2.1.1.trans g3.1, h.2.1.2.trans g3.2⟩) g4 (by omega))
    show abW d (0, 0) 65 0 [some (vr (some 459)), some (vr (some 9)), none, none, none, none, none] [] (0, 0) (A0 L) M (qV (A0 L) (fun N => sm (pSc 459) M N ∧ SR N 459 (up (bxU S (gI M 9 0) (gI M 9 1) (gI M 9 2) (gI M 9 3) (gI M 9 4) (gI M 9 5) (gI M 9 6)) 2 (S 2 + 1))))
    refine bw_aload rfl rfl ?_
    refine bw_getI rfl rfl ?_
    refine bw_push rfl ?_
    refine bw_icne rfl (fun c6 => ?_) (fun c6 => ?_)
    · first
      | (exfalso; omega)
      | (refine bw_aload rfl rfl ?_
         refine bw_getI rfl rfl ?_
         rw [e3]
         refine bw_istore (ls2 := [_, _, _, _, _, _, _]) rfl rfl (Nat.le_of_ble_eq_true rfl) rfl ?_
         refine bw_aload rfl rfl ?_
         first | refine bw_dup rfl ?_ | refine bw_dupi rfl ?_
         refine bw_getI rfl rfl ?_
         rw [e3]
         refine bw_push rfl ?_
         refine bw_iadd rfl ⟨by omega, by omega⟩ ?_
         refine bw_putI rfl rfl ?_
         refine bw_aload rfl rfl ?_
         refine bw_push rfl ?_
         refine bw_aload rfl rfl ?_
         refine bw_getr rfl rfl (hR _ _) ?_
         refine bw_iload rfl rfl ?_
         refine bw_aldr rfl (by first | rfl | assumption) (by decide) (by omega) (by omega) ((hR _ _).trans (rr_row (fun _ => rfl) (by omega) (by omega) (by omega))) ?_
         refine bw_push rfl ?_
         refine bw_push rfl ?_
         refine bw_acopy rfl rfl (by rw [kfa (b := 498) (n := 40) (v := (20, 7)) (by decide) (by decide) ⟨by omega, by omega⟩]) (by decide) (by decide) (by decide) (by show (0 : Int) + 7 ≤ 7; decide) (by rw [kfa (b := 498) (n := 40) (v := (20, 7)) (by decide) (by decide) ⟨by omega, by omega⟩]; show (0 : Int) + 7 ≤ 7; decide) (by omega) (Nat.le_of_ble_eq_true rfl) ?_
         refine bw_aload rfl rfl ?_
         refine bw_getr rfl rfl (hR _ _) ?_
         refine bw_iload rfl rfl ?_
         refine bw_push rfl ?_
         refine bw_asti rfl (by first | rfl | assumption) (by omega) (by omega) ?_
         generalize hG : sI (wI (sI M 459 3 (S 2 + 1)) (498 + (S 2).toNat) (fun j => if (0 : Int) ≤ j ∧ j < 0 + 7 then gI (sI M 459 3 (S 2 + 1)) 9 (0 + (j - 0)) else gI (sI M 459 3 (S 2 + 1)) (498 + (S 2).toNat) j)) 545 (S 2) (-1) = G
         have hG1 : bxQ 459 (S 2) M G := by
           rw [← hG]
           refine ⟨((((sm_refl (pSc 459) M).sI 3 _ ⟨Nat.le_refl _, by omega⟩).wI _ ⟨by omega, by omega⟩).sI _ _ ⟨by omega, by omega⟩), fun c c1 c2 c3 => ?_, fun j hj => ?_, ?_, fun c c0 c1 => ?_, ?_⟩
           · rw [gI_sI_ne c3, gI_wI_ne c2, gI_sI_ne c1]
           · rw [gI_sI_ne (by omega), gI_wI_ne (by omega), gI_sI_nj hj]
           · rw [gI_sI_ne (by omega), gI_wI_ne (by omega), gI_sI_eq]
           · show gI _ (498 + (S 2).toNat) c = gI M 9 c
             rw [gI_sI_ne (by omega), gI_wI_eq]
             show (if (0 : Int) ≤ c ∧ c < 0 + 7 then _ else _) = _
             rw [if_pos (by omega), gI_sI_ne (by omega), show 0 + (c - 0) = c by omega]
           · show gI _ 545 = up (gI M 545) (S 2) (-1)
             rw [sI_w, gI_wI_eq, gI_wI_ne (by omega), gI_sI_ne (by omega)]
         have hR : RF r G := hG1.1.RF hRM
         have e9 : gI G 9 = gI M 9 := hG1.2.1 9 (by omega) (by omega) (by omega)
         have e8 : gI G (539 + (gI M 9 0).toNat) = gI M (539 + (gI M 9 0).toNat) := hG1.2.1 _ (by omega) (by omega) (by omega)
         have fb : isNx S (gI M 9 0) (gI M 9 1) (-1) (gI M (539 + (gI M 9 0).toNat) (gI M 9 1)) := fb
         unfold isNx at fb
         refine bw_aload rfl rfl ?_
         refine bw_getr rfl rfl (hR _ _) ?_
         refine bw_aload rfl rfl ?_
         refine bw_push rfl ?_
         refine bw_aldi rfl (by first | rfl | assumption) (by omega) (by omega) ?_
         rw [e9]
         refine bw_aldr rfl (by first | rfl | assumption) (by decide) (by omega) (by omega) ((hR _ _).trans (rr_row (fun _ => rfl) (by omega) (by omega) (by omega))) ?_
         refine bw_astore (ls2 := [_, _, _, _, _, _, _]) rfl rfl (Nat.le_of_ble_eq_true rfl) rfl ?_
         refine bw_aload rfl rfl ?_
         refine bw_push rfl ?_
         refine bw_aldi rfl (by first | rfl | assumption) (by omega) (by omega) ?_
         rw [e9]
         refine bw_istore (ls2 := [_, _, _, _, _, _, _]) rfl rfl (Nat.le_of_ble_eq_true rfl) rfl ?_
         refine bw_aload rfl rfl ?_
         refine bw_iload rfl rfl ?_
         refine bw_aldi rfl (kfa (b := 539) (n := 6) (v := (20, 100)) (by decide) (by decide) ⟨by omega, by omega⟩) (by omega) (by omega) ?_
         rw [e8]
         refine bw_push rfl ?_
         refine bw_icne rfl (fun c65 => ?_) (fun c65 => ?_)
         · skip
           refine bw_aload rfl rfl ?_
           refine bw_iload rfl rfl ?_
           refine bw_aldi rfl (kfa (b := 539) (n := 6) (v := (20, 100)) (by decide) (by decide) ⟨by omega, by omega⟩) (by omega) (by omega) ?_
           rw [e8]
           refine bw_istore (ls2 := [_, _, _, _, _, _, _]) rfl rfl (Nat.le_of_ble_eq_true rfl) rfl ?_
           refine bw_push rfl ?_
           refine bw_istore (ls2 := [_, _, _, _, _, _, _]) rfl rfl (Nat.le_of_ble_eq_true rfl) rfl ?_
           refine L83 41 G 0 _ hG1 (by omega) (by rcases fb with h | h; omega; exact h.2.1) (by omega) (by omega)
         · skip
           refine bw_aload rfl rfl ?_
           refine bw_iload rfl rfl ?_
           refine bw_iload rfl rfl ?_
           refine bw_asti rfl (kfa (b := 539) (n := 6) (v := (20, 100)) (by decide) (by decide) ⟨by omega, by omega⟩) (by omega) (by omega) ?_
           refine bw_retv rfl rfl ?_
           refine ⟨rfl, rfl, hG1.1.sI _ _ ⟨by omega, by omega⟩, SR_box (F := gI M 9) hS hT h2 hl (by omega) (fun c hc => ?_) (fun j hj => ?_) ?_ (fun c c0 c1 => ?_) (Or.inl ⟨?_, ?_, ?_⟩)⟩
           · rw [gI_sI_ne hc.2.2.2]; exact hG1.2.1 c hc.1 hc.2.1 hc.2.2.1
           · rw [gI_sI_ne (by omega)]; exact hG1.2.2.1 j hj
           · rw [gI_sI_ne (by omega)]; exact hG1.2.2.2.1
           · rw [gI_sI_ne (by omega)]; exact hG1.2.2.2.2.1 c c0 c1
           · show gI M (539 + (gI M 9 0).toNat) (gI M 9 1) = -1; omega
           · rw [gI_sI_ne (by omega)]; exact hG1.2.2.2.2.2
           · show gI (sI G (539 + (gI M 9 0).toNat) (gI M 9 1) (S 2)) (539 + (gI M 9 0).toNat) = _
             rw [sI_w, gI_wI_eq, e8])
    · first
      | (exfalso; omega)
      | (refine bw_retv rfl rfl ?_
         exfalso; omega)
