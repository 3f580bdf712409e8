theorem mv_none {S : Int → Int} (h : SW S) {l f t : Int} (hl : S 1 ≤ l) : mv S l f t = 0 := by
  have : ∀ n : Nat, (n : Int) ≤ S 3 → sN (mvT S l f t) n = 0 := by
    intro n
    induction n with
    | zero => intro _; rfl
    | succ n ih =>
      intro hn
      show sN (mvT S l f t) n + mvT S l f t n = 0
      rw [ih (by omega)]
      unfold mvT
      have := (h.sd n (by omega) (by omega)).1
      rw [if_neg (by omega)]
      rfl
  exact this _ (by have := h.sl; omega)
theorem hid_none {S : Int → Int} (h : SW S) {l f : Int} (hl : S 1 ≤ l) : ¬ hid S l f := fun ⟨k, k0, k1, k2, _⟩ => by
  have := (h.hd k k0 k1).1
  omega
theorem SR_layer {M N : abMem} {s : Nat} {S T a : Int → Int} {g m b e : Int} {h : HH} (hS : SR M s S) (hT : SW T) (h5 : S 1 ≤ 5) (hV : HV h) (hm : 1 ≤ m ∧ m ≤ 6) (o : ∀ j : Int, (j ≠ 1 ∧ j ≠ 6 + S 1 ∧ (j < 12 + 7 * S 1 ∨ 19 + 7 * S 1 ≤ j) ∧ (j < 430 + 96 * S 1 ∨ 526 + 96 * S 1 ≤ j)) → T j = S j) (n1 : T 1 = S 1 + 1) (v0 : T (6 + S 1) = g) (v1 : T (12 + 7 * S 1) = m) (v2 : ∀ i : Int, 0 ≤ i → i < m → T (13 + 7 * S 1 + i) = a (b + i)) (v3 : ∀ f : Int, 0 ≤ f → f < S 0 → T (430 + 96 * S 1 + f) = rowV h e f) (hc : ∀ c : Nat, (c ≠ s ∧ c ≠ s + 1 ∧ c ≠ s + 2 ∧ c ≠ s + 4 + (S 1).toNat ∧ c ≠ s + 11 + (S 1).toNat ∧ c ≠ s + 18 + (S 1).toNat ∧ c ≠ s + 25 + (S 1).toNat ∧ c ≠ s + 32 + (S 1).toNat ∧ c ≠ s + 80 + (S 1).toNat) → gI N c = gI M c) (h0 : ∀ j : Int, j ≠ 2 → gI N s j = gI M s j) (h2 : gI N s 2 = S 1 + 1) (hon : gI N (s + 1) = up (gI M (s + 1)) (S 1) g) (hnl : gI N (s + 2) = up (gI M (s + 2)) (S 1) m) (hnm : ∀ i : Int, 0 ≤ i → i < m → gI N (s + 4 + (S 1).toNat) i = a (b + i)) (hrw : ∀ f : Int, 0 ≤ f → f < S 0 → rowIs h e f (gI N (s + 11 + (S 1).toNat) f)) (hrt : ∀ f : Int, 0 ≤ f → f < 96 → gI N (s + 18 + (S 1).toNat) f = 0) (hdn : ∀ f : Int, 0 ≤ f → f < 96 → gI N (s + 25 + (S 1).toNat) f = 0) (hcv : ∀ f : Int, 0 ≤ f → f < 96 → gI N (s + 32 + (S 1).toNat) f = 0) (hfb : ∀ v : Int, 0 ≤ v → v < 100 → gI N (s + 80 + (S 1).toNat) v = -1) : SR N s T := by
  have w0 := hS.sw.fr
  have w1 := hS.sw.la
  have w2 := hS.sw.bo
  have w3 := hS.sw.sl
  have w4 := hS.sw.hi
  have em : ∀ i f t : Int, (t = 0 ∨ t = 1) → mv T i f t = mv S i f t := fun i f t ht => mv_congr (o 3 (by omega)) (fun j j0 j1 => o j (by omega)) i f t ht
  have eh : ∀ i f : Int, (hid T i f) = (hid S i f) := fun i f => propext (hid_congr (o 4 (by omega)) (fun j j0 j1 => o j (by omega)) i f)
  have en : ∀ {i v k x : Int}, isNx S i v k x → isNx T i v k x := fun h => nx_congr (o 2 (by omega)) (fun j j0 j1 => o j (by omega)) h
  exact ⟨hT, by rw [h0 0 (by omega), o 0 (by omega)]; exact hS.c0, by rw [h0 1 (by omega), o 5 (by omega)]; exact hS.c1, by rw [h2, n1], by rw [h0 3 (by omega), o 2 (by omega)]; exact hS.c3, by rw [h0 4 (by omega), o 3 (by omega)]; exact hS.c4, by rw [h0 5 (by omega), o 4 (by omega)]; exact hS.c5, fun i i0 i1 => by rw [n1] at i1; rw [hon]; by_cases q : i = S 1; (rw [up_eq q, q, v0]); (rw [up_ne q, o (6 + i) (by omega)]; exact hS.on i i0 (by omega)), fun i i0 i1 => by rw [n1] at i1; rw [hnl]; by_cases q : i = S 1; (rw [up_eq q, q, v1]); (rw [up_ne q, o (12 + 7 * i) (by omega)]; exact hS.nl i i0 (by omega)), fun i j i0 i1 j0 j1 => by rw [n1] at i1; by_cases q : i = S 1; (rw [q] at j1 ⊢; rw [v1] at j1; rw [hnm j j0 j1, v2 j j0 j1]); (rw [o (12 + 7 * i) (by omega)] at j1; have := (hS.sw.nm i i0 (by omega)).2; rw [hc (s + 4 + i.toNat) (by omega), o (13 + 7 * i + j) (by omega)]; exact hS.nm i j i0 (by omega) j0 j1), fun i f i0 i1 f0 f1 => by rw [n1] at i1; rw [o 0 (by omega)] at f1; by_cases q : i = S 1; (rw [q, v3 f f0 f1]; exact (rowV_eq hV (hrw f f0 f1)).symm); (rw [hc (s + 11 + i.toNat) (by omega), o (430 + 96 * i + f) (by omega)]; exact hS.rw i f i0 (by omega) f0 f1), fun i f i0 i1 f0 f1 => by rw [n1] at i1; rw [o 0 (by omega)] at f1; rw [em i f 0 (by omega)]; by_cases q : i = S 1; (rw [q, hrt f f0 (by omega), mv_none hS.sw (Int.le_refl _)]); (rw [hc (s + 18 + i.toNat) (by omega)]; exact hS.rt i f i0 (by omega) f0 f1), fun i f i0 i1 f0 f1 => by rw [n1] at i1; rw [o 0 (by omega)] at f1; rw [em i f 1 (by omega)]; by_cases q : i = S 1; (rw [q, hdn f f0 (by omega), mv_none hS.sw (Int.le_refl _)]); (rw [hc (s + 25 + i.toNat) (by omega)]; exact hS.dn i f i0 (by omega) f0 f1), fun i f i0 i1 f0 f1 => by rw [n1] at i1; rw [o 0 (by omega)] at f1; rw [eh i f]; by_cases q : i = S 1; (rw [q]; exact Or.inr ⟨hid_none hS.sw (Int.le_refl _), hcv f f0 (by omega)⟩); (rw [hc (s + 32 + i.toNat) (by omega)]; exact hS.cv i f i0 (by omega) f0 f1), fun i j i0 i1 j0 j1 => by rw [o 2 (by omega)] at i1; rw [hc (s + 39 + i.toNat) (by omega), o (54 + 7 * i + j) (by omega)]; exact hS.bx i j i0 i1 j0 j1, fun i v i0 i1 v0 v1 => by rw [n1] at i1; by_cases q : i = S 1; (rw [q, hfb v v0 (by omega)]; exact Or.inl ⟨rfl, fun j j0 j1 j2 hj => by rw [o 2 (by omega)] at j2; rw [o (54 + 7 * j) (by omega)] at hj; have := (hS.sw.bx j j1 j2).1; omega⟩); (rw [hc (s + 80 + i.toNat) (by omega)]; exact en (hS.fb i v i0 (by omega) v0 v1)), fun i i0 i1 => by rw [o 2 (by omega)] at i1; rw [hc (s + 86) (by omega), o (54 + 7 * i) (by omega), o (54 + 7 * i + 1) (by omega)]; exact en (hS.nb i i0 i1)⟩
/-- while a layer is added: its name so far -/
def alQ (s : Nat) (S a : Int → Int) (g m b i : Int) (M N : abMem) : Prop := sm (pSc s) M N ∧ (∀ c : Nat, c ≠ s → c ≠ s + 1 → c ≠ s + 2 → c ≠ s + 4 + (S 1).toNat → gI N c = gI M c) ∧ (∀ j : Int, j ≠ 2 → gI N s j = gI M s j) ∧ gI N s 2 = S 1 + 1 ∧ gI N (s + 1) = up (gI M (s + 1)) (S 1) g ∧ gI N (s + 2) = up (gI M (s + 2)) (S 1) m ∧ (∀ j : Int, 0 ≤ j → j < i → gI N (s + 4 + (S 1).toNat) j = a (b + j))
set_option maxRecDepth 20000 in
set_option maxHeartbeats 4000000 in
theorem c_addLayer {d L : Nat} {M : abMem} {r : abRf} (hR : RF r M) {s : Nat} (hs : s = 372 ∨ s = 459) {S : Int → Int} (hS : SR M s S) {T a : Int → Int} {g m b e fr : Int} {h : HH} (hT : SW T) (h5 : S 1 ≤ 5) (hC : CR M fr h) (h1 : 1 ≤ h.1) (hf : fr = S 0) (hg : gI M 4 5 = g) (hm : 1 ≤ m ∧ m ≤ 6) (hb : 0 ≤ b ∧ b + m ≤ 1200) (hy : ∀ i : Int, 0 ≤ i → i < m → gI M 2 (b + i) = a (b + i)) (he : e = 0 ∨ e = 1 ∨ e = 2) (o : ∀ j : Int, (j ≠ 1 ∧ j ≠ 6 + S 1 ∧ (j < 12 + 7 * S 1 ∨ 19 + 7 * S 1 ≤ j) ∧ (j < 430 + 96 * S 1 ∨ 526 + 96 * S 1 ≤ j)) → T j = S j) (n1 : T 1 = S 1 + 1) (v0 : T (6 + S 1) = g) (v1 : T (12 + 7 * S 1) = m) (v2 : ∀ i : Int, 0 ≤ i → i < m → T (13 + 7 * S 1 + i) = a (b + i)) (v3 : ∀ f : Int, 0 ≤ f → f < S 0 → T (430 + 96 * S 1 + f) = rowV h e f) (hd : 2 ≤ d) : abW d (0, 0) 63 0 (abEnt (abL 63) [vr (some s), vr (some 2), vi b, vi m, vr (some 4), vi e]) [] (0, 0) (A0 L) M (qV (A0 L) (fun N => sm (pSc s) M N ∧ SR N s T)) := by
  rcases hs with rfl | rfl
  · have w0 := hS.sw.fr
    have w1 := hS.sw.la
    have w2 := hS.sw.bo
    have w3 := hS.sw.sl
    have w4 := hS.sw.hi
    have w5 := hS.sw.st
    have e2 : gI M 372 2 = S 1 := hS.c2
    have e0 : gI M 372 0 = S 0 := hS.c0
    have hRM := hR
    have cfr := hC.2.1
    have L54 : ∀ (kf : Nat) (N : abMem) (i : Int), (alQ 372 S a g m b i M N) → (0 ≤ i ∧ i ≤ m) → ((m - i).toNat) < kf → abW d (0, 0) 63 54 [some (vr (some 372)), some (vr (some 2)), some (vi b), some (vi m), some (vr (some 4)), some (vi e), some (vi (S 1)), some (vi i)] [] (0, 0) (A0 L) (N) (qV (A0 L) (fun N => sm (pSc 372) M N ∧ SR N 372 T)) := by
      intro kf
      induction kf with
      | zero => intro N  i  g1 g2 hm9; exact absurd hm9 (Nat.not_lt_zero _)
      | succ kf ih54 =>
        intro N  i  g1 g2 hm54
        have ih := ih54
        have hR := g1.1.RF hRM
        have el : gI N 374 (S 1) = m := by rw [show gI N 374 = up (gI M 374) (S 1) m from g1.2.2.2.2.2.1, up_eq rfl]
        refine bw_iload rfl rfl ?_
        refine bw_aload rfl rfl ?_
        refine bw_getr rfl rfl (hR _ _) ?_
        refine bw_iload rfl rfl ?_
        refine bw_aldi rfl (by first | rfl | assumption) (by omega) (by omega) ?_
        rw [el]
        refine bw_icge rfl (fun c63 => ?_) (fun c63 => ?_)
        · skip
          refine bw_aload rfl rfl ?_
          refine bw_getr rfl rfl (hR _ _) ?_
          refine bw_iload rfl rfl ?_
          refine bw_aldr rfl (by first | rfl | assumption) (by decide) (by omega) (by omega) ((hR _ _).trans (rr_row (fun _ => rfl) (by omega) (by omega) (by omega))) ?_
          refine bw_push rfl ?_
          refine bw_callSn (e := d - 1) (as := [_, _]) rfl (by omega) rfl rfl (Nat.le_of_ble_eq_true rfl) (Nat.le_of_ble_eq_true rfl) (j_fill (o := 390 + (S 1).toNat) (z := 96) (M := _) (by exact hR) (kfa (b := 390) (n := 6) (v := (20, 96)) (by decide) (by decide) ⟨by omega, by omega⟩) (by omega)) ?_
          refine bw_aload rfl rfl ?_
          refine bw_getr rfl rfl (hR _ _) ?_
          refine bw_iload rfl rfl ?_
          refine bw_aldr rfl (by first | rfl | assumption) (by decide) (by omega) (by omega) ((hR _ _).trans (rr_row (fun _ => rfl) (by omega) (by omega) (by omega))) ?_
          refine bw_push rfl ?_
          refine bw_callSn (e := d - 1) (as := [_, _]) rfl (by omega) rfl rfl (Nat.le_of_ble_eq_true rfl) (Nat.le_of_ble_eq_true rfl) (j_fill (o := 397 + (S 1).toNat) (z := 96) (M := _) (by exact hR) (kfa (b := 397) (n := 6) (v := (20, 96)) (by decide) (by decide) ⟨by omega, by omega⟩) (by omega)) ?_
          refine bw_aload rfl rfl ?_
          refine bw_getr rfl rfl (hR _ _) ?_
          refine bw_iload rfl rfl ?_
          refine bw_aldr rfl (by first | rfl | assumption) (by decide) (by omega) (by omega) ((hR _ _).trans (rr_row (fun _ => rfl) (by omega) (by omega) (by omega))) ?_
          refine bw_push rfl ?_
          refine bw_callSn (e := d - 1) (as := [_, _]) rfl (by omega) rfl rfl (Nat.le_of_ble_eq_true rfl) (Nat.le_of_ble_eq_true rfl) (j_fill (o := 404 + (S 1).toNat) (z := 96) (M := _) (by exact hR) (kfa (b := 404) (n := 6) (v := (20, 96)) (by decide) (by decide) ⟨by omega, by omega⟩) (by omega)) ?_
          refine bw_aload rfl rfl ?_
          refine bw_getr rfl rfl (hR _ _) ?_
          refine bw_iload rfl rfl ?_
          refine bw_aldr rfl (by first | rfl | assumption) (by decide) (by omega) (by omega) ((hR _ _).trans (rr_row (fun _ => rfl) (by omega) (by omega) (by omega))) ?_
          refine bw_push rfl ?_
          refine bw_callSn (e := d - 1) (as := [_, _]) rfl (by omega) rfl rfl (Nat.le_of_ble_eq_true rfl) (Nat.le_of_ble_eq_true rfl) (j_fill (o := 452 + (S 1).toNat) (z := 100) (M := _) (by exact hR) (kfa (b := 452) (n := 6) (v := (20, 100)) (by decide) (by decide) ⟨by omega, by omega⟩) (by omega)) ?_
          generalize hG : wI _ (452 + (S 1).toNat) _ = G
          have hR : RF r G := by rw [← hG]; exact hR
          have gc : ∀ c : Nat, c ≠ 390 + (S 1).toNat → c ≠ 397 + (S 1).toNat → c ≠ 404 + (S 1).toNat → c ≠ 452 + (S 1).toNat → gI G c = gI N c := fun c c1 c2 c3 c4 => by rw [← hG, gI_wI_ne c4, gI_wI_ne c3, gI_wI_ne c2, gI_wI_ne c1]
          have gG : G.2 = N.2 := by rw [← hG]; rfl
          have z18 : ∀ f : Int, 0 ≤ f → f < 96 → gI G (390 + (S 1).toNat) f = 0 := fun f f0 f1 => by rw [← hG, gI_wI_ne (by omega), gI_wI_ne (by omega), gI_wI_ne (by omega), gI_wI_eq]; exact if_pos ⟨f0, f1⟩
          have z25 : ∀ f : Int, 0 ≤ f → f < 96 → gI G (397 + (S 1).toNat) f = 0 := fun f f0 f1 => by rw [← hG, gI_wI_ne (by omega), gI_wI_ne (by omega), gI_wI_eq]; exact if_pos ⟨f0, f1⟩
          have z32 : ∀ f : Int, 0 ≤ f → f < 96 → gI G (404 + (S 1).toNat) f = 0 := fun f f0 f1 => by rw [← hG, gI_wI_ne (by omega), gI_wI_eq]; exact if_pos ⟨f0, f1⟩
          have z80 : ∀ f : Int, 0 ≤ f → f < 100 → gI G (452 + (S 1).toNat) f = -1 := fun f f0 f1 => by rw [← hG, gI_wI_eq]; exact if_pos ⟨f0, f1⟩
          have gN : ∀ c : Nat, c < 100 → gI G c = gI M c := fun c hc => by rw [gc c (by omega) (by omega) (by omega) (by omega)]; exact g1.2.1 c (by omega) (by omega) (by omega) (by omega)
          have cG : CR G fr h := CR_fr hC (gN 5 (by decide)) (gN 6 (by decide)) (by rw [gN 4 (by decide)]) (by rw [gN 4 (by decide)]) (by rw [gN 4 (by decide)])
          refine bw_aload rfl rfl ?_
          refine bw_aload rfl rfl ?_
          refine bw_getr rfl rfl (hR _ _) ?_
          refine bw_iload rfl rfl ?_
          refine bw_aldr rfl (by first | rfl | assumption) (by decide) (by omega) (by omega) ((hR _ _).trans (rr_row (fun _ => rfl) (by omega) (by omega) (by omega))) ?_
          refine bw_aload rfl rfl ?_
          refine bw_aload rfl rfl ?_
          refine bw_getr rfl rfl (hR _ _) ?_
          refine bw_iload rfl rfl ?_
          refine bw_aldr rfl (by first | rfl | assumption) (by decide) (by omega) (by omega) ((hR _ _).trans (rr_row (fun _ => rfl) (by omega) (by omega) (by omega))) ?_
          refine bw_callVNi (e := d - 1) (as := [_]) rfl (by omega) rfl rfl (Nat.le_of_ble_eq_true rfl) (Nat.le_of_ble_eq_true rfl) rfl (c_layOn (o := 383 + (S 1).toNat) hR (kfa (b := 383) (n := 6) (v := (20, 96)) (by decide) (by decide) ⟨by omega, by omega⟩) (by omega) cG) (fun r158 M158 hM158 => ?_)
          obtain ⟨u158, v158, w158⟩ := hM158
          have hR := u158.RF hR
          rw [gN 4 (by decide)] at v158
          have tx : r158 = min (tS h h.1) fr := by
            rw [v158]
            rcases hC.2.2.2.2.2.1 with q | q
            · rw [q]
            · have q2 := tS_lt hC.1 hC.2.2.1.1 hC.2.2.1.2 (Int.le_refl _)
              have q3 := hC.2.2.2.2.1
              have q4 := hC.2.2.1.2
              omega
          refine bw_iload rfl rfl ?_
          refine bw_callVv (e := d - 1) (as := [_, _, _]) rfl (by omega) rfl rfl (Nat.le_of_ble_eq_true rfl) (Nat.le_of_ble_eq_true rfl) rfl (c_fillBehind (o := 383 + (S 1).toNat) (fr := fr) (h := h) hR (by first | exact Or.inl rfl | exact Or.inr rfl) (kfa (b := 383) (n := 6) (v := (20, 96)) (by decide) (by decide) ⟨by omega, by omega⟩) (by omega) hC.1 h1 ⟨by rw [u158.at 372 (by omega), gc 372 (by omega) (by omega) (by omega) (by omega), g1.2.2.1 0 (by decide), e0, hf], by omega, by omega⟩ tx he w158 (by omega)) (fun M163 hM163 => ?_)
          refine bw_retv rfl rfl ?_
          first
          | (exfalso; omega)
          | (obtain rfl : i = m := by omega
             obtain ⟨u163, v163⟩ := hM163
             have pc : ∀ {c : Nat}, c ≠ 383 + (S 1).toNat → gI M163 c = gI G c := fun hc => (u163.at _ hc).trans (u158.at _ hc)
             have sG : sm (pSc 372) N G := ⟨gG, fun c hc => gc c (fun k => hc ⟨by omega, by omega⟩) (fun k => hc ⟨by omega, by omega⟩) (fun k => hc ⟨by omega, by omega⟩) (fun k => hc ⟨by omega, by omega⟩)⟩
             have fin : sm (pSc 372) M M163 := ((g1.1.trans sG).trans (u158.mono (fun c k => ⟨by omega, by omega⟩))).trans (u163.mono (fun c k => ⟨by omega, by omega⟩))
             refine ⟨rfl, rfl, fin, SR_layer hS hT h5 hC.1 hm o n1 v0 v1 v2 v3 (fun c hc => ?_) (fun j hj => ?_) ?_ ?_ ?_ (fun j j0 j1 => ?_) (fun f f0 f1 => ?_) (fun f f0 f1 => ?_) (fun f f0 f1 => ?_) (fun f f0 f1 => ?_) (fun f f0 f1 => ?_)⟩
             · rw [pc hc.2.2.2.2.1, gc c hc.2.2.2.2.2.1 hc.2.2.2.2.2.2.1 hc.2.2.2.2.2.2.2.1 hc.2.2.2.2.2.2.2.2]
               exact g1.2.1 c hc.1 hc.2.1 hc.2.2.1 hc.2.2.2.1
             · rw [pc (by omega), gc _ (by omega) (by omega) (by omega) (by omega)]; exact g1.2.2.1 j hj
             · rw [pc (by omega), gc _ (by omega) (by omega) (by omega) (by omega)]; exact g1.2.2.2.1
             · rw [pc (by omega), gc _ (by omega) (by omega) (by omega) (by omega)]; exact g1.2.2.2.2.1
             · rw [pc (by omega), gc _ (by omega) (by omega) (by omega) (by omega)]; exact g1.2.2.2.2.2.1
             · rw [pc (by omega), gc _ (by omega) (by omega) (by omega) (by omega)]; exact g1.2.2.2.2.2.2 j j0 j1
             · exact v163 f f0 (by omega)
             · rw [pc (by omega)]; exact z18 f f0 f1
             · rw [pc (by omega)]; exact z25 f f0 f1
             · rw [pc (by omega)]; exact z32 f f0 f1
             · rw [pc (by omega)]; exact z80 f f0 f1)
        · skip
          refine bw_iload rfl rfl ?_
          refine bw_iload rfl rfl ?_
          refine bw_iadd rfl ⟨by omega, by omega⟩ ?_
          refine bw_aload rfl rfl ?_
          refine bw_len rfl (by first | rfl | assumption) (by decide) ?_
          refine bw_icge rfl (fun c72 => ?_) (fun c72 => ?_)
          · first
            | (exfalso; omega)
            | (refine bw_aload rfl rfl ?_
               refine bw_getr rfl rfl (hR _ _) ?_
               refine bw_iload rfl rfl ?_
               refine bw_aldr rfl (by first | rfl | assumption) (by decide) (by omega) (by omega) ((hR _ _).trans (rr_row (fun _ => rfl) (by omega) (by omega) (by omega))) ?_
               refine bw_push rfl ?_
               refine bw_callSn (e := d - 1) (as := [_, _]) rfl (by omega) rfl rfl (Nat.le_of_ble_eq_true rfl) (Nat.le_of_ble_eq_true rfl) (j_fill (o := 390 + (S 1).toNat) (z := 96) (M := _) (by exact hR) (kfa (b := 390) (n := 6) (v := (20, 96)) (by decide) (by decide) ⟨by omega, by omega⟩) (by omega)) ?_
               refine bw_aload rfl rfl ?_
               refine bw_getr rfl rfl (hR _ _) ?_
               refine bw_iload rfl rfl ?_
               refine bw_aldr rfl (by first | rfl | assumption) (by decide) (by omega) (by omega) ((hR _ _).trans (rr_row (fun _ => rfl) (by omega) (by omega) (by omega))) ?_
               refine bw_push rfl ?_
               refine bw_callSn (e := d - 1) (as := [_, _]) rfl (by omega) rfl rfl (Nat.le_of_ble_eq_true rfl) (Nat.le_of_ble_eq_true rfl) (j_fill (o := 397 + (S 1).toNat) (z := 96) (M := _) (by exact hR) (kfa (b := 397) (n := 6) (v := (20, 96)) (by decide) (by decide) ⟨by omega, by omega⟩) (by omega)) ?_
               refine bw_aload rfl rfl ?_
               refine bw_getr rfl rfl (hR _ _) ?_
               refine bw_iload rfl rfl ?_
               refine bw_aldr rfl (by first | rfl | assumption) (by decide) (by omega) (by omega) ((hR _ _).trans (rr_row (fun _ => rfl) (by omega) (by omega) (by omega))) ?_
               refine bw_push rfl ?_
               refine bw_callSn (e := d - 1) (as := [_, _]) rfl (by omega) rfl rfl (Nat.le_of_ble_eq_true rfl) (Nat.le_of_ble_eq_true rfl) (j_fill (o := 404 + (S 1).toNat) (z := 96) (M := _) (by exact hR) (kfa (b := 404) (n := 6) (v := (20, 96)) (by decide) (by decide) ⟨by omega, by omega⟩) (by omega)) ?_
               refine bw_aload rfl rfl ?_
               refine bw_getr rfl rfl (hR _ _) ?_
               refine bw_iload rfl rfl ?_
               refine bw_aldr rfl (by first | rfl | assumption) (by decide) (by omega) (by omega) ((hR _ _).trans (rr_row (fun _ => rfl) (by omega) (by omega) (by omega))) ?_
               refine bw_push rfl ?_
               refine bw_callSn (e := d - 1) (as := [_, _]) rfl (by omega) rfl rfl (Nat.le_of_ble_eq_true rfl) (Nat.le_of_ble_eq_true rfl) (j_fill (o := 452 + (S 1).toNat) (z := 100) (M := _) (by exact hR) (kfa (b := 452) (n := 6) (v := (20, 100)) (by decide) (by decide) ⟨by omega, by omega⟩) (by omega)) ?_
               generalize hG : wI _ (452 + (S 1).toNat) _ = G
               have hR : RF r G := by rw [← hG]; exact hR
               have gc : ∀ c : Nat, c ≠ 390 + (S 1).toNat → c ≠ 397 + (S 1).toNat → c ≠ 404 + (S 1).toNat → c ≠ 452 + (S 1).toNat → gI G c = gI N c := fun c c1 c2 c3 c4 => by rw [← hG, gI_wI_ne c4, gI_wI_ne c3, gI_wI_ne c2, gI_wI_ne c1]
               have gG : G.2 = N.2 := by rw [← hG]; rfl
               have z18 : ∀ f : Int, 0 ≤ f → f < 96 → gI G (390 + (S 1).toNat) f = 0 := fun f f0 f1 => by rw [← hG, gI_wI_ne (by omega), gI_wI_ne (by omega), gI_wI_ne (by omega), gI_wI_eq]; exact if_pos ⟨f0, f1⟩
               have z25 : ∀ f : Int, 0 ≤ f → f < 96 → gI G (397 + (S 1).toNat) f = 0 := fun f f0 f1 => by rw [← hG, gI_wI_ne (by omega), gI_wI_ne (by omega), gI_wI_eq]; exact if_pos ⟨f0, f1⟩
               have z32 : ∀ f : Int, 0 ≤ f → f < 96 → gI G (404 + (S 1).toNat) f = 0 := fun f f0 f1 => by rw [← hG, gI_wI_ne (by omega), gI_wI_eq]; exact if_pos ⟨f0, f1⟩
               have z80 : ∀ f : Int, 0 ≤ f → f < 100 → gI G (452 + (S 1).toNat) f = -1 := fun f f0 f1 => by rw [← hG, gI_wI_eq]; exact if_pos ⟨f0, f1⟩
               have gN : ∀ c : Nat, c < 100 → gI G c = gI M c := fun c hc => by rw [gc c (by omega) (by omega) (by omega) (by omega)]; exact g1.2.1 c (by omega) (by omega) (by omega) (by omega)
               have cG : CR G fr h := CR_fr hC (gN 5 (by decide)) (gN 6 (by decide)) (by rw [gN 4 (by decide)]) (by rw [gN 4 (by decide)]) (by rw [gN 4 (by decide)])
               refine bw_aload rfl rfl ?_
               refine bw_aload rfl rfl ?_
               refine bw_getr rfl rfl (hR _ _) ?_
               refine bw_iload rfl rfl ?_
               refine bw_aldr rfl (by first | rfl | assumption) (by decide) (by omega) (by omega) ((hR _ _).trans (rr_row (fun _ => rfl) (by omega) (by omega) (by omega))) ?_
               refine bw_aload rfl rfl ?_
               refine bw_aload rfl rfl ?_
               refine bw_getr rfl rfl (hR _ _) ?_
               refine bw_iload rfl rfl ?_
               refine bw_aldr rfl (by first | rfl | assumption) (by decide) (by omega) (by omega) ((hR _ _).trans (rr_row (fun _ => rfl) (by omega) (by omega) (by omega))) ?_
               refine bw_callVNi (e := d - 1) (as := [_]) rfl (by omega) rfl rfl (Nat.le_of_ble_eq_true rfl) (Nat.le_of_ble_eq_true rfl) rfl (c_layOn (o := 383 + (S 1).toNat) hR (kfa (b := 383) (n := 6) (v := (20, 96)) (by decide) (by decide) ⟨by omega, by omega⟩) (by omega) cG) (fun r158 M158 hM158 => ?_)
               obtain ⟨u158, v158, w158⟩ := hM158
               have hR := u158.RF hR
               rw [gN 4 (by decide)] at v158
               have tx : r158 = min (tS h h.1) fr := by
                 rw [v158]
                 rcases hC.2.2.2.2.2.1 with q | q
                 · rw [q]
                 · have q2 := tS_lt hC.1 hC.2.2.1.1 hC.2.2.1.2 (Int.le_refl _)
                   have q3 := hC.2.2.2.2.1
                   have q4 := hC.2.2.1.2
                   omega
               refine bw_iload rfl rfl ?_
               refine bw_callVv (e := d - 1) (as := [_, _, _]) rfl (by omega) rfl rfl (Nat.le_of_ble_eq_true rfl) (Nat.le_of_ble_eq_true rfl) rfl (c_fillBehind (o := 383 + (S 1).toNat) (fr := fr) (h := h) hR (by first | exact Or.inl rfl | exact Or.inr rfl) (kfa (b := 383) (n := 6) (v := (20, 96)) (by decide) (by decide) ⟨by omega, by omega⟩) (by omega) hC.1 h1 ⟨by rw [u158.at 372 (by omega), gc 372 (by omega) (by omega) (by omega) (by omega), g1.2.2.1 0 (by decide), e0, hf], by omega, by omega⟩ tx he w158 (by omega)) (fun M163 hM163 => ?_)
               refine bw_retv rfl rfl ?_
               first
               | (exfalso; omega)
               | (obtain rfl : i = m := by omega
                  obtain ⟨u163, v163⟩ := hM163
                  have pc : ∀ {c : Nat}, c ≠ 383 + (S 1).toNat → gI M163 c = gI G c := fun hc => (u163.at _ hc).trans (u158.at _ hc)
                  have sG : sm (pSc 372) N G := ⟨gG, fun c hc => gc c (fun k => hc ⟨by omega, by omega⟩) (fun k => hc ⟨by omega, by omega⟩) (fun k => hc ⟨by omega, by omega⟩) (fun k => hc ⟨by omega, by omega⟩)⟩
                  have fin : sm (pSc 372) M M163 := ((g1.1.trans sG).trans (u158.mono (fun c k => ⟨by omega, by omega⟩))).trans (u163.mono (fun c k => ⟨by omega, by omega⟩))
                  refine ⟨rfl, rfl, fin, SR_layer hS hT h5 hC.1 hm o n1 v0 v1 v2 v3 (fun c hc => ?_) (fun j hj => ?_) ?_ ?_ ?_ (fun j j0 j1 => ?_) (fun f f0 f1 => ?_) (fun f f0 f1 => ?_) (fun f f0 f1 => ?_) (fun f f0 f1 => ?_) (fun f f0 f1 => ?_)⟩
                  · rw [pc hc.2.2.2.2.1, gc c hc.2.2.2.2.2.1 hc.2.2.2.2.2.2.1 hc.2.2.2.2.2.2.2.1 hc.2.2.2.2.2.2.2.2]
                    exact g1.2.1 c hc.1 hc.2.1 hc.2.2.1 hc.2.2.2.1
                  · rw [pc (by omega), gc _ (by omega) (by omega) (by omega) (by omega)]; exact g1.2.2.1 j hj
                  · rw [pc (by omega), gc _ (by omega) (by omega) (by omega) (by omega)]; exact g1.2.2.2.1
                  · rw [pc (by omega), gc _ (by omega) (by omega) (by omega) (by omega)]; exact g1.2.2.2.2.1
                  · rw [pc (by omega), gc _ (by omega) (by omega) (by omega) (by omega)]; exact g1.2.2.2.2.2.1
                  · rw [pc (by omega), gc _ (by omega) (by omega) (by omega) (by omega)]; exact g1.2.2.2.2.2.2 j j0 j1
                  · exact v163 f f0 (by omega)
                  · rw [pc (by omega)]; exact z18 f f0 f1
                  · rw [pc (by omega)]; exact z25 f f0 f1
                  · rw [pc (by omega)]; exact z32 f f0 f1
                  · rw [pc (by omega)]; exact z80 f f0 f1))
          · first
            | (exfalso; omega)
            | (refine bw_aload rfl rfl ?_
               refine bw_getr rfl rfl (hR _ _) ?_
               refine bw_iload rfl rfl ?_
               refine bw_aldr rfl (by first | rfl | assumption) (by decide) (by omega) (by omega) ((hR _ _).trans (rr_row (fun _ => rfl) (by omega) (by omega) (by omega))) ?_
               refine bw_iload rfl rfl ?_
               refine bw_aload rfl rfl ?_
               refine bw_iload rfl rfl ?_
               refine bw_iload rfl rfl ?_
               refine bw_iadd rfl ⟨by omega, by omega⟩ ?_
               refine bw_aldb rfl (by first | rfl | assumption) (by decide) (by omega) (by omega) ?_
               rw [show gI N 2 = gI M 2 from g1.2.1 2 (by decide) (by decide) (by decide) (by omega), hy i (by omega) (by omega)]
               refine bw_asti rfl (kfa (b := 376) (n := 6) (v := (20, 6)) (by decide) (by decide) ⟨by omega, by omega⟩) (by omega) (by omega) ?_
               refine bw_iinc (ls2 := [_, _, _, _, _, _, _, _]) rfl rfl rfl ⟨by omega, by omega⟩ rfl ?_
               refine bw_goto rfl ?_
               refine ih _ (i + 1) ⟨g1.1.sI _ _ ⟨by omega, by omega⟩, fun c c1 c2 c3 c4 => ?_, fun j hj => ?_, ?_, ?_, ?_, fun j j0 j1 => ?_⟩ (by omega) (by omega)
               · rw [gI_sI_ne c4]; exact g1.2.1 c c1 c2 c3 c4
               · rw [gI_sI_ne (by omega)]; exact g1.2.2.1 j hj
               · rw [gI_sI_ne (by omega)]; exact g1.2.2.2.1
               · rw [gI_sI_ne (by omega)]; exact g1.2.2.2.2.1
               · rw [gI_sI_ne (by omega)]; exact g1.2.2.2.2.2.1
               · show gI _ (376 + (S 1).toNat) j = a (b + j)
                 by_cases q : j = i
                 · rw [q, gI_sI_eq]
                 · rw [gI_sI_nj q]; exact g1.2.2.2.2.2.2 j j0 (by omega))
    show abW d (0, 0) 63 0 [some (vr (some 372)), some (vr (some 2)), some (vi b), some (vi m), some (vr (some 4)), some (vi e), none, none] [] (0, 0) (A0 L) M (qV (A0 L) (fun N => sm (pSc 372) M N ∧ SR N 372 T))
    refine bw_aload rfl rfl ?_
    refine bw_getI rfl rfl ?_
    rw [e2]
    refine bw_push rfl ?_
    refine bw_icne rfl (fun c6 => ?_) (fun c6 => ?_)
    · first
      | (exfalso; omega)
      | (refine bw_aload rfl rfl ?_
         refine bw_getI rfl rfl ?_
         rw [e2]
         refine bw_istore (ls2 := [_, _, _, _, _, _, _, _]) rfl rfl (Nat.le_of_ble_eq_true rfl) rfl ?_
         refine bw_aload rfl rfl ?_
         first | refine bw_dup rfl ?_ | refine bw_dupi rfl ?_
         refine bw_getI rfl rfl ?_
         rw [e2]
         refine bw_push rfl ?_
         refine bw_iadd rfl ⟨by omega, by omega⟩ ?_
         refine bw_putI rfl rfl ?_
         refine bw_aload rfl rfl ?_
         refine bw_getr rfl rfl (hR _ _) ?_
         refine bw_iload rfl rfl ?_
         refine bw_aload rfl rfl ?_
         refine bw_getI rfl rfl ?_
         rw [gI_sI_ne (show 4 ≠ 372 by decide), hg]
         refine bw_asti rfl (by first | rfl | assumption) (by omega) (by omega) ?_
         refine bw_aload rfl rfl ?_
         refine bw_getr rfl rfl (hR _ _) ?_
         refine bw_iload rfl rfl ?_
         refine bw_iload rfl rfl ?_
         refine bw_push rfl ?_
         refine bw_min rfl (by omega) (Nat.le_of_ble_eq_true rfl) (by decide) (by decide) ?_
         refine bw_asti rfl (by first | rfl | assumption) (by omega) (by omega) ?_
         refine bw_push rfl ?_
         refine bw_istore (ls2 := [_, _, _, _, _, _, _, _]) rfl rfl (Nat.le_of_ble_eq_true rfl) rfl ?_
         refine L54 ((m - 0).toNat + 1) _ 0 ⟨(((sm_refl (pSc 372) M).sI 2 _ ⟨Nat.le_refl _, by omega⟩).sI _ _ ⟨by omega, by omega⟩).sI _ _ ⟨by omega, by omega⟩, fun c c1 c2 c3 c4 => ?_, fun j hj => ?_, ?_, ?_, ?_, fun j j0 j1 => by omega⟩ (by omega) (by omega)
         · rw [gI_sI_ne c3, gI_sI_ne c2, gI_sI_ne c1]
         · rw [gI_sI_ne (by decide), gI_sI_ne (by decide), gI_sI_nj hj]
         · rw [gI_sI_ne (by decide), gI_sI_ne (by decide), gI_sI_eq]
         · show gI _ 373 = up (gI M 373) (S 1) g
           rw [gI_sI_ne (by decide), sI_w, gI_wI_eq, gI_sI_ne (by decide)]
         · show gI _ 374 = up (gI M 374) (S 1) m
           rw [sI_w, gI_wI_eq, gI_sI_ne (by decide), gI_sI_ne (by decide), show min m 6 = m by omega])
    · first
      | (exfalso; omega)
      | (refine bw_retv rfl rfl ?_
         exfalso; omega)
  · have w0 := hS.sw.fr
    have w1 := hS.sw.la
    have w2 := hS.sw.bo
    have w3 := hS.sw.sl
    have w4 := hS.sw.hi
    have w5 := hS.sw.st
    have e2 : gI M 459 2 = S 1 := hS.c2
    have e0 : gI M 459 0 = S 0 := hS.c0
    have hRM := hR
    have cfr := hC.2.1
    have L54 : ∀ (kf : Nat) (N : abMem) (i : Int), (alQ 459 S a g m b i M N) → (0 ≤ i ∧ i ≤ m) → ((m - i).toNat) < kf → abW d (0, 0) 63 54 [some (vr (some 459)), some (vr (some 2)), some (vi b), some (vi m), some (vr (some 4)), some (vi e), some (vi (S 1)), some (vi i)] [] (0, 0) (A0 L) (N) (qV (A0 L) (fun N => sm (pSc 459) M N ∧ SR N 459 T)) := by
      intro kf
      induction kf with
      | zero => intro N  i  g1 g2 hm9; exact absurd hm9 (Nat.not_lt_zero _)
      | succ kf ih54 =>
        intro N  i  g1 g2 hm54
        have ih := ih54
        have hR := g1.1.RF hRM
        have el : gI N 461 (S 1) = m := by rw [show gI N 461 = up (gI M 461) (S 1) m from g1.2.2.2.2.2.1, up_eq rfl]
        refine bw_iload rfl rfl ?_
        refine bw_aload rfl rfl ?_
        refine bw_getr rfl rfl (hR _ _) ?_
        refine bw_iload rfl rfl ?_
        refine bw_aldi rfl (by first | rfl | assumption) (by omega) (by omega) ?_
        rw [el]
        refine bw_icge rfl (fun c63 => ?_) (fun c63 => ?_)
        · skip
          refine bw_aload rfl rfl ?_
          refine bw_getr rfl rfl (hR _ _) ?_
          refine bw_iload rfl rfl ?_
          refine bw_aldr rfl (by first | rfl | assumption) (by decide) (by omega) (by omega) ((hR _ _).trans (rr_row (fun _ => rfl) (by omega) (by omega) (by omega))) ?_
          refine bw_push rfl ?_
          refine bw_callSn (e := d - 1) (as := [_, _]) rfl (by omega) rfl rfl (Nat.le_of_ble_eq_true rfl) (Nat.le_of_ble_eq_true rfl) (j_fill (o := 477 + (S 1).toNat) (z := 96) (M := _) (by exact hR) (kfa (b := 477) (n := 6) (v := (20, 96)) (by decide) (by decide) ⟨by omega, by omega⟩) (by omega)) ?_
          refine bw_aload rfl rfl ?_
          refine bw_getr rfl rfl (hR _ _) ?_
          refine bw_iload rfl rfl ?_
          refine bw_aldr rfl (by first | rfl | assumption) (by decide) (by omega) (by omega) ((hR _ _).trans (rr_row (fun _ => rfl) (by omega) (by omega) (by omega))) ?_
          refine bw_push rfl ?_
          refine bw_callSn (e := d - 1) (as := [_, _]) rfl (by omega) rfl rfl (Nat.le_of_ble_eq_true rfl) (Nat.le_of_ble_eq_true rfl) (j_fill (o := 484 + (S 1).toNat) (z := 96) (M := _) (by exact hR) (kfa (b := 484) (n := 6) (v := (20, 96)) (by decide) (by decide) ⟨by omega, by omega⟩) (by omega)) ?_
          refine bw_aload rfl rfl ?_
          refine bw_getr rfl rfl (hR _ _) ?_
          refine bw_iload rfl rfl ?_
          refine bw_aldr rfl (by first | rfl | assumption) (by decide) (by omega) (by omega) ((hR _ _).trans (rr_row (fun _ => rfl) (by omega) (by omega) (by omega))) ?_
          refine bw_push rfl ?_
          refine bw_callSn (e := d - 1) (as := [_, _]) rfl (by omega) rfl rfl (Nat.le_of_ble_eq_true rfl) (Nat.le_of_ble_eq_true rfl) (j_fill (o := 491 + (S 1).toNat) (z := 96) (M := _) (by exact hR) (kfa (b := 491) (n := 6) (v := (20, 96)) (by decide) (by decide) ⟨by omega, by omega⟩) (by omega)) ?_
          refine bw_aload rfl rfl ?_
          refine bw_getr rfl rfl (hR _ _) ?_
          refine bw_iload rfl rfl ?_
          refine bw_aldr rfl (by first | rfl | assumption) (by decide) (by omega) (by omega) ((hR _ _).trans (rr_row (fun _ => rfl) (by omega) (by omega) (by omega))) ?_
          refine bw_push rfl ?_
          refine bw_callSn (e := d - 1) (as := [_, _]) rfl (by omega) rfl rfl (Nat.le_of_ble_eq_true rfl) (Nat.le_of_ble_eq_true rfl) (j_fill (o := 539 + (S 1).toNat) (z := 100) (M := _) (by exact hR) (kfa (b := 539) (n := 6) (v := (20, 100)) (by decide) (by decide) ⟨by omega, by omega⟩) (by omega)) ?_
          generalize hG : wI _ (539 + (S 1).toNat) _ = G
          have hR : RF r G := by rw [← hG]; exact hR
          have gc : ∀ c : Nat, c ≠ 477 + (S 1).toNat → c ≠ 484 + (S 1).toNat → c ≠ 491 + (S 1).toNat → c ≠ 539 + (S 1).toNat → gI G c = gI N c := fun c c1 c2 c3 c4 => by rw [← hG, gI_wI_ne c4, gI_wI_ne c3, gI_wI_ne c2, gI_wI_ne c1]
          have gG : G.2 = N.2 := by rw [← hG]; rfl
          have z18 : ∀ f : Int, 0 ≤ f → f < 96 → gI G (477 + (S 1).toNat) f = 0 := fun f f0 f1 => by rw [← hG, gI_wI_ne (by omega), gI_wI_ne (by omega), gI_wI_ne (by omega), gI_wI_eq]; exact if_pos ⟨f0, f1⟩
          have z25 : ∀ f : Int, 0 ≤ f → f < 96 → gI G (484 + (S 1).toNat) f = 0 := fun f f0 f1 => by rw [← hG, gI_wI_ne (by omega), gI_wI_ne (by omega), gI_wI_eq]; exact if_pos ⟨f0, f1⟩
          have z32 : ∀ f : Int, 0 ≤ f → f < 96 → gI G (491 + (S 1).toNat) f = 0 := fun f f0 f1 => by rw [← hG, gI_wI_ne (by omega), gI_wI_eq]; exact if_pos ⟨f0, f1⟩
          have z80 : ∀ f : Int, 0 ≤ f → f < 100 → gI G (539 + (S 1).toNat) f = -1 := fun f f0 f1 => by rw [← hG, gI_wI_eq]; exact if_pos ⟨f0, f1⟩
          have gN : ∀ c : Nat, c < 100 → gI G c = gI M c := fun c hc => by rw [gc c (by omega) (by omega) (by omega) (by omega)]; exact g1.2.1 c (by omega) (by omega) (by omega) (by omega)
          have cG : CR G fr h := CR_fr hC (gN 5 (by decide)) (gN 6 (by decide)) (by rw [gN 4 (by decide)]) (by rw [gN 4 (by decide)]) (by rw [gN 4 (by decide)])
          refine bw_aload rfl rfl ?_
          refine bw_aload rfl rfl ?_
          refine bw_getr rfl rfl (hR _ _) ?_
          refine bw_iload rfl rfl ?_
          refine bw_aldr rfl (by first | rfl | assumption) (by decide) (by omega) (by omega) ((hR _ _).trans (rr_row (fun _ => rfl) (by omega) (by omega) (by omega))) ?_
          refine bw_aload rfl rfl ?_
          refine bw_aload rfl rfl ?_
          refine bw_getr rfl rfl (hR _ _) ?_
          refine bw_iload rfl rfl ?_
          refine bw_aldr rfl (by first | rfl | assumption) (by decide) (by omega) (by omega) ((hR _ _).trans (rr_row (fun _ => rfl) (by omega) (by omega) (by omega))) ?_
          refine bw_callVNi (e := d - 1) (as := [_]) rfl (by omega) rfl rfl (Nat.le_of_ble_eq_true rfl) (Nat.le_of_ble_eq_true rfl) rfl (c_layOn (o := 470 + (S 1).toNat) hR (kfa (b := 470) (n := 6) (v := (20, 96)) (by decide) (by decide) ⟨by omega, by omega⟩) (by omega) cG) (fun r158 M158 hM158 => ?_)
          obtain ⟨u158, v158, w158⟩ := hM158
          have hR := u158.RF hR
          rw [gN 4 (by decide)] at v158
          have tx : r158 = min (tS h h.1) fr := by
            rw [v158]
            rcases hC.2.2.2.2.2.1 with q | q
            · rw [q]
            · have q2 := tS_lt hC.1 hC.2.2.1.1 hC.2.2.1.2 (Int.le_refl _)
              have q3 := hC.2.2.2.2.1
              have q4 := hC.2.2.1.2
              omega
          refine bw_iload rfl rfl ?_
          refine bw_callVv (e := d - 1) (as := [_, _, _]) rfl (by omega) rfl rfl (Nat.le_of_ble_eq_true rfl) (Nat.le_of_ble_eq_true rfl) rfl (c_fillBehind (o := 470 + (S 1).toNat) (fr := fr) (h := h) hR (by first | exact Or.inl rfl | exact Or.inr rfl) (kfa (b := 470) (n := 6) (v := (20, 96)) (by decide) (by decide) ⟨by omega, by omega⟩) (by omega) hC.1 h1 ⟨by rw [u158.at 459 (by omega), gc 459 (by omega) (by omega) (by omega) (by omega), g1.2.2.1 0 (by decide), e0, hf], by omega, by omega⟩ tx he w158 (by omega)) (fun M163 hM163 => ?_)
          refine bw_retv rfl rfl ?_
          first
          | (exfalso; omega)
          | (obtain rfl : i = m := by omega
             obtain ⟨u163, v163⟩ := hM163
             have pc : ∀ {c : Nat}, c ≠ 470 + (S 1).toNat → gI M163 c = gI G c := fun hc => (u163.at _ hc).trans (u158.at _ hc)
             have sG : sm (pSc 459) N G := ⟨gG, fun c hc => gc c (fun k => hc ⟨by omega, by omega⟩) (fun k => hc ⟨by omega, by omega⟩) (fun k => hc ⟨by omega, by omega⟩) (fun k => hc ⟨by omega, by omega⟩)⟩
             have fin : sm (pSc 459) M M163 := ((g1.1.trans sG).trans (u158.mono (fun c k => ⟨by omega, by omega⟩))).trans (u163.mono (fun c k => ⟨by omega, by omega⟩))
             refine ⟨rfl, rfl, fin, SR_layer hS hT h5 hC.1 hm o n1 v0 v1 v2 v3 (fun c hc => ?_) (fun j hj => ?_) ?_ ?_ ?_ (fun j j0 j1 => ?_) (fun f f0 f1 => ?_) (fun f f0 f1 => ?_) (fun f f0 f1 => ?_) (fun f f0 f1 => ?_) (fun f f0 f1 => ?_)⟩
             · rw [pc hc.2.2.2.2.1, gc c hc.2.2.2.2.2.1 hc.2.2.2.2.2.2.1 hc.2.2.2.2.2.2.2.1 hc.2.2.2.2.2.2.2.2]
               exact g1.2.1 c hc.1 hc.2.1 hc.2.2.1 hc.2.2.2.1
             · rw [pc (by omega), gc _ (by omega) (by omega) (by omega) (by omega)]; exact g1.2.2.1 j hj
             · rw [pc (by omega), gc _ (by omega) (by omega) (by omega) (by omega)]; exact g1.2.2.2.1
             · rw [pc (by omega), gc _ (by omega) (by omega) (by omega) (by omega)]; exact g1.2.2.2.2.1
             · rw [pc (by omega), gc _ (by omega) (by omega) (by omega) (by omega)]; exact g1.2.2.2.2.2.1
             · rw [pc (by omega), gc _ (by omega) (by omega) (by omega) (by omega)]; exact g1.2.2.2.2.2.2 j j0 j1
             · exact v163 f f0 (by omega)
             · rw [pc (by omega)]; exact z18 f f0 f1
             · rw [pc (by omega)]; exact z25 f f0 f1
             · rw [pc (by omega)]; exact z32 f f0 f1
             · rw [pc (by omega)]; exact z80 f f0 f1)
        · skip
          refine bw_iload rfl rfl ?_
          refine bw_iload rfl rfl ?_
          refine bw_iadd rfl ⟨by omega, by omega⟩ ?_
          refine bw_aload rfl rfl ?_
          refine bw_len rfl (by first | rfl | assumption) (by decide) ?_
          refine bw_icge rfl (fun c72 => ?_) (fun c72 => ?_)
          · first
            | (exfalso; omega)
            | (refine bw_aload rfl rfl ?_
               refine bw_getr rfl rfl (hR _ _) ?_
               refine bw_iload rfl rfl ?_
               refine bw_aldr rfl (by first | rfl | assumption) (by decide) (by omega) (by omega) ((hR _ _).trans (rr_row (fun _ => rfl) (by omega) (by omega) (by omega))) ?_
               refine bw_push rfl ?_
               refine bw_callSn (e := d - 1) (as := [_, _]) rfl (by omega) rfl rfl (Nat.le_of_ble_eq_true rfl) (Nat.le_of_ble_eq_true rfl) (j_fill (o := 477 + (S 1).toNat) (z := 96) (M := _) (by exact hR) (kfa (b := 477) (n := 6) (v := (20, 96)) (by decide) (by decide) ⟨by omega, by omega⟩) (by omega)) ?_
               refine bw_aload rfl rfl ?_
               refine bw_getr rfl rfl (hR _ _) ?_
               refine bw_iload rfl rfl ?_
               refine bw_aldr rfl (by first | rfl | assumption) (by decide) (by omega) (by omega) ((hR _ _).trans (rr_row (fun _ => rfl) (by omega) (by omega) (by omega))) ?_
               refine bw_push rfl ?_
               refine bw_callSn (e := d - 1) (as := [_, _]) rfl (by omega) rfl rfl (Nat.le_of_ble_eq_true rfl) (Nat.le_of_ble_eq_true rfl) (j_fill (o := 484 + (S 1).toNat) (z := 96) (M := _) (by exact hR) (kfa (b := 484) (n := 6) (v := (20, 96)) (by decide) (by decide) ⟨by omega, by omega⟩) (by omega)) ?_
               refine bw_aload rfl rfl ?_
               refine bw_getr rfl rfl (hR _ _) ?_
               refine bw_iload rfl rfl ?_
               refine bw_aldr rfl (by first | rfl | assumption) (by decide) (by omega) (by omega) ((hR _ _).trans (rr_row (fun _ => rfl) (by omega) (by omega) (by omega))) ?_
               refine bw_push rfl ?_
               refine bw_callSn (e := d - 1) (as := [_, _]) rfl (by omega) rfl rfl (Nat.le_of_ble_eq_true rfl) (Nat.le_of_ble_eq_true rfl) (j_fill (o := 491 + (S 1).toNat) (z := 96) (M := _) (by exact hR) (kfa (b := 491) (n := 6) (v := (20, 96)) (by decide) (by decide) ⟨by omega, by omega⟩) (by omega)) ?_
               refine bw_aload rfl rfl ?_
               refine bw_getr rfl rfl (hR _ _) ?_
               refine bw_iload rfl rfl ?_
               refine bw_aldr rfl (by first | rfl | assumption) (by decide) (by omega) (by omega) ((hR _ _).trans (rr_row (fun _ => rfl) (by omega) (by omega) (by omega))) ?_
               refine bw_push rfl ?_
               refine bw_callSn (e := d - 1) (as := [_, _]) rfl (by omega) rfl rfl (Nat.le_of_ble_eq_true rfl) (Nat.le_of_ble_eq_true rfl) (j_fill (o := 539 + (S 1).toNat) (z := 100) (M := _) (by exact hR) (kfa (b := 539) (n := 6) (v := (20, 100)) (by decide) (by decide) ⟨by omega, by omega⟩) (by omega)) ?_
               generalize hG : wI _ (539 + (S 1).toNat) _ = G
               have hR : RF r G := by rw [← hG]; exact hR
               have gc : ∀ c : Nat, c ≠ 477 + (S 1).toNat → c ≠ 484 + (S 1).toNat → c ≠ 491 + (S 1).toNat → c ≠ 539 + (S 1).toNat → gI G c = gI N c := fun c c1 c2 c3 c4 => by rw [← hG, gI_wI_ne c4, gI_wI_ne c3, gI_wI_ne c2, gI_wI_ne c1]
               have gG : G.2 = N.2 := by rw [← hG]; rfl
               have z18 : ∀ f : Int, 0 ≤ f → f < 96 → gI G (477 + (S 1).toNat) f = 0 := fun f f0 f1 => by rw [← hG, gI_wI_ne (by omega), gI_wI_ne (by omega), gI_wI_ne (by omega), gI_wI_eq]; exact if_pos ⟨f0, f1⟩
               have z25 : ∀ f : Int, 0 ≤ f → f < 96 → gI G (484 + (S 1).toNat) f = 0 := fun f f0 f1 => by rw [← hG, gI_wI_ne (by omega), gI_wI_ne (by omega), gI_wI_eq]; exact if_pos ⟨f0, f1⟩
               have z32 : ∀ f : Int, 0 ≤ f → f < 96 → gI G (491 + (S 1).toNat) f = 0 := fun f f0 f1 => by rw [← hG, gI_wI_ne (by omega), gI_wI_eq]; exact if_pos ⟨f0, f1⟩
               have z80 : ∀ f : Int, 0 ≤ f → f < 100 → gI G (539 + (S 1).toNat) f = -1 := fun f f0 f1 => by rw [← hG, gI_wI_eq]; exact if_pos ⟨f0, f1⟩
               have gN : ∀ c : Nat, c < 100 → gI G c = gI M c := fun c hc => by rw [gc c (by omega) (by omega) (by omega) (by omega)]; exact g1.2.1 c (by omega) (by omega) (by omega) (by omega)
               have cG : CR G fr h := CR_fr hC (gN 5 (by decide)) (gN 6 (by decide)) (by rw [gN 4 (by decide)]) (by rw [gN 4 (by decide)]) (by rw [gN 4 (by decide)])
               refine bw_aload rfl rfl ?_
               refine bw_aload rfl rfl ?_
               refine bw_getr rfl rfl (hR _ _) ?_
               refine bw_iload rfl rfl ?_
               refine bw_aldr rfl (by first | rfl | assumption) (by decide) (by omega) (by omega) ((hR _ _).trans (rr_row (fun _ => rfl) (by omega) (by omega) (by omega))) ?_
               refine bw_aload rfl rfl ?_
               refine bw_aload rfl rfl ?_
               refine bw_getr rfl rfl (hR _ _) ?_
               refine bw_iload rfl rfl ?_
               refine bw_aldr rfl (by first | rfl | assumption) (by decide) (by omega) (by omega) ((hR _ _).trans (rr_row (fun _ => rfl) (by omega) (by omega) (by omega))) ?_
               refine bw_callVNi (e := d - 1) (as := [_]) rfl (by omega) rfl rfl (Nat.le_of_ble_eq_true rfl) (Nat.le_of_ble_eq_true rfl) rfl (c_layOn (o := 470 + (S 1).toNat) hR (kfa (b := 470) (n := 6) (v := (20, 96)) (by decide) (by decide) ⟨by omega, by omega⟩) (by omega) cG) (fun r158 M158 hM158 => ?_)
               obtain ⟨u158, v158, w158⟩ := hM158
               have hR := u158.RF hR
               rw [gN 4 (by decide)] at v158
               have tx : r158 = min (tS h h.1) fr := by
                 rw [v158]
                 rcases hC.2.2.2.2.2.1 with q | q
                 · rw [q]
                 · have q2 := tS_lt hC.1 hC.2.2.1.1 hC.2.2.1.2 (Int.le_refl _)
                   have q3 := hC.2.2.2.2.1
                   have q4 := hC.2.2.1.2
                   omega
               refine bw_iload rfl rfl ?_
               refine bw_callVv (e := d - 1) (as := [_, _, _]) rfl (by omega) rfl rfl (Nat.le_of_ble_eq_true rfl) (Nat.le_of_ble_eq_true rfl) rfl (c_fillBehind (o := 470 + (S 1).toNat) (fr := fr) (h := h) hR (by first | exact Or.inl rfl | exact Or.inr rfl) (kfa (b := 470) (n := 6) (v := (20, 96)) (by decide) (by decide) ⟨by omega, by omega⟩) (by omega) hC.1 h1 ⟨by rw [u158.at 459 (by omega), gc 459 (by omega) (by omega) (by omega) (by omega), g1.2.2.1 0 (by decide), e0, hf], by omega, by omega⟩ tx he w158 (by omega)) (fun M163 hM163 => ?_)
               refine bw_retv rfl rfl ?_
               first
               | (exfalso; omega)
               | (obtain rfl : i = m := by omega
                  obtain ⟨u163, v163⟩ := hM163
                  have pc : ∀ {c : Nat}, c ≠ 470 + (S 1).toNat → gI M163 c = gI G c := fun hc => (u163.at _ hc).trans (u158.at _ hc)
                  have sG : sm (pSc 459) N G := ⟨gG, fun c hc => gc c (fun k => hc ⟨by omega, by omega⟩) (fun k => hc ⟨by omega, by omega⟩) (fun k => hc ⟨by omega, by omega⟩) (fun k => hc ⟨by omega, by omega⟩)⟩
                  have fin : sm (pSc 459) M M163 := ((g1.1.trans sG).trans (u158.mono (fun c k => ⟨by omega, by omega⟩))).trans (u163.mono (fun c k => ⟨by omega, by omega⟩))
                  refine ⟨rfl, rfl, fin, SR_layer hS hT h5 hC.1 hm o n1 v0 v1 v2 v3 (fun c hc => ?_) (fun j hj => ?_) ?_ ?_ ?_ (fun j j0 j1 => ?_) (fun f f0 f1 => ?_) (fun f f0 f1 => ?_) (fun f f0 f1 => ?_) (fun f f0 f1 => ?_) (fun f f0 f1 => ?_)⟩
                  · rw [pc hc.2.2.2.2.1, gc c hc.2.2.2.2.2.1 hc.2.2.2.2.2.2.1 hc.2.2.2.2.2.2.2.1 hc.2.2.2.2.2.2.2.2]
                    exact g1.2.1 c hc.1 hc.2.1 hc.2.2.1 hc.2.2.2.1
                  · rw [pc (by omega), gc _ (by omega) (by omega) (by omega) (by omega)]; exact g1.2.2.1 j hj
                  · rw [pc (by omega), gc _ (by omega) (by omega) (by omega) (by omega)]; exact g1.2.2.2.1
                  · rw [pc (by omega), gc _ (by omega) (by omega) (by omega) (by omega)]; exact g1.2.2.2.2.1
                  · rw [pc (by omega), gc _ (by omega) (by omega) (by omega) (by omega)]; exact g1.2.2.2.2.2.1
                  · rw [pc (by omega), gc _ (by omega) (by omega) (by omega) (by omega)]; exact g1.2.2.2.2.2.2 j j0 j1
                  · exact v163 f f0 (by omega)
                  · rw [pc (by omega)]; exact z18 f f0 f1
                  · rw [pc (by omega)]; exact z25 f f0 f1
                  · rw [pc (by omega)]; exact z32 f f0 f1
                  · rw [pc (by omega)]; exact z80 f f0 f1))
          · first
            | (exfalso; omega)
            | (refine bw_aload rfl rfl ?_
               refine bw_getr rfl rfl (hR _ _) ?_
               refine bw_iload rfl rfl ?_
               refine bw_aldr rfl (by first | rfl | assumption) (by decide) (by omega) (by omega) ((hR _ _).trans (rr_row (fun _ => rfl) (by omega) (by omega) (by omega))) ?_
               refine bw_iload rfl rfl ?_
               refine bw_aload rfl rfl ?_
               refine bw_iload rfl rfl ?_
               refine bw_iload rfl rfl ?_
               refine bw_iadd rfl ⟨by omega, by omega⟩ ?_
               refine bw_aldb rfl (by first | rfl | assumption) (by decide) (by omega) (by omega) ?_
               rw [show gI N 2 = gI M 2 from g1.2.1 2 (by decide) (by decide) (by decide) (by omega), hy i (by omega) (by omega)]
               refine bw_asti rfl (kfa (b := 463) (n := 6) (v := (20, 6)) (by decide) (by decide) ⟨by omega, by omega⟩) (by omega) (by omega) ?_
               refine bw_iinc (ls2 := [_, _, _, _, _, _, _, _]) rfl rfl rfl ⟨by omega, by omega⟩ rfl ?_
               refine bw_goto rfl ?_
               refine ih _ (i + 1) ⟨g1.1.sI _ _ ⟨by omega, by omega⟩, fun c c1 c2 c3 c4 => ?_, fun j hj => ?_, ?_, ?_, ?_, fun j j0 j1 => ?_⟩ (by omega) (by omega)
               · rw [gI_sI_ne c4]; exact g1.2.1 c c1 c2 c3 c4
               · rw [gI_sI_ne (by omega)]; exact g1.2.2.1 j hj
               · rw [gI_sI_ne (by omega)]; exact g1.2.2.2.1
               · rw [gI_sI_ne (by omega)]; exact g1.2.2.2.2.1
               · rw [gI_sI_ne (by omega)]; exact g1.2.2.2.2.2.1
               · show gI _ (463 + (S 1).toNat) j = a (b + j)
                 by_cases q : j = i
                 · rw [q, gI_sI_eq]
                 · rw [gI_sI_nj q]; exact g1.2.2.2.2.2.2 j j0 (by omega))
    show abW d (0, 0) 63 0 [some (vr (some 459)), some (vr (some 2)), some (vi b), some (vi m), some (vr (some 4)), some (vi e), none, none] [] (0, 0) (A0 L) M (qV (A0 L) (fun N => sm (pSc 459) M N ∧ SR N 459 T))
    refine bw_aload rfl rfl ?_
    refine bw_getI rfl rfl ?_
    rw [e2]
    refine bw_push rfl ?_
    refine bw_icne rfl (fun c6 => ?_) (fun c6 => ?_)
    · first
      | (exfalso; omega)
      | (refine bw_aload rfl rfl ?_
         refine bw_getI rfl rfl ?_
         rw [e2]
         refine bw_istore (ls2 := [_, _, _, _, _, _, _, _]) rfl rfl (Nat.le_of_ble_eq_true rfl) rfl ?_
         refine bw_aload rfl rfl ?_
         first | refine bw_dup rfl ?_ | refine bw_dupi rfl ?_
         refine bw_getI rfl rfl ?_
         rw [e2]
         refine bw_push rfl ?_
         refine bw_iadd rfl ⟨by omega, by omega⟩ ?_
         refine bw_putI rfl rfl ?_
         refine bw_aload rfl rfl ?_
         refine bw_getr rfl rfl (hR _ _) ?_
         refine bw_iload rfl rfl ?_
         refine bw_aload rfl rfl ?_
         refine bw_getI rfl rfl ?_
         rw [gI_sI_ne (show 4 ≠ 459 by decide), hg]
         refine bw_asti rfl (by first | rfl | assumption) (by omega) (by omega) ?_
         refine bw_aload rfl rfl ?_
         refine bw_getr rfl rfl (hR _ _) ?_
         refine bw_iload rfl rfl ?_
         refine bw_iload rfl rfl ?_
         refine bw_push rfl ?_
         refine bw_min rfl (by omega) (Nat.le_of_ble_eq_true rfl) (by decide) (by decide) ?_
         refine bw_asti rfl (by first | rfl | assumption) (by omega) (by omega) ?_
         refine bw_push rfl ?_
         refine bw_istore (ls2 := [_, _, _, _, _, _, _, _]) rfl rfl (Nat.le_of_ble_eq_true rfl) rfl ?_
         refine L54 ((m - 0).toNat + 1) _ 0 ⟨(((sm_refl (pSc 459) M).sI 2 _ ⟨Nat.le_refl _, by omega⟩).sI _ _ ⟨by omega, by omega⟩).sI _ _ ⟨by omega, by omega⟩, fun c c1 c2 c3 c4 => ?_, fun j hj => ?_, ?_, ?_, ?_, fun j j0 j1 => by omega⟩ (by omega) (by omega)
         · rw [gI_sI_ne c3, gI_sI_ne c2, gI_sI_ne c1]
         · rw [gI_sI_ne (by decide), gI_sI_ne (by decide), gI_sI_nj hj]
         · rw [gI_sI_ne (by decide), gI_sI_ne (by decide), gI_sI_eq]
         · show gI _ 460 = up (gI M 460) (S 1) g
           rw [gI_sI_ne (by decide), sI_w, gI_wI_eq, gI_sI_ne (by decide)]
         · show gI _ 461 = up (gI M 461) (S 1) m
           rw [sI_w, gI_wI_eq, gI_sI_ne (by decide), gI_sI_ne (by decide), show min m 6 = m by omega])
    · first
      | (exfalso; omega)
      | (refine bw_retv rfl rfl ?_
         exfalso; omega)
