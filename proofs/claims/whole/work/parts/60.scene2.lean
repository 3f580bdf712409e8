theorem hid_new {S T : Int → Int} {l u v : Int} (h4 : 0 ≤ S 4) (o : ∀ j : Int, (j ≠ 4 ∧ (j < 394 + 3 * S 4 ∨ 397 + 3 * S 4 ≤ j)) → T j = S j) (n4 : T 4 = S 4 + 1) (t0 : T (394 + 3 * S 4) = l) (t1 : T (394 + 3 * S 4 + 1) = u) (t2 : T (394 + 3 * S 4 + 2) = v) (i f : Int) : hid T i f ↔ (hid S i f ∨ (i = l ∧ u ≤ f ∧ f ≤ v)) := by
  unfold hid
  constructor
  · rintro ⟨k, k0, k1, k2, k3, k5⟩
    rw [n4] at k1
    by_cases q : k = S 4
    · rw [q, t0] at k2
      rw [q, t1] at k3
      rw [q, t2] at k5
      exact Or.inr ⟨k2.symm, k3, k5⟩
    · rw [o _ (by omega)] at k2
      rw [o _ (by omega)] at k3
      rw [o _ (by omega)] at k5
      exact Or.inl ⟨k, k0, by omega, k2, k3, k5⟩
  · rintro (⟨k, k0, k1, k2, k3, k5⟩ | ⟨k2, k3, k5⟩)
    · refine ⟨k, k0, by rw [n4]; omega, ?_, ?_, ?_⟩
      · rw [o _ (by omega)]; exact k2
      · rw [o _ (by omega)]; exact k3
      · rw [o _ (by omega)]; exact k5
    · refine ⟨S 4, h4, by rw [n4]; omega, ?_, ?_, ?_⟩
      · rw [t0]; exact k2.symm
      · rw [t1]; exact k3
      · rw [t2]; exact k5
theorem SR_hide {M N : abMem} {s : Nat} {S T : Int → Int} {l u v : Int} (hS : SR M s S) (hT : SW T) (hl : 0 ≤ l ∧ l < S 1) (o : ∀ j : Int, (j ≠ 4 ∧ (j < 394 + 3 * S 4 ∨ 397 + 3 * S 4 ≤ j)) → T j = S j) (n4 : T 4 = S 4 + 1) (t0 : T (394 + 3 * S 4) = l) (t1 : T (394 + 3 * S 4 + 1) = u) (t2 : T (394 + 3 * S 4 + 2) = v) (hc : ∀ c : Nat, (c ≠ s ∧ c ≠ s + 32 + l.toNat) → gI N c = gI M c) (h0 : ∀ j : Int, j ≠ 5 → gI N s j = gI M s j) (h5 : gI N s 5 = S 4 + 1) (hr : ∀ f : Int, 0 ≤ f → f < S 0 → gI N (s + 32 + l.toNat) f = if u ≤ f ∧ f ≤ v then 1 else gI M (s + 32 + l.toNat) f) : SR N s T := by
  have w0 := hS.sw.fr
  have w1 := hS.sw.la
  have w2 := hS.sw.bo
  have w3 := hS.sw.sl
  have w4 := hS.sw.hi
  have em : ∀ i f t : Int, (t = 0 ∨ t = 1) → mv T i f t = mv S i f t := fun i f t ht => mv_congr (o 3 (by omega)) (fun j j0 j1 => o j (by omega)) i f t ht
  have en : ∀ {i v k x : Int}, isNx S i v k x → isNx T i v k x := fun h => nx_congr (o 2 (by omega)) (fun j j0 j1 => o j (by omega)) h
  exact ⟨hT, by rw [h0 0 (by omega), o 0 (by omega)]; exact hS.c0, by rw [h0 1 (by omega), o 5 (by omega)]; exact hS.c1, by rw [h0 2 (by omega), o 1 (by omega)]; exact hS.c2, by rw [h0 3 (by omega), o 2 (by omega)]; exact hS.c3, by rw [h0 4 (by omega), o 3 (by omega)]; exact hS.c4, by rw [h5, n4], fun i i0 i1 => by rw [o 1 (by omega)] at i1; rw [hc (s + 1) (by omega), o (6 + i) (by omega)]; exact hS.on i i0 i1, fun i i0 i1 => by rw [o 1 (by omega)] at i1; rw [hc (s + 2) (by omega), o (12 + 7 * i) (by omega)]; exact hS.nl i i0 i1, fun i j i0 i1 j0 j1 => by rw [o 1 (by omega)] at i1; rw [o (12 + 7 * i) (by omega)] at j1; have := (hS.sw.nm i i0 i1).2; rw [hc (s + 4 + i.toNat) (by omega), o (13 + 7 * i + j) (by omega)]; exact hS.nm i j i0 i1 j0 j1, fun i f i0 i1 f0 f1 => by rw [o 1 (by omega)] at i1; rw [o 0 (by omega)] at f1; rw [hc (s + 11 + i.toNat) (by omega), o (430 + 96 * i + f) (by omega)]; exact hS.rw i f i0 i1 f0 f1, fun i f i0 i1 f0 f1 => by rw [o 1 (by omega)] at i1; rw [o 0 (by omega)] at f1; rw [hc (s + 18 + i.toNat) (by omega), em i f 0 (by omega)]; exact hS.rt i f i0 i1 f0 f1, fun i f i0 i1 f0 f1 => by rw [o 1 (by omega)] at i1; rw [o 0 (by omega)] at f1; rw [hc (s + 25 + i.toNat) (by omega), em i f 1 (by omega)]; exact hS.dn i f i0 i1 f0 f1, fun i f i0 i1 f0 f1 => by
    rw [o 1 (by omega)] at i1
    rw [o 0 (by omega)] at f1
    have hn := hid_new (S := S) (T := T) w4.1 o n4 t0 t1 t2 i f
    have hp := hS.cv i f i0 i1 f0 f1
    by_cases q : i = l
    · rw [q, hr f f0 f1]
      rw [q] at hn hp
      by_cases z : u ≤ f ∧ f ≤ v
      · rw [if_pos z]; exact Or.inl ⟨hn.mpr (Or.inr ⟨rfl, z⟩), rfl⟩
      · rw [if_neg z]
        rcases hp with hp | hp
        · exact Or.inl ⟨hn.mpr (Or.inl hp.1), hp.2⟩
        · exact Or.inr ⟨fun k => (hn.mp k).elim hp.1 (fun k => z k.2), hp.2⟩
    · rw [hc (s + 32 + i.toNat) (by omega)]
      rcases hp with hp | hp
      · exact Or.inl ⟨hn.mpr (Or.inl hp.1), hp.2⟩
      · exact Or.inr ⟨fun k => (hn.mp k).elim hp.1 (fun k => q k.1), hp.2⟩, fun i j i0 i1 j0 j1 => by rw [o 2 (by omega)] at i1; rw [hc (s + 39 + i.toNat) (by omega), o (54 + 7 * i + j) (by omega)]; exact hS.bx i j i0 i1 j0 j1, fun i v i0 i1 v0 v1 => by rw [o 1 (by omega)] at i1; rw [hc (s + 80 + i.toNat) (by omega)]; exact en (hS.fb i v i0 i1 v0 v1), fun i i0 i1 => by rw [o 2 (by omega)] at i1; rw [hc (s + 86) (by omega), o (54 + 7 * i) (by omega), o (54 + 7 * i + 1) (by omega)]; exact en (hS.nb i i0 i1)⟩
/-- x in the places from u up to k -/
def hvF (f : Int → Int) (u k x : Int) : Int → Int := fun j => if u ≤ j ∧ j < k then x else f j
theorem hvF_0 {f : Int → Int} {u x : Int} : hvF f u u x = f := by
  funext j
  unfold hvF
  rw [if_neg (by omega)]
theorem hvF_s {f : Int → Int} {u k x : Int} (hk : u ≤ k) : up (hvF f u k x) k x = hvF f u (k + 1) x := by
  funext j
  unfold up hvF
  by_cases q : j = k
  · rw [if_pos q, if_pos (by omega)]
  · rw [if_neg q]
    by_cases q2 : u ≤ j ∧ j < k
    · rw [if_pos q2, if_pos (by omega)]
    · rw [if_neg q2, if_neg (by omega)]
set_option maxRecDepth 20000 in
set_option maxHeartbeats 4000000 in
theorem c_addHide {d L : Nat} {M : abMem} {r : abRf} (hR : RF r M) {s : Nat} (hs : s = 372 ∨ s = 459) {S : Int → Int} (hS : SR M s S) {T : Int → Int} {l u v : Int} (hT : SW T) (hl : 0 ≤ l ∧ l < S 1) (h4 : S 4 ≤ 11) (o : ∀ j : Int, (j ≠ 4 ∧ (j < 394 + 3 * S 4 ∨ 397 + 3 * S 4 ≤ j)) → T j = S j) (n4 : T 4 = S 4 + 1) (t0 : T (394 + 3 * S 4) = l) (t1 : T (394 + 3 * S 4 + 1) = u) (t2 : T (394 + 3 * S 4 + 2) = v) (hu : 0 ≤ u ∧ u ≤ v ∧ v < S 0) : abW d (0, 0) 67 0 (abEnt (abL 67) [vr (some s), vi l, vi u, vi v]) [] (0, 0) (A0 L) M (qV (A0 L) (fun N => sm (pSc s) M N ∧ SR N s T)) := by
  rcases hs with rfl | rfl
  · have w0 := hS.sw.fr
    have w1 := hS.sw.la
    have w2 := hS.sw.bo
    have w3 := hS.sw.sl
    have w4 := hS.sw.hi
    have w5 := hS.sw.st
    have k0 : gI M 372 0 = S 0 := hS.c0
    have k5 : gI M 372 5 = S 4 := hS.c5
    have L13 : ∀ (kf : Nat) (k : Int), (u ≤ k ∧ k ≤ v + 1) → ((v + 1 - k).toNat) < kf → abW d (0, 0) 67 13 [some (vr (some 372)), some (vi l), some (vi u), some (vi v), some (vi k)] [] (0, 0) (A0 L) ((wI (sI M 372 5 (S 4 + 1)) (404 + l.toNat) (hvF (gI M (404 + l.toNat)) u k 1))) (qV (A0 L) (fun N => sm (pSc 372) M N ∧ SR N 372 T)) := by
      intro kf
      induction kf with
      | zero => intro k  g1 hm9; exact absurd hm9 (Nat.not_lt_zero _)
      | succ kf ih13 =>
        intro k  g1 hm13
        have ih := ih13
        refine bw_iload rfl rfl ?_
        refine bw_iload rfl rfl ?_
        refine bw_icgt rfl (fun c16 => ?_) (fun c16 => ?_)
        · skip
          refine bw_retv rfl rfl ?_
          first
          | (exfalso; omega)
          | (obtain rfl : k = v + 1 := by omega
             refine ⟨rfl, rfl, ((sm_refl (pSc 372) M).sI 5 _ ⟨Nat.le_refl _, by omega⟩).wI _ ⟨by omega, by omega⟩, SR_hide hS hT hl o n4 t0 t1 t2 (fun c hc => by rw [gI_wI_ne hc.2, gI_sI_ne hc.1]) (fun j hj => by rw [gI_wI_ne (by omega), gI_sI_nj hj]) (by rw [gI_wI_ne (by omega), gI_sI_eq]) (fun f f0 f1 => ?_)⟩
             rw [gI_wI_eq]
             unfold hvF
             by_cases z : u ≤ f ∧ f ≤ v
             · rw [if_pos z, if_pos (by omega)]
             · rw [if_neg z, if_neg (by omega)])
        · skip
          refine bw_iload rfl rfl ?_
          refine bw_aload rfl rfl ?_
          refine bw_getI rfl rfl ?_
          rw [gI_wI_ne (show 372 ≠ 404 + l.toNat by omega), gI_sI_nj (show (0 : Int) ≠ 5 by decide), k0]
          refine bw_icge rfl (fun c25 => ?_) (fun c25 => ?_)
          · first
            | (exfalso; omega)
            | (refine bw_retv rfl rfl ?_
               first
               | (exfalso; omega)
               | (obtain rfl : k = v + 1 := by omega
                  refine ⟨rfl, rfl, ((sm_refl (pSc 372) M).sI 5 _ ⟨Nat.le_refl _, by omega⟩).wI _ ⟨by omega, by omega⟩, SR_hide hS hT hl o n4 t0 t1 t2 (fun c hc => by rw [gI_wI_ne hc.2, gI_sI_ne hc.1]) (fun j hj => by rw [gI_wI_ne (by omega), gI_sI_nj hj]) (by rw [gI_wI_ne (by omega), gI_sI_eq]) (fun f f0 f1 => ?_)⟩
                  rw [gI_wI_eq]
                  unfold hvF
                  by_cases z : u ≤ f ∧ f ≤ v
                  · rw [if_pos z, if_pos (by omega)]
                  · rw [if_neg z, if_neg (by omega)]))
          · first
            | (exfalso; omega)
            | (refine bw_aload rfl rfl ?_
               refine bw_getr rfl rfl (hR _ _) ?_
               refine bw_iload rfl rfl ?_
               refine bw_aldr rfl (by first | rfl | assumption) (by decide) (by omega) (by omega) ((hR _ _).trans (rr_row (fun _ => rfl) (by omega) (by omega) (by omega))) ?_
               refine bw_iload rfl rfl ?_
               refine bw_push rfl ?_
               refine bw_asti rfl (kfa (b := 404) (n := 6) (v := (20, 96)) (by decide) (by decide) ⟨by omega, by omega⟩) (by omega) (by omega) ?_
               refine bw_iinc (ls2 := [_, _, _, _, _]) rfl rfl rfl ⟨by omega, by omega⟩ rfl ?_
               refine bw_goto rfl ?_
               refine bw_cast (M2 := (wI (sI M 372 5 (S 4 + 1)) (404 + l.toNat) (hvF (gI M (404 + l.toNat)) u (k + 1) 1))) (ih _ (by omega) (by omega)) rfl rfl (by rw [sI_wI, hvF_s (by omega)]))
    show abW d (0, 0) 67 0 [some (vr (some 372)), some (vi l), some (vi u), some (vi v), none] [] (0, 0) (A0 L) M (qV (A0 L) (fun N => sm (pSc 372) M N ∧ SR N 372 T))
    refine bw_aload rfl rfl ?_
    first | refine bw_dup rfl ?_ | refine bw_dupi rfl ?_
    refine bw_getI rfl rfl ?_
    refine bw_push rfl ?_
    refine bw_iadd rfl ⟨by omega, by omega⟩ ?_
    refine bw_putI rfl rfl ?_
    refine bw_iload rfl rfl ?_
    refine bw_istore (ls2 := [_, _, _, _, _]) rfl rfl (Nat.le_of_ble_eq_true rfl) rfl ?_
    refine bw_cast (M2 := (wI (sI M 372 5 (S 4 + 1)) (404 + l.toNat) (hvF (gI M (404 + l.toNat)) u u 1))) (L13 ((v + 1 - u).toNat + 1) u (by omega) (by omega)) rfl rfl ?_
    rw [hvF_0, k5]
    have e : gI M (404 + l.toNat) = gI (sI M 372 5 (S 4 + 1)) (404 + l.toNat) := (gI_sI_ne (by omega)).symm
    rw [e, wI_self]
  · have w0 := hS.sw.fr
    have w1 := hS.sw.la
    have w2 := hS.sw.bo
    have w3 := hS.sw.sl
    have w4 := hS.sw.hi
    have w5 := hS.sw.st
    have k0 : gI M 459 0 = S 0 := hS.c0
    have k5 : gI M 459 5 = S 4 := hS.c5
    have L13 : ∀ (kf : Nat) (k : Int), (u ≤ k ∧ k ≤ v + 1) → ((v + 1 - k).toNat) < kf → abW d (0, 0) 67 13 [some (vr (some 459)), some (vi l), some (vi u), some (vi v), some (vi k)] [] (0, 0) (A0 L) ((wI (sI M 459 5 (S 4 + 1)) (491 + l.toNat) (hvF (gI M (491 + l.toNat)) u k 1))) (qV (A0 L) (fun N => sm (pSc 459) M N ∧ SR N 459 T)) := by
      intro kf
      induction kf with
      | zero => intro k  g1 hm9; exact absurd hm9 (Nat.not_lt_zero _)
      | succ kf ih13 =>
        intro k  g1 hm13
        have ih := ih13
        refine bw_iload rfl rfl ?_
        refine bw_iload rfl rfl ?_
        refine bw_icgt rfl (fun c16 => ?_) (fun c16 => ?_)
        · skip
          refine bw_retv rfl rfl ?_
          first
          | (exfalso; omega)
          | (obtain rfl : k = v + 1 := by omega
             refine ⟨rfl, rfl, ((sm_refl (pSc 459) M).sI 5 _ ⟨Nat.le_refl _, by omega⟩).wI _ ⟨by omega, by omega⟩, SR_hide hS hT hl o n4 t0 t1 t2 (fun c hc => by rw [gI_wI_ne hc.2, gI_sI_ne hc.1]) (fun j hj => by rw [gI_wI_ne (by omega), gI_sI_nj hj]) (by rw [gI_wI_ne (by omega), gI_sI_eq]) (fun f f0 f1 => ?_)⟩
             rw [gI_wI_eq]
             unfold hvF
             by_cases z : u ≤ f ∧ f ≤ v
             · rw [if_pos z, if_pos (by omega)]
             · rw [if_neg z, if_neg (by omega)])
        · skip
          refine bw_iload rfl rfl ?_
          refine bw_aload rfl rfl ?_
          refine bw_getI rfl rfl ?_
          rw [gI_wI_ne (show 459 ≠ 491 + l.toNat by omega), gI_sI_nj (show (0 : Int) ≠ 5 by decide), k0]
          refine bw_icge rfl (fun c25 => ?_) (fun c25 => ?_)
          · first
            | (exfalso; omega)
            | (refine bw_retv rfl rfl ?_
               first
               | (exfalso; omega)
               | (obtain rfl : k = v + 1 := by omega
                  refine ⟨rfl, rfl, ((sm_refl (pSc 459) M).sI 5 _ ⟨Nat.le_refl _, by omega⟩).wI _ ⟨by omega, by omega⟩, SR_hide hS hT hl o n4 t0 t1 t2 (fun c hc => by rw [gI_wI_ne hc.2, gI_sI_ne hc.1]) (fun j hj => by rw [gI_wI_ne (by omega), gI_sI_nj hj]) (by rw [gI_wI_ne (by omega), gI_sI_eq]) (fun f f0 f1 => ?_)⟩
                  rw [gI_wI_eq]
                  unfold hvF
                  by_cases z : u ≤ f ∧ f ≤ v
                  · rw [if_pos z, if_pos (by omega)]
                  · rw [if_neg z, if_neg (by omega)]))
          · first
            | (exfalso; omega)
            | (refine bw_aload rfl rfl ?_
               refine bw_getr rfl rfl (hR _ _) ?_
               refine bw_iload rfl rfl ?_
               refine bw_aldr rfl (by first | rfl | assumption) (by decide) (by omega) (by omega) ((hR _ _).trans (rr_row (fun _ => rfl) (by omega) (by omega) (by omega))) ?_
               refine bw_iload rfl rfl ?_
               refine bw_push rfl ?_
               refine bw_asti rfl (kfa (b := 491) (n := 6) (v := (20, 96)) (by decide) (by decide) ⟨by omega, by omega⟩) (by omega) (by omega) ?_
               refine bw_iinc (ls2 := [_, _, _, _, _]) rfl rfl rfl ⟨by omega, by omega⟩ rfl ?_
               refine bw_goto rfl ?_
               refine bw_cast (M2 := (wI (sI M 459 5 (S 4 + 1)) (491 + l.toNat) (hvF (gI M (491 + l.toNat)) u (k + 1) 1))) (ih _ (by omega) (by omega)) rfl rfl (by rw [sI_wI, hvF_s (by omega)]))
    show abW d (0, 0) 67 0 [some (vr (some 459)), some (vi l), some (vi u), some (vi v), none] [] (0, 0) (A0 L) M (qV (A0 L) (fun N => sm (pSc 459) M N ∧ SR N 459 T))
    refine bw_aload rfl rfl ?_
    first | refine bw_dup rfl ?_ | refine bw_dupi rfl ?_
    refine bw_getI rfl rfl ?_
    refine bw_push rfl ?_
    refine bw_iadd rfl ⟨by omega, by omega⟩ ?_
    refine bw_putI rfl rfl ?_
    refine bw_iload rfl rfl ?_
    refine bw_istore (ls2 := [_, _, _, _, _]) rfl rfl (Nat.le_of_ble_eq_true rfl) rfl ?_
    refine bw_cast (M2 := (wI (sI M 459 5 (S 4 + 1)) (491 + l.toNat) (hvF (gI M (491 + l.toNat)) u u 1))) (L13 ((v + 1 - u).toNat + 1) u (by omega) (by omega)) rfl rfl ?_
    rw [hvF_0, k5]
    have e : gI M (491 + l.toNat) = gI (sI M 459 5 (S 4 + 1)) (491 + l.toNat) := (gI_sI_ne (by omega)).symm
    rw [e, wI_self]
