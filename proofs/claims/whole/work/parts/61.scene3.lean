theorem mv_new {S T : Int → Int} {l u v x y : Int} (h3 : 0 ≤ S 3) (o : ∀ j : Int, (j ≠ 3 ∧ (j < 334 + 5 * S 3 ∨ 339 + 5 * S 3 ≤ j)) → T j = S j) (n3 : T 3 = S 3 + 1) (t0 : T (334 + 5 * S 3) = l) (t1 : T (334 + 5 * S 3 + 1) = u) (t2 : T (334 + 5 * S 3 + 2) = v) (t3 : T (334 + 5 * S 3 + 3) = x) (t4 : T (334 + 5 * S 3 + 4) = y) (i f t : Int) (ht : t = 0 ∨ t = 1) : mv T i f t = mv S i f t + (if l = i then max 0 (min f v - u + 1) * (if t = 0 then x else y) else 0) := by
  have e1 : mv T i f t = sN (mvT T i f t) (S 3 + 1).toNat := by unfold mv; rw [n3]
  rw [e1, sN_s _ h3]
  have e2 : sN (mvT T i f t) (S 3).toNat = mv S i f t := by
    unfold mv
    refine sN_congr _ (fun k k0 k1 => ?_)
    unfold mvT
    rw [o (334 + 5 * k) (by omega), o (334 + 5 * k + 1) (by omega), o (334 + 5 * k + 2) (by omega), o (334 + 5 * k + 3 + t) (by omega)]
  rw [e2]
  congr 1
  unfold mvT
  rw [t0, t1, t2]
  rcases ht with ht | ht
  · subst ht
    rw [show 334 + 5 * S 3 + 3 + (0 : Int) = 334 + 5 * S 3 + 3 by omega, t3, if_pos rfl]
  · subst ht
    rw [show 334 + 5 * S 3 + 3 + (1 : Int) = 334 + 5 * S 3 + 4 by omega, t4, if_neg (show ¬ (1 : Int) = 0 by decide)]
/-- by how much further slide from u to v moves frame f -/
def slR (u v x f : Int) : Int := if u ≤ f then (min f v - u + 1) * x else 0
theorem slR_eq {u v x f : Int} (h : u ≤ v) : max 0 (min f v - u + 1) * x = slR u v x f := by
  unfold slR
  by_cases q : u ≤ f
  · rw [if_pos q, show max 0 (min f v - u + 1) = min f v - u + 1 by omega]
  · rw [if_neg q, show max 0 (min f v - u + 1) = 0 by omega]; omega
theorem SR_slide {M N : abMem} {s : Nat} {S T : Int → Int} {l u v x y : Int} (hS : SR M s S) (hT : SW T) (hl : 0 ≤ l ∧ l < S 1) (huv : u ≤ v) (o : ∀ j : Int, (j ≠ 3 ∧ (j < 334 + 5 * S 3 ∨ 339 + 5 * S 3 ≤ j)) → T j = S j) (n3 : T 3 = S 3 + 1) (t0 : T (334 + 5 * S 3) = l) (t1 : T (334 + 5 * S 3 + 1) = u) (t2 : T (334 + 5 * S 3 + 2) = v) (t3 : T (334 + 5 * S 3 + 3) = x) (t4 : T (334 + 5 * S 3 + 4) = y) (hc : ∀ c : Nat, (c ≠ s ∧ c ≠ s + 18 + l.toNat ∧ c ≠ s + 25 + l.toNat) → gI N c = gI M c) (h0 : ∀ j : Int, j ≠ 4 → gI N s j = gI M s j) (h4 : gI N s 4 = S 3 + 1) (hx : ∀ f : Int, 0 ≤ f → f < S 0 → gI N (s + 18 + l.toNat) f = gI M (s + 18 + l.toNat) f + slR u v x f) (hy : ∀ f : Int, 0 ≤ f → f < S 0 → gI N (s + 25 + l.toNat) f = gI M (s + 25 + l.toNat) f + slR u v y f) : SR N s T := by
  have w0 := hS.sw.fr
  have w1 := hS.sw.la
  have w2 := hS.sw.bo
  have w3 := hS.sw.sl
  have w4 := hS.sw.hi
  have eh : ∀ i f : Int, (hid T i f) = (hid S i f) := fun i f => propext (hid_congr (o 4 (by omega)) (fun j j0 j1 => o j (by omega)) i f)
  have en : ∀ {i v k x : Int}, isNx S i v k x → isNx T i v k x := fun h => nx_congr (o 2 (by omega)) (fun j j0 j1 => o j (by omega)) h
  have em := fun (i f t : Int) (ht : t = 0 ∨ t = 1) => mv_new (S := S) (T := T) w3.1 o n3 t0 t1 t2 t3 t4 i f t ht
  exact ⟨hT, by rw [h0 0 (by omega), o 0 (by omega)]; exact hS.c0, by rw [h0 1 (by omega), o 5 (by omega)]; exact hS.c1, by rw [h0 2 (by omega), o 1 (by omega)]; exact hS.c2, by rw [h0 3 (by omega), o 2 (by omega)]; exact hS.c3, by rw [h4, n3], by rw [h0 5 (by omega), o 4 (by omega)]; exact hS.c5, fun i i0 i1 => by rw [o 1 (by omega)] at i1; rw [hc (s + 1) (by omega), o (6 + i) (by omega)]; exact hS.on i i0 i1, fun i i0 i1 => by rw [o 1 (by omega)] at i1; rw [hc (s + 2) (by omega), o (12 + 7 * i) (by omega)]; exact hS.nl i i0 i1, fun i j i0 i1 j0 j1 => by rw [o 1 (by omega)] at i1; rw [o (12 + 7 * i) (by omega)] at j1; have := (hS.sw.nm i i0 i1).2; rw [hc (s + 4 + i.toNat) (by omega), o (13 + 7 * i + j) (by omega)]; exact hS.nm i j i0 i1 j0 j1, fun i f i0 i1 f0 f1 => by rw [o 1 (by omega)] at i1; rw [o 0 (by omega)] at f1; rw [hc (s + 11 + i.toNat) (by omega), o (430 + 96 * i + f) (by omega)]; exact hS.rw i f i0 i1 f0 f1, fun i f i0 i1 f0 f1 => by
    rw [o 1 (by omega)] at i1
    rw [o 0 (by omega)] at f1
    rw [em i f 0 (Or.inl rfl)]
    by_cases q : l = i
    · rw [← q, if_pos rfl, if_pos rfl, hx f f0 f1, hS.rt l f (by omega) (by omega) f0 f1, slR_eq huv]
    · rw [if_neg q, hc (s + 18 + i.toNat) (by omega), hS.rt i f i0 i1 f0 f1]; omega, fun i f i0 i1 f0 f1 => by
    rw [o 1 (by omega)] at i1
    rw [o 0 (by omega)] at f1
    rw [em i f 1 (Or.inr rfl)]
    by_cases q : l = i
    · rw [← q, if_pos rfl, if_neg (by decide), hy f f0 f1, hS.dn l f (by omega) (by omega) f0 f1, slR_eq huv]
    · rw [if_neg q, hc (s + 25 + i.toNat) (by omega), hS.dn i f i0 i1 f0 f1]; omega, fun i f i0 i1 f0 f1 => by rw [o 1 (by omega)] at i1; rw [o 0 (by omega)] at f1; rw [hc (s + 32 + i.toNat) (by omega), eh i f]; exact hS.cv i f i0 i1 f0 f1, fun i j i0 i1 j0 j1 => by rw [o 2 (by omega)] at i1; rw [hc (s + 39 + i.toNat) (by omega), o (54 + 7 * i + j) (by omega)]; exact hS.bx i j i0 i1 j0 j1, fun i v i0 i1 v0 v1 => by rw [o 1 (by omega)] at i1; rw [hc (s + 80 + i.toNat) (by omega)]; exact en (hS.fb i v i0 i1 v0 v1), fun i i0 i1 => by rw [o 2 (by omega)] at i1; rw [hc (s + 86) (by omega), o (54 + 7 * i) (by omega), o (54 + 7 * i + 1) (by omega)]; exact en (hS.nb i i0 i1)⟩
/-- moved further in the frames up to k -/
def svF (g : Int → Int) (u v x k : Int) : Int → Int := fun j => if u ≤ j ∧ j < k then g j + (min j v - u + 1) * x else g j
theorem svF_0 {g : Int → Int} {u v x : Int} : svF g u v x u = g := by
  funext j
  unfold svF
  rw [if_neg (by omega)]
theorem svF_s {g : Int → Int} {u v x k : Int} (hk : u ≤ k) : up (svF g u v x k) k (g k + (min k v - u + 1) * x) = svF g u v x (k + 1) := by
  funext j
  unfold up svF
  by_cases q : j = k
  · rw [if_pos q, if_pos (by omega), q]
  · rw [if_neg q]
    by_cases q2 : u ≤ j ∧ j < k
    · rw [if_pos q2, if_pos (by omega)]
    · rw [if_neg q2, if_neg (by omega)]
theorem svF_k {g : Int → Int} {u v x k : Int} : svF g u v x k k = g k := by
  unfold svF
  rw [if_neg (by omega)]
theorem mem_ext {M N : abMem} (h : M.2 = N.2) (g : ∀ c : Nat, gI M c = gI N c) : M = N := by
  have e : M.1 = N.1 := by
    funext c
    exact g c
  exact Prod.ext e h
set_option maxRecDepth 20000 in
set_option maxHeartbeats 4000000 in
theorem c_addSlide {d L : Nat} {M : abMem} {r : abRf} (hR : RF r M) {s : Nat} (hs : s = 372 ∨ s = 459) {S : Int → Int} (hS : SR M s S) {T : Int → Int} {l u v x y : Int} (hT : SW T) (hl : 0 ≤ l ∧ l < S 1) (h3 : S 3 ≤ 11) (o : ∀ j : Int, (j ≠ 3 ∧ (j < 334 + 5 * S 3 ∨ 339 + 5 * S 3 ≤ j)) → T j = S j) (n3 : T 3 = S 3 + 1) (t0 : T (334 + 5 * S 3) = l) (t1 : T (334 + 5 * S 3 + 1) = u) (t2 : T (334 + 5 * S 3 + 2) = v) (t3 : T (334 + 5 * S 3 + 3) = x) (t4 : T (334 + 5 * S 3 + 4) = y) (hu : 0 ≤ u ∧ u ≤ v ∧ v < S 0) (hxy : (-9 ≤ x ∧ x ≤ 9) ∧ (-9 ≤ y ∧ y ≤ 9)) (hd : 1 ≤ d) : abW d (0, 0) 66 0 (abEnt (abL 66) [vr (some s), vi l, vi u, vi v, vi x, vi y]) [] (0, 0) (A0 L) M (qV (A0 L) (fun N => sm (pSc s) M N ∧ SR N s T)) := by
  rcases hs with rfl | rfl
  · have w0 := hS.sw.fr
    have w1 := hS.sw.la
    have w2 := hS.sw.bo
    have w3 := hS.sw.sl
    have w4 := hS.sw.hi
    have w5 := hS.sw.st
    have k0 : gI M 372 0 = S 0 := hS.c0
    have k4 : gI M 372 4 = S 3 := hS.c4
    have L13 : ∀ (kf : Nat) (k : Int), (u ≤ k ∧ k ≤ S 0) → ((S 0 - k).toNat) < kf → abW d (0, 0) 66 13 [some (vr (some 372)), some (vi l), some (vi u), some (vi v), some (vi x), some (vi y), some (vi k), none] [] (0, 0) (A0 L) ((wI (wI (sI M 372 4 (S 3 + 1)) (390 + l.toNat) (svF (gI M (390 + l.toNat)) u v x k)) (397 + l.toNat) (svF (gI M (397 + l.toNat)) u v y k))) (qV (A0 L) (fun N => sm (pSc 372) M N ∧ SR N 372 T)) := by
      intro kf
      induction kf with
      | zero => intro k  g1 hm9; exact absurd hm9 (Nat.not_lt_zero _)
      | succ kf ih13 =>
        intro k  g1 hm13
        have ih := ih13
        refine bw_iload rfl rfl ?_
        refine bw_aload rfl rfl ?_
        refine bw_getI rfl rfl ?_
        rw [gI_wI_ne (show 372 ≠ 397 + l.toNat by omega), gI_wI_ne (show 372 ≠ 390 + l.toNat by omega), gI_sI_nj (show (0 : Int) ≠ 4 by decide), k0]
        refine bw_icge rfl (fun c19 => ?_) (fun c19 => ?_)
        · skip
          refine bw_retv rfl rfl ?_
          obtain rfl : k = S 0 := by omega
          refine ⟨rfl, rfl, (((sm_refl (pSc 372) M).sI 4 _ ⟨Nat.le_refl _, by omega⟩).wI _ ⟨by omega, by omega⟩).wI _ ⟨by omega, by omega⟩, SR_slide hS hT hl (by omega) o n3 t0 t1 t2 t3 t4 (fun c hc => by rw [gI_wI_ne hc.2.2, gI_wI_ne hc.2.1, gI_sI_ne hc.1]) (fun j hj => by rw [gI_wI_ne (by omega), gI_wI_ne (by omega), gI_sI_nj hj]) (by rw [gI_wI_ne (by omega), gI_wI_ne (by omega), gI_sI_eq]) (fun f f0 f1 => ?_) (fun f f0 f1 => ?_)⟩
          · show gI _ (390 + l.toNat) f = gI M (390 + l.toNat) f + slR u v x f
            rw [gI_wI_ne (by omega), gI_wI_eq]
            unfold svF slR
            by_cases z : u ≤ f
            · rw [if_pos z, if_pos (by omega)]
            · rw [if_neg z, if_neg (by omega), Int.add_zero]
          · show gI _ (397 + l.toNat) f = gI M (397 + l.toNat) f + slR u v y f
            rw [gI_wI_eq]
            unfold svF slR
            by_cases z : u ≤ f
            · rw [if_pos z, if_pos (by omega)]
            · rw [if_neg z, if_neg (by omega), Int.add_zero]
        · skip
          refine bw_iload rfl rfl ?_
          refine bw_iload rfl rfl ?_
          refine bw_min rfl (by omega) (Nat.le_of_ble_eq_true rfl) (by decide) (by decide) ?_
          refine bw_iload rfl rfl ?_
          refine bw_isub rfl ⟨by omega, by omega⟩ ?_
          refine bw_push rfl ?_
          refine bw_iadd rfl ⟨by omega, by omega⟩ ?_
          refine bw_istore (ls2 := [_, _, _, _, _, _, _, _]) rfl rfl (Nat.le_of_ble_eq_true rfl) rfl ?_
          refine bw_aload rfl rfl ?_
          refine bw_getr rfl rfl (hR _ _) ?_
          refine bw_iload rfl rfl ?_
          refine bw_aldr rfl (by first | rfl | assumption) (by decide) (by omega) (by omega) ((hR _ _).trans (rr_row (fun _ => rfl) (by omega) (by omega) (by omega))) ?_
          refine bw_iload rfl rfl ?_
          refine bw_dup2 rfl ?_
          have r9 : gI M (390 + l.toNat) k = mv S l k 0 := hS.rt l k hl.1 hl.2 (by omega) (by omega)
          have d9 : gI M (397 + l.toNat) k = mv S l k 1 := hS.dn l k hl.1 hl.2 (by omega) (by omega)
          have b9 := mv_in (s := S) hS.sw (l := l) (f := k) (t := 0) (by omega) (Or.inl rfl) (S 3) (by omega) (Int.le_refl _)
          have b8 := mv_in (s := S) hS.sw (l := l) (f := k) (t := 1) (by omega) (Or.inr rfl) (S 3) (by omega) (Int.le_refl _)
          have b9 : -10368 ≤ mv S l k 0 ∧ mv S l k 0 ≤ 10368 := b9
          have b8 : -10368 ≤ mv S l k 1 ∧ mv S l k 1 ≤ 10368 := b8
          have m9 := mulb (a := min k v - u + 1) (b := x) (by omega) (by omega)
          have m8 := mulb (a := min k v - u + 1) (b := y) (by omega) (by omega)
          rw [← r9] at b9
          rw [← d9] at b8
          refine bw_aldi rfl (kfa (b := 390) (n := 6) (v := (20, 96)) (by decide) (by decide) ⟨by omega, by omega⟩) (by omega) (by omega) ?_
          rw [gI_wI_ne (show 390 + l.toNat ≠ 397 + l.toNat by omega), gI_wI_eq, svF_k]
          refine bw_iload rfl rfl ?_
          refine bw_iload rfl rfl ?_
          refine bw_imul rfl ⟨by omega, by omega⟩ ?_
          refine bw_iadd rfl ⟨by omega, by omega⟩ ?_
          refine bw_asti rfl (kfa (b := 390) (n := 6) (v := (20, 96)) (by decide) (by decide) ⟨by omega, by omega⟩) (by omega) (by omega) ?_
          refine bw_aload rfl rfl ?_
          refine bw_getr rfl rfl (hR _ _) ?_
          refine bw_iload rfl rfl ?_
          refine bw_aldr rfl (by first | rfl | assumption) (by decide) (by omega) (by omega) ((hR _ _).trans (rr_row (fun _ => rfl) (by omega) (by omega) (by omega))) ?_
          refine bw_iload rfl rfl ?_
          refine bw_dup2 rfl ?_
          refine bw_aldi rfl (kfa (b := 397) (n := 6) (v := (20, 96)) (by decide) (by decide) ⟨by omega, by omega⟩) (by omega) (by omega) ?_
          rw [gI_sI_ne (show 397 + l.toNat ≠ 390 + l.toNat by omega), gI_wI_eq, svF_k]
          refine bw_iload rfl rfl ?_
          refine bw_iload rfl rfl ?_
          refine bw_imul rfl ⟨by omega, by omega⟩ ?_
          refine bw_iadd rfl ⟨by omega, by omega⟩ ?_
          refine bw_asti rfl (kfa (b := 397) (n := 6) (v := (20, 96)) (by decide) (by decide) ⟨by omega, by omega⟩) (by omega) (by omega) ?_
          refine bw_iinc (ls2 := [_, _, _, _, _, _, _, _]) rfl rfl rfl ⟨by omega, by omega⟩ rfl ?_
          refine bw_goto rfl ?_
          refine bw_forget (ls2 := [some (vr (some 372)), some (vi l), some (vi u), some (vi v), some (vi x), some (vi y), some (vi _), none]) ⟨rfl, rfl, rfl, rfl, rfl, rfl, rfl, trivial⟩ ?_
          refine bw_cast (M2 := (wI (wI (sI M 372 4 (S 3 + 1)) (390 + l.toNat) (svF (gI M (390 + l.toNat)) u v x (k + 1))) (397 + l.toNat) (svF (gI M (397 + l.toNat)) u v y (k + 1)))) (ih _ (by omega) (by omega)) rfl rfl ?_
          rw [← svF_s (g := gI M (390 + l.toNat)) (by omega), ← svF_s (g := gI M (397 + l.toNat)) (by omega)]
          refine mem_ext ?_ ?_
          · rfl
          · intro c
            by_cases q : c = 397 + l.toNat
            · rw [q, gI_wI_eq, sI_w, gI_wI_eq, gI_sI_ne (by omega), gI_wI_eq]
            · rw [gI_wI_ne q, gI_sI_ne q]
              by_cases q2 : c = 390 + l.toNat
              · rw [q2, gI_wI_eq, sI_w, gI_wI_eq, gI_wI_ne (by omega), gI_wI_eq]
              · rw [gI_wI_ne q2, gI_sI_ne q2, gI_wI_ne q, gI_wI_ne q2]
    show abW d (0, 0) 66 0 [some (vr (some 372)), some (vi l), some (vi u), some (vi v), some (vi x), some (vi y), none, none] [] (0, 0) (A0 L) M (qV (A0 L) (fun N => sm (pSc 372) M N ∧ SR N 372 T))
    refine bw_aload rfl rfl ?_
    first | refine bw_dup rfl ?_ | refine bw_dupi rfl ?_
    refine bw_getI rfl rfl ?_
    refine bw_push rfl ?_
    refine bw_iadd rfl ⟨by omega, by omega⟩ ?_
    refine bw_putI rfl rfl ?_
    refine bw_iload rfl rfl ?_
    refine bw_istore (ls2 := [_, _, _, _, _, _, _, _]) rfl rfl (Nat.le_of_ble_eq_true rfl) rfl ?_
    refine bw_cast (M2 := (wI (wI (sI M 372 4 (S 3 + 1)) (390 + l.toNat) (svF (gI M (390 + l.toNat)) u v x u)) (397 + l.toNat) (svF (gI M (397 + l.toNat)) u v y u))) (L13 ((S 0 - u).toNat + 1) u (by omega) (by omega)) rfl rfl ?_
    rw [svF_0, svF_0, k4]
    have e : gI M (390 + l.toNat) = gI (sI M 372 4 (S 3 + 1)) (390 + l.toNat) := (gI_sI_ne (by omega)).symm
    have e2 : gI M (397 + l.toNat) = gI (sI M 372 4 (S 3 + 1)) (397 + l.toNat) := (gI_sI_ne (by omega)).symm
    rw [e, wI_self, e2, wI_self]
  · have w0 := hS.sw.fr
    have w1 := hS.sw.la
    have w2 := hS.sw.bo
    have w3 := hS.sw.sl
    have w4 := hS.sw.hi
    have w5 := hS.sw.st
    have k0 : gI M 459 0 = S 0 := hS.c0
    have k4 : gI M 459 4 = S 3 := hS.c4
    have L13 : ∀ (kf : Nat) (k : Int), (u ≤ k ∧ k ≤ S 0) → ((S 0 - k).toNat) < kf → abW d (0, 0) 66 13 [some (vr (some 459)), some (vi l), some (vi u), some (vi v), some (vi x), some (vi y), some (vi k), none] [] (0, 0) (A0 L) ((wI (wI (sI M 459 4 (S 3 + 1)) (477 + l.toNat) (svF (gI M (477 + l.toNat)) u v x k)) (484 + l.toNat) (svF (gI M (484 + l.toNat)) u v y k))) (qV (A0 L) (fun N => sm (pSc 459) M N ∧ SR N 459 T)) := by
      intro kf
      induction kf with
      | zero => intro k  g1 hm9; exact absurd hm9 (Nat.not_lt_zero _)
      | succ kf ih13 =>
        intro k  g1 hm13
        have ih := ih13
        refine bw_iload rfl rfl ?_
        refine bw_aload rfl rfl ?_
        refine bw_getI rfl rfl ?_
        rw [gI_wI_ne (show 459 ≠ 484 + l.toNat by omega), gI_wI_ne (show 459 ≠ 477 + l.toNat by omega), gI_sI_nj (show (0 : Int) ≠ 4 by decide), k0]
        refine bw_icge rfl (fun c19 => ?_) (fun c19 => ?_)
        · skip
          refine bw_retv rfl rfl ?_
          obtain rfl : k = S 0 := by omega
          refine ⟨rfl, rfl, (((sm_refl (pSc 459) M).sI 4 _ ⟨Nat.le_refl _, by omega⟩).wI _ ⟨by omega, by omega⟩).wI _ ⟨by omega, by omega⟩, SR_slide hS hT hl (by omega) o n3 t0 t1 t2 t3 t4 (fun c hc => by rw [gI_wI_ne hc.2.2, gI_wI_ne hc.2.1, gI_sI_ne hc.1]) (fun j hj => by rw [gI_wI_ne (by omega), gI_wI_ne (by omega), gI_sI_nj hj]) (by rw [gI_wI_ne (by omega), gI_wI_ne (by omega), gI_sI_eq]) (fun f f0 f1 => ?_) (fun f f0 f1 => ?_)⟩
          · show gI _ (477 + l.toNat) f = gI M (477 + l.toNat) f + slR u v x f
            rw [gI_wI_ne (by omega), gI_wI_eq]
            unfold svF slR
            by_cases z : u ≤ f
            · rw [if_pos z, if_pos (by omega)]
            · rw [if_neg z, if_neg (by omega), Int.add_zero]
          · show gI _ (484 + l.toNat) f = gI M (484 + l.toNat) f + slR u v y f
            rw [gI_wI_eq]
            unfold svF slR
            by_cases z : u ≤ f
            · rw [if_pos z, if_pos (by omega)]
            · rw [if_neg z, if_neg (by omega), Int.add_zero]
        · skip
          refine bw_iload rfl rfl ?_
          refine bw_iload rfl rfl ?_
          refine bw_min rfl (by omega) (Nat.le_of_ble_eq_true rfl) (by decide) (by decide) ?_
          refine bw_iload rfl rfl ?_
          refine bw_isub rfl ⟨by omega, by omega⟩ ?_
          refine bw_push rfl ?_
          refine bw_iadd rfl ⟨by omega, by omega⟩ ?_
          refine bw_istore (ls2 := [_, _, _, _, _, _, _, _]) rfl rfl (Nat.le_of_ble_eq_true rfl) rfl ?_
          refine bw_aload rfl rfl ?_
          refine bw_getr rfl rfl (hR _ _) ?_
          refine bw_iload rfl rfl ?_
          refine bw_aldr rfl (by first | rfl | assumption) (by decide) (by omega) (by omega) ((hR _ _).trans (rr_row (fun _ => rfl) (by omega) (by omega) (by omega))) ?_
          refine bw_iload rfl rfl ?_
          refine bw_dup2 rfl ?_
          have r9 : gI M (477 + l.toNat) k = mv S l k 0 := hS.rt l k hl.1 hl.2 (by omega) (by omega)
          have d9 : gI M (484 + l.toNat) k = mv S l k 1 := hS.dn l k hl.1 hl.2 (by omega) (by omega)
          have b9 := mv_in (s := S) hS.sw (l := l) (f := k) (t := 0) (by omega) (Or.inl rfl) (S 3) (by omega) (Int.le_refl _)
          have b8 := mv_in (s := S) hS.sw (l := l) (f := k) (t := 1) (by omega) (Or.inr rfl) (S 3) (by omega) (Int.le_refl _)
          have b9 : -10368 ≤ mv S l k 0 ∧ mv S l k 0 ≤ 10368 := b9
          have b8 : -10368 ≤ mv S l k 1 ∧ mv S l k 1 ≤ 10368 := b8
          have m9 := mulb (a := min k v - u + 1) (b := x) (by omega) (by omega)
          have m8 := mulb (a := min k v - u + 1) (b := y) (by omega) (by omega)
          rw [← r9] at b9
          rw [← d9] at b8
          refine bw_aldi rfl (kfa (b := 477) (n := 6) (v := (20, 96)) (by decide) (by decide) ⟨by omega, by omega⟩) (by omega) (by omega) ?_
          rw [gI_wI_ne (show 477 + l.toNat ≠ 484 + l.toNat by omega), gI_wI_eq, svF_k]
          refine bw_iload rfl rfl ?_
          refine bw_iload rfl rfl ?_
          refine bw_imul rfl ⟨by omega, by omega⟩ ?_
          refine bw_iadd rfl ⟨by omega, by omega⟩ ?_
          refine bw_asti rfl (kfa (b := 477) (n := 6) (v := (20, 96)) (by decide) (by decide) ⟨by omega, by omega⟩) (by omega) (by omega) ?_
          refine bw_aload rfl rfl ?_
          refine bw_getr rfl rfl (hR _ _) ?_
          refine bw_iload rfl rfl ?_
          refine bw_aldr rfl (by first | rfl | assumption) (by decide) (by omega) (by omega) ((hR _ _).trans (rr_row (fun _ => rfl) (by omega) (by omega) (by omega))) ?_
          refine bw_iload rfl rfl ?_
          refine bw_dup2 rfl ?_
          refine bw_aldi rfl (kfa (b := 484) (n := 6) (v := (20, 96)) (by decide) (by decide) ⟨by omega, by omega⟩) (by omega) (by omega) ?_
          rw [gI_sI_ne (show 484 + l.toNat ≠ 477 + l.toNat by omega), gI_wI_eq, svF_k]
          refine bw_iload rfl rfl ?_
          refine bw_iload rfl rfl ?_
          refine bw_imul rfl ⟨by omega, by omega⟩ ?_
          refine bw_iadd rfl ⟨by omega, by omega⟩ ?_
          refine bw_asti rfl (kfa (b := 484) (n := 6) (v := (20, 96)) (by decide) (by decide) ⟨by omega, by omega⟩) (by omega) (by omega) ?_
          refine bw_iinc (ls2 := [_, _, _, _, _, _, _, _]) rfl rfl rfl ⟨by omega, by omega⟩ rfl ?_
          refine bw_goto rfl ?_
          refine bw_forget (ls2 := [some (vr (some 459)), some (vi l), some (vi u), some (vi v), some (vi x), some (vi y), some (vi _), none]) ⟨rfl, rfl, rfl, rfl, rfl, rfl, rfl, trivial⟩ ?_
          refine bw_cast (M2 := (wI (wI (sI M 459 4 (S 3 + 1)) (477 + l.toNat) (svF (gI M (477 + l.toNat)) u v x (k + 1))) (484 + l.toNat) (svF (gI M (484 + l.toNat)) u v y (k + 1)))) (ih _ (by omega) (by omega)) rfl rfl ?_
          rw [← svF_s (g := gI M (477 + l.toNat)) (by omega), ← svF_s (g := gI M (484 + l.toNat)) (by omega)]
          refine mem_ext ?_ ?_
          · rfl
          · intro c
            by_cases q : c = 484 + l.toNat
            · rw [q, gI_wI_eq, sI_w, gI_wI_eq, gI_sI_ne (by omega), gI_wI_eq]
            · rw [gI_wI_ne q, gI_sI_ne q]
              by_cases q2 : c = 477 + l.toNat
              · rw [q2, gI_wI_eq, sI_w, gI_wI_eq, gI_wI_ne (by omega), gI_wI_eq]
              · rw [gI_wI_ne q2, gI_sI_ne q2, gI_wI_ne q, gI_wI_ne q2]
    show abW d (0, 0) 66 0 [some (vr (some 459)), some (vi l), some (vi u), some (vi v), some (vi x), some (vi y), none, none] [] (0, 0) (A0 L) M (qV (A0 L) (fun N => sm (pSc 459) M N ∧ SR N 459 T))
    refine bw_aload rfl rfl ?_
    first | refine bw_dup rfl ?_ | refine bw_dupi rfl ?_
    refine bw_getI rfl rfl ?_
    refine bw_push rfl ?_
    refine bw_iadd rfl ⟨by omega, by omega⟩ ?_
    refine bw_putI rfl rfl ?_
    refine bw_iload rfl rfl ?_
    refine bw_istore (ls2 := [_, _, _, _, _, _, _, _]) rfl rfl (Nat.le_of_ble_eq_true rfl) rfl ?_
    refine bw_cast (M2 := (wI (wI (sI M 459 4 (S 3 + 1)) (477 + l.toNat) (svF (gI M (477 + l.toNat)) u v x u)) (484 + l.toNat) (svF (gI M (484 + l.toNat)) u v y u))) (L13 ((S 0 - u).toNat + 1) u (by omega) (by omega)) rfl rfl ?_
    rw [svF_0, svF_0, k4]
    have e : gI M (477 + l.toNat) = gI (sI M 459 4 (S 3 + 1)) (477 + l.toNat) := (gI_sI_ne (by omega)).symm
    have e2 : gI M (484 + l.toNat) = gI (sI M 459 4 (S 3 + 1)) (484 + l.toNat) := (gI_sI_ne (by omega)).symm
    rw [e, wI_self, e2, wI_self]
