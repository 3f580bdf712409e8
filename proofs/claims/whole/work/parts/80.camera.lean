abbrev pPa (a : Nat) : Prop := a = 204
/-- the place k lies in the box, moved -/
def inB (X Y W H u v k : Int) : Prop := (X ≤ k % 12 - u ∧ k % 12 - u ≤ X + W - 1) ∧ (Y ≤ k / 12 - v ∧ k / 12 - v ≤ Y + H - 1)
/-- the places with a box painted as far as row y -/
noncomputable def pbF (X Y W H u v c y : Int) (P : Int → Int) : Int → Int := fun k => @ite Int (inB X Y W H u v k ∧ k / 12 < y) (Classical.propDecidable _) c (P k)
theorem pb_pos {X Y W H u v c y : Int} {P : Int → Int} {k : Int} (h : inB X Y W H u v k ∧ k / 12 < y) : pbF X Y W H u v c y P k = c := if_pos h
theorem pb_neg {X Y W H u v c y : Int} {P : Int → Int} {k : Int} (h : ¬ (inB X Y W H u v k ∧ k / 12 < y)) : pbF X Y W H u v c y P k = P k := if_neg h
theorem pb_0 {X Y W H u v c y : Int} {P : Int → Int} (h : y ≤ Y + v) {g : Int → Int64} (H' : PAP g P) : PAP g (pbF X Y W H u v c y P) := PAP_congr H' (fun k k0 k1 => (pb_neg (fun z => by have := z.1.2.1; have := z.2; omega)).symm)
theorem pb_x {X Y W H u v c y : Int} {P : Int → Int} (h : min (X + u + W) 12 - max (X + u) 0 ≤ 0) {g : Int → Int64} (H' : PAP g P) : PAP g (pbF X Y W H u v c y P) := PAP_congr H' (fun k k0 k1 => (pb_neg (fun z => by have := z.1.1.1; have := z.1.1.2; omega)).symm)
theorem pb_s {X Y W H u v c y : Int} {P : Int → Int} {g : Int → Int64} (hW : 1 ≤ min (X + u + W) 12 - max (X + u) 0) (hy : 0 ≤ y ∧ y < 8) (hy2 : Y + v ≤ y ∧ y < Y + v + H) (hc : 0 ≤ c ∧ c ≤ 15) (h : PAP g (pbF X Y W H u v c y P)) : PAP (up g y (pnL (g y) (min (X + u + W) 12 - max (X + u) 0) (max (X + u) 0) c)) (pbF X Y W H u v c (y + 1) P) := by
  have hm : 0 ≤ max (X + u) 0 ∧ 1 ≤ min (X + u + W) 12 - max (X + u) 0 ∧ max (X + u) 0 + (min (X + u + W) 12 - max (X + u) 0) ≤ 12 := by omega
  have hg := h y hy.1 hy.2
  refine PAP_up h hy (pn_lt hm hg.1) (fun x hx => ?_) (fun k k0 k1 hk => ?_)
  · rw [pn_nib hm hc hx]
    by_cases q : max (X + u) 0 ≤ (x : Int) ∧ (x : Int) < max (X + u) 0 + (min (X + u + W) 12 - max (X + u) 0)
    · rw [if_pos q, pb_pos ⟨⟨⟨by omega, by omega⟩, ⟨by omega, by omega⟩⟩, by omega⟩]
      omega
    · rw [if_neg q, hg.2 x hx, pb_neg (fun z => by have := z.2; omega), pb_neg (fun z => by have := z.1.1.1; have := z.1.1.2; omega)]
  · by_cases q : inB X Y W H u v k ∧ k / 12 < y
    · rw [pb_pos q, pb_pos ⟨q.1, by omega⟩]
    · rw [pb_neg q, pb_neg (fun z => q ⟨z.1, by have := z.2; omega⟩)]
set_option maxRecDepth 20000 in
set_option maxHeartbeats 4000000 in
theorem c_paintBox {d L : Nat} {M : abMem} {r : abRf} (hR : RF r M) {o : Nat} (hk : (A0 L).2 o = (20, 7)) {X Y W H u v c : Int} (hX : gI M o 2 = X) (hY : gI M o 3 = Y) (hW : gI M o 4 = W) (hH : gI M o 5 = H) (hb : (0 ≤ X ∧ X ≤ 11) ∧ (0 ≤ Y ∧ Y ≤ 7) ∧ (1 ≤ W ∧ W ≤ 12) ∧ (1 ≤ H ∧ H ≤ 8)) (hu : -20000 ≤ u ∧ u ≤ 20000) (hv : -20000 ≤ v ∧ v ≤ 20000) (hc : 0 ≤ c ∧ c ≤ 15) {P : Int → Int} (hP : PAP (gL M 204) P) (hd : 1 ≤ d) : abW d (0, 0) 9 0 (abEnt (abL 9) [vr (some 203), vr (some o), vi u, vi v, vi c]) [] (0, 0) (A0 L) M (qV (A0 L) (fun N => sc pPa M N ∧ PAP (gL N 204) (pbF X Y W H u v c 8 P))) := by
  have L90 : ∀ (kf : Nat) (N : abMem) (y : Int), (sc pPa M N) → (PAP (gL N 204) (pbF X Y W H u v c y P)) → (1 ≤ min (X + u + W) 12 - max (X + u) 0) → (max (Y + v) 0 ≤ y ∧ (y ≤ min (Y + v + H) 8 ∨ y = max (Y + v) 0)) → ((20100 - y).toNat) < kf → abW d (0, 0) 9 90 [some (vr (some 203)), some (vr (some o)), some (vi u), some (vi v), some (vi c), some (vi (max (X + u) 0)), some (vi (min (X + u + W) 12 - max (X + u) 0)), some (vl (mkL (min (X + u + W) 12 - max (X + u) 0) (max (X + u) 0))), none, some (vl ((Int64.ofInt 18764998447377 * xi2l c) &&& mkL (min (X + u + W) 12 - max (X + u) 0) (max (X + u) 0))), none, some (vi (min (Y + v + H) 8)), some (vi y)] [] (0, 0) (A0 L) (N) (qV (A0 L) (fun N => sc pPa M N ∧ PAP (gL N 204) (pbF X Y W H u v c 8 P))) := by
    intro kf
    induction kf with
    | zero => intro N  y  g1 g2 g3 g4 hm9; exact absurd hm9 (Nat.not_lt_zero _)
    | succ kf ih90 =>
      intro N  y  g1 g2 g3 g4 hm90
      have ih := ih90
      have hR := g1.RF hR
      refine bw_iload rfl rfl ?_
      refine bw_iload rfl rfl ?_
      refine bw_icge rfl (fun c94 => ?_) (fun c94 => ?_)
      · skip
        refine bw_retv rfl rfl ?_
        refine ⟨rfl, rfl, g1, PAP_congr g2 (fun k k0 k1 => ?_)⟩
        by_cases z : inB X Y W H u v k
        · by_cases z2 : k / 12 < y
          · rw [pb_pos ⟨z, z2⟩, pb_pos ⟨z, by omega⟩]
          · exfalso; have := z.2.1; have := z.2.2; omega
        · rw [pb_neg (fun q => z q.1), pb_neg (fun q => z q.1)]
      · skip
        refine bw_aload rfl rfl ?_
        refine bw_getr rfl rfl (hR _ _) ?_
        refine bw_iload rfl rfl ?_
        refine bw_aload rfl rfl ?_
        refine bw_getr rfl rfl (hR _ _) ?_
        refine bw_iload rfl rfl ?_
        refine bw_aldl rfl (by first | rfl | assumption) (by omega) (by omega) ?_
        refine bw_lload rfl rfl ?_
        refine bw_lldc rfl ?_
        refine bw_lxor rfl ?_
        refine bw_land rfl ?_
        refine bw_lload rfl rfl ?_
        refine bw_lor rfl ?_
        refine bw_astl rfl (by first | rfl | assumption) (by omega) (by omega) ?_
        refine bw_iinc (ls2 := [_, _, _, _, _, _, _, _, _, _, _, _, _]) rfl rfl rfl ⟨by omega, by omega⟩ rfl ?_
        refine bw_goto rfl ?_
        refine ih _ _ (g1.sL _ _ rfl) ?_ g3 (by omega) (by omega)
        rw [gL_sL_eq]
        exact pb_s g3 (by omega) (by omega) hc g2
  show abW d (0, 0) 9 0 [some (vr (some 203)), some (vr (some o)), some (vi u), some (vi v), some (vi c), none, none, none, none, none, none, none, none] [] (0, 0) (A0 L) M (qV (A0 L) (fun N => sc pPa M N ∧ PAP (gL N 204) (pbF X Y W H u v c 8 P)))
  refine bw_aload rfl rfl ?_
  refine bw_push rfl ?_
  refine bw_aldi rfl hk (by omega) (by omega) ?_
  rw [show gI M o 2 = X from hX]
  refine bw_iload rfl rfl ?_
  refine bw_iadd rfl ⟨by omega, by omega⟩ ?_
  refine bw_push rfl ?_
  refine bw_max rfl (by omega) (Nat.le_of_ble_eq_true rfl) (by decide) (by decide) ?_
  refine bw_istore (ls2 := [_, _, _, _, _, _, _, _, _, _, _, _, _]) rfl rfl (Nat.le_of_ble_eq_true rfl) rfl ?_
  refine bw_aload rfl rfl ?_
  refine bw_push rfl ?_
  refine bw_aldi rfl hk (by omega) (by omega) ?_
  rw [show gI M o 2 = X from hX]
  refine bw_iload rfl rfl ?_
  refine bw_iadd rfl ⟨by omega, by omega⟩ ?_
  refine bw_aload rfl rfl ?_
  refine bw_push rfl ?_
  refine bw_aldi rfl hk (by omega) (by omega) ?_
  rw [show gI M o 4 = W from hW]
  refine bw_iadd rfl ⟨by omega, by omega⟩ ?_
  refine bw_push rfl ?_
  refine bw_min rfl (by omega) (Nat.le_of_ble_eq_true rfl) (by decide) (by decide) ?_
  refine bw_iload rfl rfl ?_
  refine bw_isub rfl ⟨by omega, by omega⟩ ?_
  refine bw_istore (ls2 := [_, _, _, _, _, _, _, _, _, _, _, _, _]) rfl rfl (Nat.le_of_ble_eq_true rfl) rfl ?_
  refine bw_iload rfl rfl ?_
  refine bw_ifgt rfl (fun c32 => ?_) (fun c32 => ?_)
  · skip
    refine bw_lconst rfl ?_
    refine bw_iload rfl rfl ?_
    refine bw_push rfl ?_
    refine bw_imul rfl ⟨by omega, by omega⟩ ?_
    refine bw_lshl rfl ?_
    refine bw_lconst rfl ?_
    refine bw_lsub rfl ?_
    refine bw_iload rfl rfl ?_
    refine bw_push rfl ?_
    refine bw_imul rfl ⟨by omega, by omega⟩ ?_
    refine bw_lshl rfl ?_
    refine bw_lstore (ls2 := [_, _, _, _, _, _, _, _, _, _, _, _, _]) rfl rfl (Nat.le_of_ble_eq_true rfl) rfl ?_
    refine bw_lldc rfl ?_
    refine bw_iload rfl rfl ?_
    refine bw_i2l rfl ?_
    refine bw_lmul rfl ?_
    refine bw_lload rfl rfl ?_
    refine bw_land rfl ?_
    refine bw_lstore (ls2 := [_, _, _, _, _, _, _, _, _, _, _, _, _]) rfl rfl (Nat.le_of_ble_eq_true rfl) rfl ?_
    refine bw_aload rfl rfl ?_
    refine bw_push rfl ?_
    refine bw_aldi rfl hk (by omega) (by omega) ?_
    rw [show gI M o 3 = Y from hY]
    refine bw_iload rfl rfl ?_
    refine bw_iadd rfl ⟨by omega, by omega⟩ ?_
    refine bw_aload rfl rfl ?_
    refine bw_push rfl ?_
    refine bw_aldi rfl hk (by omega) (by omega) ?_
    rw [show gI M o 5 = H from hH]
    refine bw_iadd rfl ⟨by omega, by omega⟩ ?_
    refine bw_push rfl ?_
    refine bw_min rfl (by omega) (Nat.le_of_ble_eq_true rfl) (by decide) (by decide) ?_
    refine bw_istore (ls2 := [_, _, _, _, _, _, _, _, _, _, _, _, _]) rfl rfl (Nat.le_of_ble_eq_true rfl) rfl ?_
    refine bw_aload rfl rfl ?_
    refine bw_push rfl ?_
    refine bw_aldi rfl hk (by omega) (by omega) ?_
    rw [show gI M o 3 = Y from hY]
    refine bw_iload rfl rfl ?_
    refine bw_iadd rfl ⟨by omega, by omega⟩ ?_
    refine bw_push rfl ?_
    refine bw_max rfl (by omega) (Nat.le_of_ble_eq_true rfl) (by decide) (by decide) ?_
    refine bw_istore (ls2 := [_, _, _, _, _, _, _, _, _, _, _, _, _]) rfl rfl (Nat.le_of_ble_eq_true rfl) rfl ?_
    exact L90 60000 M _ (sc_refl _ _) (PAP_congr hP (fun k k0 k1 => (pb_neg (fun z => by have := z.1.2.1; have := z.2; omega)).symm)) (by omega) (by omega) (by omega)
  · skip
    refine bw_retv rfl rfl ?_
    exact ⟨rfl, rfl, sc_refl _ _, pb_x (by omega) hP⟩
/-- the places, when of the first n boxes those of the drawing are painted -/
def dwF (S : Int → Int) (l dr u v w : Int) (P : Int → Int) (n : Nat) : Int → Int := fun k => if 0 < inkN S l dr (k % 12 - u) (k / 12 - v) n then (if w = 1 then l + 1 else inkN S l dr (k % 12 - u) (k / 12 - v) n) else P k
theorem dw_skip {S : Int → Int} {l dr u v w : Int} {P : Int → Int} {a : Int} (ha : 0 ≤ a) : ∀ n : Nat, (∀ j : Int, a ≤ j → j < a + n → ¬ (S (54 + 7 * j) = l ∧ S (54 + 7 * j + 1) = dr)) → dwF S l dr u v w P (a + n).toNat = dwF S l dr u v w P a.toNat := by
  intro n
  induction n with
  | zero => intro _; rw [show a + ((0 : Nat) : Int) = a by omega]
  | succ n ih =>
    intro h
    rw [← ih (fun j j0 j1 => h j j0 (by omega))]
    funext k
    unfold dwF
    rw [show a + ((n + 1 : Nat) : Int) = a + n + 1 by omega, inkN_s (by omega), if_neg (show ¬ bxH S l dr (k % 12 - u) (k / 12 - v) (a + n) = true from fun z => h (a + n) (by omega) (by omega) (of_decide_eq_true z).1)]
theorem dw_paint {S : Int → Int} {l dr u v w b c : Int} {P : Int → Int} {g : Int → Int64} (hb : 0 ≤ b) (hB : S (54 + 7 * b) = l ∧ S (54 + 7 * b + 1) = dr) (h6 : 1 ≤ S (54 + 7 * b + 6)) (hc : c = if w = 1 then l + 1 else S (54 + 7 * b + 6)) (h : PAP g (pbF (S (54 + 7 * b + 2)) (S (54 + 7 * b + 3)) (S (54 + 7 * b + 4)) (S (54 + 7 * b + 5)) u v c 8 (dwF S l dr u v w P b.toNat))) : PAP g (dwF S l dr u v w P (b + 1).toNat) := by
  refine PAP_congr h (fun k k0 k1 => ?_)
  unfold dwF
  rw [inkN_s hb]
  by_cases q : inB (S (54 + 7 * b + 2)) (S (54 + 7 * b + 3)) (S (54 + 7 * b + 4)) (S (54 + 7 * b + 5)) u v k
  · rw [pb_pos ⟨q, by omega⟩, if_pos (show bxH S l dr (k % 12 - u) (k / 12 - v) b = true from decide_eq_true ⟨hB, q.1, q.2⟩), if_pos (by omega), hc]
  · rw [pb_neg (fun z => q z.1), if_neg (show ¬ bxH S l dr (k % 12 - u) (k / 12 - v) b = true from fun z => q ⟨(of_decide_eq_true z).2.1, (of_decide_eq_true z).2.2⟩)]
/-- the box b is the one of the chain that comes next behind the first m boxes -/
theorem nx_skip {S : Int → Int} {l dr k x u v w : Int} {P : Int → Int} (hk : -1 ≤ k) (hk2 : k < S 2) (h : isNx S l dr k x) : dwF S l dr u v w P (k + 1).toNat = dwF S l dr u v w P (if x = -1 then S 2 else x).toNat := by
  rcases h with ⟨h1, h2⟩ | ⟨h1, h2, h3⟩
  · rw [if_pos h1]
    have e := dw_skip (S := S) (l := l) (dr := dr) (u := u) (v := v) (w := w) (P := P) (a := k + 1) (by omega) (S 2 - (k + 1)).toNat (fun j j0 j1 => h2 j (by omega) (by omega) (by omega))
    rw [show k + 1 + (((S 2 - (k + 1)).toNat : Nat) : Int) = S 2 by omega] at e
    exact e.symm
  · rw [if_neg (by omega)]
    have e := dw_skip (S := S) (l := l) (dr := dr) (u := u) (v := v) (w := w) (P := P) (a := k + 1) (by omega) (x - (k + 1)).toNat (fun j j0 j1 => h3 j (by omega) (by omega) (by omega))
    rw [show k + 1 + (((x - (k + 1)).toNat : Nat) : Int) = x by omega] at e
    exact e.symm
theorem SR_sc {p : Nat → Prop} {M N : abMem} {s : Nat} {S : Int → Int} (h : SR M s S) (g : sc p M N) (hp : ∀ c : Nat, s ≤ c → c < s + 87 → ¬ p c) : SR N s S := SR_sm h (M := M) (N := (N.1, M.2)) (p := p) ⟨rfl, fun a ha => g.at a ha⟩ hp
set_option maxRecDepth 20000 in
set_option maxHeartbeats 4000000 in
theorem c_paintDrawing {d L : Nat} {M : abMem} {r : abRf} (hR : RF r M) {s : Nat} (hs : s = 372 ∨ s = 459) {S : Int → Int} (hS : SR M s S) (hr : r.2.2.1 = some s) {l f dr w : Int} (hl : 0 ≤ l ∧ l < S 1) (hf0 : 0 ≤ f ∧ f < S 0) (hdr : 0 ≤ dr ∧ dr ≤ 99) (hw : w = 0 ∨ w = 1) {P : Int → Int} (hP : PAP (gL M 204) P) (hd : 2 ≤ d) : abW d (0, 0) 8 0 (abEnt (abL 8) [vr (some 203), vi l, vi f, vi dr, vi w]) [] (0, 0) (A0 L) M (qV (A0 L) (fun N => sc pPa M N ∧ PAP (gL N 204) (dwF S l dr (mv S l f 0) (mv S l f 1) w P (S 2).toNat))) := by
  rcases hs with rfl | rfl
  · have w0 := hS.sw.fr
    have w1 := hS.sw.la
    have w2 := hS.sw.bo
    have w3 := hS.sw.sl
    have w4 := hS.sw.hi
    have w5 := hS.sw.st
    have m0 := mv_in hS.sw (l := l) (f := f) (t := 0) (by omega) (Or.inl rfl) (S 3) (by omega) (by omega)
    have m1 := mv_in hS.sw (l := l) (f := f) (t := 1) (by omega) (Or.inr rfl) (S 3) (by omega) (by omega)
    have m2 : mv S l f 0 = sN (mvT S l f 0) (S 3).toNat := rfl
    have m3 : mv S l f 1 = sN (mvT S l f 1) (S 3).toNat := rfl
    have L16 : ∀ (kf : Nat) (N : abMem) (b i : Int), (sc pPa M N) → (PAP (gL N 204) (dwF S l dr (mv S l f 0) (mv S l f 1) w P (if b = -1 then S 2 else b).toNat)) → (-1 ≤ b ∧ b < S 2 ∧ 0 ≤ i ∧ (b = -1 ∨ i ≤ b)) → (b = -1 ∨ (0 ≤ b ∧ b < S 2) ∧ (S (54 + 7 * b) = l ∧ S (54 + 7 * b + 1) = dr) ∧ True) → ((41 - i).toNat) < kf → abW d (0, 0) 8 16 [some (vr (some 203)), some (vi l), some (vi f), some (vi dr), some (vi w), some (vi b), some (vi i), none] [] (0, 0) (A0 L) (N) (qV (A0 L) (fun N => sc pPa M N ∧ PAP (gL N 204) (dwF S l dr (mv S l f 0) (mv S l f 1) w P (S 2).toNat))) := by
      intro kf
      induction kf with
      | zero => intro N  b i  g1 g2 g3 g4 hm9; exact absurd hm9 (Nat.not_lt_zero _)
      | succ kf ih16 =>
        intro N  b i  g1 g2 g3 g4 hm16
        have ih := ih16
        have hR := g1.RF hR
        have hS := SR_sc hS g1 (fun c c0 c1 => by omega)
        refine bw_iload rfl rfl ?_
        refine bw_push rfl ?_
        refine bw_icge rfl (fun c20 => ?_) (fun c20 => ?_)
        · skip
          refine bw_retv rfl rfl ?_
          first
          | (exfalso; omega)
          | (rw [if_pos (by omega)] at g2
             exact ⟨rfl, rfl, g1, g2⟩)
        · skip
          refine bw_iload rfl rfl ?_
          refine bw_push rfl ?_
          refine bw_iceq rfl (fun c26 => ?_) (fun c26 => ?_)
          · skip
            refine bw_retv rfl rfl ?_
            first
            | (exfalso; omega)
            | (rw [if_pos (by omega)] at g2
               exact ⟨rfl, rfl, g1, g2⟩)
          · have hq := hS.sw.bx b (by omega) (by omega)
            have hB : S (54 + 7 * b) = l ∧ S (54 + 7 * b + 1) = dr := by
              rcases g4 with h | ⟨_, h, _⟩
              · exact absurd h (by assumption)
              · exact h
            rw [if_neg (by omega)] at g2
            refine bw_iload rfl rfl ?_
            refine bw_ifeq rfl (fun c31 => ?_) (fun c31 => ?_)
            · skip
              refine bw_aload rfl rfl ?_
              refine bw_getr rfl rfl ((hR _ _).trans hr) ?_
              refine bw_getr rfl rfl (hR _ _) ?_
              refine bw_iload rfl rfl ?_
              refine bw_aldr rfl (by first | rfl | assumption) (by decide) (by omega) (by omega) ((hR _ _).trans (rr_row (fun _ => rfl) (by omega) (by omega) (by omega))) ?_
              refine bw_push rfl ?_
              refine bw_aldi rfl (kfa (b := 411) (n := 40) (v := (20, 7)) (by decide) (by decide) ⟨by omega, by omega⟩) (by omega) (by omega) ?_
              rw [show gI N (411 + b.toNat) 6 = S (54 + 7 * b + 6) from hS.bx b 6 (by omega) (by omega) (by decide) (by decide)]
              refine bw_istore (ls2 := [_, _, _, _, _, _, _, _]) rfl rfl (Nat.le_of_ble_eq_true rfl) rfl ?_
              refine bw_aload rfl rfl ?_
              refine bw_aload rfl rfl ?_
              refine bw_getr rfl rfl ((hR _ _).trans hr) ?_
              refine bw_getr rfl rfl (hR _ _) ?_
              refine bw_iload rfl rfl ?_
              refine bw_aldr rfl (by first | rfl | assumption) (by decide) (by omega) (by omega) ((hR _ _).trans (rr_row (fun _ => rfl) (by omega) (by omega) (by omega))) ?_
              refine bw_aload rfl rfl ?_
              refine bw_getr rfl rfl ((hR _ _).trans hr) ?_
              refine bw_getr rfl rfl (hR _ _) ?_
              refine bw_iload rfl rfl ?_
              refine bw_aldr rfl (by first | rfl | assumption) (by decide) (by omega) (by omega) ((hR _ _).trans (rr_row (fun _ => rfl) (by omega) (by omega) (by omega))) ?_
              refine bw_iload rfl rfl ?_
              refine bw_aldi rfl (kfa (b := 390) (n := 6) (v := (20, 96)) (by decide) (by decide) ⟨by omega, by omega⟩) (by omega) (by omega) ?_
              rw [show gI N (390 + l.toNat) f = mv S l f 0 from hS.rt l f (by omega) (by omega) (by omega) (by omega)]
              refine bw_aload rfl rfl ?_
              refine bw_getr rfl rfl ((hR _ _).trans hr) ?_
              refine bw_getr rfl rfl (hR _ _) ?_
              refine bw_iload rfl rfl ?_
              refine bw_aldr rfl (by first | rfl | assumption) (by decide) (by omega) (by omega) ((hR _ _).trans (rr_row (fun _ => rfl) (by omega) (by omega) (by omega))) ?_
              refine bw_iload rfl rfl ?_
              refine bw_aldi rfl (kfa (b := 397) (n := 6) (v := (20, 96)) (by decide) (by decide) ⟨by omega, by omega⟩) (by omega) (by omega) ?_
              rw [show gI N (397 + l.toNat) f = mv S l f 1 from hS.dn l f (by omega) (by omega) (by omega) (by omega)]
              refine bw_iload rfl rfl ?_
              refine bw_callVv (e := d - 1) (as := [_, _, _, _]) rfl (by omega) rfl rfl (Nat.le_of_ble_eq_true rfl) (Nat.le_of_ble_eq_true rfl) rfl (c_paintBox (X := S (54 + 7 * b + 2)) (Y := S (54 + 7 * b + 3)) (W := S (54 + 7 * b + 4)) (H := S (54 + 7 * b + 5)) (P := dwF S l dr (mv S l f 0) (mv S l f 1) w P b.toNat) hR (kfa (b := 411) (n := 40) (v := (20, 7)) (by decide) (by decide) ⟨by omega, by omega⟩) (hS.bx b 2 (by omega) (by omega) (by decide) (by decide)) (hS.bx b 3 (by omega) (by omega) (by decide) (by decide)) (hS.bx b 4 (by omega) (by omega) (by decide) (by decide)) (hS.bx b 5 (by omega) (by omega) (by decide) (by decide)) (by omega) (by omega) (by omega) (by omega) g2 (by omega)) (fun M90 hM90 => ?_)
              obtain ⟨u90, v90⟩ := hM90
              have hR := u90.RF hR
              have hS := SR_sc hS u90 (fun c c0 c1 => by omega)
              have hpn := dw_paint (by omega) hB (by omega) (by first | rw [if_pos (by omega)] | rw [if_neg (by omega)]) v90
              refine bw_aload rfl rfl ?_
              refine bw_getr rfl rfl ((hR _ _).trans hr) ?_
              refine bw_getr rfl rfl (hR _ _) ?_
              refine bw_iload rfl rfl ?_
              refine bw_aldi rfl (by first | rfl | assumption) (by omega) (by omega) ?_
              have hn := hS.nb b (by omega) (by omega)
              obtain ⟨b2, eb⟩ : ∃ b2, b2 = gI M90 458 b := ⟨_, rfl⟩
              rw [← eb] at hn ⊢
              rw [hB.1, hB.2] at hn
              refine bw_istore (ls2 := [_, _, _, _, _, _, _, _]) rfl rfl (Nat.le_of_ble_eq_true rfl) rfl ?_
              refine bw_iinc (ls2 := [_, _, _, _, _, _, _, _]) rfl rfl rfl ⟨by omega, by omega⟩ rfl ?_
              refine bw_goto rfl ?_
              refine bw_forget (ls2 := [some (vr (some 203)), some (vi l), some (vi f), some (vi dr), some (vi w), some (vi _), some (vi _), none]) ⟨rfl, rfl, rfl, rfl, rfl, rfl, rfl, trivial⟩ ?_
              refine ih _ _ _ (g1.trans u90) (by rw [← nx_skip (by omega) (by omega) hn]; exact hpn) (by rcases hn with h | h <;> omega) ?_ (by omega)
              rcases hn with h | h
              · exact Or.inl h.1
              · exact Or.inr ⟨by omega, h.2.1, trivial⟩
            · skip
              refine bw_iload rfl rfl ?_
              refine bw_push rfl ?_
              refine bw_iadd rfl ⟨by omega, by omega⟩ ?_
              refine bw_goto rfl ?_
              refine bw_istore (ls2 := [_, _, _, _, _, _, _, _]) rfl rfl (Nat.le_of_ble_eq_true rfl) rfl ?_
              refine bw_aload rfl rfl ?_
              refine bw_aload rfl rfl ?_
              refine bw_getr rfl rfl ((hR _ _).trans hr) ?_
              refine bw_getr rfl rfl (hR _ _) ?_
              refine bw_iload rfl rfl ?_
              refine bw_aldr rfl (by first | rfl | assumption) (by decide) (by omega) (by omega) ((hR _ _).trans (rr_row (fun _ => rfl) (by omega) (by omega) (by omega))) ?_
              refine bw_aload rfl rfl ?_
              refine bw_getr rfl rfl ((hR _ _).trans hr) ?_
              refine bw_getr rfl rfl (hR _ _) ?_
              refine bw_iload rfl rfl ?_
              refine bw_aldr rfl (by first | rfl | assumption) (by decide) (by omega) (by omega) ((hR _ _).trans (rr_row (fun _ => rfl) (by omega) (by omega) (by omega))) ?_
              refine bw_iload rfl rfl ?_
              refine bw_aldi rfl (kfa (b := 390) (n := 6) (v := (20, 96)) (by decide) (by decide) ⟨by omega, by omega⟩) (by omega) (by omega) ?_
              rw [show gI N (390 + l.toNat) f = mv S l f 0 from hS.rt l f (by omega) (by omega) (by omega) (by omega)]
              refine bw_aload rfl rfl ?_
              refine bw_getr rfl rfl ((hR _ _).trans hr) ?_
              refine bw_getr rfl rfl (hR _ _) ?_
              refine bw_iload rfl rfl ?_
              refine bw_aldr rfl (by first | rfl | assumption) (by decide) (by omega) (by omega) ((hR _ _).trans (rr_row (fun _ => rfl) (by omega) (by omega) (by omega))) ?_
              refine bw_iload rfl rfl ?_
              refine bw_aldi rfl (kfa (b := 397) (n := 6) (v := (20, 96)) (by decide) (by decide) ⟨by omega, by omega⟩) (by omega) (by omega) ?_
              rw [show gI N (397 + l.toNat) f = mv S l f 1 from hS.dn l f (by omega) (by omega) (by omega) (by omega)]
              refine bw_iload rfl rfl ?_
              refine bw_callVv (e := d - 1) (as := [_, _, _, _]) rfl (by omega) rfl rfl (Nat.le_of_ble_eq_true rfl) (Nat.le_of_ble_eq_true rfl) rfl (c_paintBox (X := S (54 + 7 * b + 2)) (Y := S (54 + 7 * b + 3)) (W := S (54 + 7 * b + 4)) (H := S (54 + 7 * b + 5)) (P := dwF S l dr (mv S l f 0) (mv S l f 1) w P b.toNat) hR (kfa (b := 411) (n := 40) (v := (20, 7)) (by decide) (by decide) ⟨by omega, by omega⟩) (hS.bx b 2 (by omega) (by omega) (by decide) (by decide)) (hS.bx b 3 (by omega) (by omega) (by decide) (by decide)) (hS.bx b 4 (by omega) (by omega) (by decide) (by decide)) (hS.bx b 5 (by omega) (by omega) (by decide) (by decide)) (by omega) (by omega) (by omega) (by omega) g2 (by omega)) (fun M90 hM90 => ?_)
              obtain ⟨u90, v90⟩ := hM90
              have hR := u90.RF hR
              have hS := SR_sc hS u90 (fun c c0 c1 => by omega)
              have hpn := dw_paint (by omega) hB (by omega) (by first | rw [if_pos (by omega)] | rw [if_neg (by omega)]) v90
              refine bw_aload rfl rfl ?_
              refine bw_getr rfl rfl ((hR _ _).trans hr) ?_
              refine bw_getr rfl rfl (hR _ _) ?_
              refine bw_iload rfl rfl ?_
              refine bw_aldi rfl (by first | rfl | assumption) (by omega) (by omega) ?_
              have hn := hS.nb b (by omega) (by omega)
              obtain ⟨b2, eb⟩ : ∃ b2, b2 = gI M90 458 b := ⟨_, rfl⟩
              rw [← eb] at hn ⊢
              rw [hB.1, hB.2] at hn
              refine bw_istore (ls2 := [_, _, _, _, _, _, _, _]) rfl rfl (Nat.le_of_ble_eq_true rfl) rfl ?_
              refine bw_iinc (ls2 := [_, _, _, _, _, _, _, _]) rfl rfl rfl ⟨by omega, by omega⟩ rfl ?_
              refine bw_goto rfl ?_
              refine bw_forget (ls2 := [some (vr (some 203)), some (vi l), some (vi f), some (vi dr), some (vi w), some (vi _), some (vi _), none]) ⟨rfl, rfl, rfl, rfl, rfl, rfl, rfl, trivial⟩ ?_
              refine ih _ _ _ (g1.trans u90) (by rw [← nx_skip (by omega) (by omega) hn]; exact hpn) (by rcases hn with h | h <;> omega) ?_ (by omega)
              rcases hn with h | h
              · exact Or.inl h.1
              · exact Or.inr ⟨by omega, h.2.1, trivial⟩
    show abW d (0, 0) 8 0 [some (vr (some 203)), some (vi l), some (vi f), some (vi dr), some (vi w), none, none, none] [] (0, 0) (A0 L) M (qV (A0 L) (fun N => sc pPa M N ∧ PAP (gL N 204) (dwF S l dr (mv S l f 0) (mv S l f 1) w P (S 2).toNat)))
    refine bw_aload rfl rfl ?_
    refine bw_getr rfl rfl ((hR _ _).trans hr) ?_
    refine bw_getr rfl rfl (hR _ _) ?_
    refine bw_iload rfl rfl ?_
    refine bw_aldr rfl (by first | rfl | assumption) (by decide) (by omega) (by omega) ((hR _ _).trans (rr_row (fun _ => rfl) (by omega) (by omega) (by omega))) ?_
    refine bw_iload rfl rfl ?_
    refine bw_aldi rfl (kfa (b := 452) (n := 6) (v := (20, 100)) (by decide) (by decide) ⟨by omega, by omega⟩) (by omega) (by omega) ?_
    have hf := hS.fb l dr (by omega) (by omega) (by omega) (by omega)
    obtain ⟨b0, eb⟩ : ∃ b0, b0 = gI M (452 + l.toNat) dr := ⟨_, rfl⟩
    rw [← eb] at hf ⊢
    refine bw_istore (ls2 := [_, _, _, _, _, _, _, _]) rfl rfl (Nat.le_of_ble_eq_true rfl) rfl ?_
    refine bw_push rfl ?_
    refine bw_istore (ls2 := [_, _, _, _, _, _, _, _]) rfl rfl (Nat.le_of_ble_eq_true rfl) rfl ?_
    have e0 := nx_skip (u := mv S l f 0) (v := mv S l f 1) (w := w) (P := P) (by decide) (by omega) hf
    have hb0 : -1 ≤ b0 ∧ b0 < S 2 := by rcases hf with h | h <;> omega
    have hc0 : b0 = -1 ∨ (0 ≤ b0 ∧ b0 < S 2) ∧ (S (54 + 7 * b0) = l ∧ S (54 + 7 * b0 + 1) = dr) ∧ True := by
      rcases hf with h | h
      · exact Or.inl h.1
      · exact Or.inr ⟨by omega, h.2.1, trivial⟩
    exact L16 42 M b0 0 (sc_refl _ _) (by rw [← e0]; exact PAP_congr hP (fun k k0 k1 => rfl)) (by omega) hc0 (by omega)
  · have w0 := hS.sw.fr
    have w1 := hS.sw.la
    have w2 := hS.sw.bo
    have w3 := hS.sw.sl
    have w4 := hS.sw.hi
    have w5 := hS.sw.st
    have m0 := mv_in hS.sw (l := l) (f := f) (t := 0) (by omega) (Or.inl rfl) (S 3) (by omega) (by omega)
    have m1 := mv_in hS.sw (l := l) (f := f) (t := 1) (by omega) (Or.inr rfl) (S 3) (by omega) (by omega)
    have m2 : mv S l f 0 = sN (mvT S l f 0) (S 3).toNat := rfl
    have m3 : mv S l f 1 = sN (mvT S l f 1) (S 3).toNat := rfl
    have L16 : ∀ (kf : Nat) (N : abMem) (b i : Int), (sc pPa M N) → (PAP (gL N 204) (dwF S l dr (mv S l f 0) (mv S l f 1) w P (if b = -1 then S 2 else b).toNat)) → (-1 ≤ b ∧ b < S 2 ∧ 0 ≤ i ∧ (b = -1 ∨ i ≤ b)) → (b = -1 ∨ (0 ≤ b ∧ b < S 2) ∧ (S (54 + 7 * b) = l ∧ S (54 + 7 * b + 1) = dr) ∧ True) → ((41 - i).toNat) < kf → abW d (0, 0) 8 16 [some (vr (some 203)), some (vi l), some (vi f), some (vi dr), some (vi w), some (vi b), some (vi i), none] [] (0, 0) (A0 L) (N) (qV (A0 L) (fun N => sc pPa M N ∧ PAP (gL N 204) (dwF S l dr (mv S l f 0) (mv S l f 1) w P (S 2).toNat))) := by
      intro kf
      induction kf with
      | zero => intro N  b i  g1 g2 g3 g4 hm9; exact absurd hm9 (Nat.not_lt_zero _)
      | succ kf ih16 =>
        intro N  b i  g1 g2 g3 g4 hm16
        have ih := ih16
        have hR := g1.RF hR
        have hS := SR_sc hS g1 (fun c c0 c1 => by omega)
        refine bw_iload rfl rfl ?_
        refine bw_push rfl ?_
        refine bw_icge rfl (fun c20 => ?_) (fun c20 => ?_)
        · skip
          refine bw_retv rfl rfl ?_
          first
          | (exfalso; omega)
          | (rw [if_pos (by omega)] at g2
             exact ⟨rfl, rfl, g1, g2⟩)
        · skip
          refine bw_iload rfl rfl ?_
          refine bw_push rfl ?_
          refine bw_iceq rfl (fun c26 => ?_) (fun c26 => ?_)
          · skip
            refine bw_retv rfl rfl ?_
            first
            | (exfalso; omega)
            | (rw [if_pos (by omega)] at g2
               exact ⟨rfl, rfl, g1, g2⟩)
          · have hq := hS.sw.bx b (by omega) (by omega)
            have hB : S (54 + 7 * b) = l ∧ S (54 + 7 * b + 1) = dr := by
              rcases g4 with h | ⟨_, h, _⟩
              · exact absurd h (by assumption)
              · exact h
            rw [if_neg (by omega)] at g2
            refine bw_iload rfl rfl ?_
            refine bw_ifeq rfl (fun c31 => ?_) (fun c31 => ?_)
            · skip
              refine bw_aload rfl rfl ?_
              refine bw_getr rfl rfl ((hR _ _).trans hr) ?_
              refine bw_getr rfl rfl (hR _ _) ?_
              refine bw_iload rfl rfl ?_
              refine bw_aldr rfl (by first | rfl | assumption) (by decide) (by omega) (by omega) ((hR _ _).trans (rr_row (fun _ => rfl) (by omega) (by omega) (by omega))) ?_
              refine bw_push rfl ?_
              refine bw_aldi rfl (kfa (b := 498) (n := 40) (v := (20, 7)) (by decide) (by decide) ⟨by omega, by omega⟩) (by omega) (by omega) ?_
              rw [show gI N (498 + b.toNat) 6 = S (54 + 7 * b + 6) from hS.bx b 6 (by omega) (by omega) (by decide) (by decide)]
              refine bw_istore (ls2 := [_, _, _, _, _, _, _, _]) rfl rfl (Nat.le_of_ble_eq_true rfl) rfl ?_
              refine bw_aload rfl rfl ?_
              refine bw_aload rfl rfl ?_
              refine bw_getr rfl rfl ((hR _ _).trans hr) ?_
              refine bw_getr rfl rfl (hR _ _) ?_
              refine bw_iload rfl rfl ?_
              refine bw_aldr rfl (by first | rfl | assumption) (by decide) (by omega) (by omega) ((hR _ _).trans (rr_row (fun _ => rfl) (by omega) (by omega) (by omega))) ?_
              refine bw_aload rfl rfl ?_
              refine bw_getr rfl rfl ((hR _ _).trans hr) ?_
              refine bw_getr rfl rfl (hR _ _) ?_
              refine bw_iload rfl rfl ?_
              refine bw_aldr rfl (by first | rfl | assumption) (by decide) (by omega) (by omega) ((hR _ _).trans (rr_row (fun _ => rfl) (by omega) (by omega) (by omega))) ?_
              refine bw_iload rfl rfl ?_
              refine bw_aldi rfl (kfa (b := 477) (n := 6) (v := (20, 96)) (by decide) (by decide) ⟨by omega, by omega⟩) (by omega) (by omega) ?_
              rw [show gI N (477 + l.toNat) f = mv S l f 0 from hS.rt l f (by omega) (by omega) (by omega) (by omega)]
              refine bw_aload rfl rfl ?_
              refine bw_getr rfl rfl ((hR _ _).trans hr) ?_
              refine bw_getr rfl rfl (hR _ _) ?_
              refine bw_iload rfl rfl ?_
              refine bw_aldr rfl (by first | rfl | assumption) (by decide) (by omega) (by omega) ((hR _ _).trans (rr_row (fun _ => rfl) (by omega) (by omega) (by omega))) ?_
              refine bw_iload rfl rfl ?_
              refine bw_aldi rfl (kfa (b := 484) (n := 6) (v := (20, 96)) (by decide) (by decide) ⟨by omega, by omega⟩) (by omega) (by omega) ?_
              rw [show gI N (484 + l.toNat) f = mv S l f 1 from hS.dn l f (by omega) (by omega) (by omega) (by omega)]
              refine bw_iload rfl rfl ?_
              refine bw_callVv (e := d - 1) (as := [_, _, _, _]) rfl (by omega) rfl rfl (Nat.le_of_ble_eq_true rfl) (Nat.le_of_ble_eq_true rfl) rfl (c_paintBox (X := S (54 + 7 * b + 2)) (Y := S (54 + 7 * b + 3)) (W := S (54 + 7 * b + 4)) (H := S (54 + 7 * b + 5)) (P := dwF S l dr (mv S l f 0) (mv S l f 1) w P b.toNat) hR (kfa (b := 498) (n := 40) (v := (20, 7)) (by decide) (by decide) ⟨by omega, by omega⟩) (hS.bx b 2 (by omega) (by omega) (by decide) (by decide)) (hS.bx b 3 (by omega) (by omega) (by decide) (by decide)) (hS.bx b 4 (by omega) (by omega) (by decide) (by decide)) (hS.bx b 5 (by omega) (by omega) (by decide) (by decide)) (by omega) (by omega) (by omega) (by omega) g2 (by omega)) (fun M90 hM90 => ?_)
              obtain ⟨u90, v90⟩ := hM90
              have hR := u90.RF hR
              have hS := SR_sc hS u90 (fun c c0 c1 => by omega)
              have hpn := dw_paint (by omega) hB (by omega) (by first | rw [if_pos (by omega)] | rw [if_neg (by omega)]) v90
              refine bw_aload rfl rfl ?_
              refine bw_getr rfl rfl ((hR _ _).trans hr) ?_
              refine bw_getr rfl rfl (hR _ _) ?_
              refine bw_iload rfl rfl ?_
              refine bw_aldi rfl (by first | rfl | assumption) (by omega) (by omega) ?_
              have hn := hS.nb b (by omega) (by omega)
              obtain ⟨b2, eb⟩ : ∃ b2, b2 = gI M90 545 b := ⟨_, rfl⟩
              rw [← eb] at hn ⊢
              rw [hB.1, hB.2] at hn
              refine bw_istore (ls2 := [_, _, _, _, _, _, _, _]) rfl rfl (Nat.le_of_ble_eq_true rfl) rfl ?_
              refine bw_iinc (ls2 := [_, _, _, _, _, _, _, _]) rfl rfl rfl ⟨by omega, by omega⟩ rfl ?_
              refine bw_goto rfl ?_
              refine bw_forget (ls2 := [some (vr (some 203)), some (vi l), some (vi f), some (vi dr), some (vi w), some (vi _), some (vi _), none]) ⟨rfl, rfl, rfl, rfl, rfl, rfl, rfl, trivial⟩ ?_
              refine ih _ _ _ (g1.trans u90) (by rw [← nx_skip (by omega) (by omega) hn]; exact hpn) (by rcases hn with h | h <;> omega) ?_ (by omega)
              rcases hn with h | h
              · exact Or.inl h.1
              · exact Or.inr ⟨by omega, h.2.1, trivial⟩
            · skip
              refine bw_iload rfl rfl ?_
              refine bw_push rfl ?_
              refine bw_iadd rfl ⟨by omega, by omega⟩ ?_
              refine bw_goto rfl ?_
              refine bw_istore (ls2 := [_, _, _, _, _, _, _, _]) rfl rfl (Nat.le_of_ble_eq_true rfl) rfl ?_
              refine bw_aload rfl rfl ?_
              refine bw_aload rfl rfl ?_
              refine bw_getr rfl rfl ((hR _ _).trans hr) ?_
              refine bw_getr rfl rfl (hR _ _) ?_
              refine bw_iload rfl rfl ?_
              refine bw_aldr rfl (by first | rfl | assumption) (by decide) (by omega) (by omega) ((hR _ _).trans (rr_row (fun _ => rfl) (by omega) (by omega) (by omega))) ?_
              refine bw_aload rfl rfl ?_
              refine bw_getr rfl rfl ((hR _ _).trans hr) ?_
              refine bw_getr rfl rfl (hR _ _) ?_
              refine bw_iload rfl rfl ?_
              refine bw_aldr rfl (by first | rfl | assumption) (by decide) (by omega) (by omega) ((hR _ _).trans (rr_row (fun _ => rfl) (by omega) (by omega) (by omega))) ?_
              refine bw_iload rfl rfl ?_
              refine bw_aldi rfl (kfa (b := 477) (n := 6) (v := (20, 96)) (by decide) (by decide) ⟨by omega, by omega⟩) (by omega) (by omega) ?_
              rw [show gI N (477 + l.toNat) f = mv S l f 0 from hS.rt l f (by omega) (by omega) (by omega) (by omega)]
              refine bw_aload rfl rfl ?_
              refine bw_getr rfl rfl ((hR _ _).trans hr) ?_
              refine bw_getr rfl rfl (hR _ _) ?_
              refine bw_iload rfl rfl ?_
              refine bw_aldr rfl (by first | rfl | assumption) (by decide) (by omega) (by omega) ((hR _ _).trans (rr_row (fun _ => rfl) (by omega) (by omega) (by omega))) ?_
              refine bw_iload rfl rfl ?_
              refine bw_aldi rfl (kfa (b := 484) (n := 6) (v := (20, 96)) (by decide) (by decide) ⟨by omega, by omega⟩) (by omega) (by omega) ?_
              rw [show gI N (484 + l.toNat) f = mv S l f 1 from hS.dn l f (by omega) (by omega) (by omega) (by omega)]
              refine bw_iload rfl rfl ?_
              refine bw_callVv (e := d - 1) (as := [_, _, _, _]) rfl (by omega) rfl rfl (Nat.le_of_ble_eq_true rfl) (Nat.le_of_ble_eq_true rfl) rfl (c_paintBox (X := S (54 + 7 * b + 2)) (Y := S (54 + 7 * b + 3)) (W := S (54 + 7 * b + 4)) (H := S (54 + 7 * b + 5)) (P := dwF S l dr (mv S l f 0) (mv S l f 1) w P b.toNat) hR (kfa (b := 498) (n := 40) (v := (20, 7)) (by decide) (by decide) ⟨by omega, by omega⟩) (hS.bx b 2 (by omega) (by omega) (by decide) (by decide)) (hS.bx b 3 (by omega) (by omega) (by decide) (by decide)) (hS.bx b 4 (by omega) (by omega) (by decide) (by decide)) (hS.bx b 5 (by omega) (by omega) (by decide) (by decide)) (by omega) (by omega) (by omega) (by omega) g2 (by omega)) (fun M90 hM90 => ?_)
              obtain ⟨u90, v90⟩ := hM90
              have hR := u90.RF hR
              have hS := SR_sc hS u90 (fun c c0 c1 => by omega)
              have hpn := dw_paint (by omega) hB (by omega) (by first | rw [if_pos (by omega)] | rw [if_neg (by omega)]) v90
              refine bw_aload rfl rfl ?_
              refine bw_getr rfl rfl ((hR _ _).trans hr) ?_
              refine bw_getr rfl rfl (hR _ _) ?_
              refine bw_iload rfl rfl ?_
              refine bw_aldi rfl (by first | rfl | assumption) (by omega) (by omega) ?_
              have hn := hS.nb b (by omega) (by omega)
              obtain ⟨b2, eb⟩ : ∃ b2, b2 = gI M90 545 b := ⟨_, rfl⟩
              rw [← eb] at hn ⊢
              rw [hB.1, hB.2] at hn
              refine bw_istore (ls2 := [_, _, _, _, _, _, _, _]) rfl rfl (Nat.le_of_ble_eq_true rfl) rfl ?_
              refine bw_iinc (ls2 := [_, _, _, _, _, _, _, _]) rfl rfl rfl ⟨by omega, by omega⟩ rfl ?_
              refine bw_goto rfl ?_
              refine bw_forget (ls2 := [some (vr (some 203)), some (vi l), some (vi f), some (vi dr), some (vi w), some (vi _), some (vi _), none]) ⟨rfl, rfl, rfl, rfl, rfl, rfl, rfl, trivial⟩ ?_
              refine ih _ _ _ (g1.trans u90) (by rw [← nx_skip (by omega) (by omega) hn]; exact hpn) (by rcases hn with h | h <;> omega) ?_ (by omega)
              rcases hn with h | h
              · exact Or.inl h.1
              · exact Or.inr ⟨by omega, h.2.1, trivial⟩
    show abW d (0, 0) 8 0 [some (vr (some 203)), some (vi l), some (vi f), some (vi dr), some (vi w), none, none, none] [] (0, 0) (A0 L) M (qV (A0 L) (fun N => sc pPa M N ∧ PAP (gL N 204) (dwF S l dr (mv S l f 0) (mv S l f 1) w P (S 2).toNat)))
    refine bw_aload rfl rfl ?_
    refine bw_getr rfl rfl ((hR _ _).trans hr) ?_
    refine bw_getr rfl rfl (hR _ _) ?_
    refine bw_iload rfl rfl ?_
    refine bw_aldr rfl (by first | rfl | assumption) (by decide) (by omega) (by omega) ((hR _ _).trans (rr_row (fun _ => rfl) (by omega) (by omega) (by omega))) ?_
    refine bw_iload rfl rfl ?_
    refine bw_aldi rfl (kfa (b := 539) (n := 6) (v := (20, 100)) (by decide) (by decide) ⟨by omega, by omega⟩) (by omega) (by omega) ?_
    have hf := hS.fb l dr (by omega) (by omega) (by omega) (by omega)
    obtain ⟨b0, eb⟩ : ∃ b0, b0 = gI M (539 + l.toNat) dr := ⟨_, rfl⟩
    rw [← eb] at hf ⊢
    refine bw_istore (ls2 := [_, _, _, _, _, _, _, _]) rfl rfl (Nat.le_of_ble_eq_true rfl) rfl ?_
    refine bw_push rfl ?_
    refine bw_istore (ls2 := [_, _, _, _, _, _, _, _]) rfl rfl (Nat.le_of_ble_eq_true rfl) rfl ?_
    have e0 := nx_skip (u := mv S l f 0) (v := mv S l f 1) (w := w) (P := P) (by decide) (by omega) hf
    have hb0 : -1 ≤ b0 ∧ b0 < S 2 := by rcases hf with h | h <;> omega
    have hc0 : b0 = -1 ∨ (0 ≤ b0 ∧ b0 < S 2) ∧ (S (54 + 7 * b0) = l ∧ S (54 + 7 * b0 + 1) = dr) ∧ True := by
      rcases hf with h | h
      · exact Or.inl h.1
      · exact Or.inr ⟨by omega, h.2.1, trivial⟩
    exact L16 42 M b0 0 (sc_refl _ _) (by rw [← e0]; exact PAP_congr hP (fun k k0 k1 => rfl)) (by omega) hc0 (by omega)
set_option maxRecDepth 20000 in
set_option maxHeartbeats 4000000 in
theorem c_valueAt {d L : Nat} {M : abMem} {r : abRf} (hR : RF r M) {P : Int → Int} (hP : PAP (gL M 204) P) {X Y : Int} (hx : 0 ≤ X ∧ X < 12) (hy : 0 ≤ Y ∧ Y < 8) : abW d (0, 0) 10 0 (abEnt (abL 10) [vr (some 203), vi X, vi Y]) [] (0, 0) (A0 L) M (qE (some (vi (P (12 * Y + X)))) (A0 L) M) := by
  show abW d (0, 0) 10 0 [some (vr (some 203)), some (vi X), some (vi Y)] [] (0, 0) (A0 L) M (qE (some (vi (P (12 * Y + X)))) (A0 L) M)
  refine bw_aload rfl rfl ?_
  refine bw_getr rfl rfl (hR _ _) ?_
  refine bw_iload rfl rfl ?_
  refine bw_aldl rfl (by first | rfl | assumption) (by omega) (by omega) ?_
  refine bw_iload rfl rfl ?_
  refine bw_push rfl ?_
  refine bw_imul rfl ⟨by omega, by omega⟩ ?_
  refine bw_lushr rfl ?_
  refine bw_lldc rfl ?_
  refine bw_land rfl ?_
  refine bw_l2i rfl ?_
  refine bw_ret rfl rfl ?_
  refine ⟨congrArg (fun x => some (vi x)) ?_, rfl, rfl⟩
  rw [val_at hx, (hP Y hy.1 hy.2).2 X.toNat (by omega), Int.toNat_of_nonneg hx.1]
theorem cN_z (f : Int → Bool) {k : Int} (h0 : 0 ≤ k) : 0 ≤ cN f k.toNat ∧ cN f k.toNat ≤ k := by
  have := cN_in f k.toNat
  omega
set_option maxRecDepth 20000 in
set_option maxHeartbeats 4000000 in
theorem c_placesWith {d L : Nat} {M : abMem} {r : abRf} (hR : RF r M) {P : Int → Int} (hP : PAP (gL M 204) P) {c : Int} (hd : 1 ≤ d) : abW d (0, 0) 11 0 (abEnt (abL 11) [vr (some 203), vi c]) [] (0, 0) (A0 L) M (qE (some (vi (cN (fun k => decide (P k = c)) 96))) (A0 L) M) := by
  have L4 : ∀ (kf : Nat) (t y : Int), (t = cN (fun k => decide (P k = c)) (12 * y).toNat) → (0 ≤ y ∧ y ≤ 8) → ((8 - y).toNat) < kf → abW d (0, 0) 11 4 [some (vr (some 203)), some (vi c), some (vi t), some (vi y), none] [] (0, 0) (A0 L) (M) (qE (some (vi (cN (fun k => decide (P k = c)) 96))) (A0 L) M) := by
    intro kf
    induction kf with
    | zero => intro t y  g1 g2 hm9; exact absurd hm9 (Nat.not_lt_zero _)
    | succ kf ih4 =>
      intro t y  g1 g2 hm4
      have ih := ih4
      have L13 : ∀ (kf : Nat) (t x : Int), (t = cN (fun k => decide (P k = c)) (12 * y + x).toNat) → ((0 ≤ x ∧ x ≤ 12) ∧ 0 ≤ y ∧ y < 8) → ((12 - x).toNat) < kf → abW d (0, 0) 11 13 [some (vr (some 203)), some (vi c), some (vi t), some (vi y), some (vi x)] [] (0, 0) (A0 L) (M) (qE (some (vi (cN (fun k => decide (P k = c)) 96))) (A0 L) M) := by
        intro kf
        induction kf with
        | zero => intro t x  k1 k2 hm9; exact absurd hm9 (Nat.not_lt_zero _)
        | succ kf ih13 =>
          intro t x  k1 k2 hm13
          have ih := ih13
          have b9 := cN_z (fun k => decide (P k = c)) (k := 12 * y + x) (by omega)
          refine bw_iload rfl rfl ?_
          refine bw_push rfl ?_
          refine bw_icge rfl (fun c17 => ?_) (fun c17 => ?_)
          · skip
            refine bw_iinc (ls2 := [_, _, _, _, _]) rfl rfl rfl ⟨by omega, by omega⟩ rfl ?_
            refine bw_goto rfl ?_
            obtain rfl : x = 12 := by omega
            refine bw_forget (ls2 := [some (vr (some 203)), some (vi c), some (vi _), some (vi _), none]) ⟨rfl, rfl, rfl, rfl, trivial⟩ ?_
            exact ih4 _ _ (by rw [show 12 * (y + 1) = 12 * y + 12 by omega]; exact k1) (by omega) (by omega)
          · skip
            refine bw_aload rfl rfl ?_
            refine bw_iload rfl rfl ?_
            refine bw_iload rfl rfl ?_
            refine bw_callVe (e := d - 1) (as := [_, _]) rfl (by omega) rfl rfl (Nat.le_of_ble_eq_true rfl) (Nat.le_of_ble_eq_true rfl) rfl (c_valueAt hR (by assumption) (by omega) (by omega)) ?_
            refine bw_iload rfl rfl ?_
            refine bw_icne rfl (fun c28 => ?_) (fun c28 => ?_)
            · skip
              refine bw_iinc (ls2 := [_, _, _, _, _]) rfl rfl rfl ⟨by omega, by omega⟩ rfl ?_
              refine bw_goto rfl ?_
              first
              | exact ih _ _ (by rw [← Int.add_assoc]; exact cN_t (by omega) k1 (decide_eq_true (by omega))) (by omega) (by omega)
              | exact ih _ _ (by rw [← Int.add_assoc]; exact cN_f (by omega) k1 (decide_eq_false (by omega))) (by omega) (by omega)
            · skip
              refine bw_iinc (ls2 := [_, _, _, _, _]) rfl rfl rfl ⟨by omega, by omega⟩ rfl ?_
              refine bw_iinc (ls2 := [_, _, _, _, _]) rfl rfl rfl ⟨by omega, by omega⟩ rfl ?_
              refine bw_goto rfl ?_
              first
              | exact ih _ _ (by rw [← Int.add_assoc]; exact cN_t (by omega) k1 (decide_eq_true (by omega))) (by omega) (by omega)
              | exact ih _ _ (by rw [← Int.add_assoc]; exact cN_f (by omega) k1 (decide_eq_false (by omega))) (by omega) (by omega)
      refine bw_iload rfl rfl ?_
      refine bw_push rfl ?_
      refine bw_icge rfl (fun c7 => ?_) (fun c7 => ?_)
      · skip
        refine bw_iload rfl rfl ?_
        refine bw_ret rfl rfl ?_
        obtain rfl : y = 8 := by omega
        exact ⟨by rw [g1]; rfl, rfl, rfl⟩
      · skip
        refine bw_push rfl ?_
        refine bw_istore (ls2 := [_, _, _, _, _]) rfl rfl (Nat.le_of_ble_eq_true rfl) rfl ?_
        exact L13 13 t 0 (by rw [Int.add_zero]; exact g1) (by omega) (by omega)
  show abW d (0, 0) 11 0 [some (vr (some 203)), some (vi c), none, none, none] [] (0, 0) (A0 L) M (qE (some (vi (cN (fun k => decide (P k = c)) 96))) (A0 L) M)
  refine bw_push rfl ?_
  refine bw_istore (ls2 := [_, _, _, _, _]) rfl rfl (Nat.le_of_ble_eq_true rfl) rfl ?_
  refine bw_push rfl ?_
  refine bw_istore (ls2 := [_, _, _, _, _]) rfl rfl (Nat.le_of_ble_eq_true rfl) rfl ?_
  exact L4 9 0 0 rfl (by omega) (by omega)
