theorem rT_c {b : Bool} {x y z u v : Option Nat} {a k : Nat} (h : a ≠ 203) : rT (b, (x, (y, z))) a k = rT (b, (x, (u, v))) a k := by
  unfold rT
  cases e0 : Nat.blt a 291
  · rfl
  · skip
    cases e1 : Nat.blt a 145
    · skip
      cases e2 : Nat.blt a 218
      · rfl
      · skip
        cases e3 : Nat.blt a 181
        · skip
          cases e4 : Nat.blt a 199
          · skip
            cases e5 : Nat.blt a 208
            · rfl
            · skip
              cases e6 : Nat.blt a 203
              · skip
                cases e7 : Nat.blt a 205
                · rfl
                · skip
                  cases e8 : Nat.blt a 204
                  · rfl
                  · skip
                    exact absurd (by have f0 := Nat.blt_eq.mp e0; have f1 : ¬ a < 145 := (fun q => (by rw [Nat.blt_eq.mpr q] at e1; cases e1)); have f2 := Nat.blt_eq.mp e2; have f3 : ¬ a < 181 := (fun q => (by rw [Nat.blt_eq.mpr q] at e3; cases e3)); have f4 : ¬ a < 199 := (fun q => (by rw [Nat.blt_eq.mpr q] at e4; cases e4)); have f5 := Nat.blt_eq.mp e5; have f6 : ¬ a < 203 := (fun q => (by rw [Nat.blt_eq.mpr q] at e6; cases e6)); have f7 := Nat.blt_eq.mp e7; have f8 := Nat.blt_eq.mp e8; omega) h
              · rfl
          · rfl
        · rfl
    · rfl
theorem rr_c {b : Bool} {x y z u v : Option Nat} {a : Nat} {j : Int} (h : a ≠ 203) : rr (b, (x, (y, z))) a j = rr (b, (x, (u, v))) a j := by
  unfold rr
  match j with
  | .ofNat k =>
    show (bif Nat.blt a 582 then rT (b, (x, (y, z))) a k else none) = (bif Nat.blt a 582 then rT (b, (x, (u, v))) a k else none)
    rw [show rT (b, (x, (y, z))) a k = rT (b, (x, (u, v))) a k from rT_c h]
  | .negSucc _ => rfl
theorem rr_c5 {b : Bool} {x y z u v : Option Nat} {j : Int} (h5 : j ≠ 5) (h6 : j ≠ 6) : rr (b, (x, (y, z))) 203 j = rr (b, (x, (u, v))) 203 j := by
  match j, h5, h6 with
  | .ofNat 0, _, _ => rfl
  | .ofNat 1, _, _ => rfl
  | .ofNat 2, _, _ => rfl
  | .ofNat 3, _, _ => rfl
  | .ofNat 4, _, _ => rfl
  | .ofNat 5, h, _ => exact absurd rfl h
  | .ofNat 6, _, h => exact absurd rfl h
  | .ofNat (k + 7), _, _ => rfl
  | .negSucc _, _, _ => rfl
theorem RF_c {r : abRf} {M : abMem} (hR : RF r M) (x y : Option Nat) : RF (r.1, (r.2.1, (x, y))) (sR (sR M 203 5 x) 203 6 y) := by
  intro a j
  by_cases h : a = 203
  · rw [h]
    show (if (203 : Nat) = 203 then up (gR (sR M 203 5 x) 203) 6 y else gR (sR M 203 5 x) 203) j = _
    rw [if_pos rfl]
    by_cases q : j = 6
    · rw [q, up_eq rfl]; rfl
    · rw [up_ne q]
      show (if (203 : Nat) = 203 then up (gR M 203) 5 x else gR M 203) j = _
      rw [if_pos rfl]
      by_cases q5 : j = 5
      · rw [q5, up_eq rfl]; rfl
      · rw [up_ne q5, rr_c5 (u := r.2.2.1) (v := r.2.2.2) q5 q]; exact hR 203 j
  · rw [rr_c (u := r.2.2.1) (v := r.2.2.2) h]
    show (if a = 203 then up (gR (sR M 203 5 x) 203) 6 y else gR (sR M 203 5 x) a) j = _
    rw [if_neg h]
    show (if a = 203 then up (gR M 203) 5 x else gR M a) j = _
    rw [if_neg h]
    exact hR a j
/-- the references when the camera is turned to scene s and the sheet -/
abbrev cmR (r : abRf) (s : Nat) : abRf := (r.1, (r.2.1, (some s, some 10)))
/-- ints and longs but for the cells with p -/
def sx (p : Nat → Prop) (M N : abMem) : Prop := ∀ a : Nat, ¬ p a → gI N a = gI M a ∧ gL N a = gL M a
theorem sx.trans {p : Nat → Prop} {M N K : abMem} (h : sx p M N) (k : sx p N K) : sx p M K := fun a ha => ⟨(k a ha).1.trans (h a ha).1, (k a ha).2.trans (h a ha).2⟩
theorem sx.mono {p q : Nat → Prop} {M N : abMem} (h : sx p M N) (hq : ∀ a, p a → q a) : sx q M N := fun a ha => h a (fun hp => ha (hq a hp))
theorem sc.sx {p : Nat → Prop} {M N : abMem} (h : sc p M N) : sx p M N := h.2
theorem sx.at {p : Nat → Prop} {M N : abMem} (h : sx p M N) (a : Nat) (hp : ¬ p a) : gI N a = gI M a := (h a hp).1
theorem sx.atL {p : Nat → Prop} {M N : abMem} (h : sx p M N) (a : Nat) (hp : ¬ p a) : gL N a = gL M a := (h a hp).2
theorem sx_refl (p : Nat → Prop) (M : abMem) : sx p M M := fun _ _ => ⟨rfl, rfl⟩
theorem SR_sx {p : Nat → Prop} {M N : abMem} {s : Nat} {S : Int → Int} (h : SR M s S) (g : sx p M N) (hp : ∀ c : Nat, s ≤ c → c < s + 87 → ¬ p c) : SR N s S := SR_sm h (M := M) (N := (N.1, M.2)) (p := p) ⟨rfl, fun a ha => g.at a ha⟩ hp
abbrev pAi (a : Nat) : Prop := a = 203 ∨ a = 205 ∨ a = 206 ∨ a = 217
theorem sx_sR {p : Nat → Prop} {M : abMem} {a : Nat} {j : Int} {x : Option Nat} : sx p M (sR M a j x) := fun b _ => ⟨rfl, rfl⟩
theorem sx.sI {p : Nat → Prop} {M N : abMem} (h : sx p M N) {a : Nat} (j x : Int) (ha : p a) : sx p M (sI N a j x) := h.trans ((sm_refl p N).sI j x ha).sc.sx
theorem sx.wI {p : Nat → Prop} {M N : abMem} (h : sx p M N) {a : Nat} (f : Int → Int) (ha : p a) : sx p M (wI N a f) := h.trans ((sm_refl p N).wI f ha).sc.sx
/-- the camera is turned to a scene, layer t is tried -/
def amD (M : abMem) (r : abRf) (s : Nat) (t : Int) (N : abMem) : Prop := RF (cmR r s) N ∧ sx pAi M N ∧ (∀ j : Int, j ≠ 7 → gI N 203 j = gI M 203 j) ∧ gI N 203 7 = t ∧ (t ≠ -1 → gI N 205 3 = 0 ∧ (∀ j : Int, 0 ≤ j → j < 512 → gI N 206 j = -1) ∧ (∀ j : Int, 0 ≤ j → j < 3936 → gI N 217 j = -1))
set_option maxRecDepth 20000 in
set_option maxHeartbeats 4000000 in
theorem c_aclear {d L : Nat} {M : abMem} {r : abRf} (hR : RF r M) (hd : 1 ≤ d) : abW d (0, 0) 1 0 (abEnt (abL 1) [vr (some 205)]) [] (0, 0) (A0 L) M (qE none (A0 L) (wI (sI M 205 3 0) 206 (flF (gI M 206) 512 (-1)))) := by
  show abW d (0, 0) 1 0 [some (vr (some 205))] [] (0, 0) (A0 L) M (qE none (A0 L) (wI (sI M 205 3 0) 206 (flF (gI M 206) 512 (-1))))
  refine bw_aload rfl rfl ?_
  refine bw_push rfl ?_
  refine bw_putI rfl rfl ?_
  refine bw_aload rfl rfl ?_
  refine bw_getr rfl rfl (hR _ _) ?_
  refine bw_push rfl ?_
  refine bw_callSn (e := d - 1) (as := [_, _]) rfl (by omega) rfl rfl (Nat.le_of_ble_eq_true rfl) (Nat.le_of_ble_eq_true rfl) (j_fill (M := sI M 205 3 0) hR rfl (by omega)) ?_
  refine bw_retv rfl rfl ?_
  exact ⟨rfl, rfl, by rw [gI_sI_ne (by decide)]⟩
set_option maxRecDepth 20000 in
set_option maxHeartbeats 4000000 in
theorem c_aim {d L : Nat} {M : abMem} {r : abRf} (hR : RF r M) {s : Nat} {t : Int} (hd : 2 ≤ d) : abW d (0, 0) 6 0 (abEnt (abL 6) [vr (some 203), vr (some s), vr (some 10), vi t]) [] (0, 0) (A0 L) M (qV (A0 L) (fun N => amD M r s t N)) := by
  show abW d (0, 0) 6 0 [some (vr (some 203)), some (vr (some s)), some (vr (some 10)), some (vi t)] [] (0, 0) (A0 L) M (qV (A0 L) (fun N => amD M r s t N))
  refine bw_aload rfl rfl ?_
  refine bw_aload rfl rfl ?_
  refine bw_putR rfl rfl ?_
  refine bw_aload rfl rfl ?_
  refine bw_aload rfl rfl ?_
  refine bw_putR rfl rfl ?_
  have hR := RF_c hR (some s) (some 10)
  have hx : sx pAi M (sR (sR M 203 5 (some s)) 203 6 (some 10)) := fun b _ => ⟨rfl, rfl⟩
  obtain ⟨G, hG⟩ : ∃ G, G = sR (sR M 203 5 (some s)) 203 6 (some 10) := ⟨_, rfl⟩
  have h3 : gI G 203 = gI M 203 := by rw [hG]; rfl
  rw [← hG] at hR hx ⊢
  refine bw_aload rfl rfl ?_
  refine bw_iload rfl rfl ?_
  refine bw_putI rfl rfl ?_
  refine bw_aload rfl rfl ?_
  refine bw_getI rfl rfl ?_
  rw [gI_sI_eq]
  refine bw_push rfl ?_
  refine bw_iceq rfl (fun c20 => ?_) (fun c20 => ?_)
  · skip
    refine bw_retv rfl rfl ?_
    first
    | exact ⟨rfl, rfl, hR, hx.sI _ _ (Or.inl rfl), fun j hj => by rw [gI_sI_nj hj, h3], gI_sI_eq, fun h => absurd (by omega) h⟩
    | (refine ⟨rfl, rfl, hR, (((hx.sI _ _ (Or.inl rfl)).sI _ _ (Or.inr (Or.inl rfl))).wI _ (Or.inr (Or.inr (Or.inl rfl)))).wI _ (Or.inr (Or.inr (Or.inr rfl))), fun j hj => ?_, ?_, fun _ => ⟨?_, fun j j0 j1 => ?_, fun j j0 j1 => ?_⟩⟩
       · rw [gI_wI_ne (by decide), gI_wI_ne (by decide), gI_sI_ne (by decide), gI_sI_nj hj, h3]
       · rw [gI_wI_ne (by decide), gI_wI_ne (by decide), gI_sI_ne (by decide), gI_sI_eq]
       · rw [gI_wI_ne (by decide), gI_wI_ne (by decide), gI_sI_eq]
       · rw [gI_wI_ne (by decide), gI_wI_eq]; exact if_pos ⟨j0, j1⟩
       · rw [gI_wI_eq]; exact if_pos ⟨j0, j1⟩)
  · skip
    refine bw_aload rfl rfl ?_
    refine bw_getr rfl rfl (hR _ _) ?_
    refine bw_callVNn (e := d - 1) (as := []) rfl (by omega) rfl rfl (Nat.le_of_ble_eq_true rfl) (Nat.le_of_ble_eq_true rfl) rfl (c_aclear (M := sI G 203 7 t) hR (by omega)) ?_
    refine bw_aload rfl rfl ?_
    refine bw_getr rfl rfl (hR _ _) ?_
    refine bw_push rfl ?_
    refine bw_callSn (e := d - 1) (as := [_, _]) rfl (by omega) rfl rfl (Nat.le_of_ble_eq_true rfl) (Nat.le_of_ble_eq_true rfl) (j_fill (M := _) (by exact hR) rfl (by omega)) ?_
    refine bw_retv rfl rfl ?_
    first
    | exact ⟨rfl, rfl, hR, hx.sI _ _ (Or.inl rfl), fun j hj => by rw [gI_sI_nj hj, h3], gI_sI_eq, fun h => absurd (by omega) h⟩
    | (refine ⟨rfl, rfl, hR, (((hx.sI _ _ (Or.inl rfl)).sI _ _ (Or.inr (Or.inl rfl))).wI _ (Or.inr (Or.inr (Or.inl rfl)))).wI _ (Or.inr (Or.inr (Or.inr rfl))), fun j hj => ?_, ?_, fun _ => ⟨?_, fun j j0 j1 => ?_, fun j j0 j1 => ?_⟩⟩
       · rw [gI_wI_ne (by decide), gI_wI_ne (by decide), gI_sI_ne (by decide), gI_sI_nj hj, h3]
       · rw [gI_wI_ne (by decide), gI_wI_ne (by decide), gI_sI_ne (by decide), gI_sI_eq]
       · rw [gI_wI_ne (by decide), gI_wI_ne (by decide), gI_sI_eq]
       · rw [gI_wI_ne (by decide), gI_wI_eq]; exact if_pos ⟨j0, j1⟩
       · rw [gI_wI_eq]; exact if_pos ⟨j0, j1⟩)
theorem ink_0 {S : Int → Int} (hS : SW S) {l x y : Int} : ink S l 0 x y = 0 := by
  have h : ∀ n : Nat, (n : Int) ≤ S 2 → inkN S l 0 x y n = 0 := by
    intro n
    induction n with
    | zero => intro _; rfl
    | succ n ih =>
      intro hn
      have q := hS.bx n (by omega) (by omega)
      show (if bxH S l 0 x y n then S (54 + 7 * (n : Int) + 6) else inkN S l 0 x y n) = 0
      rw [if_neg (fun z => by have := (of_decide_eq_true z).1.2; omega)]
      exact ih (by omega)
  exact h _ (by have := hS.bo; omega)
/-- the paper of frame f, the lowest n of the stack painted: by layers (w = 1) or by inks -/
noncomputable def cmF (S st : Int → Int) (R : Int → Int → Int) (f w : Int) (n : Nat) : Int → Int := fun k => if w = 1 then (cB S st R f k n).2 + 1 else (cB S st R f k n).1
theorem cm_hid {S st : Int → Int} {R : Int → Int → Int} {f w p : Int} {g : Int → Int64} (hp : 0 ≤ p) (hh : hid S (st p) f) (h : PAP g (cmF S st R f w p.toNat)) : PAP g (cmF S st R f w (p + 1).toNat) := PAP_congr h (fun k k0 k1 => by
  unfold cmF
  rw [cB_s hp, lyI_0 (Or.inr hh), if_neg (show ¬ (0 : Int) < 0 by decide)])
theorem cm_paint {S st : Int → Int} {R : Int → Int → Int} {f w p l dr : Int} {g : Int → Int64} (hS : SW S) (hp : 0 ≤ p) (hl : st p = l) (hdr : R l f = dr) (hh : ¬ hid S l f) (hw : w = 0 ∨ w = 1) (h : PAP g (dwF S l dr (mv S l f 0) (mv S l f 1) w (cmF S st R f w p.toNat) (S 2).toNat)) : PAP g (cmF S st R f w (p + 1).toNat) := PAP_congr h (fun k k0 k1 => by
  have e : lyI S dr l f k = ink S l dr (k % 12 - mv S l f 0) (k / 12 - mv S l f 1) := by
    by_cases q : dr = 0
    · rw [lyI_0 (Or.inl q), q, ink_0 hS]
    · rw [lyI_1 (fun z => z.elim q hh)]
  unfold cmF dwF
  rw [cB_s hp, hl, hdr, e]
  show (if 0 < ink S l dr (k % 12 - mv S l f 0) (k / 12 - mv S l f 1) then (if w = 1 then l + 1 else ink S l dr (k % 12 - mv S l f 0) (k / 12 - mv S l f 1)) else if w = 1 then (cB S st R f k p.toNat).2 + 1 else (cB S st R f k p.toNat).1) = _
  by_cases q : 0 < ink S l dr (k % 12 - mv S l f 0) (k / 12 - mv S l f 1)
  · rw [if_pos q, if_pos q]
  · rw [if_neg q, if_neg q])
theorem cB_congr {S st st' : Int → Int} {R R' : Int → Int → Int} {f : Int} : ∀ n : Nat, (∀ p : Int, 0 ≤ p → p < n → st p = st' p ∧ R (st p) f = R' (st p) f) → ∀ k : Int, cB S st R f k n = cB S st' R' f k n := by
  intro n
  induction n with
  | zero => intro _ k; rfl
  | succ n ih =>
    intro h k
    have e := h n (by omega) (by omega)
    show (if 0 < lyI S (R (st n) f) (st n) f k then (lyI S (R (st n) f) (st n) f k, st n) else cB S st R f k n) = (if 0 < lyI S (R' (st' n) f) (st' n) f k then (lyI S (R' (st' n) f) (st' n) f k, st' n) else cB S st' R' f k n)
    rw [← e.1, ← e.2, ih (fun p p0 p1 => h p p0 (by omega))]
/-- what the layers have, when layer t has drawing dr -/
def rwF (M : abMem) (t dr : Int) : Int → Int → Int := fun l f => if l = t then dr else gI M (12 + l.toNat) f
/-- the sheet's numbers keep to -/
abbrev shV (M : abMem) (S : Int → Int) : Prop := (∀ p : Int, 0 ≤ p → p < S 1 → 0 ≤ gI M 18 p ∧ gI M 18 p < S 1) ∧ (∀ l f : Int, 0 ≤ l → l < S 1 → 0 ≤ f → f < S 0 → 0 ≤ gI M (12 + l.toNat) f ∧ gI M (12 + l.toNat) f ≤ 99)
set_option maxRecDepth 20000 in
set_option maxHeartbeats 4000000 in
theorem c_compose {d L : Nat} {M : abMem} {r : abRf} (hR : RF r M) {s : Nat} (hs : s = 372 ∨ s = 459) {S : Int → Int} (hS : SR M s S) (hr : r.2.2.1 = some s) (hr2 : r.2.2.2 = some 10) (hV : shV M S) {t f dr w : Int} (ht : gI M 203 7 = t) (hf : 0 ≤ f ∧ f < S 0) (hdr : 0 ≤ dr ∧ dr ≤ 99) (hw : w = 0 ∨ w = 1) (hd : 3 ≤ d) : abW d (0, 0) 7 0 (abEnt (abL 7) [vr (some 203), vi f, vi dr, vi w]) [] (0, 0) (A0 L) M (qV (A0 L) (fun N => sc pPa M N ∧ PAP (gL N 204) (cmF S (gI M 18) (rwF M t dr) f w (S 1).toNat))) := by
  rcases hs with rfl | rfl
  · have w0 := hS.sw.fr
    have w1 := hS.sw.la
    have w2 := hS.sw.bo
    have w3 := hS.sw.sl
    have w4 := hS.sw.hi
    have w5 := hS.sw.st
    have L11 : ∀ (kf : Nat) (N : abMem) (p : Int), (sc pPa M N) → (PAP (gL N 204) (cmF S (gI M 18) (rwF M t dr) f w p.toNat)) → (0 ≤ p ∧ p ≤ S 1) → ((S 1 - p).toNat) < kf → abW d (0, 0) 7 11 [some (vr (some 203)), some (vi f), some (vi dr), some (vi w), some (vi p), none, none] [] (0, 0) (A0 L) (N) (qV (A0 L) (fun N => sc pPa M N ∧ PAP (gL N 204) (cmF S (gI M 18) (rwF M t dr) f w (S 1).toNat))) := by
      intro kf
      induction kf with
      | zero => intro N  p  g1 g2 g3 hm9; exact absurd hm9 (Nat.not_lt_zero _)
      | succ kf ih11 =>
        intro N  p  g1 g2 g3 hm11
        have ih := ih11
        have hR := g1.RF hR
        have hS := SR_sc hS g1 (fun c c0 c1 => by omega)
        refine bw_iload rfl rfl ?_
        refine bw_aload rfl rfl ?_
        refine bw_getr rfl rfl ((hR _ _).trans hr) ?_
        refine bw_getI rfl rfl ?_
        refine bw_icge rfl (fun c20 => ?_) (fun c20 => ?_)
        · skip
          refine bw_retv rfl rfl ?_
          obtain rfl : p = S 1 := by omega
          exact ⟨rfl, rfl, g1, g2⟩
        · skip
          refine bw_aload rfl rfl ?_
          refine bw_getr rfl rfl ((hR _ _).trans hr2) ?_
          refine bw_getr rfl rfl (hR _ _) ?_
          refine bw_iload rfl rfl ?_
          refine bw_aldi rfl (by first | rfl | assumption) (by omega) (by omega) ?_
          rw [g1.at 18 (by decide)]
          obtain ⟨l, el⟩ : ∃ l, l = gI M 18 p := ⟨_, rfl⟩
          have hl := hV.1 p (by omega) (by omega)
          rw [← el] at hl ⊢
          refine bw_istore (ls2 := [_, _, _, _, _, _, _]) rfl rfl (Nat.le_of_ble_eq_true rfl) rfl ?_
          refine bw_aload rfl rfl ?_
          refine bw_getr rfl rfl ((hR _ _).trans hr) ?_
          refine bw_getr rfl rfl (hR _ _) ?_
          refine bw_iload rfl rfl ?_
          refine bw_aldr rfl (by first | rfl | assumption) (by decide) (by omega) (by omega) ((hR _ _).trans (rr_row (fun _ => rfl) (by omega) (by omega) (by omega))) ?_
          refine bw_iload rfl rfl ?_
          refine bw_aldi rfl (kfa (b := 404) (n := 6) (v := (20, 96)) (by decide) (by decide) ⟨by omega, by omega⟩) (by omega) (by omega) ?_
          have hc := hS.cv l f (by omega) (by omega) (by omega) (by omega)
          obtain ⟨cv, ec⟩ : ∃ cv, cv = gI N (404 + l.toNat) f := ⟨_, rfl⟩
          rw [← ec] at hc ⊢
          refine bw_ifne rfl (fun c47 => ?_) (fun c47 => ?_)
          · skip
            refine bw_iinc (ls2 := [_, _, _, _, _, _, _]) rfl rfl rfl ⟨by omega, by omega⟩ rfl ?_
            refine bw_goto rfl ?_
            refine bw_forget (ls2 := [some (vr (some 203)), some (vi f), some (vi dr), some (vi w), some (vi _), none, none]) ⟨rfl, rfl, rfl, rfl, rfl, trivial⟩ ?_
            first
            | exact ih _ _ g1 (cm_hid (by omega) (by rw [← el]; exact hc.elim (fun h => h.1) (fun h => absurd h.2 (by assumption))) g2) (by omega) (by omega)
            | exact ih _ _ (g1.trans u84) (cm_paint hS.sw (by omega) el.symm (if_pos (by omega)) (hc.elim (fun h => by have := h.2; omega) (fun h => h.1)) hw v84) (by omega) (by omega)
            | exact ih _ _ (g1.trans u84) (cm_paint hS.sw (by omega) el.symm (if_neg (by omega)) (hc.elim (fun h => by have := h.2; omega) (fun h => h.1)) hw v84) (by omega) (by omega)
          · skip
            refine bw_iload rfl rfl ?_
            refine bw_aload rfl rfl ?_
            refine bw_getI rfl rfl ?_
            rw [g1.at 203 (by decide), ht]
            refine bw_icne rfl (fun c56 => ?_) (fun c56 => ?_)
            · skip
              refine bw_aload rfl rfl ?_
              refine bw_getr rfl rfl ((hR _ _).trans hr2) ?_
              refine bw_getr rfl rfl (hR _ _) ?_
              refine bw_iload rfl rfl ?_
              refine bw_aldr rfl (by first | rfl | assumption) (by decide) (by omega) (by omega) ((hR _ _).trans (rr_row (fun _ => rfl) (by omega) (by omega) (by omega))) ?_
              refine bw_iload rfl rfl ?_
              refine bw_aldi rfl (kfa (b := 12) (n := 6) (v := (20, 96)) (by decide) (by decide) ⟨by omega, by omega⟩) (by omega) (by omega) ?_
              rw [g1.at (12 + l.toNat) (fun z => by have z : 12 + l.toNat = 204 := z; omega)]
              have hv := hV.2 l f (by omega) (by omega) (by omega) (by omega)
              refine bw_istore (ls2 := [_, _, _, _, _, _, _]) rfl rfl (Nat.le_of_ble_eq_true rfl) rfl ?_
              refine bw_aload rfl rfl ?_
              refine bw_iload rfl rfl ?_
              refine bw_iload rfl rfl ?_
              refine bw_iload rfl rfl ?_
              refine bw_iload rfl rfl ?_
              refine bw_callVv (e := d - 1) (as := [_, _, _, _]) rfl (by omega) rfl rfl (Nat.le_of_ble_eq_true rfl) (Nat.le_of_ble_eq_true rfl) rfl (c_paintDrawing hR (by first | exact Or.inl rfl | exact Or.inr rfl) hS hr (by omega) (by omega) (by omega) (by omega) g2 (by omega)) (fun M84 hM84 => ?_)
              obtain ⟨u84, v84⟩ := hM84
              refine bw_iinc (ls2 := [_, _, _, _, _, _, _]) rfl rfl rfl ⟨by omega, by omega⟩ rfl ?_
              refine bw_goto rfl ?_
              refine bw_forget (ls2 := [some (vr (some 203)), some (vi f), some (vi dr), some (vi w), some (vi _), none, none]) ⟨rfl, rfl, rfl, rfl, rfl, trivial⟩ ?_
              first
              | exact ih _ _ g1 (cm_hid (by omega) (by rw [← el]; exact hc.elim (fun h => h.1) (fun h => absurd h.2 (by assumption))) g2) (by omega) (by omega)
              | exact ih _ _ (g1.trans u84) (cm_paint hS.sw (by omega) el.symm (if_pos (by omega)) (hc.elim (fun h => by have := h.2; omega) (fun h => h.1)) hw v84) (by omega) (by omega)
              | exact ih _ _ (g1.trans u84) (cm_paint hS.sw (by omega) el.symm (if_neg (by omega)) (hc.elim (fun h => by have := h.2; omega) (fun h => h.1)) hw v84) (by omega) (by omega)
            · skip
              refine bw_iload rfl rfl ?_
              refine bw_goto rfl ?_
              refine bw_istore (ls2 := [_, _, _, _, _, _, _]) rfl rfl (Nat.le_of_ble_eq_true rfl) rfl ?_
              refine bw_aload rfl rfl ?_
              refine bw_iload rfl rfl ?_
              refine bw_iload rfl rfl ?_
              refine bw_iload rfl rfl ?_
              refine bw_iload rfl rfl ?_
              refine bw_callVv (e := d - 1) (as := [_, _, _, _]) rfl (by omega) rfl rfl (Nat.le_of_ble_eq_true rfl) (Nat.le_of_ble_eq_true rfl) rfl (c_paintDrawing hR (by first | exact Or.inl rfl | exact Or.inr rfl) hS hr (by omega) (by omega) (by omega) (by omega) g2 (by omega)) (fun M84 hM84 => ?_)
              obtain ⟨u84, v84⟩ := hM84
              refine bw_iinc (ls2 := [_, _, _, _, _, _, _]) rfl rfl rfl ⟨by omega, by omega⟩ rfl ?_
              refine bw_goto rfl ?_
              refine bw_forget (ls2 := [some (vr (some 203)), some (vi f), some (vi dr), some (vi w), some (vi _), none, none]) ⟨rfl, rfl, rfl, rfl, rfl, trivial⟩ ?_
              first
              | exact ih _ _ g1 (cm_hid (by omega) (by rw [← el]; exact hc.elim (fun h => h.1) (fun h => absurd h.2 (by assumption))) g2) (by omega) (by omega)
              | exact ih _ _ (g1.trans u84) (cm_paint hS.sw (by omega) el.symm (if_pos (by omega)) (hc.elim (fun h => by have := h.2; omega) (fun h => h.1)) hw v84) (by omega) (by omega)
              | exact ih _ _ (g1.trans u84) (cm_paint hS.sw (by omega) el.symm (if_neg (by omega)) (hc.elim (fun h => by have := h.2; omega) (fun h => h.1)) hw v84) (by omega) (by omega)
    show abW d (0, 0) 7 0 [some (vr (some 203)), some (vi f), some (vi dr), some (vi w), none, none, none] [] (0, 0) (A0 L) M (qV (A0 L) (fun N => sc pPa M N ∧ PAP (gL N 204) (cmF S (gI M 18) (rwF M t dr) f w (S 1).toNat)))
    refine bw_aload rfl rfl ?_
    refine bw_getr rfl rfl (hR _ _) ?_
    refine bw_lconst rfl ?_
    refine bw_callSn (e := d - 1) (as := [_, _]) rfl (by omega) rfl rfl (Nat.le_of_ble_eq_true rfl) (Nat.le_of_ble_eq_true rfl) (j_fillL hR rfl (by omega)) ?_
    refine bw_push rfl ?_
    refine bw_istore (ls2 := [_, _, _, _, _, _, _]) rfl rfl (Nat.le_of_ble_eq_true rfl) rfl ?_
    refine L11 8 _ 0 ((sc_refl _ _).wL _ rfl) ?_ (by omega) (by omega)
    rw [gL_wL_eq]
    intro y y0 y1
    rw [show flL (gL M 204) 8 (Int64.ofInt 0) y = Int64.ofInt 0 from if_pos ⟨y0, y1⟩]
    refine ⟨by decide, fun x hx => ?_⟩
    have e : nib (Int64.ofInt 0) x = 0 := by unfold nib; rw [show nb (Int64.ofInt 0) = 0 from by decide, Nat.zero_div]
    rw [e]
    unfold cmF
    show (0 : Int) = if w = 1 then (-1 : Int) + 1 else 0
    rcases hw with h | h
    · rw [if_neg (by omega)]
    · rw [if_pos h]; rfl
  · have w0 := hS.sw.fr
    have w1 := hS.sw.la
    have w2 := hS.sw.bo
    have w3 := hS.sw.sl
    have w4 := hS.sw.hi
    have w5 := hS.sw.st
    have L11 : ∀ (kf : Nat) (N : abMem) (p : Int), (sc pPa M N) → (PAP (gL N 204) (cmF S (gI M 18) (rwF M t dr) f w p.toNat)) → (0 ≤ p ∧ p ≤ S 1) → ((S 1 - p).toNat) < kf → abW d (0, 0) 7 11 [some (vr (some 203)), some (vi f), some (vi dr), some (vi w), some (vi p), none, none] [] (0, 0) (A0 L) (N) (qV (A0 L) (fun N => sc pPa M N ∧ PAP (gL N 204) (cmF S (gI M 18) (rwF M t dr) f w (S 1).toNat))) := by
      intro kf
      induction kf with
      | zero => intro N  p  g1 g2 g3 hm9; exact absurd hm9 (Nat.not_lt_zero _)
      | succ kf ih11 =>
        intro N  p  g1 g2 g3 hm11
        have ih := ih11
        have hR := g1.RF hR
        have hS := SR_sc hS g1 (fun c c0 c1 => by omega)
        refine bw_iload rfl rfl ?_
        refine bw_aload rfl rfl ?_
        refine bw_getr rfl rfl ((hR _ _).trans hr) ?_
        refine bw_getI rfl rfl ?_
        refine bw_icge rfl (fun c20 => ?_) (fun c20 => ?_)
        · skip
          refine bw_retv rfl rfl ?_
          obtain rfl : p = S 1 := by omega
          exact ⟨rfl, rfl, g1, g2⟩
        · skip
          refine bw_aload rfl rfl ?_
          refine bw_getr rfl rfl ((hR _ _).trans hr2) ?_
          refine bw_getr rfl rfl (hR _ _) ?_
          refine bw_iload rfl rfl ?_
          refine bw_aldi rfl (by first | rfl | assumption) (by omega) (by omega) ?_
          rw [g1.at 18 (by decide)]
          obtain ⟨l, el⟩ : ∃ l, l = gI M 18 p := ⟨_, rfl⟩
          have hl := hV.1 p (by omega) (by omega)
          rw [← el] at hl ⊢
          refine bw_istore (ls2 := [_, _, _, _, _, _, _]) rfl rfl (Nat.le_of_ble_eq_true rfl) rfl ?_
          refine bw_aload rfl rfl ?_
          refine bw_getr rfl rfl ((hR _ _).trans hr) ?_
          refine bw_getr rfl rfl (hR _ _) ?_
          refine bw_iload rfl rfl ?_
          refine bw_aldr rfl (by first | rfl | assumption) (by decide) (by omega) (by omega) ((hR _ _).trans (rr_row (fun _ => rfl) (by omega) (by omega) (by omega))) ?_
          refine bw_iload rfl rfl ?_
          refine bw_aldi rfl (kfa (b := 491) (n := 6) (v := (20, 96)) (by decide) (by decide) ⟨by omega, by omega⟩) (by omega) (by omega) ?_
          have hc := hS.cv l f (by omega) (by omega) (by omega) (by omega)
          obtain ⟨cv, ec⟩ : ∃ cv, cv = gI N (491 + l.toNat) f := ⟨_, rfl⟩
          rw [← ec] at hc ⊢
          refine bw_ifne rfl (fun c47 => ?_) (fun c47 => ?_)
          · skip
            refine bw_iinc (ls2 := [_, _, _, _, _, _, _]) rfl rfl rfl ⟨by omega, by omega⟩ rfl ?_
            refine bw_goto rfl ?_
            refine bw_forget (ls2 := [some (vr (some 203)), some (vi f), some (vi dr), some (vi w), some (vi _), none, none]) ⟨rfl, rfl, rfl, rfl, rfl, trivial⟩ ?_
            first
            | exact ih _ _ g1 (cm_hid (by omega) (by rw [← el]; exact hc.elim (fun h => h.1) (fun h => absurd h.2 (by assumption))) g2) (by omega) (by omega)
            | exact ih _ _ (g1.trans u84) (cm_paint hS.sw (by omega) el.symm (if_pos (by omega)) (hc.elim (fun h => by have := h.2; omega) (fun h => h.1)) hw v84) (by omega) (by omega)
            | exact ih _ _ (g1.trans u84) (cm_paint hS.sw (by omega) el.symm (if_neg (by omega)) (hc.elim (fun h => by have := h.2; omega) (fun h => h.1)) hw v84) (by omega) (by omega)
          · skip
            refine bw_iload rfl rfl ?_
            refine bw_aload rfl rfl ?_
            refine bw_getI rfl rfl ?_
            rw [g1.at 203 (by decide), ht]
            refine bw_icne rfl (fun c56 => ?_) (fun c56 => ?_)
            · skip
              refine bw_aload rfl rfl ?_
              refine bw_getr rfl rfl ((hR _ _).trans hr2) ?_
              refine bw_getr rfl rfl (hR _ _) ?_
              refine bw_iload rfl rfl ?_
              refine bw_aldr rfl (by first | rfl | assumption) (by decide) (by omega) (by omega) ((hR _ _).trans (rr_row (fun _ => rfl) (by omega) (by omega) (by omega))) ?_
              refine bw_iload rfl rfl ?_
              refine bw_aldi rfl (kfa (b := 12) (n := 6) (v := (20, 96)) (by decide) (by decide) ⟨by omega, by omega⟩) (by omega) (by omega) ?_
              rw [g1.at (12 + l.toNat) (fun z => by have z : 12 + l.toNat = 204 := z; omega)]
              have hv := hV.2 l f (by omega) (by omega) (by omega) (by omega)
              refine bw_istore (ls2 := [_, _, _, _, _, _, _]) rfl rfl (Nat.le_of_ble_eq_true rfl) rfl ?_
              refine bw_aload rfl rfl ?_
              refine bw_iload rfl rfl ?_
              refine bw_iload rfl rfl ?_
              refine bw_iload rfl rfl ?_
              refine bw_iload rfl rfl ?_
              refine bw_callVv (e := d - 1) (as := [_, _, _, _]) rfl (by omega) rfl rfl (Nat.le_of_ble_eq_true rfl) (Nat.le_of_ble_eq_true rfl) rfl (c_paintDrawing hR (by first | exact Or.inl rfl | exact Or.inr rfl) hS hr (by omega) (by omega) (by omega) (by omega) g2 (by omega)) (fun M84 hM84 => ?_)
              obtain ⟨u84, v84⟩ := hM84
              refine bw_iinc (ls2 := [_, _, _, _, _, _, _]) rfl rfl rfl ⟨by omega, by omega⟩ rfl ?_
              refine bw_goto rfl ?_
              refine bw_forget (ls2 := [some (vr (some 203)), some (vi f), some (vi dr), some (vi w), some (vi _), none, none]) ⟨rfl, rfl, rfl, rfl, rfl, trivial⟩ ?_
              first
              | exact ih _ _ g1 (cm_hid (by omega) (by rw [← el]; exact hc.elim (fun h => h.1) (fun h => absurd h.2 (by assumption))) g2) (by omega) (by omega)
              | exact ih _ _ (g1.trans u84) (cm_paint hS.sw (by omega) el.symm (if_pos (by omega)) (hc.elim (fun h => by have := h.2; omega) (fun h => h.1)) hw v84) (by omega) (by omega)
              | exact ih _ _ (g1.trans u84) (cm_paint hS.sw (by omega) el.symm (if_neg (by omega)) (hc.elim (fun h => by have := h.2; omega) (fun h => h.1)) hw v84) (by omega) (by omega)
            · skip
              refine bw_iload rfl rfl ?_
              refine bw_goto rfl ?_
              refine bw_istore (ls2 := [_, _, _, _, _, _, _]) rfl rfl (Nat.le_of_ble_eq_true rfl) rfl ?_
              refine bw_aload rfl rfl ?_
              refine bw_iload rfl rfl ?_
              refine bw_iload rfl rfl ?_
              refine bw_iload rfl rfl ?_
              refine bw_iload rfl rfl ?_
              refine bw_callVv (e := d - 1) (as := [_, _, _, _]) rfl (by omega) rfl rfl (Nat.le_of_ble_eq_true rfl) (Nat.le_of_ble_eq_true rfl) rfl (c_paintDrawing hR (by first | exact Or.inl rfl | exact Or.inr rfl) hS hr (by omega) (by omega) (by omega) (by omega) g2 (by omega)) (fun M84 hM84 => ?_)
              obtain ⟨u84, v84⟩ := hM84
              refine bw_iinc (ls2 := [_, _, _, _, _, _, _]) rfl rfl rfl ⟨by omega, by omega⟩ rfl ?_
              refine bw_goto rfl ?_
              refine bw_forget (ls2 := [some (vr (some 203)), some (vi f), some (vi dr), some (vi w), some (vi _), none, none]) ⟨rfl, rfl, rfl, rfl, rfl, trivial⟩ ?_
              first
              | exact ih _ _ g1 (cm_hid (by omega) (by rw [← el]; exact hc.elim (fun h => h.1) (fun h => absurd h.2 (by assumption))) g2) (by omega) (by omega)
              | exact ih _ _ (g1.trans u84) (cm_paint hS.sw (by omega) el.symm (if_pos (by omega)) (hc.elim (fun h => by have := h.2; omega) (fun h => h.1)) hw v84) (by omega) (by omega)
              | exact ih _ _ (g1.trans u84) (cm_paint hS.sw (by omega) el.symm (if_neg (by omega)) (hc.elim (fun h => by have := h.2; omega) (fun h => h.1)) hw v84) (by omega) (by omega)
    show abW d (0, 0) 7 0 [some (vr (some 203)), some (vi f), some (vi dr), some (vi w), none, none, none] [] (0, 0) (A0 L) M (qV (A0 L) (fun N => sc pPa M N ∧ PAP (gL N 204) (cmF S (gI M 18) (rwF M t dr) f w (S 1).toNat)))
    refine bw_aload rfl rfl ?_
    refine bw_getr rfl rfl (hR _ _) ?_
    refine bw_lconst rfl ?_
    refine bw_callSn (e := d - 1) (as := [_, _]) rfl (by omega) rfl rfl (Nat.le_of_ble_eq_true rfl) (Nat.le_of_ble_eq_true rfl) (j_fillL hR rfl (by omega)) ?_
    refine bw_push rfl ?_
    refine bw_istore (ls2 := [_, _, _, _, _, _, _]) rfl rfl (Nat.le_of_ble_eq_true rfl) rfl ?_
    refine L11 8 _ 0 ((sc_refl _ _).wL _ rfl) ?_ (by omega) (by omega)
    rw [gL_wL_eq]
    intro y y0 y1
    rw [show flL (gL M 204) 8 (Int64.ofInt 0) y = Int64.ofInt 0 from if_pos ⟨y0, y1⟩]
    refine ⟨by decide, fun x hx => ?_⟩
    have e : nib (Int64.ofInt 0) x = 0 := by unfold nib; rw [show nb (Int64.ofInt 0) = 0 from by decide, Nat.zero_div]
    rw [e]
    unfold cmF
    show (0 : Int) = if w = 1 then (-1 : Int) + 1 else 0
    rcases hw with h | h
    · rw [if_neg (by omega)]
    · rw [if_pos h]; rfl
