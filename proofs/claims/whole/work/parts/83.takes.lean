/-- what the layers have when layer t has drawing dr -/
def tR (R0 : Int → Int → Int) (t dr : Int) : Int → Int → Int := fun l f => if l = t then dr else R0 l f
/-- the picture of frame f then -/
noncomputable def pcT (S st : Int → Int) (R0 : Int → Int → Int) (t f dr : Int) : Int → Int := fun k => (cB S st (tR R0 t dr) f k (S 1).toNat).1
theorem cB_ly {S st : Int → Int} {R R' : Int → Int → Int} {f k : Int} : ∀ n : Nat, (∀ p : Int, 0 ≤ p → p < n → lyI S (R (st p) f) (st p) f k = lyI S (R' (st p) f) (st p) f k) → cB S st R f k n = cB S st R' f k n := by
  intro n
  induction n with
  | zero => intro _; rfl
  | succ n ih =>
    intro h
    show (if 0 < lyI S (R (st n) f) (st n) f k then (lyI S (R (st n) f) (st n) f k, st n) else cB S st R f k n) = (if 0 < lyI S (R' (st n) f) (st n) f k then (lyI S (R' (st n) f) (st n) f k, st n) else cB S st R' f k n)
    rw [h n (by omega) (by omega), ih (fun p p0 p1 => h p p0 (by omega))]
theorem ink_no {S : Int → Int} {l dr : Int} (h : ∀ j : Int, 0 ≤ j → j < S 2 → ¬ (S (54 + 7 * j) = l ∧ S (54 + 7 * j + 1) = dr)) (x y : Int) : ink S l dr x y = 0 := by
  have H : ∀ n : Nat, (n : Int) ≤ S 2 → inkN S l dr x y n = 0 := by
    intro n
    induction n with
    | zero => intro _; rfl
    | succ n ih =>
      intro hn
      show (if bxH S l dr x y n then S (54 + 7 * (n : Int) + 6) else inkN S l dr x y n) = 0
      rw [if_neg (fun z => h n (by omega) (by omega) (of_decide_eq_true z).1)]
      exact ih (by omega)
  by_cases q : 0 ≤ S 2
  · exact H _ (by omega)
  · unfold ink
    rw [show (S 2).toNat = 0 by omega]; rfl
theorem pcT_fb {S st : Int → Int} {R0 : Int → Int → Int} {t f dr dr' x : Int} (h : isNx S t dr (-1) x) (h' : isNx S t dr' (-1) x) (k : Int) : pcT S st R0 t f dr k = pcT S st R0 t f dr' k := by
  by_cases e : dr = dr'
  · rw [e]
  · have no : ∀ d : Int, isNx S t d (-1) (-1) → ∀ j : Int, 0 ≤ j → j < S 2 → ¬ (S (54 + 7 * j) = t ∧ S (54 + 7 * j + 1) = d) := fun d hd j j0 j1 => by
      rcases hd with ⟨_, q⟩ | ⟨q, _⟩
      · exact q j (by omega) j0 j1
      · omega
    have hx : x = -1 := by
      rcases h with ⟨q, _⟩ | ⟨q, q2, _⟩
      · exact q
      · rcases h' with ⟨p, _⟩ | ⟨p, p2, _⟩
        · exact p
        · exact absurd (q2.2.symm.trans p2.2) e
    rw [hx] at h h'
    have z : ∀ d : Int, isNx S t d (-1) (-1) → ∀ k : Int, lyI S d t f k = 0 := fun d hd k => by
      by_cases q : d = 0 ∨ hid S t f
      · exact lyI_0 q
      · rw [lyI_1 q, ink_no (no d hd)]
    unfold pcT
    rw [cB_ly (S := S) (st := st) (R := tR R0 t dr) (R' := tR R0 t dr') (S 1).toNat (fun p _ _ => ?_)]
    unfold tR
    by_cases q : st p = t
    · rw [if_pos q, if_pos q, q, z dr h, z dr' h']
    · rw [if_neg q, if_neg q]
/-- the cells of the camera that pictures change -/
abbrev pCa (a : Nat) : Prop := 204 ≤ a ∧ a < 218
def lkJ (FB : Int → Int) (f dr : Int) : Int := 41 * f + FB dr + 1
/-- the camera, layer t tried, with c pictures in the album -/
def CAM (M : abMem) (s : Nat) (S st : Int → Int) (R0 : Int → Int → Int) (FB : Int → Int) (t c : Int) : Prop := SR M s S ∧ (gI M 203 7 = t ∧ 0 ≤ t ∧ t < S 1) ∧ (gI M 18 = st ∧ (∀ l : Int, 0 ≤ l → l < S 1 → gI M (12 + l.toNat) = R0 l) ∧ gI M (s + 80 + t.toNat) = FB) ∧ shV M S ∧ ALB M c ∧ (∀ f dr : Int, 0 ≤ f → f < S 0 → 0 ≤ dr → dr ≤ 99 → gI M 217 (lkJ FB f dr) = -1 ∨ ((0 ≤ gI M 217 (lkJ FB f dr) ∧ gI M 217 (lkJ FB f dr) < c) ∧ PAP (apF M (gI M 217 (lkJ FB f dr))) (pcT S st R0 t f dr))) ∧ c ≤ cN (fun j => decide (gI M 217 j ≠ -1)) 3936
section
variable {M N : abMem} {s : Nat} {S st : Int → Int} {R0 : Int → Int → Int} {FB : Int → Int} {t c : Int}
theorem CAM.sr (h : CAM M s S st R0 FB t c) : SR M s S := h.1
theorem CAM.tr (h : CAM M s S st R0 FB t c) : gI M 203 7 = t ∧ 0 ≤ t ∧ t < S 1 := h.2.1
theorem CAM.sk (h : CAM M s S st R0 FB t c) : gI M 18 = st := h.2.2.1.1
theorem CAM.rw (h : CAM M s S st R0 FB t c) : ∀ l : Int, 0 ≤ l → l < S 1 → gI M (12 + l.toNat) = R0 l := h.2.2.1.2.1
theorem CAM.fb (h : CAM M s S st R0 FB t c) : gI M (s + 80 + t.toNat) = FB := h.2.2.1.2.2
theorem CAM.sv (h : CAM M s S st R0 FB t c) : shV M S := h.2.2.2.1
theorem CAM.al (h : CAM M s S st R0 FB t c) : ALB M c := h.2.2.2.2.1
theorem CAM.kn (h : CAM M s S st R0 FB t c) : ∀ f dr : Int, 0 ≤ f → f < S 0 → 0 ≤ dr → dr ≤ 99 → gI M 217 (lkJ FB f dr) = -1 ∨ ((0 ≤ gI M 217 (lkJ FB f dr) ∧ gI M 217 (lkJ FB f dr) < c) ∧ PAP (apF M (gI M 217 (lkJ FB f dr))) (pcT S st R0 t f dr)) := h.2.2.2.2.2.1
theorem CAM.ct (h : CAM M s S st R0 FB t c) : c ≤ cN (fun j => decide (gI M 217 j ≠ -1)) 3936 := h.2.2.2.2.2.2
theorem CAM.nx (h : CAM M s S st R0 FB t c) {dr : Int} (hd : 0 ≤ dr ∧ dr ≤ 99) : isNx S t dr (-1) (FB dr) ∧ -1 ≤ FB dr ∧ FB dr < 40 := by
  have e := h.sr.fb t dr h.tr.2.1 h.tr.2.2 hd.1 hd.2
  rw [h.fb] at e
  have := h.sr.sw.bo
  exact ⟨e, by rcases e with q | q <;> omega, by rcases e with q | q <;> omega⟩
/-- an aim at layer t makes it so -/
theorem CAM_0 (hS : SR M s S) (ht : gI M 203 7 = t ∧ 0 ≤ t ∧ t < S 1) (hV : shV M S) (h5 : gI M 205 3 = 0) (h6 : ∀ j : Int, 0 ≤ j → j < 512 → gI M 206 j = -1) (h7 : ∀ j : Int, 0 ≤ j → j < 3936 → gI M 217 j = -1) : CAM M s S (gI M 18) (fun l => gI M (12 + l.toNat)) (gI M (s + 80 + t.toNat)) t 0 := by
  refine ⟨hS, ht, ⟨rfl, fun _ _ _ => rfl, rfl⟩, hV, ALB_0 h5 h6, fun f dr f0 f1 d0 d1 => Or.inl ?_, (cN_in _ _).1⟩
  have e := hS.fb t dr ht.2.1 ht.2.2 d0 d1
  have b := hS.sw.bo
  have b0 := hS.sw.fr
  unfold lkJ
  exact h7 _ (by rcases e with q | q <;> omega) (by rcases e with q | q <;> omega)
/-- the camera's other cells may change -/
theorem CAM_sc {p : Nat → Prop} (h : CAM M s S st R0 FB t c) (hs : s = 372 ∨ s = 459) (g : sc p M N) (hp : ∀ a, p a → a = 203 ∨ a = 204 ∨ a = 218) (h7 : gI N 203 7 = t) : CAM N s S st R0 FB t c := by
  have n : ∀ a, a ≠ 203 → a ≠ 204 → a ≠ 218 → ¬ p a := fun a a1 a2 a3 k => by have := hp a k; omega
  have hs9 : s < 460 ∧ 372 ≤ s := by omega
  have t9 := h.tr
  have l9 := h.sr.sw.la
  refine ⟨SR_sc h.sr g (fun a a1 a2 => n a (by omega) (by omega) (by omega)), ⟨h7, h.tr.2⟩, ⟨by rw [g.at 18 (n 18 (by decide) (by decide) (by decide))]; exact h.sk, fun l l0 l1 => by rw [g.at _ (n (12 + l.toNat) (by omega) (by omega) (by omega))]; exact h.rw l l0 l1, by rw [g.at _ (n (s + 80 + t.toNat) (by omega) (by omega) (by omega))]; exact h.fb⟩, ⟨fun q q0 q1 => by rw [g.at 18 (n 18 (by decide) (by decide) (by decide))]; exact h.sv.1 q q0 q1, fun l f l0 l1 f0 f1 => by rw [g.at _ (n (12 + l.toNat) (by omega) (by omega) (by omega))]; exact h.sv.2 l f l0 l1 f0 f1⟩, ALB_sc h.al g (n _ (by decide) (by decide) (by decide)) (n _ (by decide) (by decide) (by decide)) (n _ (by decide) (by decide) (by decide)) (fun a a1 a2 => n a (by omega) (by omega) (by omega)), fun f dr f0 f1 d0 d1 => ?_, ?_⟩
  · rw [g.at 217 (n _ (by decide) (by decide) (by decide))]
    rcases h.kn f dr f0 f1 d0 d1 with q | ⟨q, q2⟩
    · exact Or.inl q
    · exact Or.inr ⟨q, PAP_g q2 (fun y y0 y1 => congrFun (g.atL (208 + y.toNat) (n _ (by omega) (by omega) (by omega))) _)⟩
  · rw [g.at 217 (n _ (by decide) (by decide) (by decide))]; exact h.ct
theorem cN_set {g : Int → Int} {j x : Int} {n : Nat} (h0 : 0 ≤ j) (h1 : j < n) (hg : g j = -1) (hx : x ≠ -1) : cN (fun i => decide (up g j x i ≠ -1)) n = cN (fun i => decide (g i ≠ -1)) n + 1 := by
  have e : (fun i => decide (up g j x i ≠ -1)) = fun i => (decide (g i ≠ -1) || decide (j = i)) := by
    funext i
    by_cases q : i = j
    · rw [up_eq q, q, decide_eq_true hx, decide_eq_true (rfl : j = j), Bool.or_true]
    · rw [up_ne q, decide_eq_false (show ¬ j = i from fun z => q z.symm), Bool.or_false]
  rw [e, cN_or _ _ h0, if_pos ⟨h1, decide_eq_false (fun z => z hg)⟩]
theorem cN_room {g : Int → Int} {j : Int} {n : Nat} (h0 : 0 ≤ j) (h1 : j < n) (hg : g j = -1) : cN (fun i => decide (g i ≠ -1)) n < n := by
  have e := cN_set (x := 0) h0 h1 hg (by decide)
  have b := (cN_in (fun i => decide (up g j 0 i ≠ -1)) n).2
  omega
/-- a picture is known from now on -/
theorem CAM_kn {f dr x c' : Int} {G : abMem} (h : CAM M s S st R0 FB t c) (hs : s = 372 ∨ s = 459) (hf : 0 ≤ f ∧ f < S 0) (hd : 0 ≤ dr ∧ dr ≤ 99) (hk : gI M 217 (lkJ FB f dr) = -1) (g : sc (fun a => a = 204 ∨ pAl a) M N) (hA : ALB N c') (hc : c ≤ c' ∧ c' ≤ c + 1) (hold : ∀ i : Int, 0 ≤ i → i < c → eq8 (apF N i) (apF M i)) (hx : (0 ≤ x ∧ x < c') ∧ PAP (apF N x) (pcT S st R0 t f dr)) (hG : G = sI N 217 (lkJ FB f dr) x) : CAM G s S st R0 FB t c' := by
  have n : ∀ a, a ≠ 204 → ¬ pAl a → ¬ (a = 204 ∨ pAl a) := fun a a1 a2 k => k.elim a1 a2
  have hs9 : s < 460 ∧ 372 ≤ s := by omega
  have t9 := h.tr
  have l9 := h.sr.sw.la
  have nb' : ∀ a, (a < 204 ∨ 218 ≤ a) → ¬ (a = 204 ∨ pAl a) := fun a ha k => by omega
  have gg : ∀ a, (a < 204 ∨ 218 ≤ a) → gI G a = gI M a := fun a ha => by rw [hG, gI_sI_ne (by omega), g.at a (nb' a ha)]
  have fr9 := h.sr.sw.fr
  have fx := h.nx hd
  have j0 : 0 ≤ lkJ FB f dr ∧ lkJ FB f dr < 3936 := by unfold lkJ; omega
  have g7 : gI G 217 = up (gI M 217) (lkJ FB f dr) x := by
    funext j
    rw [hG]
    by_cases q : j = lkJ FB f dr
    · rw [q, gI_sI_eq, up_eq rfl]
    · rw [gI_sI_nj q, up_ne q, g.at 217 (fun k => by omega)]
  have gL' : ∀ i : Int, apF G i = apF N i := fun i => by rw [hG]; rfl
  have sg : sc (fun a => (a = 204 ∨ pAl a) ∨ a = 217) M G := by
    rw [hG]; exact (g.mono (fun a k => Or.inl k)).sI _ _ (Or.inr rfl)
  refine ⟨SR_sc h.sr sg (fun a a1 a2 k => by omega), ⟨by rw [gg 203 (by omega)]; exact h.tr.1, h.tr.2⟩, ⟨by rw [gg 18 (by omega)]; exact h.sk, fun l l0 l1 => by rw [gg _ (by omega)]; exact h.rw l l0 l1, by rw [gg _ (by omega)]; exact h.fb⟩, ⟨fun q q0 q1 => by rw [gg 18 (by omega)]; exact h.sv.1 q q0 q1, fun l f l0 l1 f0 f1 => by rw [gg _ (by omega)]; exact h.sv.2 l f l0 l1 f0 f1⟩, ?_, fun f' dr' f0 f1 d0 d1 => ?_, ?_⟩
  · rw [hG]; exact ALB_sc hA ((sm_refl (fun a => a = 217) N).sI _ _ rfl).sc (by decide) (by decide) (by decide) (fun a a1 a2 k => by omega)
  · rw [g7]
    have fx' := h.nx ⟨d0, d1⟩
    by_cases q : lkJ FB f' dr' = lkJ FB f dr
    · rw [up_eq q]
      have ef : f' = f ∧ FB dr' = FB dr := by unfold lkJ at q; omega
      refine Or.inr ⟨hx.1, ?_⟩
      rw [gL', ef.1]
      exact PAP_congr hx.2 (fun k _ _ => pcT_fb fx.1 (by rw [← ef.2]; exact fx'.1) k)
    · rw [up_ne q]
      rcases h.kn f' dr' f0 f1 d0 d1 with z | ⟨z, z2⟩
      · exact Or.inl z
      · refine Or.inr ⟨⟨z.1, by omega⟩, ?_⟩
        rw [gL']
        exact PAP_g z2 (hold _ z.1 z.2)
  · rw [g7, cN_set j0.1 j0.2 hk (by omega)]
    exact Int.le_trans hc.2 (Int.add_le_add_right h.ct 1)
end
set_option maxRecDepth 20000 in
set_option maxHeartbeats 4000000 in
theorem c_pictureOf {d L : Nat} {M : abMem} {r : abRf} (hR : RF r M) {s : Nat} (hs : s = 372 ∨ s = 459) {S st : Int → Int} {R0 : Int → Int → Int} {FB : Int → Int} {t c : Int} (hr : r.2.2.1 = some s) (hr2 : r.2.2.2 = some 10) (h : CAM M s S st R0 FB t c) {f dr : Int} (hf : 0 ≤ f ∧ f < S 0) (hdr : 0 ≤ dr ∧ dr ≤ 99) (hd : 4 ≤ d) : abW d (0, 0) 12 0 (abEnt (abL 12) [vr (some 203), vi f, vi dr]) [] (0, 0) (A0 L) M (qI (A0 L) (fun x N => ∃ c2 : Int, sc pCa M N ∧ CAM N s S st R0 FB t c2 ∧ ((0 ≤ x ∧ x < c2) ∧ PAP (apF N x) (pcT S st R0 t f dr)) ∧ (∀ i : Int, 0 ≤ i → i < c → eq8 (apF N i) (apF M i)) ∧ (c2 = c ∨ (c2 = c + 1 ∧ x = c ∧ ∀ i : Int, 0 ≤ i → i < c → ¬ PAP (apF M i) (pcT S st R0 t f dr))))) := by
  rcases hs with rfl | rfl
  · have hRM := hR
    have hS := h.sr
    have w0 := hS.sw.fr
    have w1 := hS.sw.la
    have w2 := hS.sw.bo
    have w3 := hS.sw.sl
    have w4 := hS.sw.hi
    have w5 := hS.sw.st
    have t9 := h.tr
    have fx := h.nx hdr
    show abW d (0, 0) 12 0 [some (vr (some 203)), some (vi f), some (vi dr), none] [] (0, 0) (A0 L) M (qI (A0 L) (fun x N => ∃ c2 : Int, sc pCa M N ∧ CAM N 372 S st R0 FB t c2 ∧ ((0 ≤ x ∧ x < c2) ∧ PAP (apF N x) (pcT S st R0 t f dr)) ∧ (∀ i : Int, 0 ≤ i → i < c → eq8 (apF N i) (apF M i)) ∧ (c2 = c ∨ (c2 = c + 1 ∧ x = c ∧ ∀ i : Int, 0 ≤ i → i < c → ¬ PAP (apF M i) (pcT S st R0 t f dr)))))
    refine bw_iload rfl rfl ?_
    refine bw_push rfl ?_
    refine bw_imul rfl ⟨by omega, by omega⟩ ?_
    refine bw_aload rfl rfl ?_
    refine bw_getr rfl rfl ((hR _ _).trans hr) ?_
    refine bw_getr rfl rfl (hR _ _) ?_
    refine bw_aload rfl rfl ?_
    refine bw_getI rfl rfl ?_
    rw [h.tr.1]
    refine bw_aldr rfl (by first | rfl | assumption) (by decide) (by omega) (by omega) ((hR _ _).trans (rr_row (fun _ => rfl) (by omega) (by omega) (by omega))) ?_
    refine bw_iload rfl rfl ?_
    refine bw_aldi rfl (kfa (b := 452) (n := 6) (v := (20, 100)) (by decide) (by decide) ⟨by omega, by omega⟩) (by omega) (by omega) ?_
    rw [show gI M (452 + t.toNat) = FB from h.fb]
    refine bw_iadd rfl ⟨by omega, by omega⟩ ?_
    refine bw_push rfl ?_
    refine bw_iadd rfl ⟨by omega, by omega⟩ ?_
    refine bw_istore (ls2 := [_, _, _, _]) rfl rfl (Nat.le_of_ble_eq_true rfl) rfl ?_
    rw [show f * 41 + FB dr + 1 = lkJ FB f dr by unfold lkJ; omega]
    have j0 : 0 ≤ lkJ FB f dr ∧ lkJ FB f dr < 3936 := by unfold lkJ; omega
    refine bw_aload rfl rfl ?_
    refine bw_getr rfl rfl (hR _ _) ?_
    refine bw_iload rfl rfl ?_
    refine bw_aldi rfl (by first | rfl | assumption) (by omega) (by omega) ?_
    refine bw_push rfl ?_
    refine bw_icne rfl (fun c29 => ?_) (fun c29 => ?_)
    · skip
      refine bw_aload rfl rfl ?_
      refine bw_getr rfl rfl (hR _ _) ?_
      refine bw_iload rfl rfl ?_
      refine bw_aldi rfl (by first | rfl | assumption) (by omega) (by omega) ?_
      refine bw_ret rfl rfl ?_
      first
      | (have hw := (h.kn f dr hf.1 hf.2 hdr.1 hdr.2).resolve_left (by assumption)
         exact ⟨rfl, _, rfl, c, sc_refl _ _, h, hw, fun i _ _ _ _ _ => rfl, Or.inl rfl⟩)
      | (refine ⟨rfl, _, rfl, c2, hsc, hC, ?_, fun i i0 i1 => w4 i i0 i1, w6.elim Or.inl (fun k => Or.inr ⟨k.1, by rw [gI_sI_eq]; exact k.2.1, k.2.2⟩)⟩
         rw [gI_sI_eq]; exact w5)
    · skip
      refine bw_aload rfl rfl ?_
      refine bw_iload rfl rfl ?_
      refine bw_iload rfl rfl ?_
      refine bw_push rfl ?_
      refine bw_callVv (e := d - 1) (as := [_, _, _]) rfl (by omega) rfl rfl (Nat.le_of_ble_eq_true rfl) (Nat.le_of_ble_eq_true rfl) rfl (c_compose hR (by first | exact Or.inl rfl | exact Or.inr rfl) hS hr hr2 h.sv h.tr.1 hf hdr (Or.inl rfl) (by omega)) (fun M36 hM36 => ?_)
      obtain ⟨u36, v36⟩ := hM36
      have hR := u36.RF hR
      have hP : PAP (gL M36 204) (pcT S st R0 t f dr) := PAP_congr v36 (fun k k0 k1 => by
        show (if (0 : Int) = 1 then _ else (cB S (gI M 18) (rwF M t dr) f k (S 1).toNat).1) = (cB S st (tR R0 t dr) f k (S 1).toNat).1
        rw [if_neg (by decide), cB_congr (st' := st) (R' := tR R0 t dr) (S 1).toNat (fun p p0 p1 => ⟨by rw [h.sk], ?_⟩)]
        unfold rwF tR
        have hp := h.sv.1 p p0 (by omega)
        rw [h.rw _ hp.1 hp.2])
      have hA : ALB M36 c := ALB_sc h.al u36 (by decide) (by decide) (by decide) (fun a a1 a2 (k : a = 204) => by omega)
      have hk : gI M 217 (lkJ FB f dr) = -1 := by omega
      have hc9 : c < 3936 := by
        have a := cN_room (g := gI M 217) (n := 3936) j0.1 j0.2 hk
        have b := h.ct
        omega
      refine bw_aload rfl rfl ?_
      refine bw_getr rfl rfl (hR _ _) ?_
      refine bw_iload rfl rfl ?_
      refine bw_aload rfl rfl ?_
      refine bw_getr rfl rfl (hR _ _) ?_
      refine bw_aload rfl rfl ?_
      refine bw_getr rfl rfl (hR _ _) ?_
      refine bw_callVNi (e := d - 1) (as := [_]) rfl (by omega) rfl rfl (Nat.le_of_ble_eq_true rfl) (Nat.le_of_ble_eq_true rfl) rfl (c_numberOf (M := M36) hR hA (Or.inl hc9) (by omega)) (fun r52 M52 hM52 => ?_)
      have hw : ∃ c2 : Int, (c ≤ c2 ∧ c2 ≤ c + 1) ∧ sc (fun a => a = 204 ∨ pAl a) M M52 ∧ ALB M52 c2 ∧ (∀ i : Int, 0 ≤ i → i < c → eq8 (apF M52 i) (apF M i)) ∧ ((0 ≤ r52 ∧ r52 < c2) ∧ PAP (apF M52 r52) (pcT S st R0 t f dr)) ∧ (c2 = c ∨ (c2 = c + 1 ∧ r52 = c ∧ ∀ i : Int, 0 ≤ i → i < c → ¬ PAP (apF M i) (pcT S st R0 t f dr))) := by
        have e0 : ∀ i : Int, eq8 (apF M36 i) (apF M i) := fun i y y0 y1 => congrFun (u36.atL (208 + y.toNat) (fun (k : 208 + y.toNat = 204) => by omega)) i
        rcases hM52 with ⟨h1, h2, h3⟩ | ⟨h1, h2, h3, h4, h5, h6⟩
        · rw [h3]
          exact ⟨c, by omega, u36.mono (fun a k => Or.inl k), hA, fun i _ _ => e0 i, ⟨h1, PAP_g hP (fun y y0 y1 => h2 y y0 y1)⟩, Or.inl rfl⟩
        · refine ⟨c + 1, by omega, (u36.mono (fun a k => Or.inl k)).trans (h3.mono (fun a k => Or.inr k)), h4, fun i i0 i1 => (h5 i i0 i1).trans (e0 i), ⟨by have := hA.1; omega, by rw [h2]; exact PAP_g hP (fun y y0 y1 => h6 y y0 y1)⟩, Or.inr ⟨rfl, h2, fun i i0 i1 k => h1 i i0 i1 ((e0 i).trans (fun y y0 y1 => ((PAP_eq k hP).mpr (fun _ _ _ => rfl)) y y0 y1))⟩⟩
      obtain ⟨c2, w1, w2, w3, w4, w5, w6⟩ := hw
      have hR := w2.RF hRM
      have hC := CAM_kn h (by first | exact Or.inl rfl | exact Or.inr rfl) hf hdr hk w2 w3 w1 w4 w5 rfl
      have hsc : sc pCa M (sI M52 217 (lkJ FB f dr) r52) := (w2.mono (fun a k => ⟨by omega, by omega⟩)).sI _ _ ⟨by decide, by decide⟩
      refine bw_asti rfl (by first | rfl | assumption) (by omega) (by omega) ?_
      refine bw_aload rfl rfl ?_
      refine bw_getr rfl rfl (hR _ _) ?_
      refine bw_iload rfl rfl ?_
      refine bw_aldi rfl (by first | rfl | assumption) (by omega) (by omega) ?_
      refine bw_ret rfl rfl ?_
      first
      | (have hw := (h.kn f dr hf.1 hf.2 hdr.1 hdr.2).resolve_left (by assumption)
         exact ⟨rfl, _, rfl, c, sc_refl _ _, h, hw, fun i _ _ _ _ _ => rfl, Or.inl rfl⟩)
      | (refine ⟨rfl, _, rfl, c2, hsc, hC, ?_, fun i i0 i1 => w4 i i0 i1, w6.elim Or.inl (fun k => Or.inr ⟨k.1, by rw [gI_sI_eq]; exact k.2.1, k.2.2⟩)⟩
         rw [gI_sI_eq]; exact w5)
  · have hRM := hR
    have hS := h.sr
    have w0 := hS.sw.fr
    have w1 := hS.sw.la
    have w2 := hS.sw.bo
    have w3 := hS.sw.sl
    have w4 := hS.sw.hi
    have w5 := hS.sw.st
    have t9 := h.tr
    have fx := h.nx hdr
    show abW d (0, 0) 12 0 [some (vr (some 203)), some (vi f), some (vi dr), none] [] (0, 0) (A0 L) M (qI (A0 L) (fun x N => ∃ c2 : Int, sc pCa M N ∧ CAM N 459 S st R0 FB t c2 ∧ ((0 ≤ x ∧ x < c2) ∧ PAP (apF N x) (pcT S st R0 t f dr)) ∧ (∀ i : Int, 0 ≤ i → i < c → eq8 (apF N i) (apF M i)) ∧ (c2 = c ∨ (c2 = c + 1 ∧ x = c ∧ ∀ i : Int, 0 ≤ i → i < c → ¬ PAP (apF M i) (pcT S st R0 t f dr)))))
    refine bw_iload rfl rfl ?_
    refine bw_push rfl ?_
    refine bw_imul rfl ⟨by omega, by omega⟩ ?_
    refine bw_aload rfl rfl ?_
    refine bw_getr rfl rfl ((hR _ _).trans hr) ?_
    refine bw_getr rfl rfl (hR _ _) ?_
    refine bw_aload rfl rfl ?_
    refine bw_getI rfl rfl ?_
    rw [h.tr.1]
    refine bw_aldr rfl (by first | rfl | assumption) (by decide) (by omega) (by omega) ((hR _ _).trans (rr_row (fun _ => rfl) (by omega) (by omega) (by omega))) ?_
    refine bw_iload rfl rfl ?_
    refine bw_aldi rfl (kfa (b := 539) (n := 6) (v := (20, 100)) (by decide) (by decide) ⟨by omega, by omega⟩) (by omega) (by omega) ?_
    rw [show gI M (539 + t.toNat) = FB from h.fb]
    refine bw_iadd rfl ⟨by omega, by omega⟩ ?_
    refine bw_push rfl ?_
    refine bw_iadd rfl ⟨by omega, by omega⟩ ?_
    refine bw_istore (ls2 := [_, _, _, _]) rfl rfl (Nat.le_of_ble_eq_true rfl) rfl ?_
    rw [show f * 41 + FB dr + 1 = lkJ FB f dr by unfold lkJ; omega]
    have j0 : 0 ≤ lkJ FB f dr ∧ lkJ FB f dr < 3936 := by unfold lkJ; omega
    refine bw_aload rfl rfl ?_
    refine bw_getr rfl rfl (hR _ _) ?_
    refine bw_iload rfl rfl ?_
    refine bw_aldi rfl (by first | rfl | assumption) (by omega) (by omega) ?_
    refine bw_push rfl ?_
    refine bw_icne rfl (fun c29 => ?_) (fun c29 => ?_)
    · skip
      refine bw_aload rfl rfl ?_
      refine bw_getr rfl rfl (hR _ _) ?_
      refine bw_iload rfl rfl ?_
      refine bw_aldi rfl (by first | rfl | assumption) (by omega) (by omega) ?_
      refine bw_ret rfl rfl ?_
      first
      | (have hw := (h.kn f dr hf.1 hf.2 hdr.1 hdr.2).resolve_left (by assumption)
         exact ⟨rfl, _, rfl, c, sc_refl _ _, h, hw, fun i _ _ _ _ _ => rfl, Or.inl rfl⟩)
      | (refine ⟨rfl, _, rfl, c2, hsc, hC, ?_, fun i i0 i1 => w4 i i0 i1, w6.elim Or.inl (fun k => Or.inr ⟨k.1, by rw [gI_sI_eq]; exact k.2.1, k.2.2⟩)⟩
         rw [gI_sI_eq]; exact w5)
    · skip
      refine bw_aload rfl rfl ?_
      refine bw_iload rfl rfl ?_
      refine bw_iload rfl rfl ?_
      refine bw_push rfl ?_
      refine bw_callVv (e := d - 1) (as := [_, _, _]) rfl (by omega) rfl rfl (Nat.le_of_ble_eq_true rfl) (Nat.le_of_ble_eq_true rfl) rfl (c_compose hR (by first | exact Or.inl rfl | exact Or.inr rfl) hS hr hr2 h.sv h.tr.1 hf hdr (Or.inl rfl) (by omega)) (fun M36 hM36 => ?_)
      obtain ⟨u36, v36⟩ := hM36
      have hR := u36.RF hR
      have hP : PAP (gL M36 204) (pcT S st R0 t f dr) := PAP_congr v36 (fun k k0 k1 => by
        show (if (0 : Int) = 1 then _ else (cB S (gI M 18) (rwF M t dr) f k (S 1).toNat).1) = (cB S st (tR R0 t dr) f k (S 1).toNat).1
        rw [if_neg (by decide), cB_congr (st' := st) (R' := tR R0 t dr) (S 1).toNat (fun p p0 p1 => ⟨by rw [h.sk], ?_⟩)]
        unfold rwF tR
        have hp := h.sv.1 p p0 (by omega)
        rw [h.rw _ hp.1 hp.2])
      have hA : ALB M36 c := ALB_sc h.al u36 (by decide) (by decide) (by decide) (fun a a1 a2 (k : a = 204) => by omega)
      have hk : gI M 217 (lkJ FB f dr) = -1 := by omega
      have hc9 : c < 3936 := by
        have a := cN_room (g := gI M 217) (n := 3936) j0.1 j0.2 hk
        have b := h.ct
        omega
      refine bw_aload rfl rfl ?_
      refine bw_getr rfl rfl (hR _ _) ?_
      refine bw_iload rfl rfl ?_
      refine bw_aload rfl rfl ?_
      refine bw_getr rfl rfl (hR _ _) ?_
      refine bw_aload rfl rfl ?_
      refine bw_getr rfl rfl (hR _ _) ?_
      refine bw_callVNi (e := d - 1) (as := [_]) rfl (by omega) rfl rfl (Nat.le_of_ble_eq_true rfl) (Nat.le_of_ble_eq_true rfl) rfl (c_numberOf (M := M36) hR hA (Or.inl hc9) (by omega)) (fun r52 M52 hM52 => ?_)
      have hw : ∃ c2 : Int, (c ≤ c2 ∧ c2 ≤ c + 1) ∧ sc (fun a => a = 204 ∨ pAl a) M M52 ∧ ALB M52 c2 ∧ (∀ i : Int, 0 ≤ i → i < c → eq8 (apF M52 i) (apF M i)) ∧ ((0 ≤ r52 ∧ r52 < c2) ∧ PAP (apF M52 r52) (pcT S st R0 t f dr)) ∧ (c2 = c ∨ (c2 = c + 1 ∧ r52 = c ∧ ∀ i : Int, 0 ≤ i → i < c → ¬ PAP (apF M i) (pcT S st R0 t f dr))) := by
        have e0 : ∀ i : Int, eq8 (apF M36 i) (apF M i) := fun i y y0 y1 => congrFun (u36.atL (208 + y.toNat) (fun (k : 208 + y.toNat = 204) => by omega)) i
        rcases hM52 with ⟨h1, h2, h3⟩ | ⟨h1, h2, h3, h4, h5, h6⟩
        · rw [h3]
          exact ⟨c, by omega, u36.mono (fun a k => Or.inl k), hA, fun i _ _ => e0 i, ⟨h1, PAP_g hP (fun y y0 y1 => h2 y y0 y1)⟩, Or.inl rfl⟩
        · refine ⟨c + 1, by omega, (u36.mono (fun a k => Or.inl k)).trans (h3.mono (fun a k => Or.inr k)), h4, fun i i0 i1 => (h5 i i0 i1).trans (e0 i), ⟨by have := hA.1; omega, by rw [h2]; exact PAP_g hP (fun y y0 y1 => h6 y y0 y1)⟩, Or.inr ⟨rfl, h2, fun i i0 i1 k => h1 i i0 i1 ((e0 i).trans (fun y y0 y1 => ((PAP_eq k hP).mpr (fun _ _ _ => rfl)) y y0 y1))⟩⟩
      obtain ⟨c2, w1, w2, w3, w4, w5, w6⟩ := hw
      have hR := w2.RF hRM
      have hC := CAM_kn h (by first | exact Or.inl rfl | exact Or.inr rfl) hf hdr hk w2 w3 w1 w4 w5 rfl
      have hsc : sc pCa M (sI M52 217 (lkJ FB f dr) r52) := (w2.mono (fun a k => ⟨by omega, by omega⟩)).sI _ _ ⟨by decide, by decide⟩
      refine bw_asti rfl (by first | rfl | assumption) (by omega) (by omega) ?_
      refine bw_aload rfl rfl ?_
      refine bw_getr rfl rfl (hR _ _) ?_
      refine bw_iload rfl rfl ?_
      refine bw_aldi rfl (by first | rfl | assumption) (by omega) (by omega) ?_
      refine bw_ret rfl rfl ?_
      first
      | (have hw := (h.kn f dr hf.1 hf.2 hdr.1 hdr.2).resolve_left (by assumption)
         exact ⟨rfl, _, rfl, c, sc_refl _ _, h, hw, fun i _ _ _ _ _ => rfl, Or.inl rfl⟩)
      | (refine ⟨rfl, _, rfl, c2, hsc, hC, ?_, fun i i0 i1 => w4 i i0 i1, w6.elim Or.inl (fun k => Or.inr ⟨k.1, by rw [gI_sI_eq]; exact k.2.1, k.2.2⟩)⟩
         rw [gI_sI_eq]; exact w5)
