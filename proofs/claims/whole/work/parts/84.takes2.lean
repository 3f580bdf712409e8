theorem cN_mn (f : Int → Bool) {a b : Int} (h0 : 0 ≤ a) (h : a ≤ b) : cN f a.toNat ≤ cN f b.toNat := by
  have H : ∀ k : Nat, cN f a.toNat ≤ cN f (a + k).toNat := by
    intro k
    induction k with
    | zero => rw [show a + ((0 : Nat) : Int) = a by omega]; exact Int.le_refl _
    | succ k ih =>
      rw [show a + ((k + 1 : Nat) : Int) = a + k + 1 by omega, cN_s f (by omega)]
      split <;> omega
  have := H (b - a).toNat
  rw [show a + (((b - a).toNat : Nat) : Int) = b by omega] at this
  exact this
abbrev pCb (a : Nat) : Prop := 203 ≤ a ∧ a < 219
/-- frames i and j have like pictures -/
def plE8 (P : Int → Int → Int) (i j : Int) : Prop := ∀ q : Int, 0 ≤ q → q < 96 → P i q = P j q
/-- what countTakes keeps: f frames are through, c1 unlike, c pictures in the album -/
def TKI (M N : abMem) (s : Nat) (S st : Int → Int) (R0 : Int → Int → Int) (FB : Int → Int) (t : Int) (P : Int → Int → Int) (rd c0 f c1 c : Int) : Prop := CAM N s S st R0 FB t c ∧ sc pCb M N ∧ (gI N 203 4 = rd ∧ ∀ j : Int, j ≠ 4 → gI N 203 j = gI M 203 j) ∧ c1 = cN (pB (nwE (plE8 P))) f.toNat ∧ (∀ x : Int, 0 ≤ x → x < c → (gI N 218 x = rd ↔ ∃ j : Int, 0 ≤ j ∧ j < f ∧ PAP (apF N x) (P j))) ∧ (∀ x : Int, 0 ≤ x → x < 3936 → gI N 218 x ≤ rd ∧ (c ≤ x → gI N 218 x < rd)) ∧ (∀ j : Int, 0 ≤ j → j < f → ∃ x : Int, (0 ≤ x ∧ x < c) ∧ PAP (apF N x) (P j)) ∧ (c0 = 0 → c = c1 ∧ (∀ i : Int, 0 ≤ i → i < c → gI N 218 i = rd) ∧ ∀ j : Int, 0 ≤ j → j < f → nwE (plE8 P) j → PAP (apF N (cN (pB (nwE (plE8 P))) j.toNat)) (P j))
theorem ap_uni {N : abMem} {c x y : Int} {P Q : Int → Int} (hA : ALB N c) (hx : 0 ≤ x ∧ x < c) (hy : 0 ≤ y ∧ y < c) (p : PAP (apF N x) P) (q : PAP (apF N y) Q) (e : ∀ k : Int, 0 ≤ k → k < 96 → P k = Q k) : x = y := by
  have e8 : eq8 (apF N x) (apF N y) := (PAP_eq p q).mpr e
  by_cases z : x < y
  · exact absurd e8 (hA.2.2.2 x y hx.1 z hy.2)
  · by_cases z2 : y < x
    · exact absurd e8.symm (hA.2.2.2 y x hy.1 z2 hx.2)
    · omega
section
variable {M N K : abMem} {s : Nat} {S st : Int → Int} {R0 : Int → Int → Int} {FB : Int → Int} {t : Int} {P : Int → Int → Int} {rd c0 f c1 c c2 x : Int}
theorem TKI_A (h : TKI M N s S st R0 FB t P rd c0 f c1 c) (hf : 0 ≤ f) (g : sc pCa N K) (hC : CAM K s S st R0 FB t c2) (hx : (0 ≤ x ∧ x < c2) ∧ PAP (apF K x) (P f)) (ho : ∀ i : Int, 0 ≤ i → i < c → eq8 (apF K i) (apF N i)) (hc : c2 = c ∨ (c2 = c + 1 ∧ x = c ∧ ∀ i : Int, 0 ≤ i → i < c → ¬ PAP (apF N i) (P f))) (hr : gI K 218 x = rd) : TKI M K s S st R0 FB t P rd c0 (f + 1) c1 c2 := by
  obtain ⟨h1, h2, h3, h4, h5, h6, h7, h8⟩ := h
  have c9 := hC.al.1
  have e2 : c2 = c := by
    rcases hc with q | ⟨q, q2, _⟩
    · exact q
    · have := (h6 x hx.1.1 (by omega)).2 (by omega)
      rw [g.at 218 (by decide)] at hr
      omega
  subst e2
  have g218 : gI K 218 = gI N 218 := g.at 218 (by decide)
  have g203 : gI K 203 = gI N 203 := g.at 203 (by decide)
  have tr : ∀ (i : Int) (Q : Int → Int), 0 ≤ i → i < c2 → PAP (apF N i) Q → PAP (apF K i) Q := fun i Q i0 i1 q => PAP_g q (ho i i0 i1)
  have rt : ∀ (i : Int) (Q : Int → Int), 0 ≤ i → i < c2 → PAP (apF K i) Q → PAP (apF N i) Q := fun i Q i0 i1 q => PAP_g q (ho i i0 i1).symm
  obtain ⟨j, j0, j1, j2⟩ := (h5 x hx.1.1 hx.1.2).mp (by rw [← g218]; exact hr)
  have hE : ¬ nwE (plE8 P) f := fun k => k j j0 j1 ((PAP_eq (tr x _ hx.1.1 hx.1.2 j2) hx.2).mp (fun _ _ _ => rfl))
  refine ⟨hC, h2.trans (g.mono (fun a k => ⟨by have := k.1; omega, by have := k.2; omega⟩)), by rw [g203]; exact h3, cN_f hf h4 (pB_f hE), fun y y0 y1 => ?_, fun y y0 y1 => by rw [g218]; exact h6 y y0 y1, fun i i0 i1 => ?_, fun z => ?_⟩
  · rw [g218, h5 y y0 y1]
    constructor
    · rintro ⟨i, i0, i1, i2⟩; exact ⟨i, i0, by omega, tr y _ y0 y1 i2⟩
    · rintro ⟨i, i0, i1, i2⟩
      by_cases q : i = f
      · rw [q] at i2
        have e := ap_uni hC.al ⟨y0, y1⟩ hx.1 i2 hx.2 (fun _ _ _ => rfl)
        rw [e]
        exact ⟨j, j0, j1, j2⟩
      · exact ⟨i, i0, by omega, rt y _ y0 y1 i2⟩
  · by_cases q : i = f
    · rw [q]; exact ⟨x, hx⟩
    · obtain ⟨y, y0, y1⟩ := h7 i i0 (by omega)
      exact ⟨y, y0, tr y _ y0.1 y0.2 y1⟩
  · obtain ⟨z1, z2, z3⟩ := h8 z
    refine ⟨z1, fun i i0 i1 => by rw [g218]; exact z2 i i0 i1, fun i i0 i1 i2 => ?_⟩
    by_cases q : i = f
    · rw [q] at i2; exact absurd i2 hE
    · have b := cN_in (pB (nwE (plE8 P))) i.toNat
      have b2 : cN (pB (nwE (plE8 P))) i.toNat < c2 := by
        have := cN_mn (pB (nwE (plE8 P))) (a := i + 1) (b := f) (by omega) (by omega)
        have := cN_t (f := pB (nwE (plE8 P))) i0 rfl (pB_t i2)
        omega
      exact tr _ _ b.1 b2 (z3 i i0 (by omega) i2)
theorem TKI_B (h : TKI M N s S st R0 FB t P rd c0 f c1 c) (hs : s = 372 ∨ s = 459) (hf : 0 ≤ f) (g : sc pCa N K) (hC : CAM K s S st R0 FB t c2) (hx : (0 ≤ x ∧ x < c2) ∧ PAP (apF K x) (P f)) (ho : ∀ i : Int, 0 ≤ i → i < c → eq8 (apF K i) (apF N i)) (hc : c2 = c ∨ (c2 = c + 1 ∧ x = c ∧ ∀ i : Int, 0 ≤ i → i < c → ¬ PAP (apF N i) (P f))) (hr : gI K 218 x ≠ rd) : TKI M (sI K 218 x rd) s S st R0 FB t P rd c0 (f + 1) (c1 + 1) c2 := by
  obtain ⟨h1, h2, h3, h4, h5, h6, h7, h8⟩ := h
  have c9 := hC.al.1
  have g218 : gI K 218 = gI N 218 := g.at 218 (by decide)
  have g203 : gI K 203 = gI N 203 := g.at 203 (by decide)
  have tr : ∀ (i : Int) (Q : Int → Int), 0 ≤ i → i < c → PAP (apF N i) Q → PAP (apF K i) Q := fun i Q i0 i1 q => PAP_g q (ho i i0 i1)
  have rt : ∀ (i : Int) (Q : Int → Int), 0 ≤ i → i < c → PAP (apF K i) Q → PAP (apF N i) Q := fun i Q i0 i1 q => PAP_g q (ho i i0 i1).symm
  have hE : nwE (plE8 P) f := fun j j0 j1 e => by
    obtain ⟨y, y0, y1⟩ := h7 j j0 j1
    have e2 := ap_uni hC.al ⟨y0.1, by omega⟩ hx.1 (tr y _ y0.1 y0.2 y1) hx.2 e
    rw [e2] at y0 y1
    exact hr (by rw [g218]; exact (h5 x y0.1 y0.2).mpr ⟨j, j0, j1, y1⟩)
  have nx : ∀ y : Int, gI (sI K 218 x rd) 218 y = if y = x then rd else gI N 218 y := fun y => by
    by_cases q : y = x
    · rw [q, if_pos rfl, gI_sI_eq]
    · rw [if_neg q, gI_sI_nj q, g218]
  have w : sc (fun a => a = 218) K (sI K 218 x rd) := ((sm_refl (fun a => a = 218) K).sI _ _ rfl).sc
  refine ⟨CAM_sc hC hs w (fun a k => Or.inr (Or.inr k)) (by rw [gI_sI_ne (by decide)]; exact hC.tr.1), (h2.trans (g.mono (fun a k => ⟨by have := k.1; omega, by have := k.2; omega⟩))).sI _ _ ⟨by decide, by decide⟩, by rw [gI_sI_ne (by decide), g203]; exact h3, cN_t hf h4 (pB_t hE), fun y y0 y1 => ?_, fun y y0 y1 => ?_, fun i i0 i1 => ?_, fun z => ?_⟩
  · rw [nx]
    by_cases q : y = x
    · rw [if_pos q]
      exact ⟨fun _ => ⟨f, hf, by omega, by rw [q]; exact hx.2⟩, fun _ => rfl⟩
    · have yc : y < c := by rcases hc with k | ⟨k, k2, _⟩ <;> omega
      rw [if_neg q, h5 y y0 yc]
      constructor
      · rintro ⟨i, i0, i1, i2⟩; exact ⟨i, i0, by omega, tr y _ y0 yc i2⟩
      · rintro ⟨i, i0, i1, i2⟩
        by_cases q2 : i = f
        · rw [q2] at i2
          exact absurd (ap_uni hC.al ⟨y0, y1⟩ hx.1 i2 hx.2 (fun _ _ _ => rfl)) q
        · exact ⟨i, i0, by omega, rt y _ y0 yc i2⟩
  · rw [nx]
    have b := h6 y y0 y1
    by_cases q : y = x
    · rw [if_pos q]; exact ⟨Int.le_refl _, fun k => by omega⟩
    · rw [if_neg q]; exact ⟨b.1, fun k => b.2 (by rcases hc with k | ⟨k, k2, _⟩ <;> omega)⟩
  · by_cases q : i = f
    · rw [q]; exact ⟨x, hx⟩
    · obtain ⟨y, y0, y1⟩ := h7 i i0 (by omega)
      exact ⟨y, ⟨y0.1, by rcases hc with k | ⟨k, k2, _⟩ <;> omega⟩, tr y _ y0.1 y0.2 y1⟩
  · obtain ⟨z1, z2, z3⟩ := h8 z
    have hn : c2 = c + 1 ∧ x = c := by
      rcases hc with k | ⟨k, k2, _⟩
      · exact absurd (by rw [g218]; exact z2 x hx.1.1 (by omega)) hr
      · exact ⟨k, k2⟩
    refine ⟨by omega, fun i i0 i1 => ?_, fun i i0 i1 i2 => ?_⟩
    · rw [nx]
      by_cases q : i = x
      · rw [if_pos q]
      · rw [if_neg q]; exact z2 i i0 (by omega)
    · by_cases q : i = f
      · rw [q, ← h4, ← z1, ← hn.2]; exact hx.2
      · have b := cN_in (pB (nwE (plE8 P))) i.toNat
        have b2 : cN (pB (nwE (plE8 P))) i.toNat < c := by
          have := cN_mn (pB (nwE (plE8 P))) (a := i + 1) (b := f) (by omega) (by omega)
          have := cN_t (f := pB (nwE (plE8 P))) i0 rfl (pB_t i2)
          omega
        exact tr _ _ b.1 b2 (z3 i i0 (by omega) i2)
end
/-- the row turned by k -/
def tkD (g : Int → Int) (n k : Int) : Int → Int := fun f => if f + k < n then g (f + k) else g (f + k - n)
set_option maxRecDepth 20000 in
set_option maxHeartbeats 4000000 in
theorem c_countTakes {d L : Nat} {M : abMem} {r : abRf} (hR : RF r M) {s : Nat} (hs : s = 372 ∨ s = 459) {S st : Int → Int} {R0 : Int → Int → Int} {FB : Int → Int} {t c : Int} (hr : r.2.2.1 = some s) (hr2 : r.2.2.2 = some 10) (h : CAM M s S st R0 FB t c) {o : Nat} (hk : (A0 L).2 o = (20, 96)) (ho : ¬ pCb o) {k rd : Int} (hv : ∀ j : Int, 0 ≤ j → j < S 0 → 0 ≤ gI M o j ∧ gI M o j ≤ 99) (hkk : 0 ≤ k ∧ (k < S 0 ∨ k = 0)) (h4 : gI M 203 4 = rd) (hrd : 0 ≤ rd ∧ rd < 1000000) (hct : ∀ x : Int, 0 ≤ x → x < 3936 → gI M 218 x ≤ rd) (hd : 5 ≤ d) : abW d (0, 0) 13 0 (abEnt (abL 13) [vr (some 203), vr (some o), vi k]) [] (0, 0) (A0 L) M (qI (A0 L) (fun x N => ∃ c2 : Int, TKI M N s S st R0 FB t (fun j => pcT S st R0 t j (tkD (gI M o) (S 0) k j)) (rd + 1) c (S 0) x c2)) := by
  rcases hs with rfl | rfl
  · have hS := h.sr
    have w0 := hS.sw.fr
    have w1 := hS.sw.la
    have w2 := hS.sw.bo
    have w3 := hS.sw.sl
    have w4 := hS.sw.hi
    have w5 := hS.sw.st
    have L15 : ∀ (kf : Nat) (N : abMem) (c1 f c2 : Int), (TKI M N 372 S st R0 FB t (fun j => pcT S st R0 t j (tkD (gI M o) (S 0) k j)) (rd + 1) c f c1 c2) → (0 ≤ f ∧ f ≤ S 0) → ((S 0 - f).toNat) < kf → abW d (0, 0) 13 15 [some (vr (some 203)), some (vr (some o)), some (vi k), some (vi c1), some (vi f), none, none] [] (0, 0) (A0 L) (N) (qI (A0 L) (fun x N => ∃ c2 : Int, TKI M N 372 S st R0 FB t (fun j => pcT S st R0 t j (tkD (gI M o) (S 0) k j)) (rd + 1) c (S 0) x c2)) := by
      intro kf
      induction kf with
      | zero => intro N  c1 f c2  g1 g2 hm9; exact absurd hm9 (Nat.not_lt_zero _)
      | succ kf ih15 =>
        intro N  c1 f c2  g1 g2 hm15
        have ih := ih15
        have hR := g1.2.1.RF hR
        have hS := g1.1.sr
        have b1 := cN_in (pB (nwE (plE8 (fun j => pcT S st R0 t j (tkD (gI M o) (S 0) k j))))) f.toNat
        have b2 := g1.2.2.2.1
        refine bw_iload rfl rfl ?_
        refine bw_aload rfl rfl ?_
        refine bw_getr rfl rfl ((hR _ _).trans hr) ?_
        refine bw_getI rfl rfl ?_
        rw [show gI N 372 0 = S 0 from hS.c0]
        refine bw_icge rfl (fun c24 => ?_) (fun c24 => ?_)
        · skip
          refine bw_iload rfl rfl ?_
          refine bw_ret rfl rfl ?_
          obtain rfl : f = S 0 := by omega
          exact ⟨rfl, _, rfl, c2, g1⟩
        · skip
          refine bw_iload rfl rfl ?_
          refine bw_iload rfl rfl ?_
          refine bw_iadd rfl ⟨by omega, by omega⟩ ?_
          refine bw_aload rfl rfl ?_
          refine bw_getr rfl rfl ((hR _ _).trans hr) ?_
          refine bw_getI rfl rfl ?_
          rw [show gI N 372 0 = S 0 from hS.c0]
          refine bw_icge rfl (fun c38 => ?_) (fun c38 => ?_)
          · skip
            refine bw_iload rfl rfl ?_
            refine bw_iload rfl rfl ?_
            refine bw_iadd rfl ⟨by omega, by omega⟩ ?_
            refine bw_aload rfl rfl ?_
            refine bw_getr rfl rfl ((hR _ _).trans hr) ?_
            refine bw_getI rfl rfl ?_
            rw [show gI N 372 0 = S 0 from hS.c0]
            refine bw_isub rfl ⟨by omega, by omega⟩ ?_
            refine bw_istore (ls2 := [_, _, _, _, _, _, _]) rfl rfl (Nat.le_of_ble_eq_true rfl) rfl ?_
            refine bw_aload rfl rfl ?_
            refine bw_iload rfl rfl ?_
            refine bw_aload rfl rfl ?_
            refine bw_iload rfl rfl ?_
            refine bw_aldi rfl hk (by omega) (by omega) ?_
            rw [g1.2.1.at o (fun z => ho z)]
            have hD : gI M o _ = tkD (gI M o) (S 0) k f := (by first | exact (if_pos (by omega)).symm | exact (if_neg (by omega)).symm)
            rw [hD]
            have hb : 0 ≤ tkD (gI M o) (S 0) k f ∧ tkD (gI M o) (S 0) k f ≤ 99 := by rw [← hD]; exact hv _ (by omega) (by omega)
            refine bw_callVi (e := d - 1) (as := [_, _]) rfl (by omega) rfl rfl (Nat.le_of_ble_eq_true rfl) (Nat.le_of_ble_eq_true rfl) rfl (c_pictureOf hR (by first | exact Or.inl rfl | exact Or.inr rfl) hr hr2 g1.1 (by omega) hb (by omega)) (fun r69 M69 hM69 => ?_)
            obtain ⟨c2, w1, w2, w3, w4, w5⟩ := hM69
            have hR := w1.RF hR
            have c9 := w2.al.1
            have e203 : gI M69 203 = gI N 203 := w1.at 203 (by decide)
            refine bw_istore (ls2 := [_, _, _, _, _, _, _]) rfl rfl (Nat.le_of_ble_eq_true rfl) rfl ?_
            refine bw_iload rfl rfl ?_
            refine bw_iflt rfl (fun c76 => ?_) (fun c76 => ?_)
            · skip
              refine bw_iinc (ls2 := [_, _, _, _, _, _, _]) rfl rfl rfl ⟨by omega, by omega⟩ rfl ?_
              refine bw_goto rfl ?_
              refine bw_forget (ls2 := [some (vr (some 203)), some (vr (some o)), some (vi k), some (vi _), some (vi _), none, none]) ⟨rfl, rfl, rfl, rfl, rfl, trivial⟩ ?_
              first
              | (exfalso; omega)
              | exact ih _ _ _ c2 (TKI_A g1 (by omega) w1 w2 w3 w4 w5 (by assumption)) (by omega) (by omega)
              | exact ih _ _ _ c2 (TKI_B g1 (by first | exact Or.inl rfl | exact Or.inr rfl) (by omega) w1 w2 w3 w4 w5 (by assumption)) (by omega) (by omega)
            · skip
              refine bw_iload rfl rfl ?_
              refine bw_aload rfl rfl ?_
              refine bw_getr rfl rfl (hR _ _) ?_
              refine bw_len rfl (by first | rfl | assumption) (by decide) ?_
              refine bw_icge rfl (fun c86 => ?_) (fun c86 => ?_)
              · skip
                refine bw_iinc (ls2 := [_, _, _, _, _, _, _]) rfl rfl rfl ⟨by omega, by omega⟩ rfl ?_
                refine bw_goto rfl ?_
                refine bw_forget (ls2 := [some (vr (some 203)), some (vr (some o)), some (vi k), some (vi _), some (vi _), none, none]) ⟨rfl, rfl, rfl, rfl, rfl, trivial⟩ ?_
                first
                | (exfalso; omega)
                | exact ih _ _ _ c2 (TKI_A g1 (by omega) w1 w2 w3 w4 w5 (by assumption)) (by omega) (by omega)
                | exact ih _ _ _ c2 (TKI_B g1 (by first | exact Or.inl rfl | exact Or.inr rfl) (by omega) w1 w2 w3 w4 w5 (by assumption)) (by omega) (by omega)
              · skip
                refine bw_aload rfl rfl ?_
                refine bw_getr rfl rfl (hR _ _) ?_
                refine bw_iload rfl rfl ?_
                refine bw_aldi rfl (by first | rfl | assumption) (by omega) (by omega) ?_
                refine bw_aload rfl rfl ?_
                refine bw_getI rfl rfl ?_
                rw [e203, g1.2.2.1.1]
                refine bw_iceq rfl (fun c100 => ?_) (fun c100 => ?_)
                · skip
                  refine bw_iinc (ls2 := [_, _, _, _, _, _, _]) rfl rfl rfl ⟨by omega, by omega⟩ rfl ?_
                  refine bw_goto rfl ?_
                  refine bw_forget (ls2 := [some (vr (some 203)), some (vr (some o)), some (vi k), some (vi _), some (vi _), none, none]) ⟨rfl, rfl, rfl, rfl, rfl, trivial⟩ ?_
                  first
                  | (exfalso; omega)
                  | exact ih _ _ _ c2 (TKI_A g1 (by omega) w1 w2 w3 w4 w5 (by assumption)) (by omega) (by omega)
                  | exact ih _ _ _ c2 (TKI_B g1 (by first | exact Or.inl rfl | exact Or.inr rfl) (by omega) w1 w2 w3 w4 w5 (by assumption)) (by omega) (by omega)
                · skip
                  refine bw_aload rfl rfl ?_
                  refine bw_getr rfl rfl (hR _ _) ?_
                  refine bw_iload rfl rfl ?_
                  refine bw_aload rfl rfl ?_
                  refine bw_getI rfl rfl ?_
                  rw [e203, g1.2.2.1.1]
                  refine bw_asti rfl (by first | rfl | assumption) (by omega) (by omega) ?_
                  refine bw_iinc (ls2 := [_, _, _, _, _, _, _]) rfl rfl rfl ⟨by omega, by omega⟩ rfl ?_
                  refine bw_iinc (ls2 := [_, _, _, _, _, _, _]) rfl rfl rfl ⟨by omega, by omega⟩ rfl ?_
                  refine bw_goto rfl ?_
                  refine bw_forget (ls2 := [some (vr (some 203)), some (vr (some o)), some (vi k), some (vi _), some (vi _), none, none]) ⟨rfl, rfl, rfl, rfl, rfl, trivial⟩ ?_
                  first
                  | (exfalso; omega)
                  | exact ih _ _ _ c2 (TKI_A g1 (by omega) w1 w2 w3 w4 w5 (by assumption)) (by omega) (by omega)
                  | exact ih _ _ _ c2 (TKI_B g1 (by first | exact Or.inl rfl | exact Or.inr rfl) (by omega) w1 w2 w3 w4 w5 (by assumption)) (by omega) (by omega)
          · skip
            refine bw_iload rfl rfl ?_
            refine bw_iload rfl rfl ?_
            refine bw_iadd rfl ⟨by omega, by omega⟩ ?_
            refine bw_goto rfl ?_
            refine bw_istore (ls2 := [_, _, _, _, _, _, _]) rfl rfl (Nat.le_of_ble_eq_true rfl) rfl ?_
            refine bw_aload rfl rfl ?_
            refine bw_iload rfl rfl ?_
            refine bw_aload rfl rfl ?_
            refine bw_iload rfl rfl ?_
            refine bw_aldi rfl hk (by omega) (by omega) ?_
            rw [g1.2.1.at o (fun z => ho z)]
            have hD : gI M o _ = tkD (gI M o) (S 0) k f := (by first | exact (if_pos (by omega)).symm | exact (if_neg (by omega)).symm)
            rw [hD]
            have hb : 0 ≤ tkD (gI M o) (S 0) k f ∧ tkD (gI M o) (S 0) k f ≤ 99 := by rw [← hD]; exact hv _ (by omega) (by omega)
            refine bw_callVi (e := d - 1) (as := [_, _]) rfl (by omega) rfl rfl (Nat.le_of_ble_eq_true rfl) (Nat.le_of_ble_eq_true rfl) rfl (c_pictureOf hR (by first | exact Or.inl rfl | exact Or.inr rfl) hr hr2 g1.1 (by omega) hb (by omega)) (fun r69 M69 hM69 => ?_)
            obtain ⟨c2, w1, w2, w3, w4, w5⟩ := hM69
            have hR := w1.RF hR
            have c9 := w2.al.1
            have e203 : gI M69 203 = gI N 203 := w1.at 203 (by decide)
            refine bw_istore (ls2 := [_, _, _, _, _, _, _]) rfl rfl (Nat.le_of_ble_eq_true rfl) rfl ?_
            refine bw_iload rfl rfl ?_
            refine bw_iflt rfl (fun c76 => ?_) (fun c76 => ?_)
            · skip
              refine bw_iinc (ls2 := [_, _, _, _, _, _, _]) rfl rfl rfl ⟨by omega, by omega⟩ rfl ?_
              refine bw_goto rfl ?_
              refine bw_forget (ls2 := [some (vr (some 203)), some (vr (some o)), some (vi k), some (vi _), some (vi _), none, none]) ⟨rfl, rfl, rfl, rfl, rfl, trivial⟩ ?_
              first
              | (exfalso; omega)
              | exact ih _ _ _ c2 (TKI_A g1 (by omega) w1 w2 w3 w4 w5 (by assumption)) (by omega) (by omega)
              | exact ih _ _ _ c2 (TKI_B g1 (by first | exact Or.inl rfl | exact Or.inr rfl) (by omega) w1 w2 w3 w4 w5 (by assumption)) (by omega) (by omega)
            · skip
              refine bw_iload rfl rfl ?_
              refine bw_aload rfl rfl ?_
              refine bw_getr rfl rfl (hR _ _) ?_
              refine bw_len rfl (by first | rfl | assumption) (by decide) ?_
              refine bw_icge rfl (fun c86 => ?_) (fun c86 => ?_)
              · skip
                refine bw_iinc (ls2 := [_, _, _, _, _, _, _]) rfl rfl rfl ⟨by omega, by omega⟩ rfl ?_
                refine bw_goto rfl ?_
                refine bw_forget (ls2 := [some (vr (some 203)), some (vr (some o)), some (vi k), some (vi _), some (vi _), none, none]) ⟨rfl, rfl, rfl, rfl, rfl, trivial⟩ ?_
                first
                | (exfalso; omega)
                | exact ih _ _ _ c2 (TKI_A g1 (by omega) w1 w2 w3 w4 w5 (by assumption)) (by omega) (by omega)
                | exact ih _ _ _ c2 (TKI_B g1 (by first | exact Or.inl rfl | exact Or.inr rfl) (by omega) w1 w2 w3 w4 w5 (by assumption)) (by omega) (by omega)
              · skip
                refine bw_aload rfl rfl ?_
                refine bw_getr rfl rfl (hR _ _) ?_
                refine bw_iload rfl rfl ?_
                refine bw_aldi rfl (by first | rfl | assumption) (by omega) (by omega) ?_
                refine bw_aload rfl rfl ?_
                refine bw_getI rfl rfl ?_
                rw [e203, g1.2.2.1.1]
                refine bw_iceq rfl (fun c100 => ?_) (fun c100 => ?_)
                · skip
                  refine bw_iinc (ls2 := [_, _, _, _, _, _, _]) rfl rfl rfl ⟨by omega, by omega⟩ rfl ?_
                  refine bw_goto rfl ?_
                  refine bw_forget (ls2 := [some (vr (some 203)), some (vr (some o)), some (vi k), some (vi _), some (vi _), none, none]) ⟨rfl, rfl, rfl, rfl, rfl, trivial⟩ ?_
                  first
                  | (exfalso; omega)
                  | exact ih _ _ _ c2 (TKI_A g1 (by omega) w1 w2 w3 w4 w5 (by assumption)) (by omega) (by omega)
                  | exact ih _ _ _ c2 (TKI_B g1 (by first | exact Or.inl rfl | exact Or.inr rfl) (by omega) w1 w2 w3 w4 w5 (by assumption)) (by omega) (by omega)
                · skip
                  refine bw_aload rfl rfl ?_
                  refine bw_getr rfl rfl (hR _ _) ?_
                  refine bw_iload rfl rfl ?_
                  refine bw_aload rfl rfl ?_
                  refine bw_getI rfl rfl ?_
                  rw [e203, g1.2.2.1.1]
                  refine bw_asti rfl (by first | rfl | assumption) (by omega) (by omega) ?_
                  refine bw_iinc (ls2 := [_, _, _, _, _, _, _]) rfl rfl rfl ⟨by omega, by omega⟩ rfl ?_
                  refine bw_iinc (ls2 := [_, _, _, _, _, _, _]) rfl rfl rfl ⟨by omega, by omega⟩ rfl ?_
                  refine bw_goto rfl ?_
                  refine bw_forget (ls2 := [some (vr (some 203)), some (vr (some o)), some (vi k), some (vi _), some (vi _), none, none]) ⟨rfl, rfl, rfl, rfl, rfl, trivial⟩ ?_
                  first
                  | (exfalso; omega)
                  | exact ih _ _ _ c2 (TKI_A g1 (by omega) w1 w2 w3 w4 w5 (by assumption)) (by omega) (by omega)
                  | exact ih _ _ _ c2 (TKI_B g1 (by first | exact Or.inl rfl | exact Or.inr rfl) (by omega) w1 w2 w3 w4 w5 (by assumption)) (by omega) (by omega)
    show abW d (0, 0) 13 0 [some (vr (some 203)), some (vr (some o)), some (vi k), none, none, none, none] [] (0, 0) (A0 L) M (qI (A0 L) (fun x N => ∃ c2 : Int, TKI M N 372 S st R0 FB t (fun j => pcT S st R0 t j (tkD (gI M o) (S 0) k j)) (rd + 1) c (S 0) x c2))
    refine bw_aload rfl rfl ?_
    first | refine bw_dup rfl ?_ | refine bw_dupi rfl ?_
    refine bw_getI rfl rfl ?_
    rw [h4]
    refine bw_push rfl ?_
    refine bw_iadd rfl ⟨by omega, by omega⟩ ?_
    refine bw_putI rfl rfl ?_
    refine bw_push rfl ?_
    refine bw_istore (ls2 := [_, _, _, _, _, _, _]) rfl rfl (Nat.le_of_ble_eq_true rfl) rfl ?_
    refine bw_push rfl ?_
    refine bw_istore (ls2 := [_, _, _, _, _, _, _]) rfl rfl (Nat.le_of_ble_eq_true rfl) rfl ?_
    refine L15 97 (sI M 203 4 (rd + 1)) 0 0 c ⟨CAM_sc h (by first | exact Or.inl rfl | exact Or.inr rfl) ((sm_refl (fun a => a = 203) M).sI _ _ rfl).sc (fun a k => Or.inl k) (by rw [gI_sI_nj (by decide)]; exact h.tr.1), (sc_refl _ _).sI _ _ ⟨by decide, by decide⟩, ⟨gI_sI_eq, fun j hj => gI_sI_nj hj⟩, rfl, fun x x0 x1 => ⟨fun e => ?_, fun ⟨j, j0, j1, _⟩ => by omega⟩, fun x x0 x1 => ?_, fun j j0 j1 => by omega, fun z => ⟨z, fun i i0 i1 => by omega, fun j j0 j1 => by omega⟩⟩ (by omega) (by omega)
    · have a := h.al.1
      have b := hct x x0 (by omega)
      rw [gI_sI_ne (by decide)] at e
      omega
    · have b := hct x x0 x1
      rw [gI_sI_ne (by decide)]
      exact ⟨by omega, fun _ => by omega⟩
  · have hS := h.sr
    have w0 := hS.sw.fr
    have w1 := hS.sw.la
    have w2 := hS.sw.bo
    have w3 := hS.sw.sl
    have w4 := hS.sw.hi
    have w5 := hS.sw.st
    have L15 : ∀ (kf : Nat) (N : abMem) (c1 f c2 : Int), (TKI M N 459 S st R0 FB t (fun j => pcT S st R0 t j (tkD (gI M o) (S 0) k j)) (rd + 1) c f c1 c2) → (0 ≤ f ∧ f ≤ S 0) → ((S 0 - f).toNat) < kf → abW d (0, 0) 13 15 [some (vr (some 203)), some (vr (some o)), some (vi k), some (vi c1), some (vi f), none, none] [] (0, 0) (A0 L) (N) (qI (A0 L) (fun x N => ∃ c2 : Int, TKI M N 459 S st R0 FB t (fun j => pcT S st R0 t j (tkD (gI M o) (S 0) k j)) (rd + 1) c (S 0) x c2)) := by
      intro kf
      induction kf with
      | zero => intro N  c1 f c2  g1 g2 hm9; exact absurd hm9 (Nat.not_lt_zero _)
      | succ kf ih15 =>
        intro N  c1 f c2  g1 g2 hm15
        have ih := ih15
        have hR := g1.2.1.RF hR
        have hS := g1.1.sr
        have b1 := cN_in (pB (nwE (plE8 (fun j => pcT S st R0 t j (tkD (gI M o) (S 0) k j))))) f.toNat
        have b2 := g1.2.2.2.1
        refine bw_iload rfl rfl ?_
        refine bw_aload rfl rfl ?_
        refine bw_getr rfl rfl ((hR _ _).trans hr) ?_
        refine bw_getI rfl rfl ?_
        rw [show gI N 459 0 = S 0 from hS.c0]
        refine bw_icge rfl (fun c24 => ?_) (fun c24 => ?_)
        · skip
          refine bw_iload rfl rfl ?_
          refine bw_ret rfl rfl ?_
          obtain rfl : f = S 0 := by omega
          exact ⟨rfl, _, rfl, c2, g1⟩
        · skip
          refine bw_iload rfl rfl ?_
          refine bw_iload rfl rfl ?_
          refine bw_iadd rfl ⟨by omega, by omega⟩ ?_
          refine bw_aload rfl rfl ?_
          refine bw_getr rfl rfl ((hR _ _).trans hr) ?_
          refine bw_getI rfl rfl ?_
          rw [show gI N 459 0 = S 0 from hS.c0]
          refine bw_icge rfl (fun c38 => ?_) (fun c38 => ?_)
          · skip
            refine bw_iload rfl rfl ?_
            refine bw_iload rfl rfl ?_
            refine bw_iadd rfl ⟨by omega, by omega⟩ ?_
            refine bw_aload rfl rfl ?_
            refine bw_getr rfl rfl ((hR _ _).trans hr) ?_
            refine bw_getI rfl rfl ?_
            rw [show gI N 459 0 = S 0 from hS.c0]
            refine bw_isub rfl ⟨by omega, by omega⟩ ?_
            refine bw_istore (ls2 := [_, _, _, _, _, _, _]) rfl rfl (Nat.le_of_ble_eq_true rfl) rfl ?_
            refine bw_aload rfl rfl ?_
            refine bw_iload rfl rfl ?_
            refine bw_aload rfl rfl ?_
            refine bw_iload rfl rfl ?_
            refine bw_aldi rfl hk (by omega) (by omega) ?_
            rw [g1.2.1.at o (fun z => ho z)]
            have hD : gI M o _ = tkD (gI M o) (S 0) k f := (by first | exact (if_pos (by omega)).symm | exact (if_neg (by omega)).symm)
            rw [hD]
            have hb : 0 ≤ tkD (gI M o) (S 0) k f ∧ tkD (gI M o) (S 0) k f ≤ 99 := by rw [← hD]; exact hv _ (by omega) (by omega)
            refine bw_callVi (e := d - 1) (as := [_, _]) rfl (by omega) rfl rfl (Nat.le_of_ble_eq_true rfl) (Nat.le_of_ble_eq_true rfl) rfl (c_pictureOf hR (by first | exact Or.inl rfl | exact Or.inr rfl) hr hr2 g1.1 (by omega) hb (by omega)) (fun r69 M69 hM69 => ?_)
            obtain ⟨c2, w1, w2, w3, w4, w5⟩ := hM69
            have hR := w1.RF hR
            have c9 := w2.al.1
            have e203 : gI M69 203 = gI N 203 := w1.at 203 (by decide)
            refine bw_istore (ls2 := [_, _, _, _, _, _, _]) rfl rfl (Nat.le_of_ble_eq_true rfl) rfl ?_
            refine bw_iload rfl rfl ?_
            refine bw_iflt rfl (fun c76 => ?_) (fun c76 => ?_)
            · skip
              refine bw_iinc (ls2 := [_, _, _, _, _, _, _]) rfl rfl rfl ⟨by omega, by omega⟩ rfl ?_
              refine bw_goto rfl ?_
              refine bw_forget (ls2 := [some (vr (some 203)), some (vr (some o)), some (vi k), some (vi _), some (vi _), none, none]) ⟨rfl, rfl, rfl, rfl, rfl, trivial⟩ ?_
              first
              | (exfalso; omega)
              | exact ih _ _ _ c2 (TKI_A g1 (by omega) w1 w2 w3 w4 w5 (by assumption)) (by omega) (by omega)
              | exact ih _ _ _ c2 (TKI_B g1 (by first | exact Or.inl rfl | exact Or.inr rfl) (by omega) w1 w2 w3 w4 w5 (by assumption)) (by omega) (by omega)
            · skip
              refine bw_iload rfl rfl ?_
              refine bw_aload rfl rfl ?_
              refine bw_getr rfl rfl (hR _ _) ?_
              refine bw_len rfl (by first | rfl | assumption) (by decide) ?_
              refine bw_icge rfl (fun c86 => ?_) (fun c86 => ?_)
              · skip
                refine bw_iinc (ls2 := [_, _, _, _, _, _, _]) rfl rfl rfl ⟨by omega, by omega⟩ rfl ?_
                refine bw_goto rfl ?_
                refine bw_forget (ls2 := [some (vr (some 203)), some (vr (some o)), some (vi k), some (vi _), some (vi _), none, none]) ⟨rfl, rfl, rfl, rfl, rfl, trivial⟩ ?_
                first
                | (exfalso; omega)
                | exact ih _ _ _ c2 (TKI_A g1 (by omega) w1 w2 w3 w4 w5 (by assumption)) (by omega) (by omega)
                | exact ih _ _ _ c2 (TKI_B g1 (by first | exact Or.inl rfl | exact Or.inr rfl) (by omega) w1 w2 w3 w4 w5 (by assumption)) (by omega) (by omega)
              · skip
                refine bw_aload rfl rfl ?_
                refine bw_getr rfl rfl (hR _ _) ?_
                refine bw_iload rfl rfl ?_
                refine bw_aldi rfl (by first | rfl | assumption) (by omega) (by omega) ?_
                refine bw_aload rfl rfl ?_
                refine bw_getI rfl rfl ?_
                rw [e203, g1.2.2.1.1]
                refine bw_iceq rfl (fun c100 => ?_) (fun c100 => ?_)
                · skip
                  refine bw_iinc (ls2 := [_, _, _, _, _, _, _]) rfl rfl rfl ⟨by omega, by omega⟩ rfl ?_
                  refine bw_goto rfl ?_
                  refine bw_forget (ls2 := [some (vr (some 203)), some (vr (some o)), some (vi k), some (vi _), some (vi _), none, none]) ⟨rfl, rfl, rfl, rfl, rfl, trivial⟩ ?_
                  first
                  | (exfalso; omega)
                  | exact ih _ _ _ c2 (TKI_A g1 (by omega) w1 w2 w3 w4 w5 (by assumption)) (by omega) (by omega)
                  | exact ih _ _ _ c2 (TKI_B g1 (by first | exact Or.inl rfl | exact Or.inr rfl) (by omega) w1 w2 w3 w4 w5 (by assumption)) (by omega) (by omega)
                · skip
                  refine bw_aload rfl rfl ?_
                  refine bw_getr rfl rfl (hR _ _) ?_
                  refine bw_iload rfl rfl ?_
                  refine bw_aload rfl rfl ?_
                  refine bw_getI rfl rfl ?_
                  rw [e203, g1.2.2.1.1]
                  refine bw_asti rfl (by first | rfl | assumption) (by omega) (by omega) ?_
                  refine bw_iinc (ls2 := [_, _, _, _, _, _, _]) rfl rfl rfl ⟨by omega, by omega⟩ rfl ?_
                  refine bw_iinc (ls2 := [_, _, _, _, _, _, _]) rfl rfl rfl ⟨by omega, by omega⟩ rfl ?_
                  refine bw_goto rfl ?_
                  refine bw_forget (ls2 := [some (vr (some 203)), some (vr (some o)), some (vi k), some (vi _), some (vi _), none, none]) ⟨rfl, rfl, rfl, rfl, rfl, trivial⟩ ?_
                  first
                  | (exfalso; omega)
                  | exact ih _ _ _ c2 (TKI_A g1 (by omega) w1 w2 w3 w4 w5 (by assumption)) (by omega) (by omega)
                  | exact ih _ _ _ c2 (TKI_B g1 (by first | exact Or.inl rfl | exact Or.inr rfl) (by omega) w1 w2 w3 w4 w5 (by assumption)) (by omega) (by omega)
          · skip
            refine bw_iload rfl rfl ?_
            refine bw_iload rfl rfl ?_
            refine bw_iadd rfl ⟨by omega, by omega⟩ ?_
            refine bw_goto rfl ?_
            refine bw_istore (ls2 := [_, _, _, _, _, _, _]) rfl rfl (Nat.le_of_ble_eq_true rfl) rfl ?_
            refine bw_aload rfl rfl ?_
            refine bw_iload rfl rfl ?_
            refine bw_aload rfl rfl ?_
            refine bw_iload rfl rfl ?_
            refine bw_aldi rfl hk (by omega) (by omega) ?_
            rw [g1.2.1.at o (fun z => ho z)]
            have hD : gI M o _ = tkD (gI M o) (S 0) k f := (by first | exact (if_pos (by omega)).symm | exact (if_neg (by omega)).symm)
            rw [hD]
            have hb : 0 ≤ tkD (gI M o) (S 0) k f ∧ tkD (gI M o) (S 0) k f ≤ 99 := by rw [← hD]; exact hv _ (by omega) (by omega)
            refine bw_callVi (e := d - 1) (as := [_, _]) rfl (by omega) rfl rfl (Nat.le_of_ble_eq_true rfl) (Nat.le_of_ble_eq_true rfl) rfl (c_pictureOf hR (by first | exact Or.inl rfl | exact Or.inr rfl) hr hr2 g1.1 (by omega) hb (by omega)) (fun r69 M69 hM69 => ?_)
            obtain ⟨c2, w1, w2, w3, w4, w5⟩ := hM69
            have hR := w1.RF hR
            have c9 := w2.al.1
            have e203 : gI M69 203 = gI N 203 := w1.at 203 (by decide)
            refine bw_istore (ls2 := [_, _, _, _, _, _, _]) rfl rfl (Nat.le_of_ble_eq_true rfl) rfl ?_
            refine bw_iload rfl rfl ?_
            refine bw_iflt rfl (fun c76 => ?_) (fun c76 => ?_)
            · skip
              refine bw_iinc (ls2 := [_, _, _, _, _, _, _]) rfl rfl rfl ⟨by omega, by omega⟩ rfl ?_
              refine bw_goto rfl ?_
              refine bw_forget (ls2 := [some (vr (some 203)), some (vr (some o)), some (vi k), some (vi _), some (vi _), none, none]) ⟨rfl, rfl, rfl, rfl, rfl, trivial⟩ ?_
              first
              | (exfalso; omega)
              | exact ih _ _ _ c2 (TKI_A g1 (by omega) w1 w2 w3 w4 w5 (by assumption)) (by omega) (by omega)
              | exact ih _ _ _ c2 (TKI_B g1 (by first | exact Or.inl rfl | exact Or.inr rfl) (by omega) w1 w2 w3 w4 w5 (by assumption)) (by omega) (by omega)
            · skip
              refine bw_iload rfl rfl ?_
              refine bw_aload rfl rfl ?_
              refine bw_getr rfl rfl (hR _ _) ?_
              refine bw_len rfl (by first | rfl | assumption) (by decide) ?_
              refine bw_icge rfl (fun c86 => ?_) (fun c86 => ?_)
              · skip
                refine bw_iinc (ls2 := [_, _, _, _, _, _, _]) rfl rfl rfl ⟨by omega, by omega⟩ rfl ?_
                refine bw_goto rfl ?_
                refine bw_forget (ls2 := [some (vr (some 203)), some (vr (some o)), some (vi k), some (vi _), some (vi _), none, none]) ⟨rfl, rfl, rfl, rfl, rfl, trivial⟩ ?_
                first
                | (exfalso; omega)
                | exact ih _ _ _ c2 (TKI_A g1 (by omega) w1 w2 w3 w4 w5 (by assumption)) (by omega) (by omega)
                | exact ih _ _ _ c2 (TKI_B g1 (by first | exact Or.inl rfl | exact Or.inr rfl) (by omega) w1 w2 w3 w4 w5 (by assumption)) (by omega) (by omega)
              · skip
                refine bw_aload rfl rfl ?_
                refine bw_getr rfl rfl (hR _ _) ?_
                refine bw_iload rfl rfl ?_
                refine bw_aldi rfl (by first | rfl | assumption) (by omega) (by omega) ?_
                refine bw_aload rfl rfl ?_
                refine bw_getI rfl rfl ?_
                rw [e203, g1.2.2.1.1]
                refine bw_iceq rfl (fun c100 => ?_) (fun c100 => ?_)
                · skip
                  refine bw_iinc (ls2 := [_, _, _, _, _, _, _]) rfl rfl rfl ⟨by omega, by omega⟩ rfl ?_
                  refine bw_goto rfl ?_
                  refine bw_forget (ls2 := [some (vr (some 203)), some (vr (some o)), some (vi k), some (vi _), some (vi _), none, none]) ⟨rfl, rfl, rfl, rfl, rfl, trivial⟩ ?_
                  first
                  | (exfalso; omega)
                  | exact ih _ _ _ c2 (TKI_A g1 (by omega) w1 w2 w3 w4 w5 (by assumption)) (by omega) (by omega)
                  | exact ih _ _ _ c2 (TKI_B g1 (by first | exact Or.inl rfl | exact Or.inr rfl) (by omega) w1 w2 w3 w4 w5 (by assumption)) (by omega) (by omega)
                · skip
                  refine bw_aload rfl rfl ?_
                  refine bw_getr rfl rfl (hR _ _) ?_
                  refine bw_iload rfl rfl ?_
                  refine bw_aload rfl rfl ?_
                  refine bw_getI rfl rfl ?_
                  rw [e203, g1.2.2.1.1]
                  refine bw_asti rfl (by first | rfl | assumption) (by omega) (by omega) ?_
                  refine bw_iinc (ls2 := [_, _, _, _, _, _, _]) rfl rfl rfl ⟨by omega, by omega⟩ rfl ?_
                  refine bw_iinc (ls2 := [_, _, _, _, _, _, _]) rfl rfl rfl ⟨by omega, by omega⟩ rfl ?_
                  refine bw_goto rfl ?_
                  refine bw_forget (ls2 := [some (vr (some 203)), some (vr (some o)), some (vi k), some (vi _), some (vi _), none, none]) ⟨rfl, rfl, rfl, rfl, rfl, trivial⟩ ?_
                  first
                  | (exfalso; omega)
                  | exact ih _ _ _ c2 (TKI_A g1 (by omega) w1 w2 w3 w4 w5 (by assumption)) (by omega) (by omega)
                  | exact ih _ _ _ c2 (TKI_B g1 (by first | exact Or.inl rfl | exact Or.inr rfl) (by omega) w1 w2 w3 w4 w5 (by assumption)) (by omega) (by omega)
    show abW d (0, 0) 13 0 [some (vr (some 203)), some (vr (some o)), some (vi k), none, none, none, none] [] (0, 0) (A0 L) M (qI (A0 L) (fun x N => ∃ c2 : Int, TKI M N 459 S st R0 FB t (fun j => pcT S st R0 t j (tkD (gI M o) (S 0) k j)) (rd + 1) c (S 0) x c2))
    refine bw_aload rfl rfl ?_
    first | refine bw_dup rfl ?_ | refine bw_dupi rfl ?_
    refine bw_getI rfl rfl ?_
    rw [h4]
    refine bw_push rfl ?_
    refine bw_iadd rfl ⟨by omega, by omega⟩ ?_
    refine bw_putI rfl rfl ?_
    refine bw_push rfl ?_
    refine bw_istore (ls2 := [_, _, _, _, _, _, _]) rfl rfl (Nat.le_of_ble_eq_true rfl) rfl ?_
    refine bw_push rfl ?_
    refine bw_istore (ls2 := [_, _, _, _, _, _, _]) rfl rfl (Nat.le_of_ble_eq_true rfl) rfl ?_
    refine L15 97 (sI M 203 4 (rd + 1)) 0 0 c ⟨CAM_sc h (by first | exact Or.inl rfl | exact Or.inr rfl) ((sm_refl (fun a => a = 203) M).sI _ _ rfl).sc (fun a k => Or.inl k) (by rw [gI_sI_nj (by decide)]; exact h.tr.1), (sc_refl _ _).sI _ _ ⟨by decide, by decide⟩, ⟨gI_sI_eq, fun j hj => gI_sI_nj hj⟩, rfl, fun x x0 x1 => ⟨fun e => ?_, fun ⟨j, j0, j1, _⟩ => by omega⟩, fun x x0 x1 => ?_, fun j j0 j1 => by omega, fun z => ⟨z, fun i i0 i1 => by omega, fun j j0 j1 => by omega⟩⟩ (by omega) (by omega)
    · have a := h.al.1
      have b := hct x x0 (by omega)
      rw [gI_sI_ne (by decide)] at e
      omega
    · have b := hct x x0 x1
      rw [gI_sI_ne (by decide)]
      exact ⟨by omega, fun _ => by omega⟩
