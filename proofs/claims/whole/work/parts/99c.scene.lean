theorem rT_sw {b c : Bool} {q : Option Nat × (Option Nat × Option Nat)} {a k : Nat} (h : ¬ (a = 0 ∧ (k = 8 ∨ k = 9))) : rT (b, q) a k = rT (c, q) a k := by
  by_cases z : a < 4
  · have : a = 0 ∨ a = 1 ∨ a = 2 ∨ a = 3 := by omega
    rcases this with rfl | rfl | rfl | rfl
    · match k, h with
      | 0, _ => rfl
      | 1, _ => rfl
      | 2, _ => rfl
      | 3, _ => rfl
      | 4, _ => rfl
      | 5, _ => rfl
      | 6, _ => rfl
      | 7, _ => rfl
      | 8, h => exact absurd ⟨rfl, Or.inl rfl⟩ h
      | 9, h => exact absurd ⟨rfl, Or.inr rfl⟩ h
      | k + 10, _ => rfl
    · rfl
    · rfl
    · rfl
  · have e : Nat.blt a 4 = false := by
      cases hh : Nat.blt a 4
      · rfl
      · exact absurd (Nat.blt_eq.mp hh) z
    unfold rT
    simp only [e, cond_false]
theorem rr_sw {b c : Bool} {q : Option Nat × (Option Nat × Option Nat)} {a : Nat} {j : Int} (h : ¬ (a = 0 ∧ (j = 8 ∨ j = 9))) : rr (b, q) a j = rr (c, q) a j := by
  unfold rr
  match j, h with
  | .ofNat k, h =>
    show (bif Nat.blt a 582 then rT (b, q) a k else none) = (bif Nat.blt a 582 then rT (c, q) a k else none)
    rw [show rT (b, q) a k = rT (c, q) a k from rT_sw (fun g => h ⟨g.1, g.2.elim (fun z => Or.inl (by rw [z]; rfl)) (fun z => Or.inr (by rw [z]; rfl))⟩)]
  | .negSucc _, _ => rfl
/-- the draft becomes the scene in use -/
theorem RF_sw {r : abRf} {M : abMem} {s : Nat} (hR : RF r M) (ho : oth r = s) : RF (!r.1, r.2) (sR (sR M 0 8 (some s)) 0 9 (some (cur r))) := by
  intro a j
  by_cases h : a = 0 ∧ (j = 8 ∨ j = 9)
  · obtain ⟨rfl, h⟩ := h
    rcases h with rfl | rfl
    · show (if (0 : Nat) = 0 then up (gR (sR M 0 8 (some s)) 0) 9 (some (cur r)) else gR (sR M 0 8 (some s)) 0) 8 = _
      rw [if_pos rfl, up_ne (by decide)]
      show (if (0 : Nat) = 0 then up (gR M 0) 8 (some s) else gR M 0) 8 = _
      rw [if_pos rfl, up_eq rfl, ← ho]
      show some (if r.1 then 372 else 459) = some (if (!r.1) then 459 else 372)
      cases r.1 <;> rfl
    · show (if (0 : Nat) = 0 then up (gR (sR M 0 8 (some s)) 0) 9 (some (cur r)) else gR (sR M 0 8 (some s)) 0) 9 = _
      rw [if_pos rfl, up_eq rfl]
      show some (if r.1 then 459 else 372) = some (if (!r.1) then 372 else 459)
      cases r.1 <;> rfl
  · rw [rr_sw (b := !r.1) (c := r.1) h]
    show (if a = 0 then up (gR (sR M 0 8 (some s)) 0) 9 (some (cur r)) else gR (sR M 0 8 (some s)) a) j = _
    by_cases q : a = 0
    · rw [if_pos q, up_ne (fun g => h ⟨q, Or.inr g⟩)]
      show (if (0 : Nat) = 0 then up (gR M 0) 8 (some s) else gR M 0) j = _
      rw [if_pos rfl, up_ne (fun g => h ⟨q, Or.inl g⟩), ← q]
      exact hR a j
    · rw [if_neg q]
      show (if a = 0 then up (gR M 0) 8 (some s) else gR M a) j = _
      rw [if_neg q]
      exact hR a j
theorem cur_sw {r : abRf} {s : Nat} {q : Option Nat × (Option Nat × Option Nat)} (ho : oth r = s) : cur (!r.1, q) = s := by
  rw [← ho]
  show (if (!r.1) then 459 else 372) = (if r.1 then 372 else 459)
  cases r.1 <;> rfl
/-- a text that is no scene -/
def scnF (r : abRf) (s : Nat) (M : abMem) (x : Int) (N : abMem) : Prop := ∃ e : Int × Int, isTx (txA M) (gI M 567 5) (.inl e) ∧ x = -1 ∧ sm (fun a => pA s a ∨ a = 1) (sR M 3 3 (some s)) N ∧ gI N 1 1 = 0 ∧ gI N 3 5 = e.1 ∧ gI N 3 6 = e.2
abbrev pSn (s a : Nat) : Prop := (1 ≤ a ∧ a ≤ 9) ∨ (s ≤ a ∧ a < s + 87) ∨ (10 ≤ a ∧ a < 20) ∨ a = 202 ∨ a = 547 ∨ a = 0
/-- a text that is one -/
def scnH (r : abRf) (s : Nat) (M : abMem) (S : Int → Int) (N : abMem) : Prop := isTx (txA M) (gI M 567 5) (.inr S) ∧ RF (!r.1, (some s, r.2.2)) N ∧ (∀ a : Nat, ¬ pSn s a → gI N a = gI M a) ∧ SR N s S ∧ (gI N 1 1 = 0 ∧ gI N 3 5 = 0 ∧ gI N 3 6 = -1) ∧ shI N N 10 (s + 9) 6 ∧ (∀ p : Int, 0 ≤ p → p < 6 → gI N 18 p = p) ∧ (gI N 19 2 = 0 ∧ gI N 19 1 = gI M 19 1)
theorem scnH_sm {r : abRf} {s : Nat} {M N K : abMem} {S : Int → Int} {q : Nat → Prop} (hs : s = 372 ∨ s = 459) (h : scnH r s M S N) (g : sm q N K) (hq : ∀ a, q a → a = 202 ∨ a = 547 ∨ a = 0) : scnH r s M S K := by
  obtain ⟨h1, h2, h3, h4, h5, h6, h7, h8⟩ := h
  have e : ∀ a : Nat, ¬ (a = 202 ∨ a = 547 ∨ a = 0) → gI K a = gI N a := fun a ha => g.at a (fun z => ha (hq a z))
  refine ⟨h1, g.RF h2, fun a ha => (e a (fun z => by omega)).trans (h3 a ha), SR_sm h4 g (fun c c0 c1 z => by have := hq c z; omega), by rw [e 1 (by omega), e 3 (by omega)]; exact h5, fun i f i0 i1 f0 f1 => ?_, fun p p0 p1 => by rw [e 18 (by omega)]; exact h7 p p0 p1, by rw [e 19 (by omega)]; exact h8⟩
  rw [e _ (by omega), e _ (by omega)]
  exact h6 i f i0 i1 f0 f1
def scnG (r : abRf) (s : Nat) (M : abMem) (x : Int) (N : abMem) : Prop := ∃ S : Int → Int, x = S 5 ∧ scnH r s M S N ∧ (gI N 202 0 = 0 ∧ gI N 202 1 = 0) ∧ (∀ l : Int, 0 ≤ l → l < 6 → gI N 547 l = -1) ∧ gI N 0 14 = 0
set_option maxRecDepth 20000 in
set_option maxHeartbeats 4000000 in
theorem x_scene {d L : Nat} {M : abMem} {r : abRf} (hR : RF r M) {s : Nat} (hs : s = 372 ∨ s = 459) (ho : oth r = s) {k : Int} (h : INV r M k) (hd : 11 ≤ d) : abW d (0, 0) 86 0 (abEnt (abL 86) [vr (some 0)]) [] (0, 0) (A0 L) M (qI (A0 L) (fun x N => scnF r s M x N ∨ scnG r s M x N)) := by
  rcases hs with rfl | rfl
  · have hT := tx_TP h
    have hh := h.hi
    have hRM := hR
    have L64 : ∀ (kf : Nat) (N : abMem) (S : Int → Int) (j : Int), (scnH r 372 M S N) → (∀ i : Int, 0 ≤ i → i < j → gI N 202 i = 0) → (0 ≤ j ∧ j ≤ 2) → ((2 - j).toNat) < kf → abW d (0, 0) 86 64 [some (vr (some 0)), some (vi 1), some (vr (some (cur (r.1, (some 372, r.2.2))))), some (vi j)] [] (0, 0) (A0 L) (N) (qI (A0 L) (fun x N => scnF r 372 M x N ∨ scnG r 372 M x N)) := by
      intro kf
      induction kf with
      | zero => intro N  S  j  g1 g2 g3 hm9; exact absurd hm9 (Nat.not_lt_zero _)
      | succ kf ih64 =>
        intro N  S  j  g1 g2 g3 hm64
        have ih := ih64
        have hR := g1.2.1
        refine bw_iload rfl rfl ?_
        refine bw_push rfl ?_
        refine bw_icge rfl (fun c66 => ?_) (fun c66 => ?_)
        · skip
          refine bw_aload rfl rfl ?_
          refine bw_callVv (e := d - 1) (as := []) rfl (by omega) rfl rfl (Nat.le_of_ble_eq_true rfl) (Nat.le_of_ble_eq_true rfl) rfl (c_forgetAll hR (by omega)) (fun M83 hM83 => ?_)
          obtain ⟨u83, v83, w83, _⟩ := hM83
          have hR := u83.RF hR
          have hH := scnH_sm (by first | exact Or.inl rfl | exact Or.inr rfl) g1 u83 (fun a z => Or.inr z)
          refine bw_aload rfl rfl ?_
          refine bw_getr rfl rfl (cur_r hR (cur_sw ho)) ?_
          refine bw_getI rfl rfl ?_
          rw [show gI M83 372 1 = S 5 from hH.2.2.2.1.c1]
          refine bw_ret rfl rfl ?_
          first
          | exact ⟨rfl, _, rfl, Or.inl ⟨e, e1, rfl, (u8.mono (fun a z => Or.inl z)).sI 1 0 (Or.inr rfl), gI_sI_eq, by rw [gI_sI_ne (by decide)]; exact e3, by rw [gI_sI_ne (by decide)]; exact e4⟩⟩
          | (have a0 := g2 0 (by omega) (by omega)
             have a1 := g2 1 (by omega) (by omega)
             exact ⟨rfl, _, rfl, Or.inr ⟨S, rfl, hH, by rw [u83.at 202 (by omega)]; exact ⟨a0, a1⟩, v83, w83⟩⟩)
        · skip
          refine bw_aload rfl rfl ?_
          refine bw_getr rfl rfl (hR _ _) ?_
          refine bw_iload rfl rfl ?_
          refine bw_push rfl ?_
          refine bw_astz rfl rfl (by omega) (by omega) (Or.inl rfl) ?_
          refine bw_iinc (ls2 := [_, _, _, _]) rfl rfl rfl ⟨by omega, by omega⟩ rfl ?_
          refine bw_goto rfl ?_
          refine ih _ S _ (scnH_sm (by first | exact Or.inl rfl | exact Or.inr rfl) g1 ((sm_refl (fun a => a = 202) N).sI j 0 rfl) (fun a z => Or.inl z)) (fun i i0 i1 => ?_) (by omega) (by omega)
          by_cases q : i = j
          · rw [q, gI_sI_eq]
          · rw [gI_sI_nj q]; exact g2 i i0 (by omega)
    show abW d (0, 0) 86 0 [some (vr (some 0)), none, none, none] [] (0, 0) (A0 L) M (qI (A0 L) (fun x N => scnF r 372 M x N ∨ scnG r 372 M x N))
    refine bw_aload rfl rfl ?_
    refine bw_getr rfl rfl (hR _ _) ?_
    refine bw_aload rfl rfl ?_
    refine bw_getr rfl rfl (oth_r hR ho) ?_
    refine bw_callVNi (e := d - 1) (as := [_]) rfl (by omega) rfl rfl (Nat.le_of_ble_eq_true rfl) (Nat.le_of_ble_eq_true rfl) rfl (c_parse hR hT (by first | exact Or.inl rfl | exact Or.inr rfl) (by omega)) (fun r8 M8 hM8 => ?_)
    obtain ⟨u8, T8, o8⟩ := hM8
    have hR := u8.RF (RF_3 hR (some 372))
    have b3 := hh
    rcases o8 with ⟨e, e1, rfl, e3, e4⟩ | ⟨S, e1, rfl, e3, e4, e5⟩
    · skip
      refine bw_istore (ls2 := [_, _, _, _]) rfl rfl (Nat.le_of_ble_eq_true rfl) rfl ?_
      refine bw_aload rfl rfl ?_
      refine bw_getr rfl rfl (hR _ _) ?_
      refine bw_push rfl ?_
      refine bw_putI rfl rfl ?_
      refine bw_iload rfl rfl ?_
      refine bw_ifne rfl (fun c21 => ?_) (fun c21 => ?_)
      · first
        | (exfalso; omega)
        | (refine bw_aload rfl rfl ?_
           refine bw_getr rfl rfl (cur_r hR rfl) ?_
           refine bw_astore (ls2 := [_, _, _, _]) rfl rfl (Nat.le_of_ble_eq_true rfl) rfl ?_
           refine bw_aload rfl rfl ?_
           refine bw_aload rfl rfl ?_
           refine bw_getr rfl rfl (oth_r (r := (r.1, (some 372, r.2.2))) hR ho) ?_
           refine bw_putR rfl rfl ?_
           refine bw_aload rfl rfl ?_
           refine bw_aload rfl rfl ?_
           refine bw_putR rfl rfl ?_
           have hR := RF_sw (r := (r.1, (some 372, r.2.2))) (M := sI M8 1 1 0) (s := 372) hR ho
           obtain ⟨K, hK⟩ : ∃ K, K = sR (sR (sI M8 1 1 0) 0 8 (some 372)) 0 9 (some (cur (r.1, (some 372, r.2.2)))) := ⟨_, rfl⟩
           rw [← hK] at hR ⊢
           have gK : ∀ a, gI K a = gI (sI M8 1 1 0) a := fun a => by rw [hK]; rfl
           have SK : SR K 372 S := SR_sm (M := M8) (N := (K.1, M8.2)) (p := fun a => a = 1) e3 ⟨rfl, fun a ha => (gK a).trans (gI_sI_ne ha)⟩ (fun c c0 c1 z => by omega)
           clear hK
           refine bw_aload rfl rfl ?_
           refine bw_getr rfl rfl (hR _ _) ?_
           refine bw_aload rfl rfl ?_
           refine bw_getr rfl rfl (cur_r hR (cur_sw ho)) ?_
           refine bw_callVNv (e := d - 1) (as := [_]) rfl (by omega) rfl rfl (Nat.le_of_ble_eq_true rfl) (Nat.le_of_ble_eq_true rfl) rfl (c_startAs hR (by first | exact Or.inl rfl | exact Or.inr rfl) (by omega)) (fun M52 hM52 => ?_)
           obtain ⟨u52, v52, w52⟩ := hM52
           have hR := u52.RF hR
           refine bw_aload rfl rfl ?_
           refine bw_getr rfl rfl (hR _ _) ?_
           refine bw_callVNn (e := d - 1) (as := []) rfl (by omega) rfl rfl (Nat.le_of_ble_eq_true rfl) (Nat.le_of_ble_eq_true rfl) rfl (c_hclear hR) ?_
           refine bw_push rfl ?_
           refine bw_istore (ls2 := [_, _, _, _]) rfl rfl (Nat.le_of_ble_eq_true rfl) rfl ?_
           refine L64 3 (sI M52 19 2 0) S 0 ?_ (fun i i0 i1 => by omega) (by omega) (by omega)
           have e52 : ∀ a : Nat, ¬ pSh 10 a → a ≠ 1 → gI M52 a = gI M8 a := fun a ha h1 => (u52.at a ha).trans ((gK a).trans (gI_sI_ne h1))
           refine ⟨e1, hR, fun a ha => ?_, SR_sm SK ((u52.mono (q := fun a => pSh 10 a ∨ a = 19) (fun a z => Or.inl z)).sI 2 0 (Or.inr rfl)) (fun c c0 c1 z => by omega), ⟨?_, ?_, ?_⟩, fun i f i0 i1 f0 f1 => ?_, fun p p0 p1 => ?_, gI_sI_eq, ?_⟩
           · rw [gI_sI_ne (by omega), e52 a (by omega) (by omega)]
             exact (u8.at a (fun z => by omega)).trans rfl
           · rw [gI_sI_ne (by decide), u52.at 1 (by omega), gK, gI_sI_eq]
           · rw [gI_sI_ne (by decide), e52 3 (by omega) (by decide)]; exact e4
           · rw [gI_sI_ne (by decide), e52 3 (by omega) (by decide)]; exact e5
           · rw [gI_sI_ne (by omega), gI_sI_ne (by omega), v52 i f i0 i1 f0 f1, ← u52.at (372 + 9 + 2 + i.toNat) (fun z => by omega)]
           · rw [gI_sI_ne (by decide)]; exact w52 p p0 p1
           · rw [gI_sI_nj (by decide), u52.at 19 (by omega), gK, gI_sI_ne (by decide), u8.at 19 (fun z => by omega)]; rfl)
      · first
        | (exfalso; omega)
        | (refine bw_push rfl ?_
           refine bw_ret rfl rfl ?_
           first
           | exact ⟨rfl, _, rfl, Or.inl ⟨e, e1, rfl, (u8.mono (fun a z => Or.inl z)).sI 1 0 (Or.inr rfl), gI_sI_eq, by rw [gI_sI_ne (by decide)]; exact e3, by rw [gI_sI_ne (by decide)]; exact e4⟩⟩
           | (have a0 := g2 0 (by omega) (by omega)
              have a1 := g2 1 (by omega) (by omega)
              exact ⟨rfl, _, rfl, Or.inr ⟨S, rfl, hH, by rw [u83.at 202 (by omega)]; exact ⟨a0, a1⟩, v83, w83⟩⟩))
    · skip
      refine bw_istore (ls2 := [_, _, _, _]) rfl rfl (Nat.le_of_ble_eq_true rfl) rfl ?_
      refine bw_aload rfl rfl ?_
      refine bw_getr rfl rfl (hR _ _) ?_
      refine bw_push rfl ?_
      refine bw_putI rfl rfl ?_
      refine bw_iload rfl rfl ?_
      refine bw_ifne rfl (fun c21 => ?_) (fun c21 => ?_)
      · first
        | (exfalso; omega)
        | (refine bw_aload rfl rfl ?_
           refine bw_getr rfl rfl (cur_r hR rfl) ?_
           refine bw_astore (ls2 := [_, _, _, _]) rfl rfl (Nat.le_of_ble_eq_true rfl) rfl ?_
           refine bw_aload rfl rfl ?_
           refine bw_aload rfl rfl ?_
           refine bw_getr rfl rfl (oth_r (r := (r.1, (some 372, r.2.2))) hR ho) ?_
           refine bw_putR rfl rfl ?_
           refine bw_aload rfl rfl ?_
           refine bw_aload rfl rfl ?_
           refine bw_putR rfl rfl ?_
           have hR := RF_sw (r := (r.1, (some 372, r.2.2))) (M := sI M8 1 1 0) (s := 372) hR ho
           obtain ⟨K, hK⟩ : ∃ K, K = sR (sR (sI M8 1 1 0) 0 8 (some 372)) 0 9 (some (cur (r.1, (some 372, r.2.2)))) := ⟨_, rfl⟩
           rw [← hK] at hR ⊢
           have gK : ∀ a, gI K a = gI (sI M8 1 1 0) a := fun a => by rw [hK]; rfl
           have SK : SR K 372 S := SR_sm (M := M8) (N := (K.1, M8.2)) (p := fun a => a = 1) e3 ⟨rfl, fun a ha => (gK a).trans (gI_sI_ne ha)⟩ (fun c c0 c1 z => by omega)
           clear hK
           refine bw_aload rfl rfl ?_
           refine bw_getr rfl rfl (hR _ _) ?_
           refine bw_aload rfl rfl ?_
           refine bw_getr rfl rfl (cur_r hR (cur_sw ho)) ?_
           refine bw_callVNv (e := d - 1) (as := [_]) rfl (by omega) rfl rfl (Nat.le_of_ble_eq_true rfl) (Nat.le_of_ble_eq_true rfl) rfl (c_startAs hR (by first | exact Or.inl rfl | exact Or.inr rfl) (by omega)) (fun M52 hM52 => ?_)
           obtain ⟨u52, v52, w52⟩ := hM52
           have hR := u52.RF hR
           refine bw_aload rfl rfl ?_
           refine bw_getr rfl rfl (hR _ _) ?_
           refine bw_callVNn (e := d - 1) (as := []) rfl (by omega) rfl rfl (Nat.le_of_ble_eq_true rfl) (Nat.le_of_ble_eq_true rfl) rfl (c_hclear hR) ?_
           refine bw_push rfl ?_
           refine bw_istore (ls2 := [_, _, _, _]) rfl rfl (Nat.le_of_ble_eq_true rfl) rfl ?_
           refine L64 3 (sI M52 19 2 0) S 0 ?_ (fun i i0 i1 => by omega) (by omega) (by omega)
           have e52 : ∀ a : Nat, ¬ pSh 10 a → a ≠ 1 → gI M52 a = gI M8 a := fun a ha h1 => (u52.at a ha).trans ((gK a).trans (gI_sI_ne h1))
           refine ⟨e1, hR, fun a ha => ?_, SR_sm SK ((u52.mono (q := fun a => pSh 10 a ∨ a = 19) (fun a z => Or.inl z)).sI 2 0 (Or.inr rfl)) (fun c c0 c1 z => by omega), ⟨?_, ?_, ?_⟩, fun i f i0 i1 f0 f1 => ?_, fun p p0 p1 => ?_, gI_sI_eq, ?_⟩
           · rw [gI_sI_ne (by omega), e52 a (by omega) (by omega)]
             exact (u8.at a (fun z => by omega)).trans rfl
           · rw [gI_sI_ne (by decide), u52.at 1 (by omega), gK, gI_sI_eq]
           · rw [gI_sI_ne (by decide), e52 3 (by omega) (by decide)]; exact e4
           · rw [gI_sI_ne (by decide), e52 3 (by omega) (by decide)]; exact e5
           · rw [gI_sI_ne (by omega), gI_sI_ne (by omega), v52 i f i0 i1 f0 f1, ← u52.at (372 + 9 + 2 + i.toNat) (fun z => by omega)]
           · rw [gI_sI_ne (by decide)]; exact w52 p p0 p1
           · rw [gI_sI_nj (by decide), u52.at 19 (by omega), gK, gI_sI_ne (by decide), u8.at 19 (fun z => by omega)]; rfl)
      · first
        | (exfalso; omega)
        | (refine bw_push rfl ?_
           refine bw_ret rfl rfl ?_
           first
           | exact ⟨rfl, _, rfl, Or.inl ⟨e, e1, rfl, (u8.mono (fun a z => Or.inl z)).sI 1 0 (Or.inr rfl), gI_sI_eq, by rw [gI_sI_ne (by decide)]; exact e3, by rw [gI_sI_ne (by decide)]; exact e4⟩⟩
           | (have a0 := g2 0 (by omega) (by omega)
              have a1 := g2 1 (by omega) (by omega)
              exact ⟨rfl, _, rfl, Or.inr ⟨S, rfl, hH, by rw [u83.at 202 (by omega)]; exact ⟨a0, a1⟩, v83, w83⟩⟩))
  · have hT := tx_TP h
    have hh := h.hi
    have hRM := hR
    have L64 : ∀ (kf : Nat) (N : abMem) (S : Int → Int) (j : Int), (scnH r 459 M S N) → (∀ i : Int, 0 ≤ i → i < j → gI N 202 i = 0) → (0 ≤ j ∧ j ≤ 2) → ((2 - j).toNat) < kf → abW d (0, 0) 86 64 [some (vr (some 0)), some (vi 1), some (vr (some (cur (r.1, (some 459, r.2.2))))), some (vi j)] [] (0, 0) (A0 L) (N) (qI (A0 L) (fun x N => scnF r 459 M x N ∨ scnG r 459 M x N)) := by
      intro kf
      induction kf with
      | zero => intro N  S  j  g1 g2 g3 hm9; exact absurd hm9 (Nat.not_lt_zero _)
      | succ kf ih64 =>
        intro N  S  j  g1 g2 g3 hm64
        have ih := ih64
        have hR := g1.2.1
        refine bw_iload rfl rfl ?_
        refine bw_push rfl ?_
        refine bw_icge rfl (fun c66 => ?_) (fun c66 => ?_)
        · skip
          refine bw_aload rfl rfl ?_
          refine bw_callVv (e := d - 1) (as := []) rfl (by omega) rfl rfl (Nat.le_of_ble_eq_true rfl) (Nat.le_of_ble_eq_true rfl) rfl (c_forgetAll hR (by omega)) (fun M83 hM83 => ?_)
          obtain ⟨u83, v83, w83, _⟩ := hM83
          have hR := u83.RF hR
          have hH := scnH_sm (by first | exact Or.inl rfl | exact Or.inr rfl) g1 u83 (fun a z => Or.inr z)
          refine bw_aload rfl rfl ?_
          refine bw_getr rfl rfl (cur_r hR (cur_sw ho)) ?_
          refine bw_getI rfl rfl ?_
          rw [show gI M83 459 1 = S 5 from hH.2.2.2.1.c1]
          refine bw_ret rfl rfl ?_
          first
          | exact ⟨rfl, _, rfl, Or.inl ⟨e, e1, rfl, (u8.mono (fun a z => Or.inl z)).sI 1 0 (Or.inr rfl), gI_sI_eq, by rw [gI_sI_ne (by decide)]; exact e3, by rw [gI_sI_ne (by decide)]; exact e4⟩⟩
          | (have a0 := g2 0 (by omega) (by omega)
             have a1 := g2 1 (by omega) (by omega)
             exact ⟨rfl, _, rfl, Or.inr ⟨S, rfl, hH, by rw [u83.at 202 (by omega)]; exact ⟨a0, a1⟩, v83, w83⟩⟩)
        · skip
          refine bw_aload rfl rfl ?_
          refine bw_getr rfl rfl (hR _ _) ?_
          refine bw_iload rfl rfl ?_
          refine bw_push rfl ?_
          refine bw_astz rfl rfl (by omega) (by omega) (Or.inl rfl) ?_
          refine bw_iinc (ls2 := [_, _, _, _]) rfl rfl rfl ⟨by omega, by omega⟩ rfl ?_
          refine bw_goto rfl ?_
          refine ih _ S _ (scnH_sm (by first | exact Or.inl rfl | exact Or.inr rfl) g1 ((sm_refl (fun a => a = 202) N).sI j 0 rfl) (fun a z => Or.inl z)) (fun i i0 i1 => ?_) (by omega) (by omega)
          by_cases q : i = j
          · rw [q, gI_sI_eq]
          · rw [gI_sI_nj q]; exact g2 i i0 (by omega)
    show abW d (0, 0) 86 0 [some (vr (some 0)), none, none, none] [] (0, 0) (A0 L) M (qI (A0 L) (fun x N => scnF r 459 M x N ∨ scnG r 459 M x N))
    refine bw_aload rfl rfl ?_
    refine bw_getr rfl rfl (hR _ _) ?_
    refine bw_aload rfl rfl ?_
    refine bw_getr rfl rfl (oth_r hR ho) ?_
    refine bw_callVNi (e := d - 1) (as := [_]) rfl (by omega) rfl rfl (Nat.le_of_ble_eq_true rfl) (Nat.le_of_ble_eq_true rfl) rfl (c_parse hR hT (by first | exact Or.inl rfl | exact Or.inr rfl) (by omega)) (fun r8 M8 hM8 => ?_)
    obtain ⟨u8, T8, o8⟩ := hM8
    have hR := u8.RF (RF_3 hR (some 459))
    have b3 := hh
    rcases o8 with ⟨e, e1, rfl, e3, e4⟩ | ⟨S, e1, rfl, e3, e4, e5⟩
    · skip
      refine bw_istore (ls2 := [_, _, _, _]) rfl rfl (Nat.le_of_ble_eq_true rfl) rfl ?_
      refine bw_aload rfl rfl ?_
      refine bw_getr rfl rfl (hR _ _) ?_
      refine bw_push rfl ?_
      refine bw_putI rfl rfl ?_
      refine bw_iload rfl rfl ?_
      refine bw_ifne rfl (fun c21 => ?_) (fun c21 => ?_)
      · first
        | (exfalso; omega)
        | (refine bw_aload rfl rfl ?_
           refine bw_getr rfl rfl (cur_r hR rfl) ?_
           refine bw_astore (ls2 := [_, _, _, _]) rfl rfl (Nat.le_of_ble_eq_true rfl) rfl ?_
           refine bw_aload rfl rfl ?_
           refine bw_aload rfl rfl ?_
           refine bw_getr rfl rfl (oth_r (r := (r.1, (some 459, r.2.2))) hR ho) ?_
           refine bw_putR rfl rfl ?_
           refine bw_aload rfl rfl ?_
           refine bw_aload rfl rfl ?_
           refine bw_putR rfl rfl ?_
           have hR := RF_sw (r := (r.1, (some 459, r.2.2))) (M := sI M8 1 1 0) (s := 459) hR ho
           obtain ⟨K, hK⟩ : ∃ K, K = sR (sR (sI M8 1 1 0) 0 8 (some 459)) 0 9 (some (cur (r.1, (some 459, r.2.2)))) := ⟨_, rfl⟩
           rw [← hK] at hR ⊢
           have gK : ∀ a, gI K a = gI (sI M8 1 1 0) a := fun a => by rw [hK]; rfl
           have SK : SR K 459 S := SR_sm (M := M8) (N := (K.1, M8.2)) (p := fun a => a = 1) e3 ⟨rfl, fun a ha => (gK a).trans (gI_sI_ne ha)⟩ (fun c c0 c1 z => by omega)
           clear hK
           refine bw_aload rfl rfl ?_
           refine bw_getr rfl rfl (hR _ _) ?_
           refine bw_aload rfl rfl ?_
           refine bw_getr rfl rfl (cur_r hR (cur_sw ho)) ?_
           refine bw_callVNv (e := d - 1) (as := [_]) rfl (by omega) rfl rfl (Nat.le_of_ble_eq_true rfl) (Nat.le_of_ble_eq_true rfl) rfl (c_startAs hR (by first | exact Or.inl rfl | exact Or.inr rfl) (by omega)) (fun M52 hM52 => ?_)
           obtain ⟨u52, v52, w52⟩ := hM52
           have hR := u52.RF hR
           refine bw_aload rfl rfl ?_
           refine bw_getr rfl rfl (hR _ _) ?_
           refine bw_callVNn (e := d - 1) (as := []) rfl (by omega) rfl rfl (Nat.le_of_ble_eq_true rfl) (Nat.le_of_ble_eq_true rfl) rfl (c_hclear hR) ?_
           refine bw_push rfl ?_
           refine bw_istore (ls2 := [_, _, _, _]) rfl rfl (Nat.le_of_ble_eq_true rfl) rfl ?_
           refine L64 3 (sI M52 19 2 0) S 0 ?_ (fun i i0 i1 => by omega) (by omega) (by omega)
           have e52 : ∀ a : Nat, ¬ pSh 10 a → a ≠ 1 → gI M52 a = gI M8 a := fun a ha h1 => (u52.at a ha).trans ((gK a).trans (gI_sI_ne h1))
           refine ⟨e1, hR, fun a ha => ?_, SR_sm SK ((u52.mono (q := fun a => pSh 10 a ∨ a = 19) (fun a z => Or.inl z)).sI 2 0 (Or.inr rfl)) (fun c c0 c1 z => by omega), ⟨?_, ?_, ?_⟩, fun i f i0 i1 f0 f1 => ?_, fun p p0 p1 => ?_, gI_sI_eq, ?_⟩
           · rw [gI_sI_ne (by omega), e52 a (by omega) (by omega)]
             exact (u8.at a (fun z => by omega)).trans rfl
           · rw [gI_sI_ne (by decide), u52.at 1 (by omega), gK, gI_sI_eq]
           · rw [gI_sI_ne (by decide), e52 3 (by omega) (by decide)]; exact e4
           · rw [gI_sI_ne (by decide), e52 3 (by omega) (by decide)]; exact e5
           · rw [gI_sI_ne (by omega), gI_sI_ne (by omega), v52 i f i0 i1 f0 f1, ← u52.at (459 + 9 + 2 + i.toNat) (fun z => by omega)]
           · rw [gI_sI_ne (by decide)]; exact w52 p p0 p1
           · rw [gI_sI_nj (by decide), u52.at 19 (by omega), gK, gI_sI_ne (by decide), u8.at 19 (fun z => by omega)]; rfl)
      · first
        | (exfalso; omega)
        | (refine bw_push rfl ?_
           refine bw_ret rfl rfl ?_
           first
           | exact ⟨rfl, _, rfl, Or.inl ⟨e, e1, rfl, (u8.mono (fun a z => Or.inl z)).sI 1 0 (Or.inr rfl), gI_sI_eq, by rw [gI_sI_ne (by decide)]; exact e3, by rw [gI_sI_ne (by decide)]; exact e4⟩⟩
           | (have a0 := g2 0 (by omega) (by omega)
              have a1 := g2 1 (by omega) (by omega)
              exact ⟨rfl, _, rfl, Or.inr ⟨S, rfl, hH, by rw [u83.at 202 (by omega)]; exact ⟨a0, a1⟩, v83, w83⟩⟩))
    · skip
      refine bw_istore (ls2 := [_, _, _, _]) rfl rfl (Nat.le_of_ble_eq_true rfl) rfl ?_
      refine bw_aload rfl rfl ?_
      refine bw_getr rfl rfl (hR _ _) ?_
      refine bw_push rfl ?_
      refine bw_putI rfl rfl ?_
      refine bw_iload rfl rfl ?_
      refine bw_ifne rfl (fun c21 => ?_) (fun c21 => ?_)
      · first
        | (exfalso; omega)
        | (refine bw_aload rfl rfl ?_
           refine bw_getr rfl rfl (cur_r hR rfl) ?_
           refine bw_astore (ls2 := [_, _, _, _]) rfl rfl (Nat.le_of_ble_eq_true rfl) rfl ?_
           refine bw_aload rfl rfl ?_
           refine bw_aload rfl rfl ?_
           refine bw_getr rfl rfl (oth_r (r := (r.1, (some 459, r.2.2))) hR ho) ?_
           refine bw_putR rfl rfl ?_
           refine bw_aload rfl rfl ?_
           refine bw_aload rfl rfl ?_
           refine bw_putR rfl rfl ?_
           have hR := RF_sw (r := (r.1, (some 459, r.2.2))) (M := sI M8 1 1 0) (s := 459) hR ho
           obtain ⟨K, hK⟩ : ∃ K, K = sR (sR (sI M8 1 1 0) 0 8 (some 459)) 0 9 (some (cur (r.1, (some 459, r.2.2)))) := ⟨_, rfl⟩
           rw [← hK] at hR ⊢
           have gK : ∀ a, gI K a = gI (sI M8 1 1 0) a := fun a => by rw [hK]; rfl
           have SK : SR K 459 S := SR_sm (M := M8) (N := (K.1, M8.2)) (p := fun a => a = 1) e3 ⟨rfl, fun a ha => (gK a).trans (gI_sI_ne ha)⟩ (fun c c0 c1 z => by omega)
           clear hK
           refine bw_aload rfl rfl ?_
           refine bw_getr rfl rfl (hR _ _) ?_
           refine bw_aload rfl rfl ?_
           refine bw_getr rfl rfl (cur_r hR (cur_sw ho)) ?_
           refine bw_callVNv (e := d - 1) (as := [_]) rfl (by omega) rfl rfl (Nat.le_of_ble_eq_true rfl) (Nat.le_of_ble_eq_true rfl) rfl (c_startAs hR (by first | exact Or.inl rfl | exact Or.inr rfl) (by omega)) (fun M52 hM52 => ?_)
           obtain ⟨u52, v52, w52⟩ := hM52
           have hR := u52.RF hR
           refine bw_aload rfl rfl ?_
           refine bw_getr rfl rfl (hR _ _) ?_
           refine bw_callVNn (e := d - 1) (as := []) rfl (by omega) rfl rfl (Nat.le_of_ble_eq_true rfl) (Nat.le_of_ble_eq_true rfl) rfl (c_hclear hR) ?_
           refine bw_push rfl ?_
           refine bw_istore (ls2 := [_, _, _, _]) rfl rfl (Nat.le_of_ble_eq_true rfl) rfl ?_
           refine L64 3 (sI M52 19 2 0) S 0 ?_ (fun i i0 i1 => by omega) (by omega) (by omega)
           have e52 : ∀ a : Nat, ¬ pSh 10 a → a ≠ 1 → gI M52 a = gI M8 a := fun a ha h1 => (u52.at a ha).trans ((gK a).trans (gI_sI_ne h1))
           refine ⟨e1, hR, fun a ha => ?_, SR_sm SK ((u52.mono (q := fun a => pSh 10 a ∨ a = 19) (fun a z => Or.inl z)).sI 2 0 (Or.inr rfl)) (fun c c0 c1 z => by omega), ⟨?_, ?_, ?_⟩, fun i f i0 i1 f0 f1 => ?_, fun p p0 p1 => ?_, gI_sI_eq, ?_⟩
           · rw [gI_sI_ne (by omega), e52 a (by omega) (by omega)]
             exact (u8.at a (fun z => by omega)).trans rfl
           · rw [gI_sI_ne (by decide), u52.at 1 (by omega), gK, gI_sI_eq]
           · rw [gI_sI_ne (by decide), e52 3 (by omega) (by decide)]; exact e4
           · rw [gI_sI_ne (by decide), e52 3 (by omega) (by decide)]; exact e5
           · rw [gI_sI_ne (by omega), gI_sI_ne (by omega), v52 i f i0 i1 f0 f1, ← u52.at (459 + 9 + 2 + i.toNat) (fun z => by omega)]
           · rw [gI_sI_ne (by decide)]; exact w52 p p0 p1
           · rw [gI_sI_nj (by decide), u52.at 19 (by omega), gK, gI_sI_ne (by decide), u8.at 19 (fun z => by omega)]; rfl)
      · first
        | (exfalso; omega)
        | (refine bw_push rfl ?_
           refine bw_ret rfl rfl ?_
           first
           | exact ⟨rfl, _, rfl, Or.inl ⟨e, e1, rfl, (u8.mono (fun a z => Or.inl z)).sI 1 0 (Or.inr rfl), gI_sI_eq, by rw [gI_sI_ne (by decide)]; exact e3, by rw [gI_sI_ne (by decide)]; exact e4⟩⟩
           | (have a0 := g2 0 (by omega) (by omega)
              have a1 := g2 1 (by omega) (by omega)
              exact ⟨rfl, _, rfl, Or.inr ⟨S, rfl, hH, by rw [u83.at 202 (by omega)]; exact ⟨a0, a1⟩, v83, w83⟩⟩))
