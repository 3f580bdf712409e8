theorem lg_c {k : Int} (h : 0 ≤ k ∧ k < 94) : (ownT k = 0 ∧ abSB 5 k = 32) ∨ (ownT k ≠ 0 ∧ abSB 5 k = ownT k + 96) := by
  have := lg_ok.2 k h.1 h.2
  by_cases q : ownT k = 0
  · rw [if_pos q] at this; exact Or.inl ⟨q, this⟩
  · rw [if_neg q] at this; exact Or.inr ⟨q, this⟩
set_option maxRecDepth 20000 in
set_option maxHeartbeats 4000000 in
theorem c_isOwn {d L : Nat} {M : abMem} {r : abRf} (hR : RF r M) {a : Int → Int} {n : Int} (hT : TP M a n) {p : Int} (hA : TA M a n p) (hk : 97 ≤ a p ∧ a p ≤ 122) (hd : 4 ≤ d) : abW d (0, 0) 81 0 (abEnt (abL 81) [vr (some 1)]) [] (0, 0) (A0 L) M (qJ (A0 L) M (fun x => (wo a n p ≠ -1 ∧ x = 1 ∨ ¬ wo a n p ≠ -1 ∧ x = 0))) := by
  have t1 := hT.le
  have t2 := hT.ok.1
  have a1 := hA.1.1
  have a2 := hA.1.2.1
  have a3 := hA.1.2.2
  have a4 := hA.2
  have tc := tk_c hT.ok (p := p) (by omega)
  have ww := we_in hT.ok (k := p) (by omega)
  have lg := lg_ok.1
  have L4 : ∀ (kf : Nat) (g k w i : Int), (k = osT w + i) → (0 ≤ w ∧ w ≤ 20) → ((w < 20 ∧ 0 ≤ i ∧ i ≤ olT w) ∨ (w = 20 ∧ i = 0)) → (∀ v : Int, 0 ≤ v → v < w → ¬ isW a p (we a n p - p) v) → ((g = i ∧ (p + i ≤ we a n p) ∧ ∀ j : Int, 0 ≤ j → j < i → a (p + j) - 96 = ownT (osT w + j)) ∨ (g = -1 ∧ ¬ isW a p (we a n p - p) w)) → ((95 - k).toNat) < kf → abW d (0, 0) 81 4 [some (vr (some 1)), some (vi g), some (vi k), none] [] (0, 0) (A0 L) (M) (qJ (A0 L) M (fun x => (wo a n p ≠ -1 ∧ x = 1 ∨ ¬ wo a n p ≠ -1 ∧ x = 0))) := by
    intro kf
    induction kf with
    | zero => intro g k w i  g1 g2 g3 g4 g5 hm9; exact absurd hm9 (Nat.not_lt_zero _)
    | succ kf ih4 =>
      intro g k w i  g1 g2 g3 g4 g5 hm4
      have ih := ih4
      have o20 : osT 20 = 94 := by decide
      have wl : w < 20 → 1 ≤ olT w ∧ olT w ≤ 6 ∧ 0 ≤ osT w ∧ osT w + olT w < 94 ∧ ownT (osT w + olT w) = 0 ∧ osT w + olT w + 1 = osT (w + 1) := fun h => own_lenI ⟨by omega, h⟩
      have wp : w < 20 → i < olT w → 1 ≤ ownT (osT w + i) ∧ ownT (osT w + i) ≤ 26 := fun h h2 => own_posI ⟨by omega, h⟩ (by omega)
      have we0 : w = 20 → osT w = 94 := fun h => by rw [h]; exact o20
      have wz : w < 20 → i = olT w → ownT (osT w + i) = 0 := fun h h2 => by rw [h2]; exact (wl h).2.2.2.2.1
      subst g1
      refine bw_iload rfl rfl ?_
      refine bw_ldcs rfl ?_
      refine bw_callTe (e := d - 1) (as := []) rfl (by omega) rfl rfl (Nat.le_of_ble_eq_true rfl) (Nat.le_of_ble_eq_true rfl) (by omega) (by omega) (j_length (i := 5) hR (by decide) (by omega)) ?_
      refine bw_icge rfl (fun c10 => ?_) (fun c10 => ?_)
      · skip
        refine bw_push rfl ?_
        refine bw_retz rfl rfl (by omega) ?_
        have w20 : w = 20 := by
          rcases g3 with h | h
          · have := wl h.1; omega
          · exact h.1
        have e : wo a n p = -1 := ow_eq (Or.inr ⟨rfl, fun v h1 h2 => g4 v h1 (by omega)⟩)
        exact ⟨rfl, rfl, _, rfl, Or.inr ⟨fun k => k e, rfl⟩⟩
      · skip
        refine bw_ldcs rfl ?_
        refine bw_iload rfl rfl ?_
        refine bw_callTe (e := d - 1) (as := [_]) rfl (by omega) rfl rfl (Nat.le_of_ble_eq_true rfl) (Nat.le_of_ble_eq_true rfl) (by omega) (by omega) (j_charAt (i := 5) hR (by decide) (by omega) (by omega)) ?_
        have lc := lg_c (k := osT w + i) (by omega)
        have w19 : w < 20 := by omega
        refine bw_istore (ls2 := [_, _, _, _]) rfl rfl (Nat.le_of_ble_eq_true rfl) rfl ?_
        refine bw_iload rfl rfl ?_
        refine bw_push rfl ?_
        refine bw_icne rfl (fun c23 => ?_) (fun c23 => ?_)
        · skip
          refine bw_iload rfl rfl ?_
          refine bw_iflt rfl (fun c47 => ?_) (fun c47 => ?_)
          · skip
            refine bw_push rfl ?_
            refine bw_istore (ls2 := [_, _, _, _]) rfl rfl (Nat.le_of_ble_eq_true rfl) rfl ?_
            refine bw_iinc (ls2 := [_, _, _, _]) rfl rfl rfl ⟨by omega, by omega⟩ rfl ?_
            refine bw_goto rfl ?_
            refine bw_forget (ls2 := [some (vr (some 1)), some (vi _), some (vi _), none]) ⟨rfl, rfl, rfl, trivial⟩ ?_
            first
            | (have iz : i = olT w := by
                 by_cases h : i < olT w
                 · have := wp (by omega) h; omega
                 · omega
               have nw : ¬ isW a p (we a n p - p) w := fun hw => by
                 rcases g5 with h | h
                 · have := hw.1; omega
                 · exact h.2 hw
               refine ih 0 _ (w + 1) 0 (by have := wl (by omega); omega) (by omega) (by by_cases q : w + 1 = 20; exact Or.inr ⟨q, rfl⟩; exact Or.inl ⟨by omega, by omega, by have := own_lenI (w := w + 1) (by omega); omega⟩) (fun v h1 h2 => ?_) (Or.inl ⟨rfl, by omega, fun j h1 h2 => by omega⟩) (by omega)
               by_cases q : v = w
               · rw [q]; exact nw
               · exact g4 v h1 (by omega))
            | (have iz : i < olT w := by
                 by_cases h : i = olT w
                 · have := wz (by omega) h; omega
                 · omega
               refine ih (g + 1) _ w (i + 1) (by omega) g2 (by omega) g4 (Or.inl ?_) (by omega)
               rcases g5 with ⟨h1, h2, h3⟩ | h
               · subst h1
                 refine ⟨rfl, by omega, fun j j1 j2 => ?_⟩
                 by_cases q : j = g
                 · rw [q]; omega
                 · exact h3 j j1 (by omega)
               · exfalso; omega)
            | (have iz : i < olT w := by
                 by_cases h : i = olT w
                 · have := wz (by omega) h; omega
                 · omega
               refine ih (-1) _ w (i + 1) (by omega) g2 (by omega) g4 (Or.inr ⟨rfl, fun hw => ?_⟩) (by omega)
               rcases g5 with ⟨h1, h2, h3⟩ | h
               · have x1 := hw.1
                 have x2 := hw.2 i (by omega) iz
                 subst h1
                 omega
               · exact h.2 hw)
          · skip
            refine bw_aload rfl rfl ?_
            refine bw_getI rfl rfl ?_
            refine bw_iload rfl rfl ?_
            refine bw_iadd rfl ⟨by omega, by omega⟩ ?_
            refine bw_aload rfl rfl ?_
            refine bw_getI rfl rfl ?_
            refine bw_icge rfl (fun c60 => ?_) (fun c60 => ?_)
            · skip
              refine bw_push rfl ?_
              refine bw_istore (ls2 := [_, _, _, _]) rfl rfl (Nat.le_of_ble_eq_true rfl) rfl ?_
              refine bw_iinc (ls2 := [_, _, _, _]) rfl rfl rfl ⟨by omega, by omega⟩ rfl ?_
              refine bw_goto rfl ?_
              refine bw_forget (ls2 := [some (vr (some 1)), some (vi _), some (vi _), none]) ⟨rfl, rfl, rfl, trivial⟩ ?_
              first
              | (have iz : i = olT w := by
                   by_cases h : i < olT w
                   · have := wp (by omega) h; omega
                   · omega
                 have nw : ¬ isW a p (we a n p - p) w := fun hw => by
                   rcases g5 with h | h
                   · have := hw.1; omega
                   · exact h.2 hw
                 refine ih 0 _ (w + 1) 0 (by have := wl (by omega); omega) (by omega) (by by_cases q : w + 1 = 20; exact Or.inr ⟨q, rfl⟩; exact Or.inl ⟨by omega, by omega, by have := own_lenI (w := w + 1) (by omega); omega⟩) (fun v h1 h2 => ?_) (Or.inl ⟨rfl, by omega, fun j h1 h2 => by omega⟩) (by omega)
                 by_cases q : v = w
                 · rw [q]; exact nw
                 · exact g4 v h1 (by omega))
              | (have iz : i < olT w := by
                   by_cases h : i = olT w
                   · have := wz (by omega) h; omega
                   · omega
                 refine ih (g + 1) _ w (i + 1) (by omega) g2 (by omega) g4 (Or.inl ?_) (by omega)
                 rcases g5 with ⟨h1, h2, h3⟩ | h
                 · subst h1
                   refine ⟨rfl, by omega, fun j j1 j2 => ?_⟩
                   by_cases q : j = g
                   · rw [q]; omega
                   · exact h3 j j1 (by omega)
                 · exfalso; omega)
              | (have iz : i < olT w := by
                   by_cases h : i = olT w
                   · have := wz (by omega) h; omega
                   · omega
                 refine ih (-1) _ w (i + 1) (by omega) g2 (by omega) g4 (Or.inr ⟨rfl, fun hw => ?_⟩) (by omega)
                 rcases g5 with ⟨h1, h2, h3⟩ | h
                 · have x1 := hw.1
                   have x2 := hw.2 i (by omega) iz
                   subst h1
                   omega
                 · exact h.2 hw)
            · skip
              refine bw_aload rfl rfl ?_
              refine bw_getr rfl rfl (hR _ _) ?_
              refine bw_aload rfl rfl ?_
              refine bw_getI rfl rfl ?_
              refine bw_iload rfl rfl ?_
              refine bw_iadd rfl ⟨by omega, by omega⟩ ?_
              refine bw_aldb rfl (by first | rfl | assumption) (by decide) (by omega) (by omega) ?_
              rw [a1, hT.by _ (by omega) (by omega)]
              have sx := sg_c (a (p + g))
              have sy := hT.ok.2.2 (p + g) (by omega) (by omega)
              have sz := ww.2.2.2 (p + g) (by omega) (by omega)
              refine bw_iload rfl rfl ?_
              refine bw_icne rfl (fun c75 => ?_) (fun c75 => ?_)
              · skip
                refine bw_push rfl ?_
                refine bw_istore (ls2 := [_, _, _, _]) rfl rfl (Nat.le_of_ble_eq_true rfl) rfl ?_
                refine bw_iinc (ls2 := [_, _, _, _]) rfl rfl rfl ⟨by omega, by omega⟩ rfl ?_
                refine bw_goto rfl ?_
                refine bw_forget (ls2 := [some (vr (some 1)), some (vi _), some (vi _), none]) ⟨rfl, rfl, rfl, trivial⟩ ?_
                first
                | (have iz : i = olT w := by
                     by_cases h : i < olT w
                     · have := wp (by omega) h; omega
                     · omega
                   have nw : ¬ isW a p (we a n p - p) w := fun hw => by
                     rcases g5 with h | h
                     · have := hw.1; omega
                     · exact h.2 hw
                   refine ih 0 _ (w + 1) 0 (by have := wl (by omega); omega) (by omega) (by by_cases q : w + 1 = 20; exact Or.inr ⟨q, rfl⟩; exact Or.inl ⟨by omega, by omega, by have := own_lenI (w := w + 1) (by omega); omega⟩) (fun v h1 h2 => ?_) (Or.inl ⟨rfl, by omega, fun j h1 h2 => by omega⟩) (by omega)
                   by_cases q : v = w
                   · rw [q]; exact nw
                   · exact g4 v h1 (by omega))
                | (have iz : i < olT w := by
                     by_cases h : i = olT w
                     · have := wz (by omega) h; omega
                     · omega
                   refine ih (g + 1) _ w (i + 1) (by omega) g2 (by omega) g4 (Or.inl ?_) (by omega)
                   rcases g5 with ⟨h1, h2, h3⟩ | h
                   · subst h1
                     refine ⟨rfl, by omega, fun j j1 j2 => ?_⟩
                     by_cases q : j = g
                     · rw [q]; omega
                     · exact h3 j j1 (by omega)
                   · exfalso; omega)
                | (have iz : i < olT w := by
                     by_cases h : i = olT w
                     · have := wz (by omega) h; omega
                     · omega
                   refine ih (-1) _ w (i + 1) (by omega) g2 (by omega) g4 (Or.inr ⟨rfl, fun hw => ?_⟩) (by omega)
                   rcases g5 with ⟨h1, h2, h3⟩ | h
                   · have x1 := hw.1
                     have x2 := hw.2 i (by omega) iz
                     subst h1
                     omega
                   · exact h.2 hw)
              · skip
                refine bw_iinc (ls2 := [_, _, _, _]) rfl rfl rfl ⟨by omega, by omega⟩ rfl ?_
                refine bw_goto rfl ?_
                refine bw_iinc (ls2 := [_, _, _, _]) rfl rfl rfl ⟨by omega, by omega⟩ rfl ?_
                refine bw_goto rfl ?_
                refine bw_forget (ls2 := [some (vr (some 1)), some (vi _), some (vi _), none]) ⟨rfl, rfl, rfl, trivial⟩ ?_
                first
                | (have iz : i = olT w := by
                     by_cases h : i < olT w
                     · have := wp (by omega) h; omega
                     · omega
                   have nw : ¬ isW a p (we a n p - p) w := fun hw => by
                     rcases g5 with h | h
                     · have := hw.1; omega
                     · exact h.2 hw
                   refine ih 0 _ (w + 1) 0 (by have := wl (by omega); omega) (by omega) (by by_cases q : w + 1 = 20; exact Or.inr ⟨q, rfl⟩; exact Or.inl ⟨by omega, by omega, by have := own_lenI (w := w + 1) (by omega); omega⟩) (fun v h1 h2 => ?_) (Or.inl ⟨rfl, by omega, fun j h1 h2 => by omega⟩) (by omega)
                   by_cases q : v = w
                   · rw [q]; exact nw
                   · exact g4 v h1 (by omega))
                | (have iz : i < olT w := by
                     by_cases h : i = olT w
                     · have := wz (by omega) h; omega
                     · omega
                   refine ih (g + 1) _ w (i + 1) (by omega) g2 (by omega) g4 (Or.inl ?_) (by omega)
                   rcases g5 with ⟨h1, h2, h3⟩ | h
                   · subst h1
                     refine ⟨rfl, by omega, fun j j1 j2 => ?_⟩
                     by_cases q : j = g
                     · rw [q]; omega
                     · exact h3 j j1 (by omega)
                   · exfalso; omega)
                | (have iz : i < olT w := by
                     by_cases h : i = olT w
                     · have := wz (by omega) h; omega
                     · omega
                   refine ih (-1) _ w (i + 1) (by omega) g2 (by omega) g4 (Or.inr ⟨rfl, fun hw => ?_⟩) (by omega)
                   rcases g5 with ⟨h1, h2, h3⟩ | h
                   · have x1 := hw.1
                     have x2 := hw.2 i (by omega) iz
                     subst h1
                     omega
                   · exact h.2 hw)
        · skip
          refine bw_iload rfl rfl ?_
          refine bw_aload rfl rfl ?_
          refine bw_getI rfl rfl ?_
          refine bw_aload rfl rfl ?_
          refine bw_getI rfl rfl ?_
          refine bw_isub rfl ⟨by omega, by omega⟩ ?_
          refine bw_icne rfl (fun c36 => ?_) (fun c36 => ?_)
          · skip
            refine bw_push rfl ?_
            refine bw_istore (ls2 := [_, _, _, _]) rfl rfl (Nat.le_of_ble_eq_true rfl) rfl ?_
            refine bw_goto rfl ?_
            refine bw_iinc (ls2 := [_, _, _, _]) rfl rfl rfl ⟨by omega, by omega⟩ rfl ?_
            refine bw_goto rfl ?_
            refine bw_forget (ls2 := [some (vr (some 1)), some (vi _), some (vi _), none]) ⟨rfl, rfl, rfl, trivial⟩ ?_
            first
            | (have iz : i = olT w := by
                 by_cases h : i < olT w
                 · have := wp (by omega) h; omega
                 · omega
               have nw : ¬ isW a p (we a n p - p) w := fun hw => by
                 rcases g5 with h | h
                 · have := hw.1; omega
                 · exact h.2 hw
               refine ih 0 _ (w + 1) 0 (by have := wl (by omega); omega) (by omega) (by by_cases q : w + 1 = 20; exact Or.inr ⟨q, rfl⟩; exact Or.inl ⟨by omega, by omega, by have := own_lenI (w := w + 1) (by omega); omega⟩) (fun v h1 h2 => ?_) (Or.inl ⟨rfl, by omega, fun j h1 h2 => by omega⟩) (by omega)
               by_cases q : v = w
               · rw [q]; exact nw
               · exact g4 v h1 (by omega))
            | (have iz : i < olT w := by
                 by_cases h : i = olT w
                 · have := wz (by omega) h; omega
                 · omega
               refine ih (g + 1) _ w (i + 1) (by omega) g2 (by omega) g4 (Or.inl ?_) (by omega)
               rcases g5 with ⟨h1, h2, h3⟩ | h
               · subst h1
                 refine ⟨rfl, by omega, fun j j1 j2 => ?_⟩
                 by_cases q : j = g
                 · rw [q]; omega
                 · exact h3 j j1 (by omega)
               · exfalso; omega)
            | (have iz : i < olT w := by
                 by_cases h : i = olT w
                 · have := wz (by omega) h; omega
                 · omega
               refine ih (-1) _ w (i + 1) (by omega) g2 (by omega) g4 (Or.inr ⟨rfl, fun hw => ?_⟩) (by omega)
               rcases g5 with ⟨h1, h2, h3⟩ | h
               · have x1 := hw.1
                 have x2 := hw.2 i (by omega) iz
                 subst h1
                 omega
               · exact h.2 hw)
          · skip
            refine bw_push rfl ?_
            refine bw_retz rfl rfl (by omega) ?_
            have iz : i = olT w := by
              by_cases h : i < olT w
              · have := wp (by omega) h; omega
              · omega
            rcases g5 with ⟨h1, h2, h3⟩ | h
            · have e : wo a n p = w := ow_eq (Or.inl ⟨⟨by omega, w19⟩, by omega, fun j j1 j2 => h3 j j1 (by omega)⟩)
              exact ⟨rfl, rfl, _, rfl, Or.inl ⟨by omega, rfl⟩⟩
            · exfalso; omega
  show abW d (0, 0) 81 0 [some (vr (some 1)), none, none, none] [] (0, 0) (A0 L) M (qJ (A0 L) M (fun x => (wo a n p ≠ -1 ∧ x = 1 ∨ ¬ wo a n p ≠ -1 ∧ x = 0)))
  refine bw_push rfl ?_
  refine bw_istore (ls2 := [_, _, _, _]) rfl rfl (Nat.le_of_ble_eq_true rfl) rfl ?_
  refine bw_push rfl ?_
  refine bw_istore (ls2 := [_, _, _, _]) rfl rfl (Nat.le_of_ble_eq_true rfl) rfl ?_
  exact L4 96 0 0 0 0 (by decide) (by omega) (Or.inl ⟨by omega, by omega, by decide⟩) (fun v h1 h2 => by omega) (Or.inl ⟨rfl, by omega, fun j h1 h2 => by omega⟩) (by omega)
set_option maxRecDepth 20000 in
set_option maxHeartbeats 4000000 in
theorem c_isName {d L : Nat} {M : abMem} {r : abRf} (hR : RF r M) {a : Int → Int} {n : Int} (hT : TP M a n) {p : Int} (hA : TA M a n p) (hd : 5 ≤ d) : abW d (0, 0) 80 0 (abEnt (abL 80) [vr (some 1)]) [] (0, 0) (A0 L) M (qJ (A0 L) M (fun x => ((1 ≤ we a n p - p ∧ we a n p - p ≤ 6) ∧ wo a n p = -1) ∧ x = 1 ∨ ¬ ((1 ≤ we a n p - p ∧ we a n p - p ≤ 6) ∧ wo a n p = -1) ∧ x = 0)) := by
  have t1 := hT.le
  have t2 := hT.ok.1
  have a1 := hA.1.1
  have a2 := hA.1.2.1
  have a3 := hA.1.2.2
  have a4 := hA.2
  have tc := tk_c hT.ok (p := p) (by omega)
  show abW d (0, 0) 80 0 [some (vr (some 1))] [] (0, 0) (A0 L) M (qJ (A0 L) M (fun x => ((1 ≤ we a n p - p ∧ we a n p - p ≤ 6) ∧ wo a n p = -1) ∧ x = 1 ∨ ¬ ((1 ≤ we a n p - p ∧ we a n p - p ≤ 6) ∧ wo a n p = -1) ∧ x = 0))
  refine bw_aload rfl rfl ?_
  refine bw_getI rfl rfl ?_
  refine bw_push rfl ?_
  refine bw_icne rfl (fun c5 => ?_) (fun c5 => ?_)
  · skip
    refine bw_push rfl ?_
    refine bw_retz rfl rfl (by omega) ?_
    exact ⟨rfl, rfl, _, rfl, by omega⟩
  · skip
    refine bw_aload rfl rfl ?_
    refine bw_getI rfl rfl ?_
    refine bw_aload rfl rfl ?_
    refine bw_getI rfl rfl ?_
    refine bw_isub rfl ⟨by omega, by omega⟩ ?_
    refine bw_push rfl ?_
    refine bw_icgt rfl (fun c19 => ?_) (fun c19 => ?_)
    · skip
      refine bw_push rfl ?_
      refine bw_retz rfl rfl (by omega) ?_
      exact ⟨rfl, rfl, _, rfl, by omega⟩
    · skip
      refine bw_aload rfl rfl ?_
      refine bw_callVj (e := d - 1) (as := []) rfl (by omega) rfl rfl (Nat.le_of_ble_eq_true rfl) (Nat.le_of_ble_eq_true rfl) rfl (c_isOwn hR (by assumption) (by assumption) (by omega) (by omega)) (fun r23 hr23 => ?_)
      refine bw_ifne rfl (fun c26 => ?_) (fun c26 => ?_)
      · skip
        refine bw_push rfl ?_
        refine bw_retz rfl rfl (by omega) ?_
        exact ⟨rfl, rfl, _, rfl, by omega⟩
      · skip
        refine bw_push rfl ?_
        refine bw_goto rfl ?_
        refine bw_retz rfl rfl (by omega) ?_
        exact ⟨rfl, rfl, _, rfl, by omega⟩
set_option maxRecDepth 20000 in
set_option maxHeartbeats 4000000 in
theorem c_number {d L : Nat} {M : abMem} {r : abRf} (hR : RF r M) {a : Int → Int} {n : Int} (hT : TP M a n) {p : Int} (hA : TA M a n p) (hk : 48 ≤ a p ∧ a p ≤ 57) : abW d (0, 0) 82 0 (abEnt (abL 82) [vr (some 1)]) [] (0, 0) (A0 L) M (qE (some (vi (nv a n p))) (A0 L) M) := by
  have t1 := hT.le
  have t2 := hT.ok.1
  have a1 := hA.1.1
  have a2 := hA.1.2.1
  have a3 := hA.1.2.2
  have a4 := hA.2
  have tc := tk_c hT.ok (p := p) (by omega)
  have dd := de_in hT.ok (k := p) (by omega)
  have L7 : ∀ (kf : Nat) (v k : Int), (v = dvF a p (k - p).toNat) → (p ≤ k ∧ k ≤ p + 3 ∧ k ≤ de a n p) → ((0 ≤ v ∧ v ≤ 999) ∧ (k - p ≤ 2 → v ≤ 99)) → ((4 - (k - p)).toNat) < kf → abW d (0, 0) 82 7 [some (vr (some 1)), some (vi v), some (vi k)] [] (0, 0) (A0 L) (M) (qE (some (vi (nv a n p))) (A0 L) M) := by
    intro kf
    induction kf with
    | zero => intro v k  g1 g2 g3 hm9; exact absurd hm9 (Nat.not_lt_zero _)
    | succ kf ih7 =>
      intro v k  g1 g2 g3 hm7
      have ih := ih7
      refine bw_iload rfl rfl ?_
      refine bw_aload rfl rfl ?_
      refine bw_getI rfl rfl ?_
      refine bw_icge rfl (fun c12 => ?_) (fun c12 => ?_)
      · skip
        refine bw_iload rfl rfl ?_
        refine bw_ret rfl rfl ?_
        have e : k - p = min 3 (de a n p - p) := by omega
        exact ⟨by unfold nv; rw [← e, ← g1], rfl, rfl⟩
      · skip
        refine bw_iload rfl rfl ?_
        refine bw_aload rfl rfl ?_
        refine bw_getI rfl rfl ?_
        refine bw_push rfl ?_
        refine bw_iadd rfl ⟨by omega, by omega⟩ ?_
        refine bw_icge rfl (fun c22 => ?_) (fun c22 => ?_)
        · skip
          refine bw_iload rfl rfl ?_
          refine bw_ret rfl rfl ?_
          have e : k - p = min 3 (de a n p - p) := by omega
          exact ⟨by unfold nv; rw [← e, ← g1], rfl, rfl⟩
        · skip
          refine bw_iload rfl rfl ?_
          refine bw_push rfl ?_
          refine bw_imul rfl ⟨by omega, by omega⟩ ?_
          refine bw_aload rfl rfl ?_
          refine bw_getr rfl rfl (hR _ _) ?_
          refine bw_iload rfl rfl ?_
          refine bw_aldb rfl (by first | rfl | assumption) (by decide) (by omega) (by omega) ?_
          rw [hT.by _ (by omega) (by omega)]
          have sx := sg_c (a k)
          have sz := dd.2.2.2 k (by omega) (by omega)
          refine bw_push rfl ?_
          refine bw_isub rfl ⟨by omega, by omega⟩ ?_
          refine bw_iadd rfl ⟨by omega, by omega⟩ ?_
          refine bw_istore (ls2 := [_, _, _]) rfl rfl (Nat.le_of_ble_eq_true rfl) rfl ?_
          refine bw_iinc (ls2 := [_, _, _]) rfl rfl rfl ⟨by omega, by omega⟩ rfl ?_
          refine bw_goto rfl ?_
          have dv := dv_in (a := a) (k := p) (e := k + 1) (fun j h1 h2 => dd.2.2.2 j h1 (by omega)) (by omega)
          have e1 : v * 10 + (sg (a k) - 48) = dvF a p (k + 1 - p).toNat := by
            rw [show k + 1 - p = (k - p) + 1 by omega, dvF_s (by omega), ← g1, show p + (k - p) = k by omega]
            omega
          rw [show min 3 (k + 1 - p) = k + 1 - p by omega, ← e1] at dv
          exact ih _ _ e1 (by omega) (by omega) (by omega)
  show abW d (0, 0) 82 0 [some (vr (some 1)), none, none] [] (0, 0) (A0 L) M (qE (some (vi (nv a n p))) (A0 L) M)
  refine bw_push rfl ?_
  refine bw_istore (ls2 := [_, _, _]) rfl rfl (Nat.le_of_ble_eq_true rfl) rfl ?_
  refine bw_aload rfl rfl ?_
  refine bw_getI rfl rfl ?_
  refine bw_istore (ls2 := [_, _, _]) rfl rfl (Nat.le_of_ble_eq_true rfl) rfl ?_
  rw [a1]
  exact L7 5 0 p (by rw [Int.sub_self]; rfl) (by omega) (by omega) (by omega)
/-- byte k of a number, as the class has it -/
def byC (v k : Int) : Int := xi2b (xushr v (24 - 8 * k))
def lyC (S : Int → Int) (t v n : Int) : Int → Int := fun j => if t ≤ j ∧ j < t + n then byC v (j - t) else S j
theorem lyC_0 {S : Int → Int} {t v : Int} : lyC S t v 0 = S := by
  funext j
  unfold lyC
  rw [if_neg (by omega)]
theorem lyC_s {S : Int → Int} {t v k : Int} (hk : 0 ≤ k) : up (lyC S t v k) (t + k) (byC v k) = lyC S t v (k + 1) := by
  funext j
  unfold up lyC
  by_cases q : j = t + k
  · rw [if_pos q, if_pos (by omega), q]; congr 1; omega
  · rw [if_neg q]
    by_cases q2 : t ≤ j ∧ j < t + k
    · rw [if_pos q2, if_pos (by omega)]
    · rw [if_neg q2, if_neg (by omega)]
theorem xi2b_in (x : Int) : -128 ≤ xi2b x ∧ xi2b x ≤ 127 := by
  unfold xi2b
  rw [Int8.toInt_toInt32]
  have h1 := Int8.le_toInt (Int32.ofInt x).toInt8
  have h2 := Int8.toInt_lt (Int32.ofInt x).toInt8
  have e1 : (-2 : Int) ^ 7 = -128 := by decide
  have e2 : (2 : Int) ^ 7 = 128 := by decide
  omega
abbrev pT2 (a : Nat) : Prop := a = 1 ∨ a = 2
set_option maxRecDepth 20000 in
set_option maxHeartbeats 4000000 in
theorem c_append {d L : Nat} {M : abMem} {r : abRf} (hR : RF r M) {v t : Int} (ht : gI M 1 1 = t ∧ 0 ≤ t ∧ t ≤ 1196) : abW d (0, 0) 73 0 (abEnt (abL 73) [vr (some 1), vi v]) [] (0, 0) (A0 L) M (qV (A0 L) (fun N => sm pT2 M N ∧ gI N 1 1 = t + 4 ∧ gI N 2 = lyC (gI M 2) t v 4 ∧ (∀ j : Int, j ≠ 1 → gI N 1 j = gI M 1 j))) := by
  have hRM := hR
  have L3 : ∀ (kf : Nat) (N : abMem) (c k : Int), (sm pT2 M N) → (gI N 1 1 = t + k) → (gI N 2 = lyC (gI M 2) t v k) → (c = 24 - 8 * k ∧ 0 ≤ k ∧ k ≤ 4) → (∀ j : Int, j ≠ 1 → gI N 1 j = gI M 1 j) → ((4 - k).toNat) < kf → abW d (0, 0) 73 3 [some (vr (some 1)), some (vi v), some (vi c)] [] (0, 0) (A0 L) (N) (qV (A0 L) (fun N => sm pT2 M N ∧ gI N 1 1 = t + 4 ∧ gI N 2 = lyC (gI M 2) t v 4 ∧ (∀ j : Int, j ≠ 1 → gI N 1 j = gI M 1 j))) := by
    intro kf
    induction kf with
    | zero => intro N  c k  g1 g2 g3 g4 g5 hm9; exact absurd hm9 (Nat.not_lt_zero _)
    | succ kf ih3 =>
      intro N  c k  g1 g2 g3 g4 g5 hm3
      have ih := ih3
      have hR := g1.RF hRM
      refine bw_iload rfl rfl ?_
      refine bw_iflt rfl (fun c4 => ?_) (fun c4 => ?_)
      · skip
        refine bw_retv rfl rfl ?_
        obtain rfl : k = 4 := by omega
        exact ⟨rfl, rfl, g1, g2, g3, g5⟩
      · skip
        refine bw_aload rfl rfl ?_
        refine bw_getI rfl rfl ?_
        refine bw_push rfl ?_
        refine bw_icge rfl (fun c14 => ?_) (fun c14 => ?_)
        · first
          | (exfalso; omega)
          | (refine bw_retv rfl rfl ?_
             obtain rfl : k = 4 := by omega
             exact ⟨rfl, rfl, g1, g2, g3, g5⟩)
        · first
          | (exfalso; omega)
          | (refine bw_aload rfl rfl ?_
             refine bw_getr rfl rfl (hR _ _) ?_
             refine bw_aload rfl rfl ?_
             refine bw_getI rfl rfl ?_
             refine bw_iload rfl rfl ?_
             refine bw_iload rfl rfl ?_
             refine bw_iushr rfl ?_
             refine bw_i2b rfl ?_
             refine bw_astb rfl (by first | rfl | assumption) (by omega) (by omega) (xi2b_in _) ?_
             refine bw_aload rfl rfl ?_
             first | refine bw_dup rfl ?_ | refine bw_dupi rfl ?_
             refine bw_getI rfl rfl ?_
             rw [gI_sI_ne (show 1 ≠ 2 by decide)]
             refine bw_push rfl ?_
             refine bw_iadd rfl ⟨by omega, by omega⟩ ?_
             refine bw_putI rfl rfl ?_
             refine bw_iinc (ls2 := [_, _, _]) rfl rfl rfl ⟨by omega, by omega⟩ rfl ?_
             refine bw_goto rfl ?_
             refine ih _ (c + -8) (k + 1) ((g1.sI _ _ (Or.inr rfl)).sI 1 _ (Or.inl rfl)) (by rw [gI_sI_eq]; omega) ?_ (by omega) (fun j hj => by rw [gI_sI_nj hj, gI_sI_ne (by decide)]; exact g5 j hj) (by omega)
             rw [gI_sI_ne (by decide), sI_w, gI_wI_eq, g3, g2, g4.1, show xi2b (xushr v (24 - 8 * k)) = byC v k from rfl, lyC_s (by omega)])
  show abW d (0, 0) 73 0 [some (vr (some 1)), some (vi v), none] [] (0, 0) (A0 L) M (qV (A0 L) (fun N => sm pT2 M N ∧ gI N 1 1 = t + 4 ∧ gI N 2 = lyC (gI M 2) t v 4 ∧ (∀ j : Int, j ≠ 1 → gI N 1 j = gI M 1 j)))
  refine bw_push rfl ?_
  refine bw_istore (ls2 := [_, _, _]) rfl rfl (Nat.le_of_ble_eq_true rfl) rfl ?_
  exact L3 5 M 24 0 (sm_refl _ _) (by omega) (by rw [lyC_0]) (by omega) (fun _ _ => rfl) (by omega)
