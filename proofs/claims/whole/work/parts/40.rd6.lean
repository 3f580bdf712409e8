/-- the holds that the reference has: the first 600 -/
abbrev HR (M : abMem) (h : HH) : Prop := gI M 567 16 = min h.1 600 ∧ 0 ≤ h.1 ∧ (∀ j : Int, 0 ≤ j → j < h.1 → j < 600 → gI M 573 j = h.2.1 j ∧ gI M 574 j = h.2.2 j)
abbrev pH (a : Nat) : Prop := a = 573 ∨ a = 574
abbrev q16 (j : Int) : Prop := j = 16
theorem pH_no {a : Nat} (h : a ≠ 573 ∧ a ≠ 574) : ¬ pH a := fun k => k.elim h.1 h.2
theorem HR_ext {N : abMem} {g k : HH} (h : HR N g) (l : hLe g k) (h6 : 600 ≤ g.1) : HR N k := by
  have := l.1
  refine ⟨by rw [h.1]; omega, by omega, fun j h1 h2 h3 => ?_⟩
  have x := h.2.2 j h1 (by omega) h3
  have y := l.2 j h1 (by omega)
  exact ⟨x.1.trans y.1.symm, x.2.trans y.2.symm⟩
theorem HR_shr {N : abMem} {g k : HH} (h : HR N k) (l : hLe g k) (h6 : 600 ≤ g.1) : HR N g := by
  have := l.1
  refine ⟨by rw [h.1]; omega, by omega, fun j h1 h2 h3 => ?_⟩
  have x := h.2.2 j h1 (by omega) h3
  have y := l.2 j h1 (by omega)
  exact ⟨x.1.trans y.1, x.2.trans y.2⟩
theorem HR.f5 {q : Int → Prop} {M N : abMem} {h : HH} (H : HR M h) (u : s5 pNo q M N) (hq : ¬ q 16) : HR N h := by
  refine ⟨by rw [u.sl 16 hq]; exact H.1, H.2.1, fun j h1 h2 h3 => ?_⟩
  rw [u.at 573 (fun k => k) (by decide), u.at 574 (fun k => k) (by decide)]
  exact H.2.2 j h1 h2 h3
theorem HR_add {M : abMem} {h : HH} {v m : Int} (H : HR M h) (h6 : h.1 < 600) : HR (sI (sI (sI M 573 h.1 v) 574 h.1 m) 567 16 (h.1 + 1)) (hAdd h v m) := by
  have h0 := H.2.1
  refine ⟨by rw [gI_sI_eq]; show h.1 + 1 = min (h.1 + 1) 600; omega, by show 0 ≤ h.1 + 1; omega, fun j h1 h2 h3 => ?_⟩
  have h2 : j < h.1 + 1 := h2
  show gI _ 573 j = up h.2.1 h.1 v j ∧ gI _ 574 j = up h.2.2 h.1 m j
  rw [gI_sI_ne (show 573 ≠ 567 by decide), gI_sI_ne (show 573 ≠ 574 by decide), gI_sI_ne (show 574 ≠ 567 by decide)]
  by_cases q : j = h.1
  · rw [up_eq q, up_eq q, q, gI_sI_eq, gI_sI_eq]; exact ⟨rfl, rfl⟩
  · rw [up_ne q, up_ne q, gI_sI_nj q, gI_sI_nj q, gI_sI_ne (show 574 ≠ 573 by decide)]
    exact H.2.2 j h1 (by omega) h3
theorem hCopy_le (h : HH) (i : Int) : ∀ m k : Nat, k ≤ m → hLe (hCopy h i k) (hCopy h i m) := by
  intro m
  induction m with
  | zero => intro k hk; rw [show k = 0 by omega]; exact hLe_refl _
  | succ m ih =>
    intro k hk
    by_cases q : k = m + 1
    · rw [q]; exact hLe_refl _
    · exact (ih k (by omega)).trans (hLe_add _ _ _)
set_option maxRecDepth 20000 in
set_option maxHeartbeats 4000000 in
theorem m_holdsOne {d L : Nat} {M : abMem} {r : abRf} (hR : RF r M) {h : HH} (H : HR M h) {v m : Int} : abW d (0, 0) 164 0 (abEnt (abL 164) [vr (some 567), vi v, vi m]) [] (0, 0) (A0 L) M (qV (A0 L) (fun N => s5 pH q16 M N ∧ HR N (hAdd h v m))) := by
  have H1 := H.1
  have H2 := H.2.1
  show abW d (0, 0) 164 0 [some (vr (some 567)), some (vi v), some (vi m)] [] (0, 0) (A0 L) M (qV (A0 L) (fun N => s5 pH q16 M N ∧ HR N (hAdd h v m)))
  refine bw_aload rfl rfl ?_
  refine bw_getI rfl rfl ?_
  refine bw_push rfl ?_
  refine bw_iclt rfl (fun c7 => ?_) (fun c7 => ?_)
  · skip
    refine bw_aload rfl rfl ?_
    refine bw_getr rfl rfl (hR _ _) ?_
    refine bw_aload rfl rfl ?_
    refine bw_getI rfl rfl ?_
    refine bw_iload rfl rfl ?_
    refine bw_asti rfl (by first | rfl | assumption) (by omega) (by omega) ?_
    refine bw_aload rfl rfl ?_
    refine bw_getr rfl rfl (hR _ _) ?_
    refine bw_aload rfl rfl ?_
    refine bw_getI rfl rfl ?_
    rw [gI_sI_ne (show 567 ≠ 573 by decide)]
    refine bw_iload rfl rfl ?_
    refine bw_asti rfl (by first | rfl | assumption) (by omega) (by omega) ?_
    refine bw_aload rfl rfl ?_
    first | refine bw_dup rfl ?_ | refine bw_dupi rfl ?_
    refine bw_getI rfl rfl ?_
    rw [gI_sI_ne (show 567 ≠ 574 by decide), gI_sI_ne (show 567 ≠ 573 by decide)]
    refine bw_push rfl ?_
    refine bw_iadd rfl ⟨by omega, by omega⟩ ?_
    refine bw_putI rfl rfl ?_
    refine bw_retv rfl rfl ?_
    rw [show gI M 567 16 = h.1 by omega]
    exact ⟨rfl, rfl, (((s5_refl _ _ _).wr _ _ (Or.inl rfl) (by decide)).wr _ _ (Or.inr rfl) (by decide)).sI7 16 _ rfl, HR_add H (by omega)⟩
  · skip
    refine bw_retv rfl rfl ?_
    exact ⟨rfl, rfl, s5_refl _ _ _, HR_ext H (hLe_add _ _ _) (by omega)⟩
set_option maxRecDepth 20000 in
set_option maxHeartbeats 4000000 in
theorem m_again {d L : Nat} {M : abMem} {r : abRf} (hR : RF r M) {h : HH} (H : HR M h) {f t : Int} (hf : 0 ≤ f ∧ f ≤ t ∧ t ≤ h.1) (hd : 1 ≤ d) : abW d (0, 0) 165 0 (abEnt (abL 165) [vr (some 567), vi (min f 600), vi (min t 600)]) [] (0, 0) (A0 L) M (qV (A0 L) (fun N => s5 pH q16 M N ∧ HR N (hCopy h f (t - f).toNat))) := by
  have H1 := H.1
  have H2 := H.2.1
  have L2 : ∀ (kf : Nat) (N : abMem) (k : Int), (s5 pH q16 M N) → (HR N (hCopy h f (k - min f 600).toNat)) → (min f 600 ≤ k ∧ k ≤ min t 600) → ((min t 600 - k).toNat) < kf → abW d (0, 0) 165 2 [some (vr (some 567)), some (vi (min f 600)), some (vi (min t 600)), some (vi k)] [] (0, 0) (A0 L) (N) (qV (A0 L) (fun N => s5 pH q16 M N ∧ HR N (hCopy h f (t - f).toNat))) := by
    intro kf
    induction kf with
    | zero => intro N  k  g1 g2 g3 hm9; exact absurd hm9 (Nat.not_lt_zero _)
    | succ kf ih2 =>
      intro N  k  g1 g2 g3 hm2
      have ih := ih2
      have hR := g1.RF hR
      have lc := hLe_copy h f (k - min f 600).toNat
      refine bw_iload rfl rfl ?_
      refine bw_iload rfl rfl ?_
      refine bw_icge rfl (fun c4 => ?_) (fun c4 => ?_)
      · skip
        refine bw_retv rfl rfl ?_
        obtain rfl : k = min t 600 := by omega
        refine ⟨rfl, rfl, g1, ?_⟩
        by_cases q : t ≤ 600
        · rw [show (t - f).toNat = (min t 600 - min f 600).toNat by omega]; exact g2
        · exact HR_ext g2 (hCopy_le _ _ _ _ (by omega)) (by omega)
      · skip
        refine bw_aload rfl rfl ?_
        refine bw_aload rfl rfl ?_
        refine bw_getr rfl rfl (hR _ _) ?_
        refine bw_iload rfl rfl ?_
        refine bw_aldi rfl (by first | rfl | assumption) (by omega) (by omega) ?_
        refine bw_aload rfl rfl ?_
        refine bw_getr rfl rfl (hR _ _) ?_
        refine bw_iload rfl rfl ?_
        refine bw_aldi rfl (by first | rfl | assumption) (by omega) (by omega) ?_
        refine bw_callVv (e := d - 1) (as := [_, _]) rfl (by omega) rfl rfl (Nat.le_of_ble_eq_true rfl) (Nat.le_of_ble_eq_true rfl) rfl (m_holdsOne hR g2) (fun M20 hM20 => ?_)
        refine bw_iinc (ls2 := [_, _, _, _]) rfl rfl rfl ⟨by omega, by omega⟩ rfl ?_
        refine bw_goto rfl ?_
        have e1 := g2.2.2 k (by omega) (by omega) (by omega)
        refine ih _ _ (g1.trans hM20.1) ?_ (by omega) (by omega)
        rw [show k + 1 - min f 600 = (k - min f 600) + 1 by omega, hCopy_s (by omega), show f + (k - min f 600) = k by omega, ← e1.1, ← e1.2]
        exact hM20.2
  show abW d (0, 0) 165 0 [some (vr (some 567)), some (vi (min f 600)), some (vi (min t 600)), none] [] (0, 0) (A0 L) M (qV (A0 L) (fun N => s5 pH q16 M N ∧ HR N (hCopy h f (t - f).toNat)))
  refine bw_iload rfl rfl ?_
  refine bw_istore (ls2 := [_, _, _, _]) rfl rfl (Nat.le_of_ble_eq_true rfl) rfl ?_
  exact L2 ((min t 600 - min f 600).toNat + 1) M _ (s5_refl _ _ _) (by rw [Int.sub_self]; exact H) (by omega) (by omega)
/-- the swing so far: k is next -/
def swG (h : HH) (k : Int) : HH := if h.1 ≤ 600 then hBack h (h.1 - 2) (h.1 - 2 - k).toNat else h
theorem swG_le (h : HH) (k : Int) : hLe h (swG h k) := by
  unfold swG
  by_cases q : h.1 ≤ 600
  · rw [if_pos q]; exact (hLe_back _ _ _).1
  · rw [if_neg q]; exact hLe_refl _
theorem swG_s {N K : abMem} {h : HH} {k : Int} (hk : 0 ≤ k ∧ k ≤ min h.1 600 - 2) (g : HR N (swG h k)) (u : HR K (hAdd (swG h k) (gI N 573 k) (gI N 574 k))) : HR K (swG h (k - 1)) := by
  unfold swG at g u ⊢
  by_cases q : h.1 ≤ 600
  · rw [if_pos q] at g u ⊢
    have b := (hLe_back h (h.1 - 2) (h.1 - 2 - k).toNat).2
    have e := g.2.2 k (by omega) (by omega) (by omega)
    rw [e.1, e.2] at u
    rw [show h.1 - 2 - (k - 1) = (h.1 - 2 - k) + 1 by omega, hBack_s (by omega), show h.1 - 2 - (h.1 - 2 - k) = k by omega]
    exact u
  · rw [if_neg q] at g u ⊢
    exact HR_shr u (hLe_add _ _ _) (by omega)
theorem swG_e {N : abMem} {h : HH} {k f w : Int} (hw : w ≠ 0) (g : HR N (swG h k)) (h1 : h.1 ≤ 600 → (h.1 - 2 - k).toNat = (h.1 - 2 - f).toNat) : HR N (hSw h f w) := by
  unfold hSw
  rw [if_pos hw]
  unfold swG at g
  by_cases q : h.1 ≤ 600
  · rw [if_pos q, h1 q] at g; exact g
  · rw [if_neg q] at g; exact HR_ext g (hLe_back _ _ _).1 (by omega)
set_option maxRecDepth 20000 in
set_option maxHeartbeats 4000000 in
theorem m_closes {d L : Nat} {M : abMem} {r : abRf} (hR : RF r M) {h : HH} (H : HR M h) {f w t : Int} (hf : 0 ≤ f ∧ f ≤ h.1) (ht : 1 ≤ t ∧ t ≤ 96) (hd : 2 ≤ d) : abW d (0, 0) 166 0 (abEnt (abL 166) [vr (some 567), vi (min f 600), vi w, vi t]) [] (0, 0) (A0 L) M (qV (A0 L) (fun N => s5 pH q16 M N ∧ HR N (hClose h f w t))) := by
  have H1 := H.1
  have H2 := H.2.1
  have L55 : ∀ (kf : Nat) (N : abMem) (n : Int), (s5 pH q16 M N) → (HR N (hRep (hSw h f w) f (hSw h f w).1 (n - 1).toNat)) → (1 ≤ n ∧ n ≤ t) → ((t - n).toNat) < kf → abW d (0, 0) 166 55 [some (vr (some 567)), some (vi (min f 600)), some (vi w), some (vi t), none, some (vi (min (hSw h f w).1 600)), some (vi n)] [] (0, 0) (A0 L) (N) (qV (A0 L) (fun N => s5 pH q16 M N ∧ HR N (hClose h f w t))) := by
    intro kf
    induction kf with
    | zero => intro N  n  g1 g2 g3 hm9; exact absurd hm9 (Nat.not_lt_zero _)
    | succ kf ih55 =>
      intro N  n  g1 g2 g3 hm55
      have ih := ih55
      have hR := g1.RF hR
      have lc := (hLe_rep (hSw h f w) f (hSw h f w).1 (n - 1).toNat).1
      have ls := (hLe_sw h f w).1
      refine bw_iload rfl rfl ?_
      refine bw_iload rfl rfl ?_
      refine bw_icge rfl (fun c58 => ?_) (fun c58 => ?_)
      · skip
        refine bw_retv rfl rfl ?_
        obtain rfl : n = t := by omega
        exact ⟨rfl, rfl, g1, g2⟩
      · skip
        refine bw_aload rfl rfl ?_
        refine bw_iload rfl rfl ?_
        refine bw_iload rfl rfl ?_
        refine bw_callVv (e := d - 1) (as := [_, _]) rfl (by omega) rfl rfl (Nat.le_of_ble_eq_true rfl) (Nat.le_of_ble_eq_true rfl) rfl (m_again hR g2 (by omega) (by omega)) (fun M65 hM65 => ?_)
        refine bw_iinc (ls2 := [_, _, _, _, _, _, _]) rfl rfl rfl ⟨by omega, by omega⟩ rfl ?_
        refine bw_goto rfl ?_
        refine ih _ _ (g1.trans hM65.1) ?_ (by omega) (by omega)
        rw [show n + 1 - 1 = (n - 1) + 1 by omega, hRep_s (by omega)]
        exact hM65.2
  have L16 : ∀ (kf : Nat) (N : abMem) (k : Int), (s5 pH q16 M N) → (HR N (swG h k)) → (k ≤ min h.1 600 - 2 ∧ (min f 600 ≤ k ∨ k = min h.1 600 - 2)) → (w ≠ 0) → ((k + 10).toNat) < kf → abW d (0, 0) 166 16 [some (vr (some 567)), some (vi (min f 600)), some (vi w), some (vi t), some (vi (min h.1 600)), some (vi k), none] [] (0, 0) (A0 L) (N) (qV (A0 L) (fun N => s5 pH q16 M N ∧ HR N (hClose h f w t))) := by
    intro kf
    induction kf with
    | zero => intro N  k  g1 g2 g3 g4 hm9; exact absurd hm9 (Nat.not_lt_zero _)
    | succ kf ih16 =>
      intro N  k  g1 g2 g3 g4 hm16
      have ih := ih16
      have hR := g1.RF hR
      have lc := (swG_le h k).1
      refine bw_iload rfl rfl ?_
      refine bw_iload rfl rfl ?_
      refine bw_icle rfl (fun c19 => ?_) (fun c19 => ?_)
      · skip
        refine bw_aload rfl rfl ?_
        refine bw_getI rfl rfl ?_
        refine bw_istore (ls2 := [_, _, _, _, _, _, _]) rfl rfl (Nat.le_of_ble_eq_true rfl) rfl ?_
        refine bw_push rfl ?_
        refine bw_istore (ls2 := [_, _, _, _, _, _, _]) rfl rfl (Nat.le_of_ble_eq_true rfl) rfl ?_
        refine bw_forget (ls2 := [some (vr (some 567)), some (vi _), some (vi _), some (vi _), none, some (vi _), some (vi _)]) ⟨rfl, rfl, rfl, rfl, rfl, rfl, trivial⟩ ?_
        have hw := swG_e (f := f) g4 g2 (fun _ => by omega)
        rw [hw.1]
        exact L55 98 N 1 g1 hw (by omega) (by omega)
      · skip
        refine bw_aload rfl rfl ?_
        refine bw_aload rfl rfl ?_
        refine bw_getr rfl rfl (hR _ _) ?_
        refine bw_iload rfl rfl ?_
        refine bw_aldi rfl (by first | rfl | assumption) (by omega) (by omega) ?_
        refine bw_aload rfl rfl ?_
        refine bw_getr rfl rfl (hR _ _) ?_
        refine bw_iload rfl rfl ?_
        refine bw_aldi rfl (by first | rfl | assumption) (by omega) (by omega) ?_
        refine bw_callVv (e := d - 1) (as := [_, _]) rfl (by omega) rfl rfl (Nat.le_of_ble_eq_true rfl) (Nat.le_of_ble_eq_true rfl) rfl (m_holdsOne hR g2) (fun M37 hM37 => ?_)
        refine bw_iinc (ls2 := [_, _, _, _, _, _, _]) rfl rfl rfl ⟨by omega, by omega⟩ rfl ?_
        refine bw_goto rfl ?_
        exact ih _ _ (g1.trans hM37.1) (swG_s (by omega) g2 hM37.2) (by omega) g4 (by omega)
  show abW d (0, 0) 166 0 [some (vr (some 567)), some (vi (min f 600)), some (vi w), some (vi t), none, none, none] [] (0, 0) (A0 L) M (qV (A0 L) (fun N => s5 pH q16 M N ∧ HR N (hClose h f w t)))
  refine bw_aload rfl rfl ?_
  refine bw_getI rfl rfl ?_
  rw [H1]
  refine bw_istore (ls2 := [_, _, _, _, _, _, _]) rfl rfl (Nat.le_of_ble_eq_true rfl) rfl ?_
  refine bw_iload rfl rfl ?_
  refine bw_ifeq rfl (fun c7 => ?_) (fun c7 => ?_)
  · skip
    refine bw_aload rfl rfl ?_
    refine bw_getI rfl rfl ?_
    refine bw_istore (ls2 := [_, _, _, _, _, _, _]) rfl rfl (Nat.le_of_ble_eq_true rfl) rfl ?_
    refine bw_push rfl ?_
    refine bw_istore (ls2 := [_, _, _, _, _, _, _]) rfl rfl (Nat.le_of_ble_eq_true rfl) rfl ?_
    refine bw_forget (ls2 := [some (vr (some 567)), some (vi _), some (vi _), some (vi _), none, some (vi _), some (vi _)]) ⟨rfl, rfl, rfl, rfl, rfl, rfl, trivial⟩ ?_
    have hw : HR M (hSw h f w) := by unfold hSw; rw [if_neg (by omega)]; exact H
    rw [hw.1]
    exact L55 98 M 1 (s5_refl _ _ _) hw (by omega) (by omega)
  · skip
    refine bw_iload rfl rfl ?_
    refine bw_push rfl ?_
    refine bw_isub rfl ⟨by omega, by omega⟩ ?_
    refine bw_istore (ls2 := [_, _, _, _, _, _, _]) rfl rfl (Nat.le_of_ble_eq_true rfl) rfl ?_
    exact L16 ((min h.1 600 - 2 + 10).toNat + 1) M _ (s5_refl _ _ _) (by unfold swG; by_cases q : h.1 ≤ 600 <;> simp only [q, if_true, if_false]; rw [show (h.1 - 2 - (min h.1 600 - 2)).toNat = 0 by omega]; all_goals exact H) (by omega) (by omega) (by omega)
