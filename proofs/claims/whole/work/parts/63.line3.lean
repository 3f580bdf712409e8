/-- the first f frames of the row are by the holds -/
def lyO (N : abMem) (o : Nat) (h : HH) (f : Int) : Prop := ∀ j : Int, 0 ≤ j → j < f → ∃ i : Int, isIx h j i ∧ gI N o j = h.2.1 i
theorem lyO_s {N : abMem} {o : Nat} {h : HH} {f k i : Int} (H : lyO N o h f) (h0 : 0 ≤ f) (hk : 0 ≤ k ∧ k < h.1) (e : f = tS h k + i) (hi : 0 ≤ i ∧ i < h.2.2 k) : lyO (sI N o f (h.2.1 k)) o h (f + 1) := fun j j0 j1 => by
  by_cases q : j = f
  · refine ⟨k, ⟨hk, ?_⟩, by rw [q, gI_sI_eq]⟩
    rw [tS_s h hk.1]; omega
  · obtain ⟨x, x1, x2⟩ := H j j0 (by omega)
    exact ⟨x, x1, by rw [gI_sI_nj q]; exact x2⟩
theorem rowIs_lt {h : HH} {e f v : Int} (H : ∃ i : Int, isIx h f i ∧ v = h.2.1 i) (hv : HV h) : rowIs h e f v := by
  obtain ⟨i, i1, i2⟩ := H
  have := tS_lt hv (i := i + 1) (j := h.1) (by have := i1.1; omega) (by have := i1.1; omega) (Int.le_refl _)
  exact Or.inl ⟨i, f, Or.inl ⟨by have := i1.2; have := i1.1; omega, rfl⟩, i1, i2⟩
theorem rowIs_1 {h : HH} {f v : Int} (ht : 1 ≤ tS h h.1) (hf : tS h h.1 ≤ f) (H : rowIs h 1 (f - tS h h.1) v) : rowIs h 1 f v := by
  rcases H with ⟨i, x, h1, h2, h3⟩ | ⟨_, h2, _⟩ | ⟨_, h2, _⟩
  · refine Or.inl ⟨i, x, Or.inr ⟨rfl, hf, ?_⟩, h2, h3⟩
    have e : (f - tS h h.1) % tS h h.1 = f % tS h h.1 := by
      rw [← Int.add_emod_right (f - tS h h.1), show f - tS h h.1 + tS h h.1 = f by omega]
    rcases h1 with ⟨a, b⟩ | ⟨_, a, b⟩
    · rw [← e, Int.emod_eq_of_lt (by omega) a]; exact b
    · rw [← e]; exact b
  · omega
  · omega
theorem rowIs_0 {h : HH} {f v : Int} (hv : HV h) (h1 : 1 ≤ h.1) (hf : tS h h.1 ≤ f) (H : rowIs h 0 (f - 1) v) : rowIs h 0 f v := by
  rcases H with ⟨i, x, a, h2, h3⟩ | ⟨a, _, h3⟩ | ⟨_, h2, _⟩
  · rcases a with ⟨a, b⟩ | ⟨a, _⟩
    · refine Or.inr (Or.inl ⟨hf, rfl, ?_⟩)
      have e := tS_s h (i := h.1 - 1) (by omega)
      rw [show h.1 - 1 + 1 = h.1 by omega] at e
      have t := (hv.2 (h.1 - 1) (by omega) (by omega)).2
      have q : isIx h x (h.1 - 1) := ⟨by omega, by rw [show h.1 - 1 + 1 = h.1 by omega]; omega⟩
      rw [h3, isIx_eq hv h2 q]
    · omega
  · exact Or.inr (Or.inl ⟨hf, rfl, h3⟩)
  · omega
set_option maxRecDepth 20000 in
set_option maxHeartbeats 4000000 in
theorem c_layOn {d L : Nat} {M : abMem} {r : abRf} (hR : RF r M) {o : Nat} (hk : (A0 L).2 o = (20, 96)) (ho : o ≠ 4 ∧ o ≠ 5 ∧ o ≠ 6) {fr : Int} {h : HH} (hC : CR M fr h) : abW d (0, 0) 24 0 (abEnt (abL 24) [vr (some 4), vr (some o)]) [] (0, 0) (A0 L) M (qI (A0 L) (fun x N => sm (fun c => c = o) M N ∧ x = min (tS h (gI M 4 6)) fr ∧ lyO N o h x)) := by
  have ci := CR_in hC
  have c1 := hC.2.1
  have c2 := hC.2.2.1
  have hRM := hR
  have L4 : ∀ (kf : Nat) (N : abMem) (f k : Int), (sm (fun c => c = o) M N) → (f = min (tS h k) fr) → (0 ≤ k ∧ k ≤ gI M 4 6) → (lyO N o h f) → ((gI M 4 6 - k).toNat) < kf → abW d (0, 0) 24 4 [some (vr (some 4)), some (vr (some o)), some (vi f), some (vi k), none] [] (0, 0) (A0 L) (N) (qI (A0 L) (fun x N => sm (fun c => c = o) M N ∧ x = min (tS h (gI M 4 6)) fr ∧ lyO N o h x)) := by
    intro kf
    induction kf with
    | zero => intro N  f k  g1 g2 g3 g4 hm9; exact absurd hm9 (Nat.not_lt_zero _)
    | succ kf ih4 =>
      intro N  f k  g1 g2 g3 g4 hm4
      have ih := ih4
      have hR := g1.RF hRM
      have e4 : gI N 4 = gI M 4 := g1.at 4 (fun e => ho.1 e.symm)
      have tk := tS_ge hC.1 (i := k) (by omega) (by omega)
      have ts := tS_s h (i := k) (by omega)
      have L15 : ∀ (kf : Nat) (K : abMem) (f i : Int), (sm (fun c => c = o) M K) → (f = min (tS h k + i) fr) → (0 ≤ i ∧ i ≤ h.2.2 k ∧ k < gI M 4 6) → (lyO K o h f) → (1 ≤ h.2.2 k ∧ h.2.2 k ≤ 96) → ((97 - i).toNat) < kf → abW d (0, 0) 24 15 [some (vr (some 4)), some (vr (some o)), some (vi f), some (vi k), some (vi i)] [] (0, 0) (A0 L) (K) (qI (A0 L) (fun x N => sm (fun c => c = o) M N ∧ x = min (tS h (gI M 4 6)) fr ∧ lyO N o h x)) := by
        intro kf
        induction kf with
        | zero => intro K  f i  k1 k2 k3 k4 k5 hm9; exact absurd hm9 (Nat.not_lt_zero _)
        | succ kf ih15 =>
          intro K  f i  k1 k2 k3 k4 k5 hm15
          have ih := ih15
          have hR := k1.RF hRM
          have e4 : gI K 4 = gI M 4 := k1.at 4 (fun e => ho.1 e.symm)
          have cv := CR_val hC (i := k) (by omega) (by omega)
          refine bw_iload rfl rfl ?_
          refine bw_aload rfl rfl ?_
          refine bw_getr rfl rfl (hR _ _) ?_
          refine bw_iload rfl rfl ?_
          refine bw_aldi rfl (by first | rfl | assumption) (by omega) (by omega) ?_
          rw [show gI K 6 = gI M 6 from k1.at 6 (fun e => ho.2.2 e.symm), cv.1.2]
          refine bw_icge rfl (fun c23 => ?_) (fun c23 => ?_)
          · skip
            refine bw_iinc (ls2 := [_, _, _, _, _]) rfl rfl rfl ⟨by omega, by omega⟩ rfl ?_
            refine bw_goto rfl ?_
            refine bw_forget (ls2 := [some (vr (some 4)), some (vr (some o)), some (vi _), some (vi _), none]) ⟨rfl, rfl, rfl, rfl, trivial⟩ ?_
            exact ih4 K f (k + 1) k1 (by rw [ts]; omega) (by omega) k4 (by omega)
          · skip
            refine bw_iload rfl rfl ?_
            refine bw_aload rfl rfl ?_
            refine bw_getI rfl rfl ?_
            rw [e4, c1.2.2]
            refine bw_icge rfl (fun c31 => ?_) (fun c31 => ?_)
            · skip
              refine bw_iinc (ls2 := [_, _, _, _, _]) rfl rfl rfl ⟨by omega, by omega⟩ rfl ?_
              refine bw_goto rfl ?_
              refine bw_forget (ls2 := [some (vr (some 4)), some (vr (some o)), some (vi _), some (vi _), none]) ⟨rfl, rfl, rfl, rfl, trivial⟩ ?_
              exact ih4 K f (k + 1) k1 (by rw [ts]; omega) (by omega) k4 (by omega)
            · skip
              refine bw_aload rfl rfl ?_
              refine bw_iload rfl rfl ?_
              refine bw_aload rfl rfl ?_
              refine bw_getr rfl rfl (hR _ _) ?_
              refine bw_iload rfl rfl ?_
              refine bw_aldi rfl (by first | rfl | assumption) (by omega) (by omega) ?_
              rw [show gI K 5 = gI M 5 from k1.at 5 (fun e => ho.2.1 e.symm), cv.1.1]
              refine bw_asti rfl hk (by omega) (by omega) ?_
              refine bw_iinc (ls2 := [_, _, _, _, _]) rfl rfl rfl ⟨by omega, by omega⟩ rfl ?_
              refine bw_iinc (ls2 := [_, _, _, _, _]) rfl rfl rfl ⟨by omega, by omega⟩ rfl ?_
              refine bw_goto rfl ?_
              exact ih _ (f + 1) (i + 1) (k1.sI _ _ rfl) (by omega) (by omega) (lyO_s (i := i) k4 (by omega) (by omega) (by omega) (by omega)) k5 (by omega)
      refine bw_iload rfl rfl ?_
      refine bw_aload rfl rfl ?_
      refine bw_getI rfl rfl ?_
      rw [e4]
      refine bw_icge rfl (fun c9 => ?_) (fun c9 => ?_)
      · skip
        refine bw_iload rfl rfl ?_
        refine bw_ret rfl rfl ?_
        obtain rfl : k = gI M 4 6 := by omega
        exact ⟨rfl, _, rfl, g1, g2, g4⟩
      · skip
        refine bw_push rfl ?_
        refine bw_istore (ls2 := [_, _, _, _, _]) rfl rfl (Nat.le_of_ble_eq_true rfl) rfl ?_
        have tv := (hC.1.2 k (by omega) (by omega)).2
        exact L15 98 N f 0 g1 (by omega) (by omega) g4 tv (by omega)
  show abW d (0, 0) 24 0 [some (vr (some 4)), some (vr (some o)), none, none, none] [] (0, 0) (A0 L) M (qI (A0 L) (fun x N => sm (fun c => c = o) M N ∧ x = min (tS h (gI M 4 6)) fr ∧ lyO N o h x))
  refine bw_push rfl ?_
  refine bw_istore (ls2 := [_, _, _, _, _]) rfl rfl (Nat.le_of_ble_eq_true rfl) rfl ?_
  refine bw_push rfl ?_
  refine bw_istore (ls2 := [_, _, _, _, _]) rfl rfl (Nat.le_of_ble_eq_true rfl) rfl ?_
  exact L4 ((gI M 4 6).toNat + 1) M 0 0 (sm_refl _ _) (by rw [tS_0]; omega) (by omega) (fun j j0 j1 => by omega) (by omega)
set_option maxRecDepth 20000 in
set_option maxHeartbeats 4000000 in
theorem c_fillBehind {d L : Nat} {M : abMem} {r : abRf} (hR : RF r M) {s : Nat} (hs : s = 372 ∨ s = 459) {o : Nat} (hk : (A0 L).2 o = (20, 96)) (ho : o ≠ s) {fr x e : Int} {h : HH} (hV : HV h) (h1 : 1 ≤ h.1) (hf : gI M s 0 = fr ∧ 1 ≤ fr ∧ fr ≤ 96) (hx : x = min (tS h h.1) fr) (he : e = 0 ∨ e = 1 ∨ e = 2) (hy : lyO M o h x) (hd : 1 ≤ d) : abW d (0, 0) 64 0 (abEnt (abL 64) [vr (some s), vr (some o), vi x, vi e]) [] (0, 0) (A0 L) M (qV (A0 L) (fun N => sm (fun c => c = o) M N ∧ ∀ f : Int, 0 ≤ f → f < fr → rowIs h e f (gI N o f))) := by
  rcases hs with rfl | rfl
  · have hRM := hR
    have t1 := tS_ge hV (i := h.1) (by omega) (Int.le_refl _)
    have L7 : ∀ (kf : Nat) (N : abMem) (f : Int), (sm (fun c => c = o) M N) → (x ≤ f ∧ f ≤ fr) → (∀ j : Int, 0 ≤ j → j < f → rowIs h e j (gI N o j)) → ((fr - f).toNat) < kf → abW d (0, 0) 64 7 [some (vr (some 372)), some (vr (some o)), some (vi x), some (vi e), some (vi f), none] [] (0, 0) (A0 L) (N) (qV (A0 L) (fun N => sm (fun c => c = o) M N ∧ ∀ f : Int, 0 ≤ f → f < fr → rowIs h e f (gI N o f))) := by
      intro kf
      induction kf with
      | zero => intro N  f  g1 g2 g3 hm9; exact absurd hm9 (Nat.not_lt_zero _)
      | succ kf ih7 =>
        intro N  f  g1 g2 g3 hm7
        have ih := ih7
        have hR := g1.RF hRM
        have e4 : gI N 372 0 = fr := by rw [show gI N 372 = gI M 372 from g1.at 372 (fun e => ho e.symm)]; exact hf.1
        refine bw_iload rfl rfl ?_
        refine bw_aload rfl rfl ?_
        refine bw_getI rfl rfl ?_
        rw [e4]
        refine bw_icge rfl (fun c13 => ?_) (fun c13 => ?_)
        · skip
          refine bw_retv rfl rfl ?_
          obtain rfl : f = fr := by omega
          exact ⟨rfl, rfl, g1, g3⟩
        · skip
          refine bw_iload rfl rfl ?_
          refine bw_push rfl ?_
          refine bw_icne rfl (fun c18 => ?_) (fun c18 => ?_)
          · skip
            refine bw_iload rfl rfl ?_
            refine bw_push rfl ?_
            refine bw_icne rfl (fun c31 => ?_) (fun c31 => ?_)
            · skip
              refine bw_push rfl ?_
              refine bw_istore (ls2 := [_, _, _, _, _, _]) rfl rfl (Nat.le_of_ble_eq_true rfl) rfl ?_
              refine bw_aload rfl rfl ?_
              refine bw_iload rfl rfl ?_
              refine bw_aload rfl rfl ?_
              refine bw_iload rfl rfl ?_
              refine bw_iload rfl rfl ?_
              refine bw_isub rfl ⟨by omega, by omega⟩ ?_
              refine bw_push rfl ?_
              refine bw_max rfl (by omega) (Nat.le_of_ble_eq_true rfl) (by decide) (by decide) ?_
              refine bw_aldi rfl hk (by omega) (by omega) ?_
              refine bw_asti rfl hk (by omega) (by omega) ?_
              refine bw_iinc (ls2 := [_, _, _, _, _, _]) rfl rfl rfl ⟨by omega, by omega⟩ rfl ?_
              refine bw_goto rfl ?_
              refine bw_forget (ls2 := [some (vr (some 372)), some (vr (some o)), some (vi _), some (vi _), some (vi _), none]) ⟨rfl, rfl, rfl, rfl, rfl, trivial⟩ ?_
              refine ih _ (f + 1) (g1.sI _ _ rfl) (by omega) (fun j j0 j1 => ?_) (by omega)
              by_cases q : j = f
              · rw [q, gI_sI_eq]
                first
                | (obtain rfl : e = 2 := by omega
                   exact Or.inr (Or.inr ⟨by omega, rfl, rfl⟩))
                | (obtain rfl : e = 1 := by omega
                   have g := g3 (f - tS h h.1) (by omega) (by omega)
                   rw [show max (f - x) 0 = f - tS h h.1 by omega]
                   exact rowIs_1 (by omega) (by omega) g)
                | (obtain rfl : e = 0 := by omega
                   have g := g3 (f - 1) (by omega) (by omega)
                   rw [show max (f - 1) 0 = f - 1 by omega]
                   exact rowIs_0 hV h1 (by omega) g)
              · rw [gI_sI_nj q]; exact g3 j j0 (by omega)
            · skip
              refine bw_iload rfl rfl ?_
              refine bw_goto rfl ?_
              refine bw_istore (ls2 := [_, _, _, _, _, _]) rfl rfl (Nat.le_of_ble_eq_true rfl) rfl ?_
              refine bw_aload rfl rfl ?_
              refine bw_iload rfl rfl ?_
              refine bw_aload rfl rfl ?_
              refine bw_iload rfl rfl ?_
              refine bw_iload rfl rfl ?_
              refine bw_isub rfl ⟨by omega, by omega⟩ ?_
              refine bw_push rfl ?_
              refine bw_max rfl (by omega) (Nat.le_of_ble_eq_true rfl) (by decide) (by decide) ?_
              refine bw_aldi rfl hk (by omega) (by omega) ?_
              refine bw_asti rfl hk (by omega) (by omega) ?_
              refine bw_iinc (ls2 := [_, _, _, _, _, _]) rfl rfl rfl ⟨by omega, by omega⟩ rfl ?_
              refine bw_goto rfl ?_
              refine bw_forget (ls2 := [some (vr (some 372)), some (vr (some o)), some (vi _), some (vi _), some (vi _), none]) ⟨rfl, rfl, rfl, rfl, rfl, trivial⟩ ?_
              refine ih _ (f + 1) (g1.sI _ _ rfl) (by omega) (fun j j0 j1 => ?_) (by omega)
              by_cases q : j = f
              · rw [q, gI_sI_eq]
                first
                | (obtain rfl : e = 2 := by omega
                   exact Or.inr (Or.inr ⟨by omega, rfl, rfl⟩))
                | (obtain rfl : e = 1 := by omega
                   have g := g3 (f - tS h h.1) (by omega) (by omega)
                   rw [show max (f - x) 0 = f - tS h h.1 by omega]
                   exact rowIs_1 (by omega) (by omega) g)
                | (obtain rfl : e = 0 := by omega
                   have g := g3 (f - 1) (by omega) (by omega)
                   rw [show max (f - 1) 0 = f - 1 by omega]
                   exact rowIs_0 hV h1 (by omega) g)
              · rw [gI_sI_nj q]; exact g3 j j0 (by omega)
          · skip
            refine bw_aload rfl rfl ?_
            refine bw_iload rfl rfl ?_
            refine bw_push rfl ?_
            refine bw_asti rfl hk (by omega) (by omega) ?_
            refine bw_goto rfl ?_
            refine bw_iinc (ls2 := [_, _, _, _, _, _]) rfl rfl rfl ⟨by omega, by omega⟩ rfl ?_
            refine bw_goto rfl ?_
            refine bw_forget (ls2 := [some (vr (some 372)), some (vr (some o)), some (vi _), some (vi _), some (vi _), none]) ⟨rfl, rfl, rfl, rfl, rfl, trivial⟩ ?_
            refine ih _ (f + 1) (g1.sI _ _ rfl) (by omega) (fun j j0 j1 => ?_) (by omega)
            by_cases q : j = f
            · rw [q, gI_sI_eq]
              first
              | (obtain rfl : e = 2 := by omega
                 exact Or.inr (Or.inr ⟨by omega, rfl, rfl⟩))
              | (obtain rfl : e = 1 := by omega
                 have g := g3 (f - tS h h.1) (by omega) (by omega)
                 rw [show max (f - x) 0 = f - tS h h.1 by omega]
                 exact rowIs_1 (by omega) (by omega) g)
              | (obtain rfl : e = 0 := by omega
                 have g := g3 (f - 1) (by omega) (by omega)
                 rw [show max (f - 1) 0 = f - 1 by omega]
                 exact rowIs_0 hV h1 (by omega) g)
            · rw [gI_sI_nj q]; exact g3 j j0 (by omega)
    show abW d (0, 0) 64 0 [some (vr (some 372)), some (vr (some o)), some (vi x), some (vi e), none, none] [] (0, 0) (A0 L) M (qV (A0 L) (fun N => sm (fun c => c = o) M N ∧ ∀ f : Int, 0 ≤ f → f < fr → rowIs h e f (gI N o f)))
    refine bw_iload rfl rfl ?_
    refine bw_push rfl ?_
    refine bw_max rfl (by omega) (Nat.le_of_ble_eq_true rfl) (by decide) (by decide) ?_
    refine bw_istore (ls2 := [_, _, _, _, _, _]) rfl rfl (Nat.le_of_ble_eq_true rfl) rfl ?_
    rw [show max x 1 = x by omega]
    exact L7 ((fr - x).toNat + 1) M x (sm_refl _ _) (by omega) (fun j j0 j1 => by
      obtain ⟨i, i1, i2⟩ := hy j j0 j1
      exact rowIs_lt ⟨i, i1, i2⟩ hV) (by omega)
  · have hRM := hR
    have t1 := tS_ge hV (i := h.1) (by omega) (Int.le_refl _)
    have L7 : ∀ (kf : Nat) (N : abMem) (f : Int), (sm (fun c => c = o) M N) → (x ≤ f ∧ f ≤ fr) → (∀ j : Int, 0 ≤ j → j < f → rowIs h e j (gI N o j)) → ((fr - f).toNat) < kf → abW d (0, 0) 64 7 [some (vr (some 459)), some (vr (some o)), some (vi x), some (vi e), some (vi f), none] [] (0, 0) (A0 L) (N) (qV (A0 L) (fun N => sm (fun c => c = o) M N ∧ ∀ f : Int, 0 ≤ f → f < fr → rowIs h e f (gI N o f))) := by
      intro kf
      induction kf with
      | zero => intro N  f  g1 g2 g3 hm9; exact absurd hm9 (Nat.not_lt_zero _)
      | succ kf ih7 =>
        intro N  f  g1 g2 g3 hm7
        have ih := ih7
        have hR := g1.RF hRM
        have e4 : gI N 459 0 = fr := by rw [show gI N 459 = gI M 459 from g1.at 459 (fun e => ho e.symm)]; exact hf.1
        refine bw_iload rfl rfl ?_
        refine bw_aload rfl rfl ?_
        refine bw_getI rfl rfl ?_
        rw [e4]
        refine bw_icge rfl (fun c13 => ?_) (fun c13 => ?_)
        · skip
          refine bw_retv rfl rfl ?_
          obtain rfl : f = fr := by omega
          exact ⟨rfl, rfl, g1, g3⟩
        · skip
          refine bw_iload rfl rfl ?_
          refine bw_push rfl ?_
          refine bw_icne rfl (fun c18 => ?_) (fun c18 => ?_)
          · skip
            refine bw_iload rfl rfl ?_
            refine bw_push rfl ?_
            refine bw_icne rfl (fun c31 => ?_) (fun c31 => ?_)
            · skip
              refine bw_push rfl ?_
              refine bw_istore (ls2 := [_, _, _, _, _, _]) rfl rfl (Nat.le_of_ble_eq_true rfl) rfl ?_
              refine bw_aload rfl rfl ?_
              refine bw_iload rfl rfl ?_
              refine bw_aload rfl rfl ?_
              refine bw_iload rfl rfl ?_
              refine bw_iload rfl rfl ?_
              refine bw_isub rfl ⟨by omega, by omega⟩ ?_
              refine bw_push rfl ?_
              refine bw_max rfl (by omega) (Nat.le_of_ble_eq_true rfl) (by decide) (by decide) ?_
              refine bw_aldi rfl hk (by omega) (by omega) ?_
              refine bw_asti rfl hk (by omega) (by omega) ?_
              refine bw_iinc (ls2 := [_, _, _, _, _, _]) rfl rfl rfl ⟨by omega, by omega⟩ rfl ?_
              refine bw_goto rfl ?_
              refine bw_forget (ls2 := [some (vr (some 459)), some (vr (some o)), some (vi _), some (vi _), some (vi _), none]) ⟨rfl, rfl, rfl, rfl, rfl, trivial⟩ ?_
              refine ih _ (f + 1) (g1.sI _ _ rfl) (by omega) (fun j j0 j1 => ?_) (by omega)
              by_cases q : j = f
              · rw [q, gI_sI_eq]
                first
                | (obtain rfl : e = 2 := by omega
                   exact Or.inr (Or.inr ⟨by omega, rfl, rfl⟩))
                | (obtain rfl : e = 1 := by omega
                   have g := g3 (f - tS h h.1) (by omega) (by omega)
                   rw [show max (f - x) 0 = f - tS h h.1 by omega]
                   exact rowIs_1 (by omega) (by omega) g)
                | (obtain rfl : e = 0 := by omega
                   have g := g3 (f - 1) (by omega) (by omega)
                   rw [show max (f - 1) 0 = f - 1 by omega]
                   exact rowIs_0 hV h1 (by omega) g)
              · rw [gI_sI_nj q]; exact g3 j j0 (by omega)
            · skip
              refine bw_iload rfl rfl ?_
              refine bw_goto rfl ?_
              refine bw_istore (ls2 := [_, _, _, _, _, _]) rfl rfl (Nat.le_of_ble_eq_true rfl) rfl ?_
              refine bw_aload rfl rfl ?_
              refine bw_iload rfl rfl ?_
              refine bw_aload rfl rfl ?_
              refine bw_iload rfl rfl ?_
              refine bw_iload rfl rfl ?_
              refine bw_isub rfl ⟨by omega, by omega⟩ ?_
              refine bw_push rfl ?_
              refine bw_max rfl (by omega) (Nat.le_of_ble_eq_true rfl) (by decide) (by decide) ?_
              refine bw_aldi rfl hk (by omega) (by omega) ?_
              refine bw_asti rfl hk (by omega) (by omega) ?_
              refine bw_iinc (ls2 := [_, _, _, _, _, _]) rfl rfl rfl ⟨by omega, by omega⟩ rfl ?_
              refine bw_goto rfl ?_
              refine bw_forget (ls2 := [some (vr (some 459)), some (vr (some o)), some (vi _), some (vi _), some (vi _), none]) ⟨rfl, rfl, rfl, rfl, rfl, trivial⟩ ?_
              refine ih _ (f + 1) (g1.sI _ _ rfl) (by omega) (fun j j0 j1 => ?_) (by omega)
              by_cases q : j = f
              · rw [q, gI_sI_eq]
                first
                | (obtain rfl : e = 2 := by omega
                   exact Or.inr (Or.inr ⟨by omega, rfl, rfl⟩))
                | (obtain rfl : e = 1 := by omega
                   have g := g3 (f - tS h h.1) (by omega) (by omega)
                   rw [show max (f - x) 0 = f - tS h h.1 by omega]
                   exact rowIs_1 (by omega) (by omega) g)
                | (obtain rfl : e = 0 := by omega
                   have g := g3 (f - 1) (by omega) (by omega)
                   rw [show max (f - 1) 0 = f - 1 by omega]
                   exact rowIs_0 hV h1 (by omega) g)
              · rw [gI_sI_nj q]; exact g3 j j0 (by omega)
          · skip
            refine bw_aload rfl rfl ?_
            refine bw_iload rfl rfl ?_
            refine bw_push rfl ?_
            refine bw_asti rfl hk (by omega) (by omega) ?_
            refine bw_goto rfl ?_
            refine bw_iinc (ls2 := [_, _, _, _, _, _]) rfl rfl rfl ⟨by omega, by omega⟩ rfl ?_
            refine bw_goto rfl ?_
            refine bw_forget (ls2 := [some (vr (some 459)), some (vr (some o)), some (vi _), some (vi _), some (vi _), none]) ⟨rfl, rfl, rfl, rfl, rfl, trivial⟩ ?_
            refine ih _ (f + 1) (g1.sI _ _ rfl) (by omega) (fun j j0 j1 => ?_) (by omega)
            by_cases q : j = f
            · rw [q, gI_sI_eq]
              first
              | (obtain rfl : e = 2 := by omega
                 exact Or.inr (Or.inr ⟨by omega, rfl, rfl⟩))
              | (obtain rfl : e = 1 := by omega
                 have g := g3 (f - tS h h.1) (by omega) (by omega)
                 rw [show max (f - x) 0 = f - tS h h.1 by omega]
                 exact rowIs_1 (by omega) (by omega) g)
              | (obtain rfl : e = 0 := by omega
                 have g := g3 (f - 1) (by omega) (by omega)
                 rw [show max (f - 1) 0 = f - 1 by omega]
                 exact rowIs_0 hV h1 (by omega) g)
            · rw [gI_sI_nj q]; exact g3 j j0 (by omega)
    show abW d (0, 0) 64 0 [some (vr (some 459)), some (vr (some o)), some (vi x), some (vi e), none, none] [] (0, 0) (A0 L) M (qV (A0 L) (fun N => sm (fun c => c = o) M N ∧ ∀ f : Int, 0 ≤ f → f < fr → rowIs h e f (gI N o f)))
    refine bw_iload rfl rfl ?_
    refine bw_push rfl ?_
    refine bw_max rfl (by omega) (Nat.le_of_ble_eq_true rfl) (by decide) (by decide) ?_
    refine bw_istore (ls2 := [_, _, _, _, _, _]) rfl rfl (Nat.le_of_ble_eq_true rfl) rfl ?_
    rw [show max x 1 = x by omega]
    exact L7 ((fr - x).toNat + 1) M x (sm_refl _ _) (by omega) (fun j j0 j1 => by
      obtain ⟨i, i1, i2⟩ := hy j j0 j1
      exact rowIs_lt ⟨i, i1, i2⟩ hV) (by omega)
