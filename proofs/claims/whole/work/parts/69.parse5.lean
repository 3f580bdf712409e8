set_option maxRecDepth 20000 in
set_option maxHeartbeats 4000000 in
theorem c_isFull {d L : Nat} {M : abMem} {r : abRf} (hR : RF r M) {s : Nat} (hs : s = 372 ∨ s = 459) {S : Int → Int} (hS : SR M s S) (hr : r.2.1 = some s) {k w : Int} (hk : (k = 1 ∧ w = 1 ∨ k = 2 ∧ w = 5 ∨ k = 3 ∧ w = 9 ∨ k = 4 ∧ w = 16)) (hd : 1 ≤ d) : abW d (0, 0) 38 0 (abEnt (abL 38) [vr (some 3), vi k]) [] (0, 0) (A0 L) M (qJ (A0 L) M (fun x => flP S w ∧ x = 1 ∨ ¬ flP S w ∧ x = 0)) := by
  rcases hs with rfl | rfl
  · have w0 := hS.sw.fr
    have w1 := hS.sw.la
    have w2 := hS.sw.bo
    have w3 := hS.sw.sl
    have w4 := hS.sw.hi
    have w5 := hS.sw.st
    show abW d (0, 0) 38 0 [some (vr (some 3)), some (vi k)] [] (0, 0) (A0 L) M (qJ (A0 L) M (fun x => flP S w ∧ x = 1 ∨ ¬ flP S w ∧ x = 0))
    refine bw_iload rfl rfl ?_
    by_cases s1_0 : k = 1
    · refine bw_switch (t := 28) rfl (by rw [s1_0]; rfl) ?_
      refine bw_aload rfl rfl ?_
      refine bw_getr rfl rfl ((hR _ _).trans hr) ?_
      refine bw_getI rfl rfl ?_
      rw [show gI M 372 2 = S 1 from hS.c2]
      refine bw_push rfl ?_
      refine bw_icne rfl (fun c37 => ?_) (fun c37 => ?_)
      · skip
        refine bw_push rfl ?_
        refine bw_retz rfl rfl (by omega) ?_
        first
        | exact ⟨rfl, rfl, _, rfl, Or.inl ⟨by unfold flP; omega, rfl⟩⟩
        | exact ⟨rfl, rfl, _, rfl, Or.inr ⟨by unfold flP; omega, rfl⟩⟩
      · skip
        refine bw_push rfl ?_
        refine bw_goto rfl ?_
        refine bw_retz rfl rfl (by omega) ?_
        first
        | exact ⟨rfl, rfl, _, rfl, Or.inl ⟨by unfold flP; omega, rfl⟩⟩
        | exact ⟨rfl, rfl, _, rfl, Or.inr ⟨by unfold flP; omega, rfl⟩⟩
    · skip
      by_cases s1_1 : k = 2
      · refine bw_switch (t := 46) rfl (by rw [s1_1]; rfl) ?_
        refine bw_aload rfl rfl ?_
        refine bw_getr rfl rfl ((hR _ _).trans hr) ?_
        refine bw_getI rfl rfl ?_
        rw [show gI M 372 3 = S 2 from hS.c3]
        refine bw_push rfl ?_
        refine bw_icne rfl (fun c55 => ?_) (fun c55 => ?_)
        · skip
          refine bw_push rfl ?_
          refine bw_retz rfl rfl (by omega) ?_
          first
          | exact ⟨rfl, rfl, _, rfl, Or.inl ⟨by unfold flP; omega, rfl⟩⟩
          | exact ⟨rfl, rfl, _, rfl, Or.inr ⟨by unfold flP; omega, rfl⟩⟩
        · skip
          refine bw_push rfl ?_
          refine bw_goto rfl ?_
          refine bw_retz rfl rfl (by omega) ?_
          first
          | exact ⟨rfl, rfl, _, rfl, Or.inl ⟨by unfold flP; omega, rfl⟩⟩
          | exact ⟨rfl, rfl, _, rfl, Or.inr ⟨by unfold flP; omega, rfl⟩⟩
      · skip
        by_cases s1_2 : k = 3
        · refine bw_switch (t := 64) rfl (by rw [s1_2]; rfl) ?_
          refine bw_aload rfl rfl ?_
          refine bw_getr rfl rfl ((hR _ _).trans hr) ?_
          refine bw_getI rfl rfl ?_
          rw [show gI M 372 4 = S 3 from hS.c4]
          refine bw_push rfl ?_
          refine bw_icne rfl (fun c73 => ?_) (fun c73 => ?_)
          · skip
            refine bw_push rfl ?_
            refine bw_retz rfl rfl (by omega) ?_
            first
            | exact ⟨rfl, rfl, _, rfl, Or.inl ⟨by unfold flP; omega, rfl⟩⟩
            | exact ⟨rfl, rfl, _, rfl, Or.inr ⟨by unfold flP; omega, rfl⟩⟩
          · skip
            refine bw_push rfl ?_
            refine bw_goto rfl ?_
            refine bw_retz rfl rfl (by omega) ?_
            first
            | exact ⟨rfl, rfl, _, rfl, Or.inl ⟨by unfold flP; omega, rfl⟩⟩
            | exact ⟨rfl, rfl, _, rfl, Or.inr ⟨by unfold flP; omega, rfl⟩⟩
        · skip
          refine bw_switch (t := 82) rfl (by show (if (k) < (1 : Int) ∨ (3 : Int) < (k) then _ else _) = _; rw [if_pos (by omega)]; rfl) ?_
          refine bw_aload rfl rfl ?_
          refine bw_getr rfl rfl ((hR _ _).trans hr) ?_
          refine bw_getI rfl rfl ?_
          rw [show gI M 372 5 = S 4 from hS.c5]
          refine bw_push rfl ?_
          refine bw_icne rfl (fun c91 => ?_) (fun c91 => ?_)
          · skip
            refine bw_push rfl ?_
            refine bw_retz rfl rfl (by omega) ?_
            first
            | exact ⟨rfl, rfl, _, rfl, Or.inl ⟨by unfold flP; omega, rfl⟩⟩
            | exact ⟨rfl, rfl, _, rfl, Or.inr ⟨by unfold flP; omega, rfl⟩⟩
          · skip
            refine bw_push rfl ?_
            refine bw_goto rfl ?_
            refine bw_retz rfl rfl (by omega) ?_
            first
            | exact ⟨rfl, rfl, _, rfl, Or.inl ⟨by unfold flP; omega, rfl⟩⟩
            | exact ⟨rfl, rfl, _, rfl, Or.inr ⟨by unfold flP; omega, rfl⟩⟩
  · have w0 := hS.sw.fr
    have w1 := hS.sw.la
    have w2 := hS.sw.bo
    have w3 := hS.sw.sl
    have w4 := hS.sw.hi
    have w5 := hS.sw.st
    show abW d (0, 0) 38 0 [some (vr (some 3)), some (vi k)] [] (0, 0) (A0 L) M (qJ (A0 L) M (fun x => flP S w ∧ x = 1 ∨ ¬ flP S w ∧ x = 0))
    refine bw_iload rfl rfl ?_
    by_cases s1_0 : k = 1
    · refine bw_switch (t := 28) rfl (by rw [s1_0]; rfl) ?_
      refine bw_aload rfl rfl ?_
      refine bw_getr rfl rfl ((hR _ _).trans hr) ?_
      refine bw_getI rfl rfl ?_
      rw [show gI M 459 2 = S 1 from hS.c2]
      refine bw_push rfl ?_
      refine bw_icne rfl (fun c37 => ?_) (fun c37 => ?_)
      · skip
        refine bw_push rfl ?_
        refine bw_retz rfl rfl (by omega) ?_
        first
        | exact ⟨rfl, rfl, _, rfl, Or.inl ⟨by unfold flP; omega, rfl⟩⟩
        | exact ⟨rfl, rfl, _, rfl, Or.inr ⟨by unfold flP; omega, rfl⟩⟩
      · skip
        refine bw_push rfl ?_
        refine bw_goto rfl ?_
        refine bw_retz rfl rfl (by omega) ?_
        first
        | exact ⟨rfl, rfl, _, rfl, Or.inl ⟨by unfold flP; omega, rfl⟩⟩
        | exact ⟨rfl, rfl, _, rfl, Or.inr ⟨by unfold flP; omega, rfl⟩⟩
    · skip
      by_cases s1_1 : k = 2
      · refine bw_switch (t := 46) rfl (by rw [s1_1]; rfl) ?_
        refine bw_aload rfl rfl ?_
        refine bw_getr rfl rfl ((hR _ _).trans hr) ?_
        refine bw_getI rfl rfl ?_
        rw [show gI M 459 3 = S 2 from hS.c3]
        refine bw_push rfl ?_
        refine bw_icne rfl (fun c55 => ?_) (fun c55 => ?_)
        · skip
          refine bw_push rfl ?_
          refine bw_retz rfl rfl (by omega) ?_
          first
          | exact ⟨rfl, rfl, _, rfl, Or.inl ⟨by unfold flP; omega, rfl⟩⟩
          | exact ⟨rfl, rfl, _, rfl, Or.inr ⟨by unfold flP; omega, rfl⟩⟩
        · skip
          refine bw_push rfl ?_
          refine bw_goto rfl ?_
          refine bw_retz rfl rfl (by omega) ?_
          first
          | exact ⟨rfl, rfl, _, rfl, Or.inl ⟨by unfold flP; omega, rfl⟩⟩
          | exact ⟨rfl, rfl, _, rfl, Or.inr ⟨by unfold flP; omega, rfl⟩⟩
      · skip
        by_cases s1_2 : k = 3
        · refine bw_switch (t := 64) rfl (by rw [s1_2]; rfl) ?_
          refine bw_aload rfl rfl ?_
          refine bw_getr rfl rfl ((hR _ _).trans hr) ?_
          refine bw_getI rfl rfl ?_
          rw [show gI M 459 4 = S 3 from hS.c4]
          refine bw_push rfl ?_
          refine bw_icne rfl (fun c73 => ?_) (fun c73 => ?_)
          · skip
            refine bw_push rfl ?_
            refine bw_retz rfl rfl (by omega) ?_
            first
            | exact ⟨rfl, rfl, _, rfl, Or.inl ⟨by unfold flP; omega, rfl⟩⟩
            | exact ⟨rfl, rfl, _, rfl, Or.inr ⟨by unfold flP; omega, rfl⟩⟩
          · skip
            refine bw_push rfl ?_
            refine bw_goto rfl ?_
            refine bw_retz rfl rfl (by omega) ?_
            first
            | exact ⟨rfl, rfl, _, rfl, Or.inl ⟨by unfold flP; omega, rfl⟩⟩
            | exact ⟨rfl, rfl, _, rfl, Or.inr ⟨by unfold flP; omega, rfl⟩⟩
        · skip
          refine bw_switch (t := 82) rfl (by show (if (k) < (1 : Int) ∨ (3 : Int) < (k) then _ else _) = _; rw [if_pos (by omega)]; rfl) ?_
          refine bw_aload rfl rfl ?_
          refine bw_getr rfl rfl ((hR _ _).trans hr) ?_
          refine bw_getI rfl rfl ?_
          rw [show gI M 459 5 = S 4 from hS.c5]
          refine bw_push rfl ?_
          refine bw_icne rfl (fun c91 => ?_) (fun c91 => ?_)
          · skip
            refine bw_push rfl ?_
            refine bw_retz rfl rfl (by omega) ?_
            first
            | exact ⟨rfl, rfl, _, rfl, Or.inl ⟨by unfold flP; omega, rfl⟩⟩
            | exact ⟨rfl, rfl, _, rfl, Or.inr ⟨by unfold flP; omega, rfl⟩⟩
          · skip
            refine bw_push rfl ?_
            refine bw_goto rfl ?_
            refine bw_retz rfl rfl (by omega) ?_
            first
            | exact ⟨rfl, rfl, _, rfl, Or.inl ⟨by unfold flP; omega, rfl⟩⟩
            | exact ⟨rfl, rfl, _, rfl, Or.inr ⟨by unfold flP; omega, rfl⟩⟩
set_option maxRecDepth 20000 in
set_option maxHeartbeats 4000000 in
theorem c_nextStatement {d L : Nat} {M : abMem} {r : abRf} (hR : RF r M) {a : Int → Int} {n : Int} (hT : TP M a n) {p : Int} (hA : TA M a n p) (hd : 5 ≤ d) : abW d (0, 0) 37 0 (abEnt (abL 37) [vr (some 3)]) [] (0, 0) (A0 L) M (qJ (A0 L) M (fun x => (wo a n p = 1 ∧ x = 1 ∨ wo a n p = 5 ∧ x = 2 ∨ wo a n p = 9 ∧ x = 3 ∨ wo a n p = 16 ∧ x = 4 ∨ ¬ (wo a n p = 1 ∨ wo a n p = 5 ∨ wo a n p = 9 ∨ wo a n p = 16) ∧ x = 0))) := by
  show abW d (0, 0) 37 0 [some (vr (some 3))] [] (0, 0) (A0 L) M (qJ (A0 L) M (fun x => (wo a n p = 1 ∧ x = 1 ∨ wo a n p = 5 ∧ x = 2 ∨ wo a n p = 9 ∧ x = 3 ∨ wo a n p = 16 ∧ x = 4 ∨ ¬ (wo a n p = 1 ∨ wo a n p = 5 ∨ wo a n p = 9 ∨ wo a n p = 16) ∧ x = 0)))
  refine bw_aload rfl rfl ?_
  refine bw_getr rfl rfl (hR _ _) ?_
  refine bw_ldcs rfl ?_
  refine bw_callVNj (e := d - 1) (as := [_]) rfl (by omega) rfl rfl (Nat.le_of_ble_eq_true rfl) (Nat.le_of_ble_eq_true rfl) rfl (c_isWord (i := 1) hR hT hA (by decide) (by omega)) (fun r6 hr6 => ?_)
  have hr6 : wo a n p = 1 ∧ r6 = 1 ∨ ¬ (wo a n p = 1) ∧ r6 = 0 := hr6
  refine bw_ifeq rfl (fun c9 => ?_) (fun c9 => ?_)
  · skip
    refine bw_aload rfl rfl ?_
    refine bw_getr rfl rfl (hR _ _) ?_
    refine bw_ldcs rfl ?_
    refine bw_callVNj (e := d - 1) (as := [_]) rfl (by omega) rfl rfl (Nat.le_of_ble_eq_true rfl) (Nat.le_of_ble_eq_true rfl) rfl (c_isWord (i := 2) hR hT hA (by decide) (by omega)) (fun r20 hr20 => ?_)
    have hr20 : wo a n p = 5 ∧ r20 = 1 ∨ ¬ (wo a n p = 5) ∧ r20 = 0 := hr20
    refine bw_ifeq rfl (fun c23 => ?_) (fun c23 => ?_)
    · skip
      refine bw_aload rfl rfl ?_
      refine bw_getr rfl rfl (hR _ _) ?_
      refine bw_ldcs rfl ?_
      refine bw_callVNj (e := d - 1) (as := [_]) rfl (by omega) rfl rfl (Nat.le_of_ble_eq_true rfl) (Nat.le_of_ble_eq_true rfl) rfl (c_isWord (i := 3) hR hT hA (by decide) (by omega)) (fun r34 hr34 => ?_)
      have hr34 : wo a n p = 9 ∧ r34 = 1 ∨ ¬ (wo a n p = 9) ∧ r34 = 0 := hr34
      refine bw_ifeq rfl (fun c37 => ?_) (fun c37 => ?_)
      · skip
        refine bw_aload rfl rfl ?_
        refine bw_getr rfl rfl (hR _ _) ?_
        refine bw_ldcs rfl ?_
        refine bw_callVNj (e := d - 1) (as := [_]) rfl (by omega) rfl rfl (Nat.le_of_ble_eq_true rfl) (Nat.le_of_ble_eq_true rfl) rfl (c_isWord (i := 4) hR hT hA (by decide) (by omega)) (fun r48 hr48 => ?_)
        have hr48 : wo a n p = 16 ∧ r48 = 1 ∨ ¬ (wo a n p = 16) ∧ r48 = 0 := hr48
        refine bw_ifeq rfl (fun c51 => ?_) (fun c51 => ?_)
        · skip
          refine bw_push rfl ?_
          refine bw_ret rfl rfl ?_
          exact ⟨rfl, rfl, _, rfl, by omega⟩
        · skip
          refine bw_push rfl ?_
          refine bw_goto rfl ?_
          refine bw_ret rfl rfl ?_
          exact ⟨rfl, rfl, _, rfl, by omega⟩
      · skip
        refine bw_push rfl ?_
        refine bw_ret rfl rfl ?_
        exact ⟨rfl, rfl, _, rfl, by omega⟩
    · skip
      refine bw_push rfl ?_
      refine bw_ret rfl rfl ?_
      exact ⟨rfl, rfl, _, rfl, by omega⟩
  · skip
    refine bw_push rfl ?_
    refine bw_ret rfl rfl ?_
    exact ⟨rfl, rfl, _, rfl, by omega⟩
set_option maxRecDepth 20000 in
set_option maxHeartbeats 4000000 in
theorem c_startStatement {d L : Nat} {M : abMem} {r : abRf} (hR : RF r M) {a : Int → Int} {n : Int} (hT : TP M a n) {p : Int} (hA : TA M a n p) {s : Nat} (hs : s = 372 ∨ s = 459) {S : Int → Int} (hS : SR M s S) (hr : r.2.1 = some s) (hd : 6 ≤ d) : abW d (0, 0) 36 0 (abEnt (abL 36) [vr (some 3)]) [] (0, 0) (A0 L) M (qI (A0 L) (fun x N => (∃ e : Int × Int, stS S a n p = (.inl e, S) ∧ x = 0 ∧ FA pG M a n e N) ∨ ((wo a n p = 1 ∧ x = 1 ∨ wo a n p = 5 ∧ x = 2 ∨ wo a n p = 9 ∧ x = 3 ∨ wo a n p = 16 ∧ x = 4) ∧ ¬ (S 5 = 60 ∨ flP S (wo a n p)) ∧ GO pG M a n (sk a n (we a n p)) N))) := by
  rcases hs with rfl | rfl
  · have t1 := hT.le
    have t2 := hT.ok.1
    have a1 := hA.1.1
    have a2 := hA.1.2.1
    have a3 := hA.1.2.2
    have a4 := hA.2
    have tc := tk_c hT.ok (p := p) (by omega)
    have w0 := hS.sw.fr
    have w1 := hS.sw.la
    have w2 := hS.sw.bo
    have w3 := hS.sw.sl
    have w4 := hS.sw.hi
    have w5 := hS.sw.st
    show abW d (0, 0) 36 0 [some (vr (some 3)), none] [] (0, 0) (A0 L) M (qI (A0 L) (fun x N => (∃ e : Int × Int, stS S a n p = (.inl e, S) ∧ x = 0 ∧ FA pG M a n e N) ∨ ((wo a n p = 1 ∧ x = 1 ∨ wo a n p = 5 ∧ x = 2 ∨ wo a n p = 9 ∧ x = 3 ∨ wo a n p = 16 ∧ x = 4) ∧ ¬ (S 5 = 60 ∨ flP S (wo a n p)) ∧ GO pG M a n (sk a n (we a n p)) N)))
    refine bw_aload rfl rfl ?_
    refine bw_callVj (e := d - 1) (as := []) rfl (by omega) rfl rfl (Nat.le_of_ble_eq_true rfl) (Nat.le_of_ble_eq_true rfl) rfl (c_nextStatement hR hT hA (by omega)) (fun r1 hr1 => ?_)
    refine bw_istore (ls2 := [_, _]) rfl rfl (Nat.le_of_ble_eq_true rfl) rfl ?_
    refine bw_iload rfl rfl ?_
    refine bw_ifne rfl (fun c6 => ?_) (fun c6 => ?_)
    · skip
      refine bw_aload rfl rfl ?_
      refine bw_getr rfl rfl ((hR _ _).trans hr) ?_
      refine bw_getI rfl rfl ?_
      rw [show gI M 372 1 = S 5 from hS.c1]
      refine bw_push rfl ?_
      refine bw_iceq rfl (fun c33 => ?_) (fun c33 => ?_)
      · skip
        refine bw_aload rfl rfl ?_
        refine bw_push rfl ?_
        refine bw_aload rfl rfl ?_
        refine bw_getr rfl rfl (hR _ _) ?_
        refine bw_getI rfl rfl ?_
        refine bw_callVi (e := d - 1) (as := [_, _]) rfl (by omega) rfl rfl (Nat.le_of_ble_eq_true rfl) (Nat.le_of_ble_eq_true rfl) rfl (c_fail hR) (fun r53 M53 hM53 => ?_)
        obtain ⟨rfl, rfl⟩ := hM53
        refine bw_pop rfl ?_
        refine bw_push rfl ?_
        refine bw_ret rfl rfl ?_
        exact ⟨rfl, _, rfl, Or.inl ⟨_, st_4 (by omega) (by first | exact Or.inl (by omega) | exact Or.inr (by rcases hr38 with h | h; exact h.1; omega)), rfl, by rw [← a1]; exact ⟨(fa_of hT).1.mono pP_R, (fa_of hT).2⟩⟩⟩
      · skip
        refine bw_aload rfl rfl ?_
        refine bw_iload rfl rfl ?_
        refine bw_callVj (e := d - 1) (as := [_]) rfl (by omega) rfl rfl (Nat.le_of_ble_eq_true rfl) (Nat.le_of_ble_eq_true rfl) rfl (c_isFull (w := wo a n p) hR (by first | exact Or.inl rfl | exact Or.inr rfl) hS hr (by omega) (by omega)) (fun r38 hr38 => ?_)
        refine bw_ifeq rfl (fun c41 => ?_) (fun c41 => ?_)
        · skip
          refine bw_aload rfl rfl ?_
          refine bw_getr rfl rfl (hR _ _) ?_
          refine bw_callVNv (e := d - 1) (as := []) rfl (by omega) rfl rfl (Nat.le_of_ble_eq_true rfl) (Nat.le_of_ble_eq_true rfl) rfl (c_advance (s := we a n p) hR hT ⟨by have := we_pos hT.ok (p := p) (by omega) (by omega); omega, by have := we_pos hT.ok (p := p) (by omega) (by omega); omega, by have := we_pos hT.ok (p := p) (by omega) (by omega); omega⟩) (fun M63 hM63 => ?_)
          refine bw_iload rfl rfl ?_
          refine bw_ret rfl rfl ?_
          exact ⟨rfl, _, rfl, Or.inr ⟨by omega, fun k => by rcases k with k | k; omega; rcases hr38 with h | h; omega; exact h.1 k, (sq_of hM63.1 (by decide)).mono pT_R, hM63.2⟩⟩
        · skip
          refine bw_aload rfl rfl ?_
          refine bw_push rfl ?_
          refine bw_aload rfl rfl ?_
          refine bw_getr rfl rfl (hR _ _) ?_
          refine bw_getI rfl rfl ?_
          refine bw_callVi (e := d - 1) (as := [_, _]) rfl (by omega) rfl rfl (Nat.le_of_ble_eq_true rfl) (Nat.le_of_ble_eq_true rfl) rfl (c_fail hR) (fun r53 M53 hM53 => ?_)
          obtain ⟨rfl, rfl⟩ := hM53
          refine bw_pop rfl ?_
          refine bw_push rfl ?_
          refine bw_ret rfl rfl ?_
          exact ⟨rfl, _, rfl, Or.inl ⟨_, st_4 (by omega) (by first | exact Or.inl (by omega) | exact Or.inr (by rcases hr38 with h | h; exact h.1; omega)), rfl, by rw [← a1]; exact ⟨(fa_of hT).1.mono pP_R, (fa_of hT).2⟩⟩⟩
    · skip
      refine bw_aload rfl rfl ?_
      refine bw_push rfl ?_
      refine bw_aload rfl rfl ?_
      refine bw_getr rfl rfl (hR _ _) ?_
      refine bw_getI rfl rfl ?_
      refine bw_callVi (e := d - 1) (as := [_, _]) rfl (by omega) rfl rfl (Nat.le_of_ble_eq_true rfl) (Nat.le_of_ble_eq_true rfl) rfl (c_fail hR) (fun r18 M18 hM18 => ?_)
      obtain ⟨rfl, rfl⟩ := hM18
      refine bw_pop rfl ?_
      refine bw_push rfl ?_
      refine bw_ret rfl rfl ?_
      exact ⟨rfl, _, rfl, Or.inl ⟨_, st_1 (by omega), rfl, by rw [← a1]; exact ⟨(fa_of hT).1.mono pP_R, (fa_of hT).2⟩⟩⟩
  · have t1 := hT.le
    have t2 := hT.ok.1
    have a1 := hA.1.1
    have a2 := hA.1.2.1
    have a3 := hA.1.2.2
    have a4 := hA.2
    have tc := tk_c hT.ok (p := p) (by omega)
    have w0 := hS.sw.fr
    have w1 := hS.sw.la
    have w2 := hS.sw.bo
    have w3 := hS.sw.sl
    have w4 := hS.sw.hi
    have w5 := hS.sw.st
    show abW d (0, 0) 36 0 [some (vr (some 3)), none] [] (0, 0) (A0 L) M (qI (A0 L) (fun x N => (∃ e : Int × Int, stS S a n p = (.inl e, S) ∧ x = 0 ∧ FA pG M a n e N) ∨ ((wo a n p = 1 ∧ x = 1 ∨ wo a n p = 5 ∧ x = 2 ∨ wo a n p = 9 ∧ x = 3 ∨ wo a n p = 16 ∧ x = 4) ∧ ¬ (S 5 = 60 ∨ flP S (wo a n p)) ∧ GO pG M a n (sk a n (we a n p)) N)))
    refine bw_aload rfl rfl ?_
    refine bw_callVj (e := d - 1) (as := []) rfl (by omega) rfl rfl (Nat.le_of_ble_eq_true rfl) (Nat.le_of_ble_eq_true rfl) rfl (c_nextStatement hR hT hA (by omega)) (fun r1 hr1 => ?_)
    refine bw_istore (ls2 := [_, _]) rfl rfl (Nat.le_of_ble_eq_true rfl) rfl ?_
    refine bw_iload rfl rfl ?_
    refine bw_ifne rfl (fun c6 => ?_) (fun c6 => ?_)
    · skip
      refine bw_aload rfl rfl ?_
      refine bw_getr rfl rfl ((hR _ _).trans hr) ?_
      refine bw_getI rfl rfl ?_
      rw [show gI M 459 1 = S 5 from hS.c1]
      refine bw_push rfl ?_
      refine bw_iceq rfl (fun c33 => ?_) (fun c33 => ?_)
      · skip
        refine bw_aload rfl rfl ?_
        refine bw_push rfl ?_
        refine bw_aload rfl rfl ?_
        refine bw_getr rfl rfl (hR _ _) ?_
        refine bw_getI rfl rfl ?_
        refine bw_callVi (e := d - 1) (as := [_, _]) rfl (by omega) rfl rfl (Nat.le_of_ble_eq_true rfl) (Nat.le_of_ble_eq_true rfl) rfl (c_fail hR) (fun r53 M53 hM53 => ?_)
        obtain ⟨rfl, rfl⟩ := hM53
        refine bw_pop rfl ?_
        refine bw_push rfl ?_
        refine bw_ret rfl rfl ?_
        exact ⟨rfl, _, rfl, Or.inl ⟨_, st_4 (by omega) (by first | exact Or.inl (by omega) | exact Or.inr (by rcases hr38 with h | h; exact h.1; omega)), rfl, by rw [← a1]; exact ⟨(fa_of hT).1.mono pP_R, (fa_of hT).2⟩⟩⟩
      · skip
        refine bw_aload rfl rfl ?_
        refine bw_iload rfl rfl ?_
        refine bw_callVj (e := d - 1) (as := [_]) rfl (by omega) rfl rfl (Nat.le_of_ble_eq_true rfl) (Nat.le_of_ble_eq_true rfl) rfl (c_isFull (w := wo a n p) hR (by first | exact Or.inl rfl | exact Or.inr rfl) hS hr (by omega) (by omega)) (fun r38 hr38 => ?_)
        refine bw_ifeq rfl (fun c41 => ?_) (fun c41 => ?_)
        · skip
          refine bw_aload rfl rfl ?_
          refine bw_getr rfl rfl (hR _ _) ?_
          refine bw_callVNv (e := d - 1) (as := []) rfl (by omega) rfl rfl (Nat.le_of_ble_eq_true rfl) (Nat.le_of_ble_eq_true rfl) rfl (c_advance (s := we a n p) hR hT ⟨by have := we_pos hT.ok (p := p) (by omega) (by omega); omega, by have := we_pos hT.ok (p := p) (by omega) (by omega); omega, by have := we_pos hT.ok (p := p) (by omega) (by omega); omega⟩) (fun M63 hM63 => ?_)
          refine bw_iload rfl rfl ?_
          refine bw_ret rfl rfl ?_
          exact ⟨rfl, _, rfl, Or.inr ⟨by omega, fun k => by rcases k with k | k; omega; rcases hr38 with h | h; omega; exact h.1 k, (sq_of hM63.1 (by decide)).mono pT_R, hM63.2⟩⟩
        · skip
          refine bw_aload rfl rfl ?_
          refine bw_push rfl ?_
          refine bw_aload rfl rfl ?_
          refine bw_getr rfl rfl (hR _ _) ?_
          refine bw_getI rfl rfl ?_
          refine bw_callVi (e := d - 1) (as := [_, _]) rfl (by omega) rfl rfl (Nat.le_of_ble_eq_true rfl) (Nat.le_of_ble_eq_true rfl) rfl (c_fail hR) (fun r53 M53 hM53 => ?_)
          obtain ⟨rfl, rfl⟩ := hM53
          refine bw_pop rfl ?_
          refine bw_push rfl ?_
          refine bw_ret rfl rfl ?_
          exact ⟨rfl, _, rfl, Or.inl ⟨_, st_4 (by omega) (by first | exact Or.inl (by omega) | exact Or.inr (by rcases hr38 with h | h; exact h.1; omega)), rfl, by rw [← a1]; exact ⟨(fa_of hT).1.mono pP_R, (fa_of hT).2⟩⟩⟩
    · skip
      refine bw_aload rfl rfl ?_
      refine bw_push rfl ?_
      refine bw_aload rfl rfl ?_
      refine bw_getr rfl rfl (hR _ _) ?_
      refine bw_getI rfl rfl ?_
      refine bw_callVi (e := d - 1) (as := [_, _]) rfl (by omega) rfl rfl (Nat.le_of_ble_eq_true rfl) (Nat.le_of_ble_eq_true rfl) rfl (c_fail hR) (fun r18 M18 hM18 => ?_)
      obtain ⟨rfl, rfl⟩ := hM18
      refine bw_pop rfl ?_
      refine bw_push rfl ?_
      refine bw_ret rfl rfl ?_
      exact ⟨rfl, _, rfl, Or.inl ⟨_, st_1 (by omega), rfl, by rw [← a1]; exact ⟨(fa_of hT).1.mono pP_R, (fa_of hT).2⟩⟩⟩
abbrev S00 : Int → Int := fun _ => 0
theorem SR_f {M : abMem} {s : Nat} {v : Int} (hv : 1 ≤ v ∧ v ≤ 96) (h0 : gI M s 0 = v) (h1 : gI M s 1 = 0) (h2 : gI M s 2 = 0) (h3 : gI M s 3 = 0) (h4 : gI M s 4 = 0) (h5 : gI M s 5 = 0) : SR M s (up S00 0 v) := by
  have z : ∀ l : Int, 0 ≤ l → l < (0 : Int) → False := fun l a b => by omega
  exact ⟨⟨by show 0 ≤ v ∧ v ≤ 96; omega, by show (0 : Int) ≤ 0 ∧ (0 : Int) ≤ 6; decide, by show (0 : Int) ≤ 0 ∧ (0 : Int) ≤ 40; decide, by show (0 : Int) ≤ 0 ∧ (0 : Int) ≤ 12; decide, by show (0 : Int) ≤ 0 ∧ (0 : Int) ≤ 12; decide, by show (0 : Int) ≤ 0 ∧ (0 : Int) ≤ 60; decide, fun l a b => (z l a b).elim, fun l a b => (z l a b).elim, fun l i a b => (z l a b).elim, fun l a b => (z l a b).elim, fun l a b => (z l a b).elim, fun l a b => (z l a b).elim, fun j a b => by rw [up_ne (by omega)]; exact ⟨Int.le_refl _, by show (0 : Int) ≤ 99; decide⟩⟩, h0, h1, h2, h3, h4, h5, fun l a b => (z l a b).elim, fun l a b => (z l a b).elim, fun l i a b => (z l a b).elim, fun l f a b => (z l a b).elim, fun l f a b => (z l a b).elim, fun l f a b => (z l a b).elim, fun l f a b => (z l a b).elim, fun l c a b => (z l a b).elim, fun l v a b => (z l a b).elim, fun l a b => (z l a b).elim⟩
set_option maxRecDepth 20000 in
set_option maxHeartbeats 4000000 in
theorem c_readFrames {d L : Nat} {M : abMem} {r : abRf} (hR : RF r M) {a : Int → Int} {n : Int} (hT : TP M a n) {p : Int} (hA : TA M a n p) {s : Nat} (hs : s = 372 ∨ s = 459) (hS : SR M s S00) (hr : r.2.1 = some s) (hd : 7 ≤ d) : abW d (0, 0) 40 0 (abEnt (abL 40) [vr (some 3)]) [] (0, 0) (A0 L) M (qI (A0 L) (fun x N => (∃ e : Int × Int, (enS (frS S00 a n (.inr p)).2 a n (frS S00 a n (.inr p)).1).1 = .inl e ∧ x = 0 ∧ FA (pGs s) M a n e N) ∨ (∃ q : Int, (enS (frS S00 a n (.inr p)).2 a n (frS S00 a n (.inr p)).1).1 = .inr q ∧ x = 1 ∧ GO (pGs s) M a n q N ∧ SR N s (enS (frS S00 a n (.inr p)).2 a n (frS S00 a n (.inr p)).1).2))) := by
  rcases hs with rfl | rfl
  · have hF : sq pG M M := sq_refl _ _
    have hRM := hR
    have hSM := hS
    show abW d (0, 0) 40 0 [some (vr (some 3))] [] (0, 0) (A0 L) M (qI (A0 L) (fun x N => (∃ e : Int × Int, (enS (frS S00 a n (.inr p)).2 a n (frS S00 a n (.inr p)).1).1 = .inl e ∧ x = 0 ∧ FA (pGs 372) M a n e N) ∨ (∃ q : Int, (enS (frS S00 a n (.inr p)).2 a n (frS S00 a n (.inr p)).1).1 = .inr q ∧ x = 1 ∧ GO (pGs 372) M a n q N ∧ SR N 372 (enS (frS S00 a n (.inr p)).2 a n (frS S00 a n (.inr p)).1).2)))
    refine bw_aload rfl rfl ?_
    refine bw_ldcs rfl ?_
    refine bw_callVi (e := d - 1) (as := [_]) rfl (by omega) rfl rfl (Nat.le_of_ble_eq_true rfl) (Nat.le_of_ble_eq_true rfl) rfl (c_needWord (i := 0) hR hT hA (by decide) (by omega)) (fun r3 M3 hM3 => ?_)
    rcases hM3 with ⟨e, h3, rfl, f3⟩ | ⟨q3, h3, rfl, g3⟩
    · have h3 : woS a n 0 (.inr p) = .inl e := h3
      have hz : (enS (frS S00 a n (.inr p)).2 a n (frS S00 a n (.inr p)).1).1 = .inl e := by simp only [enS, frS, h3, woS_l, nuS_l, siS_l]
      have hX : FA pG M a n e M3 := ⟨hF.1.trans (f3.1.mono pP_R), f3.2⟩
      refine bw_ifeq rfl (fun _ => ?_) (fun c => (c (by decide)).elim)
      refine bw_push rfl ?_
      refine bw_retz rfl rfl (by omega) ?_
      exact ⟨rfl, _, rfl, Or.inl ⟨e, hz, rfl, hX.1.mono (fun c k => Or.inl k), hX.2⟩⟩
    · have h3 : woS a n 0 (.inr p) = .inr q3 := h3
      have hS := SR_sm hS g3.1.1 (fun c c0 c1 => no_T (by omega))
      have hF := hF.trans (g3.1.mono pT_R)
      have hR := g3.1.RF hR
      have hT := g3.2.1
      have hA := g3.2.2
      refine bw_ifeq rfl (fun c => absurd c (by decide)) (fun _ => ?_)
      refine bw_aload rfl rfl ?_
      refine bw_push rfl ?_
      refine bw_push rfl ?_
      refine bw_push rfl ?_
      refine bw_callVi (e := d - 1) (as := [_, _, _]) rfl (by omega) rfl rfl (Nat.le_of_ble_eq_true rfl) (Nat.le_of_ble_eq_true rfl) rfl (c_needNumber hR hT hA (by omega) (by omega)) (fun r14 M14 hM14 => ?_)
      rcases hM14 with ⟨e, h14, rfl, f14⟩ | ⟨q14, v14, h14, rfl, g14, b14, k14⟩
      · skip
        have hz : (enS (frS S00 a n (.inr p)).2 a n (frS S00 a n (.inr p)).1).1 = .inl e := by simp only [enS, frS, h3, h14, woS_l, nuS_l, siS_l]
        have hX : FA pG M a n e M14 := ⟨hF.1.trans (f14.1.mono pP_R), f14.2⟩
        refine bw_ifne rfl (fun c => absurd c (by decide)) (fun _ => ?_)
        refine bw_push rfl ?_
        refine bw_retz rfl rfl (by omega) ?_
        exact ⟨rfl, _, rfl, Or.inl ⟨e, hz, rfl, hX.1.mono (fun c k => Or.inl k), hX.2⟩⟩
      · skip
        have n0 : gI M14 9 0 = v14 := by rw [k14, up_eq rfl]
        have hS := SR_sm hS g14.1.1 (fun c c0 c1 => no_N (by omega))
        have hF := hF.trans (g14.1.mono pN_R)
        have hR := g14.1.RF hR
        have hT := g14.2.1
        have hA := g14.2.2
        refine bw_ifne rfl (fun _ => ?_) (fun c => (c (by decide)).elim)
        refine bw_aload rfl rfl ?_
        refine bw_getr rfl rfl ((hR _ _).trans hr) ?_
        refine bw_aload rfl rfl ?_
        refine bw_getr rfl rfl (hR _ _) ?_
        refine bw_push rfl ?_
        refine bw_aldi rfl (by first | rfl | assumption) (by omega) (by omega) ?_
        rw [n0]
        refine bw_putI rfl rfl ?_
        have v32 : sm (fun c => c = 372) M14 (sI M14 372 0 v14) := (sm_refl _ _).sI 0 _ rfl
        have hS2 : SR (sI M14 372 0 v14) 372 (up S00 0 v14) := SR_f (by omega) (by rw [gI_sI_eq]) (by rw [gI_sI_nj (by decide)]; exact hS.c1) (by rw [gI_sI_nj (by decide)]; exact hS.c2) (by rw [gI_sI_nj (by decide)]; exact hS.c3) (by rw [gI_sI_nj (by decide)]; exact hS.c4) (by rw [gI_sI_nj (by decide)]; exact hS.c5)
        generalize sI M14 372 0 v14 = G at v32 hS2
        have hT := TP_s2 hT v32 (by decide) (by decide)
        have hA := TA_sm hA v32 (by decide)
        have hR := v32.RF hR
        have hF := (hF.mono (q := pGs 372) (fun c k => Or.inl k)).trans ((sq_of v32 (by decide)).mono (fun c k => Or.inr ⟨by have : c = 372 := k; omega, by have : c = 372 := k; omega⟩))
        have eF : frS S00 a n (.inr p) = (.inr q14, up S00 0 v14) := by simp only [frS, h3, h14]
        refine bw_aload rfl rfl ?_
        refine bw_callVi (e := d - 1) (as := []) rfl (by omega) rfl rfl (Nat.le_of_ble_eq_true rfl) (Nat.le_of_ble_eq_true rfl) rfl (c_endStatement (S := up S00 0 v14) hR hT hA (by first | exact Or.inl rfl | exact Or.inr rfl) hS2 hr (by show (0 : Int) ≤ 59; decide) (by omega)) (fun r36 M36 hM36 => ?_)
        refine bw_retz rfl rfl (by omega) ?_
        rw [eF]
        rcases hM36 with ⟨e, h1, h2, h3⟩ | ⟨q, h1, h2, h3, h4⟩
        · exact ⟨rfl, _, rfl, Or.inl ⟨e, h1, h2, FA.tr hF.1 h3 (fun _ k => k) (fun _ k => k)⟩⟩
        · exact ⟨rfl, _, rfl, Or.inr ⟨q, h1, h2, GO.tr hF h3 (fun _ k => k) (fun _ k => k), h4⟩⟩
  · have hF : sq pG M M := sq_refl _ _
    have hRM := hR
    have hSM := hS
    show abW d (0, 0) 40 0 [some (vr (some 3))] [] (0, 0) (A0 L) M (qI (A0 L) (fun x N => (∃ e : Int × Int, (enS (frS S00 a n (.inr p)).2 a n (frS S00 a n (.inr p)).1).1 = .inl e ∧ x = 0 ∧ FA (pGs 459) M a n e N) ∨ (∃ q : Int, (enS (frS S00 a n (.inr p)).2 a n (frS S00 a n (.inr p)).1).1 = .inr q ∧ x = 1 ∧ GO (pGs 459) M a n q N ∧ SR N 459 (enS (frS S00 a n (.inr p)).2 a n (frS S00 a n (.inr p)).1).2)))
    refine bw_aload rfl rfl ?_
    refine bw_ldcs rfl ?_
    refine bw_callVi (e := d - 1) (as := [_]) rfl (by omega) rfl rfl (Nat.le_of_ble_eq_true rfl) (Nat.le_of_ble_eq_true rfl) rfl (c_needWord (i := 0) hR hT hA (by decide) (by omega)) (fun r3 M3 hM3 => ?_)
    rcases hM3 with ⟨e, h3, rfl, f3⟩ | ⟨q3, h3, rfl, g3⟩
    · have h3 : woS a n 0 (.inr p) = .inl e := h3
      have hz : (enS (frS S00 a n (.inr p)).2 a n (frS S00 a n (.inr p)).1).1 = .inl e := by simp only [enS, frS, h3, woS_l, nuS_l, siS_l]
      have hX : FA pG M a n e M3 := ⟨hF.1.trans (f3.1.mono pP_R), f3.2⟩
      refine bw_ifeq rfl (fun _ => ?_) (fun c => (c (by decide)).elim)
      refine bw_push rfl ?_
      refine bw_retz rfl rfl (by omega) ?_
      exact ⟨rfl, _, rfl, Or.inl ⟨e, hz, rfl, hX.1.mono (fun c k => Or.inl k), hX.2⟩⟩
    · have h3 : woS a n 0 (.inr p) = .inr q3 := h3
      have hS := SR_sm hS g3.1.1 (fun c c0 c1 => no_T (by omega))
      have hF := hF.trans (g3.1.mono pT_R)
      have hR := g3.1.RF hR
      have hT := g3.2.1
      have hA := g3.2.2
      refine bw_ifeq rfl (fun c => absurd c (by decide)) (fun _ => ?_)
      refine bw_aload rfl rfl ?_
      refine bw_push rfl ?_
      refine bw_push rfl ?_
      refine bw_push rfl ?_
      refine bw_callVi (e := d - 1) (as := [_, _, _]) rfl (by omega) rfl rfl (Nat.le_of_ble_eq_true rfl) (Nat.le_of_ble_eq_true rfl) rfl (c_needNumber hR hT hA (by omega) (by omega)) (fun r14 M14 hM14 => ?_)
      rcases hM14 with ⟨e, h14, rfl, f14⟩ | ⟨q14, v14, h14, rfl, g14, b14, k14⟩
      · skip
        have hz : (enS (frS S00 a n (.inr p)).2 a n (frS S00 a n (.inr p)).1).1 = .inl e := by simp only [enS, frS, h3, h14, woS_l, nuS_l, siS_l]
        have hX : FA pG M a n e M14 := ⟨hF.1.trans (f14.1.mono pP_R), f14.2⟩
        refine bw_ifne rfl (fun c => absurd c (by decide)) (fun _ => ?_)
        refine bw_push rfl ?_
        refine bw_retz rfl rfl (by omega) ?_
        exact ⟨rfl, _, rfl, Or.inl ⟨e, hz, rfl, hX.1.mono (fun c k => Or.inl k), hX.2⟩⟩
      · skip
        have n0 : gI M14 9 0 = v14 := by rw [k14, up_eq rfl]
        have hS := SR_sm hS g14.1.1 (fun c c0 c1 => no_N (by omega))
        have hF := hF.trans (g14.1.mono pN_R)
        have hR := g14.1.RF hR
        have hT := g14.2.1
        have hA := g14.2.2
        refine bw_ifne rfl (fun _ => ?_) (fun c => (c (by decide)).elim)
        refine bw_aload rfl rfl ?_
        refine bw_getr rfl rfl ((hR _ _).trans hr) ?_
        refine bw_aload rfl rfl ?_
        refine bw_getr rfl rfl (hR _ _) ?_
        refine bw_push rfl ?_
        refine bw_aldi rfl (by first | rfl | assumption) (by omega) (by omega) ?_
        rw [n0]
        refine bw_putI rfl rfl ?_
        have v32 : sm (fun c => c = 459) M14 (sI M14 459 0 v14) := (sm_refl _ _).sI 0 _ rfl
        have hS2 : SR (sI M14 459 0 v14) 459 (up S00 0 v14) := SR_f (by omega) (by rw [gI_sI_eq]) (by rw [gI_sI_nj (by decide)]; exact hS.c1) (by rw [gI_sI_nj (by decide)]; exact hS.c2) (by rw [gI_sI_nj (by decide)]; exact hS.c3) (by rw [gI_sI_nj (by decide)]; exact hS.c4) (by rw [gI_sI_nj (by decide)]; exact hS.c5)
        generalize sI M14 459 0 v14 = G at v32 hS2
        have hT := TP_s2 hT v32 (by decide) (by decide)
        have hA := TA_sm hA v32 (by decide)
        have hR := v32.RF hR
        have hF := (hF.mono (q := pGs 459) (fun c k => Or.inl k)).trans ((sq_of v32 (by decide)).mono (fun c k => Or.inr ⟨by have : c = 459 := k; omega, by have : c = 459 := k; omega⟩))
        have eF : frS S00 a n (.inr p) = (.inr q14, up S00 0 v14) := by simp only [frS, h3, h14]
        refine bw_aload rfl rfl ?_
        refine bw_callVi (e := d - 1) (as := []) rfl (by omega) rfl rfl (Nat.le_of_ble_eq_true rfl) (Nat.le_of_ble_eq_true rfl) rfl (c_endStatement (S := up S00 0 v14) hR hT hA (by first | exact Or.inl rfl | exact Or.inr rfl) hS2 hr (by show (0 : Int) ≤ 59; decide) (by omega)) (fun r36 M36 hM36 => ?_)
        refine bw_retz rfl rfl (by omega) ?_
        rw [eF]
        rcases hM36 with ⟨e, h1, h2, h3⟩ | ⟨q, h1, h2, h3, h4⟩
        · exact ⟨rfl, _, rfl, Or.inl ⟨e, h1, h2, FA.tr hF.1 h3 (fun _ k => k) (fun _ k => k)⟩⟩
        · exact ⟨rfl, _, rfl, Or.inr ⟨q, h1, h2, GO.tr hF h3 (fun _ k => k) (fun _ k => k), h4⟩⟩
