theorem isW_cg {a b : Int → Int} {k i m w : Int} (e : ∀ j : Int, 0 ≤ j → j < m → a (k + j) = b (i + j)) (h : isW a k m w) : isW b i m w := ⟨h.1, fun j j0 j1 => by rw [← e j j0 (by rw [h.1]; exact j1)]; exact h.2 j j0 j1⟩
theorem ow_cg {a b : Int → Int} {k i m : Int} (e : ∀ j : Int, 0 ≤ j → j < m → a (k + j) = b (i + j)) : ow a k m = ow b i m := by
  have e2 : ∀ j : Int, 0 ≤ j → j < m → b (i + j) = a (k + j) := fun j j0 j1 => (e j j0 j1).symm
  refine ow_eq ?_
  rcases ow_spec b i m with ⟨h1, h2⟩ | ⟨h1, h2⟩
  · exact Or.inl ⟨h1, isW_cg e2 h2⟩
  · exact Or.inr ⟨h1, fun w w0 w1 h => h2 w w0 w1 (isW_cg e h)⟩
theorem nmO_cg {S T : Int → Int} (h : nmO S) (hl : S 1 ≤ 6) (e : T 1 = S 1) (o : ∀ j : Int, 12 ≤ j → j < 54 → T j = S j) : nmO T := fun l l0 l1 => by
  rw [e] at l1
  rw [o (12 + 7 * l) (by omega) (by omega)]
  by_cases q : 1 ≤ S (12 + 7 * l) ∧ S (12 + 7 * l) ≤ 6
  · rw [ow_cg (b := S) (i := 13 + 7 * l) (fun j j0 j1 => o _ (by omega) (by omega))]
    exact h l l0 l1
  · exact ow_none q
theorem nmO_la {S T a : Int → Int} {p m : Int} (h : nmO S) (hl : 0 ≤ S 1 ∧ S 1 ≤ 5) (e : T 1 = S 1 + 1) (hw : ow a p m = -1) (o : ∀ j : Int, 12 ≤ j → j < 54 → T j = nmF S a (S 1) m p m j) : nmO T := fun l l0 l1 => by
  rw [e] at l1
  rw [o (12 + 7 * l) (by omega) (by omega)]
  by_cases g : l = S 1
  · have e1 : nmF S a (S 1) m p m (12 + 7 * l) = m := by unfold nmF; rw [if_pos (by omega)]
    rw [e1]
    by_cases q : 1 ≤ m ∧ m ≤ 6
    · rw [ow_cg (b := a) (i := p) (fun j j0 j1 => by
        rw [o _ (by omega) (by omega)]
        unfold nmF
        rw [if_neg (by omega), if_pos (by omega)]
        exact congrArg a (by omega))]
      exact hw
    · exact ow_none q
  · have e1 : ∀ j : Int, 12 + 7 * l ≤ j → j < 19 + 7 * l → nmF S a (S 1) m p m j = S j := fun j j0 j1 => by
      unfold nmF; rw [if_neg (by omega), if_neg (by omega)]
    rw [e1 _ (by omega) (by omega)]
    by_cases q : 1 ≤ S (12 + 7 * l) ∧ S (12 + 7 * l) ≤ 6
    · rw [ow_cg (b := S) (i := 13 + 7 * l) (fun j j0 j1 => by rw [o _ (by omega) (by omega), e1 _ (by omega) (by omega)])]
      exact h l l0 (by omega)
    · exact ow_none q
theorem laT_mid {S : Int → Int} {on l e j : Int} {h : HH} (hl : 0 ≤ l ∧ l ≤ 5) (h1 : 12 ≤ j) (h2 : j < 430) : laT S on l h e j = S j := by
  unfold laT
  rw [ltF_lo hl.1 h2, up_ne (by omega)]
theorem laS_mid {S a : Int → Int} {n p q : Int} (hl : 0 ≤ S 1 ∧ S 1 ≤ 5) (h : (laS S a n p).1 = .inr q) : ∃ m : Int, ow a p m = -1 ∧ ∀ j : Int, 12 ≤ j → j < 54 → (laS S a n p).2 j = nmF S a (S 1) m p m j := by
  by_cases hw : (1 ≤ we a n p - p ∧ we a n p - p ≤ 6) ∧ wo a n p = -1
  · refine ⟨we a n p - p, hw.2, fun j j0 j1 => ?_⟩
    unfold laS at h ⊢
    split at h
    · cases h
    · split at h
      · cases h
      · rename_i k _ hk
        rw [if_neg hk]
        unfold laN at h ⊢
        split at h
        · cases h
        · unfold laL at h ⊢
          split at h
          · cases h
          · unfold laE
            show up _ 1 _ j = _
            rw [up_ne (by omega), laT_mid hl j0 (by omega)]
  · rw [laS_f (e := (1, p)) (by rw [naS_n hw])] at h; cases h
theorem st_nm {S a : Int → Int} {n p q : Int} (hc : CT S) (hm : nmO S) (h : (stS S a n p).1 = .inr q) : nmO (stS S a n p).2 := by
  obtain ⟨c0, c1, c2, c3, c4, c5⟩ := hc
  by_cases g : wo a n p = 1 ∨ wo a n p = 5 ∨ wo a n p = 9 ∨ wo a n p = 16
  · by_cases f : S 5 = 60 ∨ flP S (wo a n p)
    · rw [st_4 g f] at h; cases h
    · have ff : ¬ flP S (wo a n p) := fun k => f (Or.inr k)
      unfold flP at ff
      rw [st_g g f] at h ⊢
      by_cases w1 : wo a n p = 1
      · rw [if_pos w1] at h ⊢
        have l5 : S 1 ≤ 5 := by omega
        obtain ⟨m, m1, m2⟩ := laS_mid ⟨c1.1, l5⟩ h
        exact nmO_la hm ⟨c1.1, l5⟩ (laS_1 c1.1 h) m1 m2
      · rw [if_neg w1] at h ⊢
        by_cases w5 : wo a n p = 5
        · rw [if_pos w5]
          exact nmO_cg hm c1.2 (clS_lo c2.1 (by decide) (by decide)) (fun j j0 j1 => clS_lo c2.1 j1 (by omega))
        · rw [if_neg w5]
          by_cases w9 : wo a n p = 9
          · rw [if_pos w9]
            exact nmO_cg hm c1.2 (slS_lo c3.1 (by decide) (by decide)) (fun j j0 j1 => slS_lo c3.1 (by omega) (by omega))
          · rw [if_neg w9]
            exact nmO_cg hm c1.2 (hdS_lo c4.1 (by decide) (by decide)) (fun j j0 j1 => hdS_lo c4.1 (by omega) (by omega))
  · rw [st_1 g] at h; cases h
theorem enS_o {S a : Int → Int} {n j : Int} {z : Rp} (h : j ≠ 5) : (enS S a n z).2 j = S j := up_ne h
theorem scL_nm {a : Int → Int} {n : Int} : ∀ (k : Nat) (z : Rp) (S T : Int → Int), ((∃ p : Int, z = .inr p) → CT S ∧ nmO S) → scL a n k z S = some (.inr T) → CT T ∧ nmO T ∧ T 1 ≠ 0 := by
  intro k
  induction k with
  | zero => intro z S T _ h; cases h
  | succ k ih =>
    intro z S T g h
    rcases z with e | p
    · cases h
    · obtain ⟨g1, g2⟩ := g ⟨p, rfl⟩
      unfold scL at h
      by_cases c : a p = -1
      · rw [if_pos c] at h
        by_cases c1 : S 1 = 0
        · rw [if_pos c1] at h; cases h
        · rw [if_neg c1] at h
          cases h
          exact ⟨g1, g2, c1⟩
      · rw [if_neg c] at h
        refine ih _ _ T (fun q => ?_) h
        obtain ⟨q, hq⟩ := q
        obtain ⟨p2, hp⟩ := siS_ok hq
        have x := st_ct g1 hp
        have l5 := st_lo (a := a) (n := n) (p := p) g1 (Or.inr rfl)
        exact ⟨en_ct x.1 (by omega), nmO_cg (st_nm g1 g2 hp) x.1.2.1.2 (enS_o (by decide)) (fun j j0 j1 => enS_o (by omega))⟩
theorem sc0_1 {a : Int → Int} {n : Int} : (sc0 a n).2 1 = 0 := by
  show up (fun _ => 0) 0 (nuS a n 1 96 (woS a n 0 (.inr (sk a n 0)))).2 1 = 0
  exact up_ne (by decide)
theorem isTx_nm {a : Int → Int} {n : Int} {T : Int → Int} (h : isTx a n (.inr T)) : nmO T ∧ T 1 ≠ 0 := by
  obtain ⟨k, h⟩ := h
  have ct := sc0_ct (a := a) (n := n)
  have e1 : (sc1 a n).2 1 = 0 := (enS_o (by decide)).trans sc0_1
  exact (scL_nm k _ _ T (fun _ => ⟨en_ct ct.1 (by omega), fun l l0 l1 => by have l1 : l < (sc1 a n).2 1 := l1; rw [e1] at l1; omega⟩) h).2
/-- no layer has a name that is none -/
theorem fnL_no {S a : Int → Int} {k m : Int} (h : nmO S) (hS : SW S) (g : (1 ≤ m ∧ m ≤ 6) → ow a k m ≠ -1) : fnL S a (S 1) k m = -1 := fnL_eq (Or.inl ⟨rfl, fun l l0 l1 e => by
  have q := hS.nm l l0 l1
  obtain ⟨e1, e2⟩ := e
  rw [e1] at q
  refine g q ?_
  rw [ow_cg (b := S) (i := 13 + 7 * l) (fun j j0 j1 => (e2 j j0 j1).symm), ← e1]
  exact h l l0 l1⟩)
set_option maxRecDepth 20000 in
set_option maxHeartbeats 4000000 in
theorem x_named {d L : Nat} {M : abMem} {r : abRf} (hR : RF r M) {s : Nat} (hs : s = 372 ∨ s = 459) (hc : cur r = s) {k : Int} (h : INV r M k) (hd : 2 ≤ d) : abW d (0, 0) 88 0 (abEnt (abL 88) [vr (some 0)]) [] (0, 0) (A0 L) M (qI (A0 L) (fun x N => sm pT M N ∧ gI N 1 1 = 0 ∧ x = ndV (gI M 568) (txA M) (gI M 567 5))) := by
  rcases hs with rfl | rfl
  · have hS : SR M 372 (gI M 568) := by have q := h.sr; rw [hc] at q; exact q
    have b1 := h.fr
    have b2 := h.la
    have hrf := hR
    have hT := tx_TP h
    have tb := h.ta.2.1
    have lq := h.ly.2
    have hw := h.rb.sw
    obtain ⟨a, hza⟩ : ∃ a, txA M = a := ⟨_, rfl⟩
    obtain ⟨n, hn⟩ : ∃ n, gI M 567 5 = n := ⟨_, rfl⟩
    rw [hza, hn] at hT
    rw [hn] at tb
    show abW d (0, 0) 88 0 [some (vr (some 0)), none, none, none] [] (0, 0) (A0 L) M (qI (A0 L) (fun x N => sm pT M N ∧ gI N 1 1 = 0 ∧ x = ndV (gI M 568) (txA M) (gI M 567 5)))
    refine bw_push rfl ?_
    refine bw_istore (ls2 := [_, _, _, _]) rfl rfl (Nat.le_of_ble_eq_true rfl) rfl ?_
    refine bw_aload rfl rfl ?_
    refine bw_getr rfl rfl (hR _ _) ?_
    refine bw_callVNv (e := d - 1) (as := []) rfl (by omega) rfl rfl (Nat.le_of_ble_eq_true rfl) (Nat.le_of_ble_eq_true rfl) rfl (c_start hR hT (by omega)) (fun M6 hM6 => ?_)
    obtain ⟨u6, T6, A6⟩ := hM6
    have hR := u6.RF hR
    have a1_6 := A6.1.1
    have a2_6 := A6.1.2.1
    have a3_6 := A6.1.2.2
    have a4_6 := A6.2
    have s0 := sk_in T6.1 (k := 0) (by omega)
    generalize hp : sk a n 0 = p at A6 a1_6 a2_6 a3_6 a4_6 s0
    have tc := tk_c T6.1 (p := p) (by omega)
    refine bw_aload rfl rfl ?_
    refine bw_getr rfl rfl (hR _ _) ?_
    refine bw_getI rfl rfl ?_
    refine bw_push rfl ?_
    refine bw_icne rfl (fun c17 => ?_) (fun c17 => ?_)
    · skip
      refine bw_aload rfl rfl ?_
      refine bw_getr rfl rfl (hR _ _) ?_
      refine bw_push rfl ?_
      refine bw_putI rfl rfl ?_
      refine bw_iload rfl rfl ?_
      refine bw_ret rfl rfl ?_
      first
      | exact ⟨rfl, _, rfl, u6.sI 1 0 rfl, by rw [gI_sI_eq], by unfold ndV; rw [hza, hn, hp, if_neg (by omega)]⟩
      | (refine ⟨rfl, _, rfl, (u6.trans u48).sI 1 0 rfl, by rw [gI_sI_eq], ?_⟩
         unfold ndV
         rw [hza, hn, hp]
         by_cases hin : (1 ≤ we a n p - p ∧ we a n p - p ≤ 6) ∧ wo a n p = -1
         · rw [if_pos hin]
           first
           | rw [if_pos (hk2.1 (by omega))]
           | rw [if_neg (fun k => by have := hk2.2 k; omega)]
         · first
           | exact (if_neg hin).symm
           | exact (fnL_no lq hw (fun q k => hin ⟨q, k⟩)).trans (if_neg hin).symm)
    · skip
      refine bw_aload rfl rfl ?_
      refine bw_getr rfl rfl (hR _ _) ?_
      refine bw_getI rfl rfl ?_
      refine bw_istore (ls2 := [_, _, _, _]) rfl rfl (Nat.le_of_ble_eq_true rfl) rfl ?_
      refine bw_aload rfl rfl ?_
      refine bw_getr rfl rfl (hR _ _) ?_
      refine bw_getI rfl rfl ?_
      refine bw_aload rfl rfl ?_
      refine bw_getr rfl rfl (hR _ _) ?_
      refine bw_getI rfl rfl ?_
      refine bw_isub rfl ⟨by omega, by omega⟩ ?_
      refine bw_istore (ls2 := [_, _, _, _]) rfl rfl (Nat.le_of_ble_eq_true rfl) rfl ?_
      refine bw_aload rfl rfl ?_
      refine bw_getr rfl rfl (hR _ _) ?_
      refine bw_callVNv (e := d - 1) (as := []) rfl (by omega) rfl rfl (Nat.le_of_ble_eq_true rfl) (Nat.le_of_ble_eq_true rfl) rfl (c_advance hR T6 (s := tkE a n p) ⟨a3_6, by omega, by omega⟩) (fun M48 hM48 => ?_)
      obtain ⟨u48, T48, A48⟩ := hM48
      have hR := u48.RF hR
      have a1_48 := A48.1.1
      have a2_48 := A48.1.2.1
      have a3_48 := A48.1.2.2
      have a4_48 := A48.2
      have s1 := sk_in T48.1 (k := tkE a n p) (by omega)
      have S48 := SR_sm hS (u6.trans u48) (fun c c0 c1 k => by omega)
      have we0 : tkE a n p = we a n p := by omega
      rw [we0] at a1_48 a2_48 a3_48 a4_48 s1
      have hk2 : (tkK a n (sk a n (we a n p)) = 0 → a (sk a n (we a n p)) = -1) ∧ (a (sk a n (we a n p)) = -1 → tkK a n (sk a n (we a n p)) = 0) := ⟨fun k => by have := tk_c T48.1 (p := sk a n (we a n p)) (by omega); omega, fun k => by have := tk_c T48.1 (p := sk a n (we a n p)) (by omega); omega⟩
      refine bw_aload rfl rfl ?_
      refine bw_getr rfl rfl (hR _ _) ?_
      refine bw_getI rfl rfl ?_
      refine bw_ifne rfl (fun c58 => ?_) (fun c58 => ?_)
      · skip
        refine bw_aload rfl rfl ?_
        refine bw_getr rfl rfl (hR _ _) ?_
        refine bw_push rfl ?_
        refine bw_putI rfl rfl ?_
        refine bw_iload rfl rfl ?_
        refine bw_ret rfl rfl ?_
        first
        | exact ⟨rfl, _, rfl, u6.sI 1 0 rfl, by rw [gI_sI_eq], by unfold ndV; rw [hza, hn, hp, if_neg (by omega)]⟩
        | (refine ⟨rfl, _, rfl, (u6.trans u48).sI 1 0 rfl, by rw [gI_sI_eq], ?_⟩
           unfold ndV
           rw [hza, hn, hp]
           by_cases hin : (1 ≤ we a n p - p ∧ we a n p - p ≤ 6) ∧ wo a n p = -1
           · rw [if_pos hin]
             first
             | rw [if_pos (hk2.1 (by omega))]
             | rw [if_neg (fun k => by have := hk2.2 k; omega)]
           · first
             | exact (if_neg hin).symm
             | exact (fnL_no lq hw (fun q k => hin ⟨q, k⟩)).trans (if_neg hin).symm)
      · skip
        refine bw_aload rfl rfl ?_
        refine bw_getr rfl rfl (cur_r hR hc) ?_
        refine bw_aload rfl rfl ?_
        refine bw_getr rfl rfl (hR _ _) ?_
        refine bw_getr rfl rfl (hR _ _) ?_
        refine bw_iload rfl rfl ?_
        refine bw_iload rfl rfl ?_
        refine bw_callVNe (e := d - 1) (as := [_, _, _]) rfl (by omega) rfl rfl (Nat.le_of_ble_eq_true rfl) (Nat.le_of_ble_eq_true rfl) rfl (c_layerWithName hR T48 (by first | exact Or.inl rfl | exact Or.inr rfl) S48 ⟨by omega, by omega⟩ (by omega)) ?_
        rw [show gI M6 1 3 = p from a1_6, show gI M6 1 4 = we a n p by omega]
        refine bw_istore (ls2 := [_, _, _, _]) rfl rfl (Nat.le_of_ble_eq_true rfl) rfl ?_
        refine bw_aload rfl rfl ?_
        refine bw_getr rfl rfl (hR _ _) ?_
        refine bw_push rfl ?_
        refine bw_putI rfl rfl ?_
        refine bw_iload rfl rfl ?_
        refine bw_ret rfl rfl ?_
        first
        | exact ⟨rfl, _, rfl, u6.sI 1 0 rfl, by rw [gI_sI_eq], by unfold ndV; rw [hza, hn, hp, if_neg (by omega)]⟩
        | (refine ⟨rfl, _, rfl, (u6.trans u48).sI 1 0 rfl, by rw [gI_sI_eq], ?_⟩
           unfold ndV
           rw [hza, hn, hp]
           by_cases hin : (1 ≤ we a n p - p ∧ we a n p - p ≤ 6) ∧ wo a n p = -1
           · rw [if_pos hin]
             first
             | rw [if_pos (hk2.1 (by omega))]
             | rw [if_neg (fun k => by have := hk2.2 k; omega)]
           · first
             | exact (if_neg hin).symm
             | exact (fnL_no lq hw (fun q k => hin ⟨q, k⟩)).trans (if_neg hin).symm)
  · have hS : SR M 459 (gI M 568) := by have q := h.sr; rw [hc] at q; exact q
    have b1 := h.fr
    have b2 := h.la
    have hrf := hR
    have hT := tx_TP h
    have tb := h.ta.2.1
    have lq := h.ly.2
    have hw := h.rb.sw
    obtain ⟨a, hza⟩ : ∃ a, txA M = a := ⟨_, rfl⟩
    obtain ⟨n, hn⟩ : ∃ n, gI M 567 5 = n := ⟨_, rfl⟩
    rw [hza, hn] at hT
    rw [hn] at tb
    show abW d (0, 0) 88 0 [some (vr (some 0)), none, none, none] [] (0, 0) (A0 L) M (qI (A0 L) (fun x N => sm pT M N ∧ gI N 1 1 = 0 ∧ x = ndV (gI M 568) (txA M) (gI M 567 5)))
    refine bw_push rfl ?_
    refine bw_istore (ls2 := [_, _, _, _]) rfl rfl (Nat.le_of_ble_eq_true rfl) rfl ?_
    refine bw_aload rfl rfl ?_
    refine bw_getr rfl rfl (hR _ _) ?_
    refine bw_callVNv (e := d - 1) (as := []) rfl (by omega) rfl rfl (Nat.le_of_ble_eq_true rfl) (Nat.le_of_ble_eq_true rfl) rfl (c_start hR hT (by omega)) (fun M6 hM6 => ?_)
    obtain ⟨u6, T6, A6⟩ := hM6
    have hR := u6.RF hR
    have a1_6 := A6.1.1
    have a2_6 := A6.1.2.1
    have a3_6 := A6.1.2.2
    have a4_6 := A6.2
    have s0 := sk_in T6.1 (k := 0) (by omega)
    generalize hp : sk a n 0 = p at A6 a1_6 a2_6 a3_6 a4_6 s0
    have tc := tk_c T6.1 (p := p) (by omega)
    refine bw_aload rfl rfl ?_
    refine bw_getr rfl rfl (hR _ _) ?_
    refine bw_getI rfl rfl ?_
    refine bw_push rfl ?_
    refine bw_icne rfl (fun c17 => ?_) (fun c17 => ?_)
    · skip
      refine bw_aload rfl rfl ?_
      refine bw_getr rfl rfl (hR _ _) ?_
      refine bw_push rfl ?_
      refine bw_putI rfl rfl ?_
      refine bw_iload rfl rfl ?_
      refine bw_ret rfl rfl ?_
      first
      | exact ⟨rfl, _, rfl, u6.sI 1 0 rfl, by rw [gI_sI_eq], by unfold ndV; rw [hza, hn, hp, if_neg (by omega)]⟩
      | (refine ⟨rfl, _, rfl, (u6.trans u48).sI 1 0 rfl, by rw [gI_sI_eq], ?_⟩
         unfold ndV
         rw [hza, hn, hp]
         by_cases hin : (1 ≤ we a n p - p ∧ we a n p - p ≤ 6) ∧ wo a n p = -1
         · rw [if_pos hin]
           first
           | rw [if_pos (hk2.1 (by omega))]
           | rw [if_neg (fun k => by have := hk2.2 k; omega)]
         · first
           | exact (if_neg hin).symm
           | exact (fnL_no lq hw (fun q k => hin ⟨q, k⟩)).trans (if_neg hin).symm)
    · skip
      refine bw_aload rfl rfl ?_
      refine bw_getr rfl rfl (hR _ _) ?_
      refine bw_getI rfl rfl ?_
      refine bw_istore (ls2 := [_, _, _, _]) rfl rfl (Nat.le_of_ble_eq_true rfl) rfl ?_
      refine bw_aload rfl rfl ?_
      refine bw_getr rfl rfl (hR _ _) ?_
      refine bw_getI rfl rfl ?_
      refine bw_aload rfl rfl ?_
      refine bw_getr rfl rfl (hR _ _) ?_
      refine bw_getI rfl rfl ?_
      refine bw_isub rfl ⟨by omega, by omega⟩ ?_
      refine bw_istore (ls2 := [_, _, _, _]) rfl rfl (Nat.le_of_ble_eq_true rfl) rfl ?_
      refine bw_aload rfl rfl ?_
      refine bw_getr rfl rfl (hR _ _) ?_
      refine bw_callVNv (e := d - 1) (as := []) rfl (by omega) rfl rfl (Nat.le_of_ble_eq_true rfl) (Nat.le_of_ble_eq_true rfl) rfl (c_advance hR T6 (s := tkE a n p) ⟨a3_6, by omega, by omega⟩) (fun M48 hM48 => ?_)
      obtain ⟨u48, T48, A48⟩ := hM48
      have hR := u48.RF hR
      have a1_48 := A48.1.1
      have a2_48 := A48.1.2.1
      have a3_48 := A48.1.2.2
      have a4_48 := A48.2
      have s1 := sk_in T48.1 (k := tkE a n p) (by omega)
      have S48 := SR_sm hS (u6.trans u48) (fun c c0 c1 k => by omega)
      have we0 : tkE a n p = we a n p := by omega
      rw [we0] at a1_48 a2_48 a3_48 a4_48 s1
      have hk2 : (tkK a n (sk a n (we a n p)) = 0 → a (sk a n (we a n p)) = -1) ∧ (a (sk a n (we a n p)) = -1 → tkK a n (sk a n (we a n p)) = 0) := ⟨fun k => by have := tk_c T48.1 (p := sk a n (we a n p)) (by omega); omega, fun k => by have := tk_c T48.1 (p := sk a n (we a n p)) (by omega); omega⟩
      refine bw_aload rfl rfl ?_
      refine bw_getr rfl rfl (hR _ _) ?_
      refine bw_getI rfl rfl ?_
      refine bw_ifne rfl (fun c58 => ?_) (fun c58 => ?_)
      · skip
        refine bw_aload rfl rfl ?_
        refine bw_getr rfl rfl (hR _ _) ?_
        refine bw_push rfl ?_
        refine bw_putI rfl rfl ?_
        refine bw_iload rfl rfl ?_
        refine bw_ret rfl rfl ?_
        first
        | exact ⟨rfl, _, rfl, u6.sI 1 0 rfl, by rw [gI_sI_eq], by unfold ndV; rw [hza, hn, hp, if_neg (by omega)]⟩
        | (refine ⟨rfl, _, rfl, (u6.trans u48).sI 1 0 rfl, by rw [gI_sI_eq], ?_⟩
           unfold ndV
           rw [hza, hn, hp]
           by_cases hin : (1 ≤ we a n p - p ∧ we a n p - p ≤ 6) ∧ wo a n p = -1
           · rw [if_pos hin]
             first
             | rw [if_pos (hk2.1 (by omega))]
             | rw [if_neg (fun k => by have := hk2.2 k; omega)]
           · first
             | exact (if_neg hin).symm
             | exact (fnL_no lq hw (fun q k => hin ⟨q, k⟩)).trans (if_neg hin).symm)
      · skip
        refine bw_aload rfl rfl ?_
        refine bw_getr rfl rfl (cur_r hR hc) ?_
        refine bw_aload rfl rfl ?_
        refine bw_getr rfl rfl (hR _ _) ?_
        refine bw_getr rfl rfl (hR _ _) ?_
        refine bw_iload rfl rfl ?_
        refine bw_iload rfl rfl ?_
        refine bw_callVNe (e := d - 1) (as := [_, _, _]) rfl (by omega) rfl rfl (Nat.le_of_ble_eq_true rfl) (Nat.le_of_ble_eq_true rfl) rfl (c_layerWithName hR T48 (by first | exact Or.inl rfl | exact Or.inr rfl) S48 ⟨by omega, by omega⟩ (by omega)) ?_
        rw [show gI M6 1 3 = p from a1_6, show gI M6 1 4 = we a n p by omega]
        refine bw_istore (ls2 := [_, _, _, _]) rfl rfl (Nat.le_of_ble_eq_true rfl) rfl ?_
        refine bw_aload rfl rfl ?_
        refine bw_getr rfl rfl (hR _ _) ?_
        refine bw_push rfl ?_
        refine bw_putI rfl rfl ?_
        refine bw_iload rfl rfl ?_
        refine bw_ret rfl rfl ?_
        first
        | exact ⟨rfl, _, rfl, u6.sI 1 0 rfl, by rw [gI_sI_eq], by unfold ndV; rw [hza, hn, hp, if_neg (by omega)]⟩
        | (refine ⟨rfl, _, rfl, (u6.trans u48).sI 1 0 rfl, by rw [gI_sI_eq], ?_⟩
           unfold ndV
           rw [hza, hn, hp]
           by_cases hin : (1 ≤ we a n p - p ∧ we a n p - p ≤ 6) ∧ wo a n p = -1
           · rw [if_pos hin]
             first
             | rw [if_pos (hk2.1 (by omega))]
             | rw [if_neg (fun k => by have := hk2.2 k; omega)]
           · first
             | exact (if_neg hin).symm
             | exact (fnL_no lq hw (fun q k => hin ⟨q, k⟩)).trans (if_neg hin).symm)
