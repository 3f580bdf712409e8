noncomputable def ndV (S a : Int → Int) (n : Int) : Int := if (1 ≤ we a n (sk a n 0) - sk a n 0 ∧ we a n (sk a n 0) - sk a n 0 ≤ 6) ∧ wo a n (sk a n 0) = -1 then (if a (sk a n (we a n (sk a n 0))) = -1 then fnL S a (S 1) (sk a n 0) (we a n (sk a n 0) - sk a n 0) else -1) else -1
abbrev qN (j : Int) : Prop := j = 5 ∨ j = 8 ∨ j = 9 ∨ j = 10 ∨ j = 11 ∨ j = 12
theorem qN_B {j : Int} (k : qB j) : qN j := by show _ ∨ _; rcases k with k | k | k | k | k <;> simp [k]
set_option maxRecDepth 20000 in
set_option maxHeartbeats 4000000 in
theorem m_named {d L : Nat} {M : abMem} {r : abRf} (hR : RF r M) {a : Int → Int} {n : Int} (hX : TX M a n) {S : Int → Int} (hS : SIm (gI M 568) 0 S) (hl6 : 0 ≤ S 1 ∧ S 1 ≤ 6) (hd : 5 ≤ d) : abW d (0, 0) 189 0 (abEnt (abL 189) [vr (some 567)]) [] (0, 0) (A0 L) M (qI (A0 L) (fun x N => f5 pNo qN M N ∧ gI N 567 5 = 0 ∧ x = ndV S a n)) := by
  have hRM := hR
  have x0 := hX.ok.1
  show abW d (0, 0) 189 0 [some (vr (some 567)), none, none] [] (0, 0) (A0 L) M (qI (A0 L) (fun x N => f5 pNo qN M N ∧ gI N 567 5 = 0 ∧ x = ndV S a n))
  refine bw_aload rfl rfl ?_
  refine bw_callVv (e := d - 1) (as := []) rfl (by omega) rfl rfl (Nat.le_of_ble_eq_true rfl) (Nat.le_of_ble_eq_true rfl) rfl (m_begins hR hX (by omega)) (fun M1 hM1 => ?_)
  obtain ⟨u1, P1, t1, f1, w1, h1⟩ := hM1
  have hR := u1.RF hR
  have s0 := sk_in hX.ok (k := 0) (by omega)
  have k0 : skM M1 a n = sk a n 0 := by
    show sk a n (gI M1 567 9) = _
    rw [h1]; exact sk_sk hX.ok (by omega)
  have e0 := we_in hX.ok (k := sk a n 0) (by omega)
  refine bw_aload rfl rfl ?_
  refine bw_callVi (e := d - 1) (as := []) rfl (by omega) rfl rfl (Nat.le_of_ble_eq_true rfl) (Nat.le_of_ble_eq_true rfl) rfl (m_wordEnd hR P1 (by omega)) (fun r5 M5 hM5 => ?_)
  obtain ⟨u5, v5, w5⟩ := hM5
  have hR := u5.RF hR
  rw [k0] at v5 w5
  have P5 := P1.to9 u5 (by omega)
  have U5 : f5 pNo qN M M5 := (u1.mono (fun _ k => k) (fun _ k => qN_B k)).trans (u5.f.mono (fun _ k => k) (fun _ k => Or.inr (Or.inr (Or.inl k))))
  have t5 : gI M5 567 5 = 0 := (u5.sl 5 (fun k => by have : (5 : Int) = 9 := k; omega)).trans t1
  have ew : ow a (sk a n 0) (we a n (sk a n 0) - sk a n 0) = wo a n (sk a n 0) := rfl
  refine bw_istore (ls2 := [_, _, _]) rfl rfl (Nat.le_of_ble_eq_true rfl) rfl ?_
  refine bw_iload rfl rfl ?_
  refine bw_aload rfl rfl ?_
  refine bw_getI rfl rfl ?_
  refine bw_isub rfl ⟨by omega, by omega⟩ ?_
  refine bw_push rfl ?_
  refine bw_push rfl ?_
  refine bw_callSj (e := d - 1) (as := [_, _, _]) rfl (by omega) rfl rfl (Nat.le_of_ble_eq_true rfl) (Nat.le_of_ble_eq_true rfl) (m_isIn hR) (fun r18 hr18 => ?_)
  refine bw_ifeq rfl (fun c21 => ?_) (fun c21 => ?_)
  · skip
    refine bw_push rfl ?_
    refine bw_ret rfl rfl ?_
    exact ⟨rfl, _, rfl, U5, t5, by unfold ndV; rw [if_neg (by omega)]⟩
  · skip
    refine bw_aload rfl rfl ?_
    refine bw_iload rfl rfl ?_
    refine bw_callVe (e := d - 1) (as := [_]) rfl (by omega) rfl rfl (Nat.le_of_ble_eq_true rfl) (Nat.le_of_ble_eq_true rfl) rfl (m_ownTo hR P5 (by omega)) ?_
    rw [v5, w5, ew]
    refine bw_push rfl ?_
    refine bw_iceq rfl (fun c30 => ?_) (fun c30 => ?_)
    · skip
      refine bw_aload rfl rfl ?_
      refine bw_callVv (e := d - 1) (as := []) rfl (by omega) rfl rfl (Nat.le_of_ble_eq_true rfl) (Nat.le_of_ble_eq_true rfl) rfl (m_passes hR P5 (by omega)) (fun M36 hM36 => ?_)
      obtain ⟨u36, v36, w36⟩ := hM36
      have hR := u36.RF hR
      have k5 : skM M5 a n = sk a n 0 := by
        show sk a n (gI M5 567 9) = _
        rw [v5]; exact sk_sk hX.ok (by omega)
      rw [k5] at v36 w36
      have P36 := P5.toP u36.P10 (by omega)
      have U36 : f5 pNo qN M M36 := U5.trans (u36.f.mono (fun _ k => k) (fun _ k => k.elim (fun k => Or.inr (Or.inr (Or.inl k))) (fun k => Or.inr (Or.inr (Or.inr (Or.inl k))))))
      have t36 : gI M36 567 5 = 0 := (u36.sl 5 (fun k => by rcases k with k | k <;> omega)).trans t5
      have S36 : SIm (gI M36 568) 0 S := by rw [U36.at 568 (fun k => k) (by decide)]; exact hS
      have hin : (1 ≤ we a n (sk a n 0) - sk a n 0 ∧ we a n (sk a n 0) - sk a n 0 ≤ 6) ∧ wo a n (sk a n 0) = -1 := by omega
      refine bw_aload rfl rfl ?_
      refine bw_push rfl ?_
      refine bw_aload rfl rfl ?_
      refine bw_getr rfl rfl (hR _ _) ?_
      refine bw_push rfl ?_
      refine bw_aldi rfl (by first | rfl | assumption) (by omega) (by omega) ?_
      rw [show gI M36 568 1 = S 1 from S36 1 (by decide) (by decide)]
      refine bw_callVe (e := d - 1) (as := [_, _]) rfl (by omega) rfl rfl (Nat.le_of_ble_eq_true rfl) (Nat.le_of_ble_eq_true rfl) rfl (m_layerNamed hR P36 (Or.inl rfl) S36 (by omega) (by omega) (by omega)) ?_
      rw [v36, w36]
      refine bw_istore (ls2 := [_, _, _]) rfl rfl (Nat.le_of_ble_eq_true rfl) rfl ?_
      refine bw_aload rfl rfl ?_
      refine bw_callVi (e := d - 1) (as := []) rfl (by omega) rfl rfl (Nat.le_of_ble_eq_true rfl) (Nat.le_of_ble_eq_true rfl) rfl (m_sees hR P36 (by omega)) (fun r52 M52 hM52 => ?_)
      obtain ⟨u52, v52, w52⟩ := hM52
      have U52 : f5 pNo qN M M52 := U36.trans (u52.f.mono (fun _ k => k) (fun _ k => Or.inr (Or.inr (Or.inl k))))
      have t52 : gI M52 567 5 = 0 := (u52.sl 5 (fun k => by have : (5 : Int) = 9 := k; omega)).trans t36
      rw [w36] at w52
      refine bw_push rfl ?_
      refine bw_icne rfl (fun c56 => ?_) (fun c56 => ?_)
      · skip
        refine bw_push rfl ?_
        refine bw_ret rfl rfl ?_
        first
        | exact ⟨rfl, _, rfl, U52, t52, by unfold ndV; rw [if_pos hin, if_pos (show a (sk a n (we a n (sk a n 0))) = -1 by omega)]⟩
        | exact ⟨rfl, _, rfl, U52, t52, by unfold ndV; rw [if_pos hin, if_neg (show ¬ a (sk a n (we a n (sk a n 0))) = -1 by omega)]⟩
      · skip
        refine bw_iload rfl rfl ?_
        refine bw_goto rfl ?_
        refine bw_ret rfl rfl ?_
        first
        | exact ⟨rfl, _, rfl, U52, t52, by unfold ndV; rw [if_pos hin, if_pos (show a (sk a n (we a n (sk a n 0))) = -1 by omega)]⟩
        | exact ⟨rfl, _, rfl, U52, t52, by unfold ndV; rw [if_pos hin, if_neg (show ¬ a (sk a n (we a n (sk a n 0))) = -1 by omega)]⟩
    · skip
      refine bw_push rfl ?_
      refine bw_ret rfl rfl ?_
      exact ⟨rfl, _, rfl, U5, t5, by unfold ndV; rw [if_neg (by omega)]⟩
