theorem xi2b_v (y : Int) : xi2b y = Int.bmod ((BitVec.ofInt 32 y).toNat : Int) 256 := by
  show (((BitVec.ofInt 32 y).signExtend 8).signExtend 32).toInt = _
  rw [BitVec.toInt_signExtend_of_le (by decide), BitVec.toInt_signExtend_eq_toNat_bmod_of_le]
  decide
theorem xshr_24 (v : Int) : xshr v 24 = (BitVec.ofInt 32 v).toInt / 16777216 := by
  show (BitVec.sshiftRight' (BitVec.ofInt 32 v) ((Int32.ofInt 24 &&& 31).toBitVec.smod 32)).toInt = _
  rw [show ((Int32.ofInt 24 &&& 31).toBitVec.smod 32) = BitVec.ofNat 32 24 from by decide, BitVec.sshiftRight_eq', BitVec.toInt_sshiftRight, Int.shiftRight_eq_div_pow]
  rfl
theorem xushr_24 (v : Int) : xushr v 24 = ((BitVec.ofInt 32 v) >>> (24 : Nat)).toInt := by
  show (((Int32.ofInt v).toUInt32 >>> ((Int32.ofInt 24).toUInt32 &&& Int32.toUInt32 31)).toInt32).toInt = _
  rw [show ((Int32.ofInt 24).toUInt32 &&& Int32.toUInt32 31) = (UInt32.ofNat 24) from by decide]
  show ((UInt32.ofBitVec (BitVec.ofInt 32 v)) >>> (UInt32.ofNat 24)).toBitVec.toInt = _
  rw [UInt32.toBitVec_shiftRight]
  rfl
theorem xshr_16 (v : Int) : xshr v 16 = (BitVec.ofInt 32 v).toInt / 65536 := by
  show (BitVec.sshiftRight' (BitVec.ofInt 32 v) ((Int32.ofInt 16 &&& 31).toBitVec.smod 32)).toInt = _
  rw [show ((Int32.ofInt 16 &&& 31).toBitVec.smod 32) = BitVec.ofNat 32 16 from by decide, BitVec.sshiftRight_eq', BitVec.toInt_sshiftRight, Int.shiftRight_eq_div_pow]
  rfl
theorem xushr_16 (v : Int) : xushr v 16 = ((BitVec.ofInt 32 v) >>> (16 : Nat)).toInt := by
  show (((Int32.ofInt v).toUInt32 >>> ((Int32.ofInt 16).toUInt32 &&& Int32.toUInt32 31)).toInt32).toInt = _
  rw [show ((Int32.ofInt 16).toUInt32 &&& Int32.toUInt32 31) = (UInt32.ofNat 16) from by decide]
  show ((UInt32.ofBitVec (BitVec.ofInt 32 v)) >>> (UInt32.ofNat 16)).toBitVec.toInt = _
  rw [UInt32.toBitVec_shiftRight]
  rfl
theorem xshr_8 (v : Int) : xshr v 8 = (BitVec.ofInt 32 v).toInt / 256 := by
  show (BitVec.sshiftRight' (BitVec.ofInt 32 v) ((Int32.ofInt 8 &&& 31).toBitVec.smod 32)).toInt = _
  rw [show ((Int32.ofInt 8 &&& 31).toBitVec.smod 32) = BitVec.ofNat 32 8 from by decide, BitVec.sshiftRight_eq', BitVec.toInt_sshiftRight, Int.shiftRight_eq_div_pow]
  rfl
theorem xushr_8 (v : Int) : xushr v 8 = ((BitVec.ofInt 32 v) >>> (8 : Nat)).toInt := by
  show (((Int32.ofInt v).toUInt32 >>> ((Int32.ofInt 8).toUInt32 &&& Int32.toUInt32 31)).toInt32).toInt = _
  rw [show ((Int32.ofInt 8).toUInt32 &&& Int32.toUInt32 31) = (UInt32.ofNat 8) from by decide]
  show ((UInt32.ofBitVec (BitVec.ofInt 32 v)) >>> (UInt32.ofNat 8)).toBitVec.toInt = _
  rw [UInt32.toBitVec_shiftRight]
  rfl
theorem xshr_00 (v : Int) : xshr v 0 = (BitVec.ofInt 32 v).toInt / 1 := by
  show (BitVec.sshiftRight' (BitVec.ofInt 32 v) ((Int32.ofInt 0 &&& 31).toBitVec.smod 32)).toInt = _
  rw [show ((Int32.ofInt 0 &&& 31).toBitVec.smod 32) = BitVec.ofNat 32 0 from by decide, BitVec.sshiftRight_eq', BitVec.toInt_sshiftRight, Int.shiftRight_eq_div_pow]
  rfl
theorem xushr_00 (v : Int) : xushr v 0 = ((BitVec.ofInt 32 v) >>> (0 : Nat)).toInt := by
  show (((Int32.ofInt v).toUInt32 >>> ((Int32.ofInt 0).toUInt32 &&& Int32.toUInt32 31)).toInt32).toInt = _
  rw [show ((Int32.ofInt 0).toUInt32 &&& Int32.toUInt32 31) = (UInt32.ofNat 0) from by decide]
  show ((UInt32.ofBitVec (BitVec.ofInt 32 v)) >>> (UInt32.ofNat 0)).toBitVec.toInt = _
  rw [UInt32.toBitVec_shiftRight]
  rfl
theorem byte_eq {v k : Int} (hk : 0 ≤ k ∧ k < 4) : (0 ≤ byV v k ∧ byV v k ≤ 255) ∧ byC v k = sg (byV v k) := by
  have hb := (BitVec.ofInt 32 v).isLt
  have hk4 : k = 0 ∨ k = 1 ∨ k = 2 ∨ k = 3 := by omega
  have key : ∀ (s p : Int) (m : Nat), xshr v s = (BitVec.ofInt 32 v).toInt / p → xushr v s = ((BitVec.ofInt 32 v) >>> m).toInt → (p = 16777216 ∧ 2 ^ m = 16777216 ∨ p = 65536 ∧ 2 ^ m = 65536 ∨ p = 256 ∧ 2 ^ m = 256 ∨ p = 1 ∧ 2 ^ m = 1) → (0 ≤ xand (xshr v s) 255 ∧ xand (xshr v s) 255 ≤ 255) ∧ xi2b (xushr v s) = sg (xand (xshr v s) 255) := by
    intro s p m h1 h2 hp
    have t1 := BitVec.toInt_eq_toNat_cond (BitVec.ofInt 32 v)
    have t2 : (((BitVec.ofInt 32 v) >>> m).toNat : Int) = (BitVec.ofInt 32 v).toNat / p := by
      rw [BitVec.toNat_ushiftRight, Nat.shiftRight_eq_div_pow]
      rcases hp with ⟨a, b⟩ | ⟨a, b⟩ | ⟨a, b⟩ | ⟨a, b⟩ <;> rw [a, b] <;> rfl
    have i32 : In32 (xshr v s) := by
      rw [h1]
      generalize (BitVec.ofInt 32 v).toNat = n at *
      rcases hp with ⟨a, b⟩ | ⟨a, b⟩ | ⟨a, b⟩ | ⟨a, b⟩ <;> rw [a] <;> (split at t1 <;> exact ⟨by omega, by omega⟩)
    rw [xand_255 i32, xi2b_v, h2, BitVec.ofInt_toInt, t2, h1]
    refine ⟨by omega, ?_⟩
    have sgc := sg_c ((BitVec.ofInt 32 v).toInt / p % 256)
    generalize (BitVec.ofInt 32 v).toNat = n at *
    unfold Int.bmod
    simp only
    rcases hp with ⟨a, b⟩ | ⟨a, b⟩ | ⟨a, b⟩ | ⟨a, b⟩ <;> rw [a] at sgc ⊢ <;> (split at t1 <;> split <;> omega)
  unfold byV byC
  rcases hk4 with rfl | rfl | rfl | rfl
  · exact key 24 16777216 24 (xshr_24 v) (xushr_24 v) (Or.inl ⟨rfl, by decide⟩)
  · exact key 16 65536 16 (xshr_16 v) (xushr_16 v) (Or.inr (Or.inl ⟨rfl, by decide⟩))
  · exact key 8 256 8 (xshr_8 v) (xushr_8 v) (Or.inr (Or.inr (Or.inl ⟨rfl, by decide⟩)))
  · exact key 0 1 0 (xshr_00 v) (xushr_00 v) (Or.inr (Or.inr (Or.inr ⟨rfl, by decide⟩)))
/-- both tapes have the same first n bytes -/
def tpE (S' S : Int → Int) (n : Int) : Prop := ∀ j : Int, 0 ≤ j → j < n → (0 ≤ S j ∧ S j ≤ 255) ∧ S' j = sg (S j)
theorem tpE_4 {S' S : Int → Int} {t v : Int} (h : tpE S' S t) (ht : 0 ≤ t) : tpE (lyC S' t v 4) (ly S t v 4) (t + 4) := fun j j0 j1 => by
  unfold lyC ly
  by_cases q : t ≤ j ∧ j < t + 4
  · rw [if_pos q, if_pos q]; exact byte_eq ⟨by omega, by omega⟩
  · rw [if_neg q, if_neg q]; exact h j j0 (by omega)
/-- only the tapes have changed -/
theorem INV_tp {r : abRf} {M N : abMem} {k : Int} (h : INV r M k) (hR : RF r N) (c : ∀ a : Nat, a ≠ 1 → a ≠ 2 → a ≠ 567 → a ≠ 571 → ¬ (573 ≤ a) → gI N a = gI M a) (e3 : gI N 567 3 = gI M 567 3) (e6 : gI N 567 6 = gI M 567 6) (e7 : gI N 567 7 = gI M 567 7) (ht : tapO N) : INV r N k := by
  have e8 : gI N 568 = gI M 568 := c 568 (by decide) (by decide) (by decide) (by decide) (by decide)
  have e9 : gI N 569 = gI M 569 := c 569 (by decide) (by decide) (by decide) (by decide) (by decide)
  have la := h.la
  have sh : ∀ (b : Nat) (i : Int), shP M b i → (∀ a, b ≤ a → a < b + 9 → 10 ≤ a ∧ a < 567) → shP N b i := fun b i hb hq => shP_g hb la.2 (fun a ha => by
    rcases ha with z | z | z
    · have := hq a z.1 z.2
      exact c a (by omega) (by omega) (by omega) (by omega) (by omega)
    · rw [z]; exact e8
    · rw [z]; exact e9)
  refine ⟨hR, ⟨by rw [e8]; exact h.rb.sw, by rw [e9]; exact h.rb.sh⟩, ?_, sh 10 0 h.sh (fun a a0 a1 => by omega), ?_, ?_, ht, ?_, ?_, mkcO_e h.mk (c 547 (by decide) (by decide) (by decide) (by decide) (by decide)) e8 e9, pctO_e h.pc (c 0 (by decide) (by decide) (by decide) (by decide) (by decide)) (c 548 (by decide) (by decide) (by decide) (by decide) (by decide)) e8 e9, cmrO_e h.cm (by rw [c 203 (by decide) (by decide) (by decide) (by decide) (by decide)]) (c 218 (by decide) (by decide) (by decide) (by decide) (by decide)), ?_⟩
  · rw [e8]
    exact SR_sm (M := M) (N := (N.1, M.2)) (p := fun x => x = 1 ∨ x = 2 ∨ x = 567 ∨ x = 571 ∨ 573 ≤ x) h.sr ⟨rfl, fun x hx => c x (fun z => hx (Or.inl z)) (fun z => hx (Or.inr (Or.inl z))) (fun z => hx (Or.inr (Or.inr (Or.inl z)))) (fun z => hx (Or.inr (Or.inr (Or.inr (Or.inl z))))) (fun z => hx (Or.inr (Or.inr (Or.inr (Or.inr z)))))⟩ (fun x x0 x1 z => by have := cur_in r; omega)
  · obtain ⟨i1, i2, i3⟩ := h.hi
    unfold hisO
    rw [c 19 (by decide) (by decide) (by decide) (by decide) (by decide), e3]
    refine ⟨i1, i2, fun j j0 j1 => sh _ _ (i3 j j0 j1) (fun a a0 a1 => ?_)⟩
    have := hix_in i2 i1.2 ⟨j0, j1⟩
    omega
  · intro q q0 q1
    obtain ⟨i1, i2⟩ := h.ke q q0 q1
    rw [c 202 (by decide) (by decide) (by decide) (by decide) (by decide), c 570 (by decide) (by decide) (by decide) (by decide) (by decide)]
    exact ⟨i1, i2.elim Or.inl (fun z => Or.inr ⟨z.1, sh _ _ z.2 (fun a a0 a1 => by omega)⟩)⟩
  · have i := h.ow
    unfold ownO at i ⊢
    rw [c 572 (by decide) (by decide) (by decide) (by decide) (by decide)]
    exact i
  · rw [c 3 (by decide) (by decide) (by decide) (by decide) (by decide), e6, e7]; exact h.fa
  · have i := h.ly
    unfold layO at i ⊢
    rw [e8]; exact i
set_option maxRecDepth 20000 in
set_option maxHeartbeats 4000000 in
theorem x_feed {d L : Nat} {M : abMem} {r : abRf} (hR : RF r M) {k : Int} (h : INV r M k) {a b c g e : Int} (hd : 1 ≤ d) : abW d (0, 0) 84 0 (abEnt (abL 84) [vr (some 0), vi a, vi b, vi c, vi g, vi e]) [] (0, 0) (A0 L) M (qI (A0 L) (fun x N => 1180 < gI M 567 5 ∧ x = -1 ∧ N = M ∨ gI M 567 5 ≤ 1180 ∧ x = gI M 567 5 + 20 ∧ sm pT2 M N ∧ gI N 1 1 = gI M 567 5 + 20 ∧ gI N 2 = lyC (lyC (lyC (lyC (lyC (gI M 2) (gI M 567 5) a 4) (gI M 567 5 + 4) b 4) (gI M 567 5 + 8) c 4) (gI M 567 5 + 12) g 4) (gI M 567 5 + 16) e 4)) := by
  have ta := h.ta.1
  have tb := h.ta.2.1
  show abW d (0, 0) 84 0 [some (vr (some 0)), some (vi a), some (vi b), some (vi c), some (vi g), some (vi e)] [] (0, 0) (A0 L) M (qI (A0 L) (fun x N => 1180 < gI M 567 5 ∧ x = -1 ∧ N = M ∨ gI M 567 5 ≤ 1180 ∧ x = gI M 567 5 + 20 ∧ sm pT2 M N ∧ gI N 1 1 = gI M 567 5 + 20 ∧ gI N 2 = lyC (lyC (lyC (lyC (lyC (gI M 2) (gI M 567 5) a 4) (gI M 567 5 + 4) b 4) (gI M 567 5 + 8) c 4) (gI M 567 5 + 12) g 4) (gI M 567 5 + 16) e 4))
  refine bw_aload rfl rfl ?_
  refine bw_getr rfl rfl (hR _ _) ?_
  refine bw_getI rfl rfl ?_
  rw [ta]
  refine bw_push rfl ?_
  refine bw_icle rfl (fun c10 => ?_) (fun c10 => ?_)
  · skip
    refine bw_aload rfl rfl ?_
    refine bw_getr rfl rfl (hR _ _) ?_
    refine bw_iload rfl rfl ?_
    refine bw_callVNv (e := d - 1) (as := [_]) rfl (by omega) rfl rfl (Nat.le_of_ble_eq_true rfl) (Nat.le_of_ble_eq_true rfl) rfl (c_append (t := gI M 567 5) hR ⟨by omega, by omega, by omega⟩) (fun M20 hM20 => ?_)
    obtain ⟨u20, v20, w20, z20⟩ := hM20
    have hR := u20.RF hR
    refine bw_aload rfl rfl ?_
    refine bw_getr rfl rfl (hR _ _) ?_
    refine bw_iload rfl rfl ?_
    refine bw_callVNv (e := d - 1) (as := [_]) rfl (by omega) rfl rfl (Nat.le_of_ble_eq_true rfl) (Nat.le_of_ble_eq_true rfl) rfl (c_append (t := gI M 567 5 + 4) hR ⟨by omega, by omega, by omega⟩) (fun M28 hM28 => ?_)
    obtain ⟨u28, v28, w28, z28⟩ := hM28
    have hR := u28.RF hR
    refine bw_aload rfl rfl ?_
    refine bw_getr rfl rfl (hR _ _) ?_
    refine bw_iload rfl rfl ?_
    refine bw_callVNv (e := d - 1) (as := [_]) rfl (by omega) rfl rfl (Nat.le_of_ble_eq_true rfl) (Nat.le_of_ble_eq_true rfl) rfl (c_append (t := gI M 567 5 + 8) hR ⟨by omega, by omega, by omega⟩) (fun M36 hM36 => ?_)
    obtain ⟨u36, v36, w36, z36⟩ := hM36
    have hR := u36.RF hR
    refine bw_aload rfl rfl ?_
    refine bw_getr rfl rfl (hR _ _) ?_
    refine bw_iload rfl rfl ?_
    refine bw_callVNv (e := d - 1) (as := [_]) rfl (by omega) rfl rfl (Nat.le_of_ble_eq_true rfl) (Nat.le_of_ble_eq_true rfl) rfl (c_append (t := gI M 567 5 + 12) hR ⟨by omega, by omega, by omega⟩) (fun M45 hM45 => ?_)
    obtain ⟨u45, v45, w45, z45⟩ := hM45
    have hR := u45.RF hR
    refine bw_aload rfl rfl ?_
    refine bw_getr rfl rfl (hR _ _) ?_
    refine bw_iload rfl rfl ?_
    refine bw_callVNv (e := d - 1) (as := [_]) rfl (by omega) rfl rfl (Nat.le_of_ble_eq_true rfl) (Nat.le_of_ble_eq_true rfl) rfl (c_append (t := gI M 567 5 + 16) hR ⟨by omega, by omega, by omega⟩) (fun M54 hM54 => ?_)
    obtain ⟨u54, v54, w54, z54⟩ := hM54
    have hR := u54.RF hR
    refine bw_aload rfl rfl ?_
    refine bw_getr rfl rfl (hR _ _) ?_
    refine bw_getI rfl rfl ?_
    rw [v54]
    refine bw_ret rfl rfl ?_
    exact ⟨rfl, _, rfl, Or.inr ⟨by omega, by omega, (((u20.trans u28).trans u36).trans u45).trans u54, by omega, by rw [w54, w45, w36, w28, w20]⟩⟩
  · skip
    refine bw_push rfl ?_
    refine bw_ret rfl rfl ?_
    exact ⟨rfl, _, rfl, Or.inl ⟨by omega, rfl, rfl⟩⟩
theorem feed_inv {r : abRf} {M N N2 : abMem} {k a b c g e : Int} (h : INV r M k) (u : sm pT2 M N) (v : gI N 1 1 = gI M 567 5 + 20) (w : gI N 2 = lyC (lyC (lyC (lyC (lyC (gI M 2) (gI M 567 5) a 4) (gI M 567 5 + 4) b 4) (gI M 567 5 + 8) c 4) (gI M 567 5 + 12) g 4) (gI M 567 5 + 16) e 4) (hr : gI N 567 5 ≤ 1180) (u2 : s5 p71 q5 N N2) (v2 : gI N2 567 5 = gI N 567 5 + 20) (w2 : gI N2 571 = ly (ly (ly (ly (ly (gI N 571) (gI N 567 5) a 4) (gI N 567 5 + 4) b 4) (gI N 567 5 + 8) c 4) (gI N 567 5 + 12) g 4) (gI N 567 5 + 16) e 4) : INV r N2 k := by
  have g7 : gI N 567 = gI M 567 := u.at 567 (fun z => by omega)
  have g71 : gI N 571 = gI M 571 := u.at 571 (fun z => by omega)
  have cc : ∀ x : Nat, x ≠ 567 → x ≠ 571 → gI N2 x = gI N x := fun x x1 x2 => u2.at x x2 x1
  have tb := h.ta.2.1
  rw [g7] at v2 hr
  rw [g7, g71] at w2
  refine INV_tp h (u2.RF (u.RF h.rf)) (fun x x1 x2 x3 x4 _ => (cc x x3 x4).trans (u.at x (fun z => by omega))) (by rw [u2.sl 3 (by decide), g7]) (by rw [u2.sl 6 (by decide), g7]) (by rw [u2.sl 7 (by decide), g7]) ⟨by rw [cc 1 (by decide) (by decide), v, v2], by omega, ?_⟩
  rw [cc 2 (by decide) (by decide), w, w2, v2]
  have t0 : tpE (gI M 2) (gI M 571) (gI M 567 5) := h.ta.2.2
  have t5 := tpE_4 (v := e) (tpE_4 (v := g) (tpE_4 (v := c) (tpE_4 (v := b) (tpE_4 (v := a) t0 tb.1) (by omega)) (by omega)) (by omega)) (by omega)
  rw [show gI M 567 5 + 4 + 4 = gI M 567 5 + 8 by omega, show gI M 567 5 + 8 + 4 = gI M 567 5 + 12 by omega, show gI M 567 5 + 12 + 4 = gI M 567 5 + 16 by omega, show gI M 567 5 + 16 + 4 = gI M 567 5 + 20 by omega] at t5
  exact t5
set_option maxRecDepth 20000 in
set_option maxHeartbeats 4000000 in
theorem x_end {d L : Nat} {M : abMem} {r : abRf} (hR : RF r M) {k : Int} (h : INV r M k) {n : Int} : abW d (0, 0) 85 0 (abEnt (abL 85) [vr (some 0), vi n]) [] (0, 0) (A0 L) M (qI (A0 L) (fun x N => (0 ≤ n ∧ n ≤ gI M 567 5) ∧ x = 1 ∧ N = sI M 1 1 n ∨ ¬ (0 ≤ n ∧ n ≤ gI M 567 5) ∧ x = 0 ∧ N = M)) := by
  show abW d (0, 0) 85 0 [some (vr (some 0)), some (vi n)] [] (0, 0) (A0 L) M (qI (A0 L) (fun x N => (0 ≤ n ∧ n ≤ gI M 567 5) ∧ x = 1 ∧ N = sI M 1 1 n ∨ ¬ (0 ≤ n ∧ n ≤ gI M 567 5) ∧ x = 0 ∧ N = M))
  refine bw_iload rfl rfl ?_
  refine bw_iflt rfl (fun c1 => ?_) (fun c1 => ?_)
  · skip
    refine bw_push rfl ?_
    refine bw_retz rfl rfl (by omega) ?_
    first
    | exact ⟨rfl, _, rfl, Or.inr ⟨by omega, rfl, rfl⟩⟩
    | exact ⟨rfl, _, rfl, Or.inl ⟨by omega, rfl, rfl⟩⟩
  · skip
    refine bw_iload rfl rfl ?_
    refine bw_aload rfl rfl ?_
    refine bw_getr rfl rfl (hR _ _) ?_
    refine bw_getI rfl rfl ?_
    rw [h.ta.1]
    refine bw_icle rfl (fun c12 => ?_) (fun c12 => ?_)
    · skip
      refine bw_aload rfl rfl ?_
      refine bw_getr rfl rfl (hR _ _) ?_
      refine bw_iload rfl rfl ?_
      refine bw_putI rfl rfl ?_
      refine bw_push rfl ?_
      refine bw_retz rfl rfl (by omega) ?_
      first
      | exact ⟨rfl, _, rfl, Or.inr ⟨by omega, rfl, rfl⟩⟩
      | exact ⟨rfl, _, rfl, Or.inl ⟨by omega, rfl, rfl⟩⟩
    · skip
      refine bw_push rfl ?_
      refine bw_retz rfl rfl (by omega) ?_
      first
      | exact ⟨rfl, _, rfl, Or.inr ⟨by omega, rfl, rfl⟩⟩
      | exact ⟨rfl, _, rfl, Or.inl ⟨by omega, rfl, rfl⟩⟩
theorem end_inv {r : abRf} {M N2 : abMem} {k n : Int} (h : INV r M k) (hn : 0 ≤ n ∧ n ≤ gI M 567 5) (e : N2 = sI (sI M 1 1 n) 567 5 n) : INV r N2 k := by
  have tb := h.ta.2.1
  rw [e]
  refine INV_tp h h.rf (fun x x1 x2 x3 x4 _ => by rw [gI_sI_ne x3, gI_sI_ne x1]) (by rw [gI_sI_nj (by decide), gI_sI_ne (by decide)]) (by rw [gI_sI_nj (by decide), gI_sI_ne (by decide)]) (by rw [gI_sI_nj (by decide), gI_sI_ne (by decide)]) ⟨by rw [gI_sI_ne (by decide), gI_sI_eq, gI_sI_eq], by rw [gI_sI_eq]; omega, fun j j0 j1 => ?_⟩
  rw [gI_sI_eq] at j1
  rw [gI_sI_ne (by decide), gI_sI_ne (by decide), gI_sI_ne (by decide), gI_sI_ne (by decide)]
  exact h.ta.2.2 j j0 (by omega)
/-- the text on the tape -/
def txA (M : abMem) : Int → Int := fun j => if 0 ≤ j ∧ j < gI M 567 5 then gI M 571 j else -1
theorem tx_TP {r : abRf} {M : abMem} {k : Int} (h : INV r M k) : TP M (txA M) (gI M 567 5) := by
  have tb := h.ta.2.1
  refine ⟨⟨tb, fun j hj => if_neg hj, fun j j0 j1 => ?_⟩, h.ta.1, fun j j0 j1 => ?_⟩
  · unfold txA
    rw [if_pos ⟨j0, j1⟩]; exact (h.ta.2.2 j j0 j1).1
  · unfold txA
    rw [if_pos ⟨j0, j1⟩]; exact (h.ta.2.2 j j0 j1).2
theorem tx_TX {r : abRf} {M : abMem} {k : Int} (h : INV r M k) : TX M (txA M) (gI M 567 5) := ⟨(tx_TP h).1, rfl, fun j j0 j1 => by unfold txA; rw [if_pos ⟨j0, j1⟩], h.ow⟩
