section
variable {L : Nat} {Q : abQ} {c1 c2 : Nat} {r : abRf} {M : abMem} {k i : Int}
theorem kk_s : (A0 L).2 1000042 = (52, (L : Int)) := rfl
theorem arm_feed (h : INV r M k) (hk : k ≤ 900000) (hs : ∀ j : Int, In32 (gI M 1000042 j)) (hi : 0 ≤ i ∧ i + 6 ≤ L ∧ L ≤ 3072) (hc : c1 ≤ 600000 ∧ c2 ≤ 7302250) (cont : ∀ (r2 : abRf) (N2 : abMem), INV r2 N2 (k + 98) → gI N2 1000042 = gI M 1000042 → abW 14 (600000, 7302250) 297 1485 [some (vr (some 1000042)), some (vr (some 0)), some (vr (some 567)), some (vi i)] [] (c1, c2) (A0 L) N2 Q) : abW 14 (600000, 7302250) 297 212 [some (vr (some 1000042)), some (vr (some 0)), some (vr (some 567)), some (vi i)] [] (c1, c2) (A0 L) M Q := by
  obtain ⟨R, a, b⟩ : PR L 84 143 [vi (gI M 1000042 (i + 1)), vi (gI M 1000042 (i + 2)), vi (gI M 1000042 (i + 3)), vi (gI M 1000042 (i + 4)), vi (gI M 1000042 (i + 5))] k M := pr_feed h
  refine bw_aload rfl rfl ?_
  refine bw_aload rfl rfl ?_
  refine bw_iload rfl rfl ?_
  refine bw_push rfl ?_
  refine bw_iadd rfl ⟨by omega, by omega⟩ ?_
  refine bw_ialdS rfl rfl (by omega) (by rw [kk_s]; show _ < (L : Int); omega) ?_
  refine bw_aload rfl rfl ?_
  refine bw_iload rfl rfl ?_
  refine bw_push rfl ?_
  refine bw_iadd rfl ⟨by omega, by omega⟩ ?_
  refine bw_ialdS rfl rfl (by omega) (by rw [kk_s]; show _ < (L : Int); omega) ?_
  refine bw_aload rfl rfl ?_
  refine bw_iload rfl rfl ?_
  refine bw_push rfl ?_
  refine bw_iadd rfl ⟨by omega, by omega⟩ ?_
  refine bw_ialdS rfl rfl (by omega) (by rw [kk_s]; show _ < (L : Int); omega) ?_
  refine bw_aload rfl rfl ?_
  refine bw_iload rfl rfl ?_
  refine bw_push rfl ?_
  refine bw_iadd rfl ⟨by omega, by omega⟩ ?_
  refine bw_ialdS rfl rfl (by omega) (by rw [kk_s]; show _ < (L : Int); omega) ?_
  refine bw_aload rfl rfl ?_
  refine bw_iload rfl rfl ?_
  refine bw_push rfl ?_
  refine bw_iadd rfl ⟨by omega, by omega⟩ ?_
  refine bw_ialdS rfl rfl (by omega) (by rw [kk_s]; show _ < (L : Int); omega) ?_
  refine bw_callV (e := 13) (mc := 0) (ms := 0) (as := [_, _, _, _, _]) rfl rfl rfl rfl (Nat.le_of_ble_eq_true rfl) (Nat.le_of_ble_eq_true rfl) hc.1 hc.2 rfl a (fun v A N hv => ?_)
  obtain ⟨rfl, es, x, rfl, R2, a2, b2⟩ := b v A N hv
  show abW 14 (600000, 7302250) 297 241 [some (vr (some 1000042)), some (vr (some 0)), some (vr (some 567)), some (vi i)] [vi x] (c1, c2) (A0 L) N Q
  refine bw_aload rfl rfl ?_
  refine bw_aload rfl rfl ?_
  refine bw_iload rfl rfl ?_
  refine bw_push rfl ?_
  refine bw_iadd rfl ⟨by omega, by omega⟩ ?_
  refine bw_ialdS rfl rfl (by omega) (by rw [kk_s]; show _ < (L : Int); omega) ?_
  refine bw_aload rfl rfl ?_
  refine bw_iload rfl rfl ?_
  refine bw_push rfl ?_
  refine bw_iadd rfl ⟨by omega, by omega⟩ ?_
  refine bw_ialdS rfl rfl (by omega) (by rw [kk_s]; show _ < (L : Int); omega) ?_
  refine bw_aload rfl rfl ?_
  refine bw_iload rfl rfl ?_
  refine bw_push rfl ?_
  refine bw_iadd rfl ⟨by omega, by omega⟩ ?_
  refine bw_ialdS rfl rfl (by omega) (by rw [kk_s]; show _ < (L : Int); omega) ?_
  refine bw_aload rfl rfl ?_
  refine bw_iload rfl rfl ?_
  refine bw_push rfl ?_
  refine bw_iadd rfl ⟨by omega, by omega⟩ ?_
  refine bw_ialdS rfl rfl (by omega) (by rw [kk_s]; show _ < (L : Int); omega) ?_
  refine bw_aload rfl rfl ?_
  refine bw_iload rfl rfl ?_
  refine bw_push rfl ?_
  refine bw_iadd rfl ⟨by omega, by omega⟩ ?_
  refine bw_ialdS rfl rfl (by omega) (by rw [kk_s]; show _ < (L : Int); omega) ?_
  rw [es]
  refine bw_callV (e := 13) (mc := 0) (ms := 0) (as := [_, _, _, _, _]) rfl rfl rfl rfl (Nat.le_of_ble_eq_true rfl) (Nat.le_of_ble_eq_true rfl) hc.1 hc.2 rfl a2 (fun v2 A2 N2 h2 => ?_)
  obtain ⟨rfl, rfl, e2, r2, hI2⟩ := b2 v2 A2 N2 h2
  show abW 14 (600000, 7302250) 297 270 [some (vr (some 1000042)), some (vr (some 0)), some (vr (some 567)), some (vi i)] [vi x, vi x] (c1, c2) (A0 L) N2 Q
  refine bw_iceq rfl (fun _ => ?_) (fun c => absurd rfl c)
  exact cont r2 N2 hI2 e2
theorem arm_end (h : INV r M k) (hk : k ≤ 900000) (hs : ∀ j : Int, In32 (gI M 1000042 j)) (hi : 0 ≤ i ∧ i + 6 ≤ L ∧ L ≤ 3072) (hc : c1 ≤ 600000 ∧ c2 ≤ 7302250) (cont : ∀ (r2 : abRf) (N2 : abMem), INV r2 N2 (k + 98) → gI N2 1000042 = gI M 1000042 → abW 14 (600000, 7302250) 297 1485 [some (vr (some 1000042)), some (vr (some 0)), some (vr (some 567)), some (vi i)] [] (c1, c2) (A0 L) N2 Q) : abW 14 (600000, 7302250) 297 275 [some (vr (some 1000042)), some (vr (some 0)), some (vr (some 567)), some (vi i)] [] (c1, c2) (A0 L) M Q := by
  obtain ⟨R, a, b⟩ : PR L 85 144 [vi (gI M 1000042 (i + 1))] k M := pr_end h
  refine bw_aload rfl rfl ?_
  refine bw_aload rfl rfl ?_
  refine bw_iload rfl rfl ?_
  refine bw_push rfl ?_
  refine bw_iadd rfl ⟨by omega, by omega⟩ ?_
  refine bw_ialdS rfl rfl (by omega) (by rw [kk_s]; show _ < (L : Int); omega) ?_
  refine bw_callV (e := 13) (mc := 0) (ms := 0) (as := [_]) rfl rfl rfl rfl (Nat.le_of_ble_eq_true rfl) (Nat.le_of_ble_eq_true rfl) hc.1 hc.2 rfl a (fun v A N hv => ?_)
  obtain ⟨rfl, es, x, rfl, R2, a2, b2⟩ := b v A N hv
  show abW 14 (600000, 7302250) 297 284 [some (vr (some 1000042)), some (vr (some 0)), some (vr (some 567)), some (vi i)] [vi x] (c1, c2) (A0 L) N Q
  refine bw_aload rfl rfl ?_
  refine bw_aload rfl rfl ?_
  refine bw_iload rfl rfl ?_
  refine bw_push rfl ?_
  refine bw_iadd rfl ⟨by omega, by omega⟩ ?_
  refine bw_ialdS rfl rfl (by omega) (by rw [kk_s]; show _ < (L : Int); omega) ?_
  rw [es]
  refine bw_callV (e := 13) (mc := 0) (ms := 0) (as := [_]) rfl rfl rfl rfl (Nat.le_of_ble_eq_true rfl) (Nat.le_of_ble_eq_true rfl) hc.1 hc.2 rfl a2 (fun v2 A2 N2 h2 => ?_)
  obtain ⟨rfl, rfl, e2, r2, hI2⟩ := b2 v2 A2 N2 h2
  show abW 14 (600000, 7302250) 297 293 [some (vr (some 1000042)), some (vr (some 0)), some (vr (some 567)), some (vi i)] [vi x, vi x] (c1, c2) (A0 L) N2 Q
  refine bw_iceq rfl (fun _ => ?_) (fun c => absurd rfl c)
  exact cont r2 N2 hI2 e2
theorem arm_scene (h : INV r M k) (hk : k ≤ 900000) (hs : ∀ j : Int, In32 (gI M 1000042 j)) (hi : 0 ≤ i ∧ i + 6 ≤ L ∧ L ≤ 3072) (hc : c1 ≤ 600000 ∧ c2 ≤ 7302250) (cont : ∀ (r2 : abRf) (N2 : abMem), INV r2 N2 (k + 98) → gI N2 1000042 = gI M 1000042 → abW 14 (600000, 7302250) 297 1485 [some (vr (some 1000042)), some (vr (some 0)), some (vr (some 567)), some (vi i)] [] (c1, c2) (A0 L) N2 Q) : abW 14 (600000, 7302250) 297 298 [some (vr (some 1000042)), some (vr (some 0)), some (vr (some 567)), some (vi i)] [] (c1, c2) (A0 L) M Q := by
  obtain ⟨R, a, b⟩ : PR L 86 187 [] k M := pr_scene h
  refine bw_aload rfl rfl ?_
  refine bw_callV (e := 13) (mc := 0) (ms := 0) (as := []) rfl rfl rfl rfl (Nat.le_of_ble_eq_true rfl) (Nat.le_of_ble_eq_true rfl) hc.1 hc.2 rfl a (fun v A N hv => ?_)
  obtain ⟨rfl, es, x, rfl, R2, a2, b2⟩ := b v A N hv
  show abW 14 (600000, 7302250) 297 302 [some (vr (some 1000042)), some (vr (some 0)), some (vr (some 567)), some (vi i)] [vi x] (c1, c2) (A0 L) N Q
  refine bw_aload rfl rfl ?_
  refine bw_callV (e := 13) (mc := 0) (ms := 0) (as := []) rfl rfl rfl rfl (Nat.le_of_ble_eq_true rfl) (Nat.le_of_ble_eq_true rfl) hc.1 hc.2 rfl a2 (fun v2 A2 N2 h2 => ?_)
  obtain ⟨rfl, rfl, e2, r2, hI2⟩ := b2 v2 A2 N2 h2
  show abW 14 (600000, 7302250) 297 306 [some (vr (some 1000042)), some (vr (some 0)), some (vr (some 567)), some (vi i)] [vi x, vi x] (c1, c2) (A0 L) N2 Q
  refine bw_iceq rfl (fun _ => ?_) (fun c => absurd rfl c)
  exact cont r2 N2 hI2 e2
theorem arm_fault (h : INV r M k) (hk : k ≤ 900000) (hs : ∀ j : Int, In32 (gI M 1000042 j)) (hi : 0 ≤ i ∧ i + 6 ≤ L ∧ L ≤ 3072) (hc : c1 ≤ 600000 ∧ c2 ≤ 7302250) (cont : ∀ (r2 : abRf) (N2 : abMem), INV r2 N2 (k + 98) → gI N2 1000042 = gI M 1000042 → abW 14 (600000, 7302250) 297 1485 [some (vr (some 1000042)), some (vr (some 0)), some (vr (some 567)), some (vi i)] [] (c1, c2) (A0 L) N2 Q) : abW 14 (600000, 7302250) 297 311 [some (vr (some 1000042)), some (vr (some 0)), some (vr (some 567)), some (vi i)] [] (c1, c2) (A0 L) M Q := by
  obtain ⟨R, a, b⟩ : PR L 87 188 [vi (gI M 1000042 (i + 1))] k M := pr_fault h
  refine bw_aload rfl rfl ?_
  refine bw_aload rfl rfl ?_
  refine bw_iload rfl rfl ?_
  refine bw_push rfl ?_
  refine bw_iadd rfl ⟨by omega, by omega⟩ ?_
  refine bw_ialdS rfl rfl (by omega) (by rw [kk_s]; show _ < (L : Int); omega) ?_
  refine bw_callV (e := 13) (mc := 0) (ms := 0) (as := [_]) rfl rfl rfl rfl (Nat.le_of_ble_eq_true rfl) (Nat.le_of_ble_eq_true rfl) hc.1 hc.2 rfl a (fun v A N hv => ?_)
  obtain ⟨rfl, es, x, rfl, R2, a2, b2⟩ := b v A N hv
  show abW 14 (600000, 7302250) 297 320 [some (vr (some 1000042)), some (vr (some 0)), some (vr (some 567)), some (vi i)] [vi x] (c1, c2) (A0 L) N Q
  refine bw_aload rfl rfl ?_
  refine bw_aload rfl rfl ?_
  refine bw_iload rfl rfl ?_
  refine bw_push rfl ?_
  refine bw_iadd rfl ⟨by omega, by omega⟩ ?_
  refine bw_ialdS rfl rfl (by omega) (by rw [kk_s]; show _ < (L : Int); omega) ?_
  rw [es]
  refine bw_callV (e := 13) (mc := 0) (ms := 0) (as := [_]) rfl rfl rfl rfl (Nat.le_of_ble_eq_true rfl) (Nat.le_of_ble_eq_true rfl) hc.1 hc.2 rfl a2 (fun v2 A2 N2 h2 => ?_)
  obtain ⟨rfl, rfl, e2, r2, hI2⟩ := b2 v2 A2 N2 h2
  show abW 14 (600000, 7302250) 297 329 [some (vr (some 1000042)), some (vr (some 0)), some (vr (some 567)), some (vi i)] [vi x, vi x] (c1, c2) (A0 L) N2 Q
  refine bw_iceq rfl (fun _ => ?_) (fun c => absurd rfl c)
  exact cont r2 N2 hI2 e2
theorem arm_named (h : INV r M k) (hk : k ≤ 900000) (hs : ∀ j : Int, In32 (gI M 1000042 j)) (hi : 0 ≤ i ∧ i + 6 ≤ L ∧ L ≤ 3072) (hc : c1 ≤ 600000 ∧ c2 ≤ 7302250) (cont : ∀ (r2 : abRf) (N2 : abMem), INV r2 N2 (k + 98) → gI N2 1000042 = gI M 1000042 → abW 14 (600000, 7302250) 297 1485 [some (vr (some 1000042)), some (vr (some 0)), some (vr (some 567)), some (vi i)] [] (c1, c2) (A0 L) N2 Q) : abW 14 (600000, 7302250) 297 334 [some (vr (some 1000042)), some (vr (some 0)), some (vr (some 567)), some (vi i)] [] (c1, c2) (A0 L) M Q := by
  obtain ⟨R, a, b⟩ : PR L 88 189 [] k M := pr_named h
  refine bw_aload rfl rfl ?_
  refine bw_callV (e := 13) (mc := 0) (ms := 0) (as := []) rfl rfl rfl rfl (Nat.le_of_ble_eq_true rfl) (Nat.le_of_ble_eq_true rfl) hc.1 hc.2 rfl a (fun v A N hv => ?_)
  obtain ⟨rfl, es, x, rfl, R2, a2, b2⟩ := b v A N hv
  show abW 14 (600000, 7302250) 297 338 [some (vr (some 1000042)), some (vr (some 0)), some (vr (some 567)), some (vi i)] [vi x] (c1, c2) (A0 L) N Q
  refine bw_aload rfl rfl ?_
  refine bw_callV (e := 13) (mc := 0) (ms := 0) (as := []) rfl rfl rfl rfl (Nat.le_of_ble_eq_true rfl) (Nat.le_of_ble_eq_true rfl) hc.1 hc.2 rfl a2 (fun v2 A2 N2 h2 => ?_)
  obtain ⟨rfl, rfl, e2, r2, hI2⟩ := b2 v2 A2 N2 h2
  show abW 14 (600000, 7302250) 297 342 [some (vr (some 1000042)), some (vr (some 0)), some (vr (some 567)), some (vi i)] [vi x, vi x] (c1, c2) (A0 L) N2 Q
  refine bw_iceq rfl (fun _ => ?_) (fun c => absurd rfl c)
  exact cont r2 N2 hI2 e2
theorem arm_look (h : INV r M k) (hk : k ≤ 900000) (hs : ∀ j : Int, In32 (gI M 1000042 j)) (hi : 0 ≤ i ∧ i + 6 ≤ L ∧ L ≤ 3072) (hc : c1 ≤ 600000 ∧ c2 ≤ 7302250) (cont : ∀ (r2 : abRf) (N2 : abMem), INV r2 N2 (k + 98) → gI N2 1000042 = gI M 1000042 → abW 14 (600000, 7302250) 297 1485 [some (vr (some 1000042)), some (vr (some 0)), some (vr (some 567)), some (vi i)] [] (c1, c2) (A0 L) N2 Q) : abW 14 (600000, 7302250) 297 347 [some (vr (some 1000042)), some (vr (some 0)), some (vr (some 567)), some (vi i)] [] (c1, c2) (A0 L) M Q := by
  obtain ⟨R, a, b⟩ : PR L 89 195 [vi (gI M 1000042 (i + 1))] k M := pr_look h
  refine bw_aload rfl rfl ?_
  refine bw_aload rfl rfl ?_
  refine bw_iload rfl rfl ?_
  refine bw_push rfl ?_
  refine bw_iadd rfl ⟨by omega, by omega⟩ ?_
  refine bw_ialdS rfl rfl (by omega) (by rw [kk_s]; show _ < (L : Int); omega) ?_
  refine bw_callV (e := 13) (mc := 0) (ms := 0) (as := [_]) rfl rfl rfl rfl (Nat.le_of_ble_eq_true rfl) (Nat.le_of_ble_eq_true rfl) hc.1 hc.2 rfl a (fun v A N hv => ?_)
  obtain ⟨rfl, es, x, rfl, R2, a2, b2⟩ := b v A N hv
  show abW 14 (600000, 7302250) 297 356 [some (vr (some 1000042)), some (vr (some 0)), some (vr (some 567)), some (vi i)] [vi x] (c1, c2) (A0 L) N Q
  refine bw_aload rfl rfl ?_
  refine bw_aload rfl rfl ?_
  refine bw_iload rfl rfl ?_
  refine bw_push rfl ?_
  refine bw_iadd rfl ⟨by omega, by omega⟩ ?_
  refine bw_ialdS rfl rfl (by omega) (by rw [kk_s]; show _ < (L : Int); omega) ?_
  rw [es]
  refine bw_callV (e := 13) (mc := 0) (ms := 0) (as := [_]) rfl rfl rfl rfl (Nat.le_of_ble_eq_true rfl) (Nat.le_of_ble_eq_true rfl) hc.1 hc.2 rfl a2 (fun v2 A2 N2 h2 => ?_)
  obtain ⟨rfl, rfl, e2, r2, hI2⟩ := b2 v2 A2 N2 h2
  show abW 14 (600000, 7302250) 297 365 [some (vr (some 1000042)), some (vr (some 0)), some (vr (some 567)), some (vi i)] [vi x, vi x] (c1, c2) (A0 L) N2 Q
  refine bw_iceq rfl (fun _ => ?_) (fun c => absurd rfl c)
  exact cont r2 N2 hI2 e2
theorem arm_layer (h : INV r M k) (hk : k ≤ 900000) (hs : ∀ j : Int, In32 (gI M 1000042 j)) (hi : 0 ≤ i ∧ i + 6 ≤ L ∧ L ≤ 3072) (hc : c1 ≤ 600000 ∧ c2 ≤ 7302250) (cont : ∀ (r2 : abRf) (N2 : abMem), INV r2 N2 (k + 98) → gI N2 1000042 = gI M 1000042 → abW 14 (600000, 7302250) 297 1485 [some (vr (some 1000042)), some (vr (some 0)), some (vr (some 567)), some (vi i)] [] (c1, c2) (A0 L) N2 Q) : abW 14 (600000, 7302250) 297 370 [some (vr (some 1000042)), some (vr (some 0)), some (vr (some 567)), some (vi i)] [] (c1, c2) (A0 L) M Q := by
  obtain ⟨R, a, b⟩ : PR L 90 204 [vi (gI M 1000042 (i + 1)), vi (gI M 1000042 (i + 2))] k M := pr_layer h
  refine bw_aload rfl rfl ?_
  refine bw_aload rfl rfl ?_
  refine bw_iload rfl rfl ?_
  refine bw_push rfl ?_
  refine bw_iadd rfl ⟨by omega, by omega⟩ ?_
  refine bw_ialdS rfl rfl (by omega) (by rw [kk_s]; show _ < (L : Int); omega) ?_
  refine bw_aload rfl rfl ?_
  refine bw_iload rfl rfl ?_
  refine bw_push rfl ?_
  refine bw_iadd rfl ⟨by omega, by omega⟩ ?_
  refine bw_ialdS rfl rfl (by omega) (by rw [kk_s]; show _ < (L : Int); omega) ?_
  refine bw_callV (e := 13) (mc := 0) (ms := 0) (as := [_, _]) rfl rfl rfl rfl (Nat.le_of_ble_eq_true rfl) (Nat.le_of_ble_eq_true rfl) hc.1 hc.2 rfl a (fun v A N hv => ?_)
  obtain ⟨rfl, es, x, rfl, R2, a2, b2⟩ := b v A N hv
  show abW 14 (600000, 7302250) 297 384 [some (vr (some 1000042)), some (vr (some 0)), some (vr (some 567)), some (vi i)] [vi x] (c1, c2) (A0 L) N Q
  refine bw_aload rfl rfl ?_
  refine bw_aload rfl rfl ?_
  refine bw_iload rfl rfl ?_
  refine bw_push rfl ?_
  refine bw_iadd rfl ⟨by omega, by omega⟩ ?_
  refine bw_ialdS rfl rfl (by omega) (by rw [kk_s]; show _ < (L : Int); omega) ?_
  refine bw_aload rfl rfl ?_
  refine bw_iload rfl rfl ?_
  refine bw_push rfl ?_
  refine bw_iadd rfl ⟨by omega, by omega⟩ ?_
  refine bw_ialdS rfl rfl (by omega) (by rw [kk_s]; show _ < (L : Int); omega) ?_
  rw [es]
  refine bw_callV (e := 13) (mc := 0) (ms := 0) (as := [_, _]) rfl rfl rfl rfl (Nat.le_of_ble_eq_true rfl) (Nat.le_of_ble_eq_true rfl) hc.1 hc.2 rfl a2 (fun v2 A2 N2 h2 => ?_)
  obtain ⟨rfl, rfl, e2, r2, hI2⟩ := b2 v2 A2 N2 h2
  show abW 14 (600000, 7302250) 297 398 [some (vr (some 1000042)), some (vr (some 0)), some (vr (some 567)), some (vi i)] [vi x, vi x] (c1, c2) (A0 L) N2 Q
  refine bw_iceq rfl (fun _ => ?_) (fun c => absurd rfl c)
  exact cont r2 N2 hI2 e2
theorem arm_spelt (h : INV r M k) (hk : k ≤ 900000) (hs : ∀ j : Int, In32 (gI M 1000042 j)) (hi : 0 ≤ i ∧ i + 6 ≤ L ∧ L ≤ 3072) (hc : c1 ≤ 600000 ∧ c2 ≤ 7302250) (cont : ∀ (r2 : abRf) (N2 : abMem), INV r2 N2 (k + 98) → gI N2 1000042 = gI M 1000042 → abW 14 (600000, 7302250) 297 1485 [some (vr (some 1000042)), some (vr (some 0)), some (vr (some 567)), some (vi i)] [] (c1, c2) (A0 L) N2 Q) : abW 14 (600000, 7302250) 297 403 [some (vr (some 1000042)), some (vr (some 0)), some (vr (some 567)), some (vi i)] [] (c1, c2) (A0 L) M Q := by
  obtain ⟨R, a, b⟩ : PR L 91 205 [vi (gI M 1000042 (i + 1)), vi (gI M 1000042 (i + 2))] k M := pr_spelt h (hs _)
  refine bw_aload rfl rfl ?_
  refine bw_aload rfl rfl ?_
  refine bw_iload rfl rfl ?_
  refine bw_push rfl ?_
  refine bw_iadd rfl ⟨by omega, by omega⟩ ?_
  refine bw_ialdS rfl rfl (by omega) (by rw [kk_s]; show _ < (L : Int); omega) ?_
  refine bw_aload rfl rfl ?_
  refine bw_iload rfl rfl ?_
  refine bw_push rfl ?_
  refine bw_iadd rfl ⟨by omega, by omega⟩ ?_
  refine bw_ialdS rfl rfl (by omega) (by rw [kk_s]; show _ < (L : Int); omega) ?_
  refine bw_callV (e := 13) (mc := 0) (ms := 0) (as := [_, _]) rfl rfl rfl rfl (Nat.le_of_ble_eq_true rfl) (Nat.le_of_ble_eq_true rfl) hc.1 hc.2 rfl a (fun v A N hv => ?_)
  obtain ⟨rfl, es, x, rfl, R2, a2, b2⟩ := b v A N hv
  show abW 14 (600000, 7302250) 297 417 [some (vr (some 1000042)), some (vr (some 0)), some (vr (some 567)), some (vi i)] [vi x] (c1, c2) (A0 L) N Q
  refine bw_aload rfl rfl ?_
  refine bw_aload rfl rfl ?_
  refine bw_iload rfl rfl ?_
  refine bw_push rfl ?_
  refine bw_iadd rfl ⟨by omega, by omega⟩ ?_
  refine bw_ialdS rfl rfl (by omega) (by rw [kk_s]; show _ < (L : Int); omega) ?_
  refine bw_aload rfl rfl ?_
  refine bw_iload rfl rfl ?_
  refine bw_push rfl ?_
  refine bw_iadd rfl ⟨by omega, by omega⟩ ?_
  refine bw_ialdS rfl rfl (by omega) (by rw [kk_s]; show _ < (L : Int); omega) ?_
  rw [es]
  refine bw_callV (e := 13) (mc := 0) (ms := 0) (as := [_, _]) rfl rfl rfl rfl (Nat.le_of_ble_eq_true rfl) (Nat.le_of_ble_eq_true rfl) hc.1 hc.2 rfl a2 (fun v2 A2 N2 h2 => ?_)
  obtain ⟨rfl, rfl, e2, r2, hI2⟩ := b2 v2 A2 N2 h2
  show abW 14 (600000, 7302250) 297 431 [some (vr (some 1000042)), some (vr (some 0)), some (vr (some 567)), some (vi i)] [vi x, vi x] (c1, c2) (A0 L) N2 Q
  refine bw_iceq rfl (fun _ => ?_) (fun c => absurd rfl c)
  exact cont r2 N2 hI2 e2
theorem arm_box (h : INV r M k) (hk : k ≤ 900000) (hs : ∀ j : Int, In32 (gI M 1000042 j)) (hi : 0 ≤ i ∧ i + 6 ≤ L ∧ L ≤ 3072) (hc : c1 ≤ 600000 ∧ c2 ≤ 7302250) (cont : ∀ (r2 : abRf) (N2 : abMem), INV r2 N2 (k + 98) → gI N2 1000042 = gI M 1000042 → abW 14 (600000, 7302250) 297 1485 [some (vr (some 1000042)), some (vr (some 0)), some (vr (some 567)), some (vi i)] [] (c1, c2) (A0 L) N2 Q) : abW 14 (600000, 7302250) 297 436 [some (vr (some 1000042)), some (vr (some 0)), some (vr (some 567)), some (vi i)] [] (c1, c2) (A0 L) M Q := by
  obtain ⟨R, a, b⟩ : PR L 92 206 [vi (gI M 1000042 (i + 1)), vi (gI M 1000042 (i + 2))] k M := pr_box h
  refine bw_aload rfl rfl ?_
  refine bw_aload rfl rfl ?_
  refine bw_iload rfl rfl ?_
  refine bw_push rfl ?_
  refine bw_iadd rfl ⟨by omega, by omega⟩ ?_
  refine bw_ialdS rfl rfl (by omega) (by rw [kk_s]; show _ < (L : Int); omega) ?_
  refine bw_aload rfl rfl ?_
  refine bw_iload rfl rfl ?_
  refine bw_push rfl ?_
  refine bw_iadd rfl ⟨by omega, by omega⟩ ?_
  refine bw_ialdS rfl rfl (by omega) (by rw [kk_s]; show _ < (L : Int); omega) ?_
  refine bw_callV (e := 13) (mc := 0) (ms := 0) (as := [_, _]) rfl rfl rfl rfl (Nat.le_of_ble_eq_true rfl) (Nat.le_of_ble_eq_true rfl) hc.1 hc.2 rfl a (fun v A N hv => ?_)
  obtain ⟨rfl, es, x, rfl, R2, a2, b2⟩ := b v A N hv
  show abW 14 (600000, 7302250) 297 450 [some (vr (some 1000042)), some (vr (some 0)), some (vr (some 567)), some (vi i)] [vi x] (c1, c2) (A0 L) N Q
  refine bw_aload rfl rfl ?_
  refine bw_aload rfl rfl ?_
  refine bw_iload rfl rfl ?_
  refine bw_push rfl ?_
  refine bw_iadd rfl ⟨by omega, by omega⟩ ?_
  refine bw_ialdS rfl rfl (by omega) (by rw [kk_s]; show _ < (L : Int); omega) ?_
  refine bw_aload rfl rfl ?_
  refine bw_iload rfl rfl ?_
  refine bw_push rfl ?_
  refine bw_iadd rfl ⟨by omega, by omega⟩ ?_
  refine bw_ialdS rfl rfl (by omega) (by rw [kk_s]; show _ < (L : Int); omega) ?_
  rw [es]
  refine bw_callV (e := 13) (mc := 0) (ms := 0) (as := [_, _]) rfl rfl rfl rfl (Nat.le_of_ble_eq_true rfl) (Nat.le_of_ble_eq_true rfl) hc.1 hc.2 rfl a2 (fun v2 A2 N2 h2 => ?_)
  obtain ⟨rfl, rfl, e2, r2, hI2⟩ := b2 v2 A2 N2 h2
  show abW 14 (600000, 7302250) 297 464 [some (vr (some 1000042)), some (vr (some 0)), some (vr (some 567)), some (vi i)] [vi x, vi x] (c1, c2) (A0 L) N2 Q
  refine bw_iceq rfl (fun _ => ?_) (fun c => absurd rfl c)
  exact cont r2 N2 hI2 e2
theorem arm_at (h : INV r M k) (hk : k ≤ 900000) (hs : ∀ j : Int, In32 (gI M 1000042 j)) (hi : 0 ≤ i ∧ i + 6 ≤ L ∧ L ≤ 3072) (hc : c1 ≤ 600000 ∧ c2 ≤ 7302250) (cont : ∀ (r2 : abRf) (N2 : abMem), INV r2 N2 (k + 98) → gI N2 1000042 = gI M 1000042 → abW 14 (600000, 7302250) 297 1485 [some (vr (some 1000042)), some (vr (some 0)), some (vr (some 567)), some (vi i)] [] (c1, c2) (A0 L) N2 Q) : abW 14 (600000, 7302250) 297 469 [some (vr (some 1000042)), some (vr (some 0)), some (vr (some 567)), some (vi i)] [] (c1, c2) (A0 L) M Q := by
  obtain ⟨R, a, b⟩ : PR L 93 207 [vi (gI M 1000042 (i + 1)), vi (gI M 1000042 (i + 2))] k M := pr_at h
  refine bw_aload rfl rfl ?_
  refine bw_aload rfl rfl ?_
  refine bw_iload rfl rfl ?_
  refine bw_push rfl ?_
  refine bw_iadd rfl ⟨by omega, by omega⟩ ?_
  refine bw_ialdS rfl rfl (by omega) (by rw [kk_s]; show _ < (L : Int); omega) ?_
  refine bw_aload rfl rfl ?_
  refine bw_iload rfl rfl ?_
  refine bw_push rfl ?_
  refine bw_iadd rfl ⟨by omega, by omega⟩ ?_
  refine bw_ialdS rfl rfl (by omega) (by rw [kk_s]; show _ < (L : Int); omega) ?_
  refine bw_callV (e := 13) (mc := 0) (ms := 0) (as := [_, _]) rfl rfl rfl rfl (Nat.le_of_ble_eq_true rfl) (Nat.le_of_ble_eq_true rfl) hc.1 hc.2 rfl a (fun v A N hv => ?_)
  obtain ⟨rfl, es, x, rfl, R2, a2, b2⟩ := b v A N hv
  show abW 14 (600000, 7302250) 297 483 [some (vr (some 1000042)), some (vr (some 0)), some (vr (some 567)), some (vi i)] [vi x] (c1, c2) (A0 L) N Q
  refine bw_aload rfl rfl ?_
  refine bw_aload rfl rfl ?_
  refine bw_iload rfl rfl ?_
  refine bw_push rfl ?_
  refine bw_iadd rfl ⟨by omega, by omega⟩ ?_
  refine bw_ialdS rfl rfl (by omega) (by rw [kk_s]; show _ < (L : Int); omega) ?_
  refine bw_aload rfl rfl ?_
  refine bw_iload rfl rfl ?_
  refine bw_push rfl ?_
  refine bw_iadd rfl ⟨by omega, by omega⟩ ?_
  refine bw_ialdS rfl rfl (by omega) (by rw [kk_s]; show _ < (L : Int); omega) ?_
  rw [es]
  refine bw_callV (e := 13) (mc := 0) (ms := 0) (as := [_, _]) rfl rfl rfl rfl (Nat.le_of_ble_eq_true rfl) (Nat.le_of_ble_eq_true rfl) hc.1 hc.2 rfl a2 (fun v2 A2 N2 h2 => ?_)
  obtain ⟨rfl, rfl, e2, r2, hI2⟩ := b2 v2 A2 N2 h2
  show abW 14 (600000, 7302250) 297 497 [some (vr (some 1000042)), some (vr (some 0)), some (vr (some 567)), some (vi i)] [vi x, vi x] (c1, c2) (A0 L) N2 Q
  refine bw_iceq rfl (fun _ => ?_) (fun c => absurd rfl c)
  exact cont r2 N2 hI2 e2
theorem arm_told (h : INV r M k) (hk : k ≤ 900000) (hs : ∀ j : Int, In32 (gI M 1000042 j)) (hi : 0 ≤ i ∧ i + 6 ≤ L ∧ L ≤ 3072) (hc : c1 ≤ 600000 ∧ c2 ≤ 7302250) (cont : ∀ (r2 : abRf) (N2 : abMem), INV r2 N2 (k + 98) → gI N2 1000042 = gI M 1000042 → abW 14 (600000, 7302250) 297 1485 [some (vr (some 1000042)), some (vr (some 0)), some (vr (some 567)), some (vi i)] [] (c1, c2) (A0 L) N2 Q) : abW 14 (600000, 7302250) 297 502 [some (vr (some 1000042)), some (vr (some 0)), some (vr (some 567)), some (vi i)] [] (c1, c2) (A0 L) M Q := by
  obtain ⟨R, a, b⟩ : PR L 94 208 [vi (gI M 1000042 (i + 1)), vi (gI M 1000042 (i + 2))] k M := pr_told h
  refine bw_aload rfl rfl ?_
  refine bw_aload rfl rfl ?_
  refine bw_iload rfl rfl ?_
  refine bw_push rfl ?_
  refine bw_iadd rfl ⟨by omega, by omega⟩ ?_
  refine bw_ialdS rfl rfl (by omega) (by rw [kk_s]; show _ < (L : Int); omega) ?_
  refine bw_aload rfl rfl ?_
  refine bw_iload rfl rfl ?_
  refine bw_push rfl ?_
  refine bw_iadd rfl ⟨by omega, by omega⟩ ?_
  refine bw_ialdS rfl rfl (by omega) (by rw [kk_s]; show _ < (L : Int); omega) ?_
  refine bw_callV (e := 13) (mc := 0) (ms := 0) (as := [_, _]) rfl rfl rfl rfl (Nat.le_of_ble_eq_true rfl) (Nat.le_of_ble_eq_true rfl) hc.1 hc.2 rfl a (fun v A N hv => ?_)
  obtain ⟨rfl, es, x, rfl, R2, a2, b2⟩ := b v A N hv
  show abW 14 (600000, 7302250) 297 516 [some (vr (some 1000042)), some (vr (some 0)), some (vr (some 567)), some (vi i)] [vi x] (c1, c2) (A0 L) N Q
  refine bw_aload rfl rfl ?_
  refine bw_aload rfl rfl ?_
  refine bw_iload rfl rfl ?_
  refine bw_push rfl ?_
  refine bw_iadd rfl ⟨by omega, by omega⟩ ?_
  refine bw_ialdS rfl rfl (by omega) (by rw [kk_s]; show _ < (L : Int); omega) ?_
  refine bw_aload rfl rfl ?_
  refine bw_iload rfl rfl ?_
  refine bw_push rfl ?_
  refine bw_iadd rfl ⟨by omega, by omega⟩ ?_
  refine bw_ialdS rfl rfl (by omega) (by rw [kk_s]; show _ < (L : Int); omega) ?_
  rw [es]
  refine bw_callV (e := 13) (mc := 0) (ms := 0) (as := [_, _]) rfl rfl rfl rfl (Nat.le_of_ble_eq_true rfl) (Nat.le_of_ble_eq_true rfl) hc.1 hc.2 rfl a2 (fun v2 A2 N2 h2 => ?_)
  obtain ⟨rfl, rfl, e2, r2, hI2⟩ := b2 v2 A2 N2 h2
  show abW 14 (600000, 7302250) 297 530 [some (vr (some 1000042)), some (vr (some 0)), some (vr (some 567)), some (vi i)] [vi x, vi x] (c1, c2) (A0 L) N2 Q
  refine bw_iceq rfl (fun _ => ?_) (fun c => absurd rfl c)
  exact cont r2 N2 hI2 e2
theorem arm_hold (h : INV r M k) (hk : k ≤ 900000) (hs : ∀ j : Int, In32 (gI M 1000042 j)) (hi : 0 ≤ i ∧ i + 6 ≤ L ∧ L ≤ 3072) (hc : c1 ≤ 600000 ∧ c2 ≤ 7302250) (cont : ∀ (r2 : abRf) (N2 : abMem), INV r2 N2 (k + 98) → gI N2 1000042 = gI M 1000042 → abW 14 (600000, 7302250) 297 1485 [some (vr (some 1000042)), some (vr (some 0)), some (vr (some 567)), some (vi i)] [] (c1, c2) (A0 L) N2 Q) : abW 14 (600000, 7302250) 297 535 [some (vr (some 1000042)), some (vr (some 0)), some (vr (some 567)), some (vi i)] [] (c1, c2) (A0 L) M Q := by
  obtain ⟨R, a, b⟩ : PR L 95 209 [vi (gI M 1000042 (i + 1)), vi (gI M 1000042 (i + 2)), vi (gI M 1000042 (i + 3))] k M := pr_hold h
  refine bw_aload rfl rfl ?_
  refine bw_aload rfl rfl ?_
  refine bw_iload rfl rfl ?_
  refine bw_push rfl ?_
  refine bw_iadd rfl ⟨by omega, by omega⟩ ?_
  refine bw_ialdS rfl rfl (by omega) (by rw [kk_s]; show _ < (L : Int); omega) ?_
  refine bw_aload rfl rfl ?_
  refine bw_iload rfl rfl ?_
  refine bw_push rfl ?_
  refine bw_iadd rfl ⟨by omega, by omega⟩ ?_
  refine bw_ialdS rfl rfl (by omega) (by rw [kk_s]; show _ < (L : Int); omega) ?_
  refine bw_aload rfl rfl ?_
  refine bw_iload rfl rfl ?_
  refine bw_push rfl ?_
  refine bw_iadd rfl ⟨by omega, by omega⟩ ?_
  refine bw_ialdS rfl rfl (by omega) (by rw [kk_s]; show _ < (L : Int); omega) ?_
  refine bw_callV (e := 13) (mc := 0) (ms := 0) (as := [_, _, _]) rfl rfl rfl rfl (Nat.le_of_ble_eq_true rfl) (Nat.le_of_ble_eq_true rfl) hc.1 hc.2 rfl a (fun v A N hv => ?_)
  obtain ⟨rfl, es, x, rfl, R2, a2, b2⟩ := b v A N hv
  show abW 14 (600000, 7302250) 297 554 [some (vr (some 1000042)), some (vr (some 0)), some (vr (some 567)), some (vi i)] [vi x] (c1, c2) (A0 L) N Q
  refine bw_aload rfl rfl ?_
  refine bw_aload rfl rfl ?_
  refine bw_iload rfl rfl ?_
  refine bw_push rfl ?_
  refine bw_iadd rfl ⟨by omega, by omega⟩ ?_
  refine bw_ialdS rfl rfl (by omega) (by rw [kk_s]; show _ < (L : Int); omega) ?_
  refine bw_aload rfl rfl ?_
  refine bw_iload rfl rfl ?_
  refine bw_push rfl ?_
  refine bw_iadd rfl ⟨by omega, by omega⟩ ?_
  refine bw_ialdS rfl rfl (by omega) (by rw [kk_s]; show _ < (L : Int); omega) ?_
  refine bw_aload rfl rfl ?_
  refine bw_iload rfl rfl ?_
  refine bw_push rfl ?_
  refine bw_iadd rfl ⟨by omega, by omega⟩ ?_
  refine bw_ialdS rfl rfl (by omega) (by rw [kk_s]; show _ < (L : Int); omega) ?_
  rw [es]
  refine bw_callV (e := 13) (mc := 0) (ms := 0) (as := [_, _, _]) rfl rfl rfl rfl (Nat.le_of_ble_eq_true rfl) (Nat.le_of_ble_eq_true rfl) hc.1 hc.2 rfl a2 (fun v2 A2 N2 h2 => ?_)
  obtain ⟨rfl, rfl, e2, r2, hI2⟩ := b2 v2 A2 N2 h2
  show abW 14 (600000, 7302250) 297 573 [some (vr (some 1000042)), some (vr (some 0)), some (vr (some 567)), some (vi i)] [vi x, vi x] (c1, c2) (A0 L) N2 Q
  refine bw_iceq rfl (fun _ => ?_) (fun c => absurd rfl c)
  exact cont r2 N2 hI2 e2
theorem arm_find (h : INV r M k) (hk : k ≤ 900000) (hs : ∀ j : Int, In32 (gI M 1000042 j)) (hi : 0 ≤ i ∧ i + 6 ≤ L ∧ L ≤ 3072) (hc : c1 ≤ 600000 ∧ c2 ≤ 7302250) (cont : ∀ (r2 : abRf) (N2 : abMem), INV r2 N2 (k + 98) → gI N2 1000042 = gI M 1000042 → abW 14 (600000, 7302250) 297 1485 [some (vr (some 1000042)), some (vr (some 0)), some (vr (some 567)), some (vi i)] [] (c1, c2) (A0 L) N2 Q) : abW 14 (600000, 7302250) 297 578 [some (vr (some 1000042)), some (vr (some 0)), some (vr (some 567)), some (vi i)] [] (c1, c2) (A0 L) M Q := by
  obtain ⟨R, a, b⟩ : PR L 96 211 [vi (gI M 1000042 (i + 1)), vi (gI M 1000042 (i + 2)), vi (gI M 1000042 (i + 3))] k M := pr_find h (hs _)
  refine bw_aload rfl rfl ?_
  refine bw_aload rfl rfl ?_
  refine bw_iload rfl rfl ?_
  refine bw_push rfl ?_
  refine bw_iadd rfl ⟨by omega, by omega⟩ ?_
  refine bw_ialdS rfl rfl (by omega) (by rw [kk_s]; show _ < (L : Int); omega) ?_
  refine bw_aload rfl rfl ?_
  refine bw_iload rfl rfl ?_
  refine bw_push rfl ?_
  refine bw_iadd rfl ⟨by omega, by omega⟩ ?_
  refine bw_ialdS rfl rfl (by omega) (by rw [kk_s]; show _ < (L : Int); omega) ?_
  refine bw_aload rfl rfl ?_
  refine bw_iload rfl rfl ?_
  refine bw_push rfl ?_
  refine bw_iadd rfl ⟨by omega, by omega⟩ ?_
  refine bw_ialdS rfl rfl (by omega) (by rw [kk_s]; show _ < (L : Int); omega) ?_
  refine bw_callV (e := 13) (mc := 0) (ms := 0) (as := [_, _, _]) rfl rfl rfl rfl (Nat.le_of_ble_eq_true rfl) (Nat.le_of_ble_eq_true rfl) hc.1 hc.2 rfl a (fun v A N hv => ?_)
  obtain ⟨rfl, es, x, rfl, R2, a2, b2⟩ := b v A N hv
  show abW 14 (600000, 7302250) 297 597 [some (vr (some 1000042)), some (vr (some 0)), some (vr (some 567)), some (vi i)] [vi x] (c1, c2) (A0 L) N Q
  refine bw_aload rfl rfl ?_
  refine bw_aload rfl rfl ?_
  refine bw_iload rfl rfl ?_
  refine bw_push rfl ?_
  refine bw_iadd rfl ⟨by omega, by omega⟩ ?_
  refine bw_ialdS rfl rfl (by omega) (by rw [kk_s]; show _ < (L : Int); omega) ?_
  refine bw_aload rfl rfl ?_
  refine bw_iload rfl rfl ?_
  refine bw_push rfl ?_
  refine bw_iadd rfl ⟨by omega, by omega⟩ ?_
  refine bw_ialdS rfl rfl (by omega) (by rw [kk_s]; show _ < (L : Int); omega) ?_
  refine bw_aload rfl rfl ?_
  refine bw_iload rfl rfl ?_
  refine bw_push rfl ?_
  refine bw_iadd rfl ⟨by omega, by omega⟩ ?_
  refine bw_ialdS rfl rfl (by omega) (by rw [kk_s]; show _ < (L : Int); omega) ?_
  rw [es]
  refine bw_callV (e := 13) (mc := 0) (ms := 0) (as := [_, _, _]) rfl rfl rfl rfl (Nat.le_of_ble_eq_true rfl) (Nat.le_of_ble_eq_true rfl) hc.1 hc.2 rfl a2 (fun v2 A2 N2 h2 => ?_)
  obtain ⟨rfl, rfl, e2, r2, hI2⟩ := b2 v2 A2 N2 h2
  show abW 14 (600000, 7302250) 297 616 [some (vr (some 1000042)), some (vr (some 0)), some (vr (some 567)), some (vi i)] [vi x, vi x] (c1, c2) (A0 L) N2 Q
  refine bw_iceq rfl (fun _ => ?_) (fun c => absurd rfl c)
  exact cont r2 N2 hI2 e2
theorem arm_cycle (h : INV r M k) (hk : k ≤ 900000) (hs : ∀ j : Int, In32 (gI M 1000042 j)) (hi : 0 ≤ i ∧ i + 6 ≤ L ∧ L ≤ 3072) (hc : c1 ≤ 600000 ∧ c2 ≤ 7302250) (cont : ∀ (r2 : abRf) (N2 : abMem), INV r2 N2 (k + 98) → gI N2 1000042 = gI M 1000042 → abW 14 (600000, 7302250) 297 1485 [some (vr (some 1000042)), some (vr (some 0)), some (vr (some 567)), some (vi i)] [] (c1, c2) (A0 L) N2 Q) : abW 14 (600000, 7302250) 297 621 [some (vr (some 1000042)), some (vr (some 0)), some (vr (some 567)), some (vi i)] [] (c1, c2) (A0 L) M Q := by
  obtain ⟨R, a, b⟩ : PR L 97 214 [vi (gI M 1000042 (i + 1)), vi (gI M 1000042 (i + 2))] k M := pr_cycle h
  refine bw_aload rfl rfl ?_
  refine bw_aload rfl rfl ?_
  refine bw_iload rfl rfl ?_
  refine bw_push rfl ?_
  refine bw_iadd rfl ⟨by omega, by omega⟩ ?_
  refine bw_ialdS rfl rfl (by omega) (by rw [kk_s]; show _ < (L : Int); omega) ?_
  refine bw_aload rfl rfl ?_
  refine bw_iload rfl rfl ?_
  refine bw_push rfl ?_
  refine bw_iadd rfl ⟨by omega, by omega⟩ ?_
  refine bw_ialdS rfl rfl (by omega) (by rw [kk_s]; show _ < (L : Int); omega) ?_
  refine bw_callV (e := 13) (mc := 0) (ms := 0) (as := [_, _]) rfl rfl rfl rfl (Nat.le_of_ble_eq_true rfl) (Nat.le_of_ble_eq_true rfl) hc.1 hc.2 rfl a (fun v A N hv => ?_)
  obtain ⟨rfl, es, x, rfl, R2, a2, b2⟩ := b v A N hv
  show abW 14 (600000, 7302250) 297 635 [some (vr (some 1000042)), some (vr (some 0)), some (vr (some 567)), some (vi i)] [vi x] (c1, c2) (A0 L) N Q
  refine bw_aload rfl rfl ?_
  refine bw_aload rfl rfl ?_
  refine bw_iload rfl rfl ?_
  refine bw_push rfl ?_
  refine bw_iadd rfl ⟨by omega, by omega⟩ ?_
  refine bw_ialdS rfl rfl (by omega) (by rw [kk_s]; show _ < (L : Int); omega) ?_
  refine bw_aload rfl rfl ?_
  refine bw_iload rfl rfl ?_
  refine bw_push rfl ?_
  refine bw_iadd rfl ⟨by omega, by omega⟩ ?_
  refine bw_ialdS rfl rfl (by omega) (by rw [kk_s]; show _ < (L : Int); omega) ?_
  rw [es]
  refine bw_callV (e := 13) (mc := 0) (ms := 0) (as := [_, _]) rfl rfl rfl rfl (Nat.le_of_ble_eq_true rfl) (Nat.le_of_ble_eq_true rfl) hc.1 hc.2 rfl a2 (fun v2 A2 N2 h2 => ?_)
  obtain ⟨rfl, rfl, e2, r2, hI2⟩ := b2 v2 A2 N2 h2
  show abW 14 (600000, 7302250) 297 649 [some (vr (some 1000042)), some (vr (some 0)), some (vr (some 567)), some (vi i)] [vi x, vi x] (c1, c2) (A0 L) N2 Q
  refine bw_iceq rfl (fun _ => ?_) (fun c => absurd rfl c)
  exact cont r2 N2 hI2 e2
theorem arm_marks (h : INV r M k) (hk : k ≤ 900000) (hs : ∀ j : Int, In32 (gI M 1000042 j)) (hi : 0 ≤ i ∧ i + 6 ≤ L ∧ L ≤ 3072) (hc : c1 ≤ 600000 ∧ c2 ≤ 7302250) (cont : ∀ (r2 : abRf) (N2 : abMem), INV r2 N2 (k + 98) → gI N2 1000042 = gI M 1000042 → abW 14 (600000, 7302250) 297 1485 [some (vr (some 1000042)), some (vr (some 0)), some (vr (some 567)), some (vi i)] [] (c1, c2) (A0 L) N2 Q) : abW 14 (600000, 7302250) 297 654 [some (vr (some 1000042)), some (vr (some 0)), some (vr (some 567)), some (vi i)] [] (c1, c2) (A0 L) M Q := by
  obtain ⟨R, a, b⟩ : PR L 98 224 [vi (gI M 1000042 (i + 1))] k M := pr_marks h
  refine bw_aload rfl rfl ?_
  refine bw_aload rfl rfl ?_
  refine bw_iload rfl rfl ?_
  refine bw_push rfl ?_
  refine bw_iadd rfl ⟨by omega, by omega⟩ ?_
  refine bw_ialdS rfl rfl (by omega) (by rw [kk_s]; show _ < (L : Int); omega) ?_
  refine bw_callV (e := 13) (mc := 0) (ms := 0) (as := [_]) rfl rfl rfl rfl (Nat.le_of_ble_eq_true rfl) (Nat.le_of_ble_eq_true rfl) hc.1 hc.2 rfl a (fun v A N hv => ?_)
  obtain ⟨rfl, es, x, rfl, R2, a2, b2⟩ := b v A N hv
  show abW 14 (600000, 7302250) 297 663 [some (vr (some 1000042)), some (vr (some 0)), some (vr (some 567)), some (vi i)] [vi x] (c1, c2) (A0 L) N Q
  refine bw_aload rfl rfl ?_
  refine bw_aload rfl rfl ?_
  refine bw_iload rfl rfl ?_
  refine bw_push rfl ?_
  refine bw_iadd rfl ⟨by omega, by omega⟩ ?_
  refine bw_ialdS rfl rfl (by omega) (by rw [kk_s]; show _ < (L : Int); omega) ?_
  rw [es]
  refine bw_callV (e := 13) (mc := 0) (ms := 0) (as := [_]) rfl rfl rfl rfl (Nat.le_of_ble_eq_true rfl) (Nat.le_of_ble_eq_true rfl) hc.1 hc.2 rfl a2 (fun v2 A2 N2 h2 => ?_)
  obtain ⟨rfl, rfl, e2, r2, hI2⟩ := b2 v2 A2 N2 h2
  show abW 14 (600000, 7302250) 297 672 [some (vr (some 1000042)), some (vr (some 0)), some (vr (some 567)), some (vi i)] [vi x, vi x] (c1, c2) (A0 L) N2 Q
  refine bw_iceq rfl (fun _ => ?_) (fun c => absurd rfl c)
  exact cont r2 N2 hI2 e2
theorem arm_shift (h : INV r M k) (hk : k ≤ 900000) (hs : ∀ j : Int, In32 (gI M 1000042 j)) (hi : 0 ≤ i ∧ i + 6 ≤ L ∧ L ≤ 3072) (hc : c1 ≤ 600000 ∧ c2 ≤ 7302250) (cont : ∀ (r2 : abRf) (N2 : abMem), INV r2 N2 (k + 98) → gI N2 1000042 = gI M 1000042 → abW 14 (600000, 7302250) 297 1485 [some (vr (some 1000042)), some (vr (some 0)), some (vr (some 567)), some (vi i)] [] (c1, c2) (A0 L) N2 Q) : abW 14 (600000, 7302250) 297 677 [some (vr (some 1000042)), some (vr (some 0)), some (vr (some 567)), some (vi i)] [] (c1, c2) (A0 L) M Q := by
  obtain ⟨R, a, b⟩ : PR L 99 226 [vi (gI M 1000042 (i + 1)), vi (gI M 1000042 (i + 2)), vi (gI M 1000042 (i + 3))] k M := pr_shift h
  refine bw_aload rfl rfl ?_
  refine bw_aload rfl rfl ?_
  refine bw_iload rfl rfl ?_
  refine bw_push rfl ?_
  refine bw_iadd rfl ⟨by omega, by omega⟩ ?_
  refine bw_ialdS rfl rfl (by omega) (by rw [kk_s]; show _ < (L : Int); omega) ?_
  refine bw_aload rfl rfl ?_
  refine bw_iload rfl rfl ?_
  refine bw_push rfl ?_
  refine bw_iadd rfl ⟨by omega, by omega⟩ ?_
  refine bw_ialdS rfl rfl (by omega) (by rw [kk_s]; show _ < (L : Int); omega) ?_
  refine bw_aload rfl rfl ?_
  refine bw_iload rfl rfl ?_
  refine bw_push rfl ?_
  refine bw_iadd rfl ⟨by omega, by omega⟩ ?_
  refine bw_ialdS rfl rfl (by omega) (by rw [kk_s]; show _ < (L : Int); omega) ?_
  refine bw_callV (e := 13) (mc := 0) (ms := 0) (as := [_, _, _]) rfl rfl rfl rfl (Nat.le_of_ble_eq_true rfl) (Nat.le_of_ble_eq_true rfl) hc.1 hc.2 rfl a (fun v A N hv => ?_)
  obtain ⟨rfl, es, x, rfl, R2, a2, b2⟩ := b v A N hv
  show abW 14 (600000, 7302250) 297 696 [some (vr (some 1000042)), some (vr (some 0)), some (vr (some 567)), some (vi i)] [vi x] (c1, c2) (A0 L) N Q
  refine bw_aload rfl rfl ?_
  refine bw_aload rfl rfl ?_
  refine bw_iload rfl rfl ?_
  refine bw_push rfl ?_
  refine bw_iadd rfl ⟨by omega, by omega⟩ ?_
  refine bw_ialdS rfl rfl (by omega) (by rw [kk_s]; show _ < (L : Int); omega) ?_
  refine bw_aload rfl rfl ?_
  refine bw_iload rfl rfl ?_
  refine bw_push rfl ?_
  refine bw_iadd rfl ⟨by omega, by omega⟩ ?_
  refine bw_ialdS rfl rfl (by omega) (by rw [kk_s]; show _ < (L : Int); omega) ?_
  refine bw_aload rfl rfl ?_
  refine bw_iload rfl rfl ?_
  refine bw_push rfl ?_
  refine bw_iadd rfl ⟨by omega, by omega⟩ ?_
  refine bw_ialdS rfl rfl (by omega) (by rw [kk_s]; show _ < (L : Int); omega) ?_
  rw [es]
  refine bw_callV (e := 13) (mc := 0) (ms := 0) (as := [_, _, _]) rfl rfl rfl rfl (Nat.le_of_ble_eq_true rfl) (Nat.le_of_ble_eq_true rfl) hc.1 hc.2 rfl a2 (fun v2 A2 N2 h2 => ?_)
  obtain ⟨rfl, rfl, e2, r2, hI2⟩ := b2 v2 A2 N2 h2
  show abW 14 (600000, 7302250) 297 715 [some (vr (some 1000042)), some (vr (some 0)), some (vr (some 567)), some (vi i)] [vi x, vi x] (c1, c2) (A0 L) N2 Q
  refine bw_iceq rfl (fun _ => ?_) (fun c => absurd rfl c)
  exact cont r2 N2 hI2 e2
theorem arm_hidden (h : INV r M k) (hk : k ≤ 900000) (hs : ∀ j : Int, In32 (gI M 1000042 j)) (hi : 0 ≤ i ∧ i + 6 ≤ L ∧ L ≤ 3072) (hc : c1 ≤ 600000 ∧ c2 ≤ 7302250) (cont : ∀ (r2 : abRf) (N2 : abMem), INV r2 N2 (k + 98) → gI N2 1000042 = gI M 1000042 → abW 14 (600000, 7302250) 297 1485 [some (vr (some 1000042)), some (vr (some 0)), some (vr (some 567)), some (vi i)] [] (c1, c2) (A0 L) N2 Q) : abW 14 (600000, 7302250) 297 720 [some (vr (some 1000042)), some (vr (some 0)), some (vr (some 567)), some (vi i)] [] (c1, c2) (A0 L) M Q := by
  obtain ⟨R, a, b⟩ : PR L 100 228 [vi (gI M 1000042 (i + 1)), vi (gI M 1000042 (i + 2))] k M := pr_hidden h
  refine bw_aload rfl rfl ?_
  refine bw_aload rfl rfl ?_
  refine bw_iload rfl rfl ?_
  refine bw_push rfl ?_
  refine bw_iadd rfl ⟨by omega, by omega⟩ ?_
  refine bw_ialdS rfl rfl (by omega) (by rw [kk_s]; show _ < (L : Int); omega) ?_
  refine bw_aload rfl rfl ?_
  refine bw_iload rfl rfl ?_
  refine bw_push rfl ?_
  refine bw_iadd rfl ⟨by omega, by omega⟩ ?_
  refine bw_ialdS rfl rfl (by omega) (by rw [kk_s]; show _ < (L : Int); omega) ?_
  refine bw_callV (e := 13) (mc := 0) (ms := 0) (as := [_, _]) rfl rfl rfl rfl (Nat.le_of_ble_eq_true rfl) (Nat.le_of_ble_eq_true rfl) hc.1 hc.2 rfl a (fun v A N hv => ?_)
  obtain ⟨rfl, es, x, rfl, R2, a2, b2⟩ := b v A N hv
  show abW 14 (600000, 7302250) 297 734 [some (vr (some 1000042)), some (vr (some 0)), some (vr (some 567)), some (vi i)] [vi x] (c1, c2) (A0 L) N Q
  refine bw_aload rfl rfl ?_
  refine bw_aload rfl rfl ?_
  refine bw_iload rfl rfl ?_
  refine bw_push rfl ?_
  refine bw_iadd rfl ⟨by omega, by omega⟩ ?_
  refine bw_ialdS rfl rfl (by omega) (by rw [kk_s]; show _ < (L : Int); omega) ?_
  refine bw_aload rfl rfl ?_
  refine bw_iload rfl rfl ?_
  refine bw_push rfl ?_
  refine bw_iadd rfl ⟨by omega, by omega⟩ ?_
  refine bw_ialdS rfl rfl (by omega) (by rw [kk_s]; show _ < (L : Int); omega) ?_
  rw [es]
  refine bw_callV (e := 13) (mc := 0) (ms := 0) (as := [_, _]) rfl rfl rfl rfl (Nat.le_of_ble_eq_true rfl) (Nat.le_of_ble_eq_true rfl) hc.1 hc.2 rfl a2 (fun v2 A2 N2 h2 => ?_)
  obtain ⟨rfl, rfl, e2, r2, hI2⟩ := b2 v2 A2 N2 h2
  show abW 14 (600000, 7302250) 297 748 [some (vr (some 1000042)), some (vr (some 0)), some (vr (some 567)), some (vi i)] [vi x, vi x] (c1, c2) (A0 L) N2 Q
  refine bw_iceq rfl (fun _ => ?_) (fun c => absurd rfl c)
  exact cont r2 N2 hI2 e2
theorem arm_cell (h : INV r M k) (hk : k ≤ 900000) (hs : ∀ j : Int, In32 (gI M 1000042 j)) (hi : 0 ≤ i ∧ i + 6 ≤ L ∧ L ≤ 3072) (hc : c1 ≤ 600000 ∧ c2 ≤ 7302250) (cont : ∀ (r2 : abRf) (N2 : abMem), INV r2 N2 (k + 98) → gI N2 1000042 = gI M 1000042 → abW 14 (600000, 7302250) 297 1485 [some (vr (some 1000042)), some (vr (some 0)), some (vr (some 567)), some (vi i)] [] (c1, c2) (A0 L) N2 Q) : abW 14 (600000, 7302250) 297 753 [some (vr (some 1000042)), some (vr (some 0)), some (vr (some 567)), some (vi i)] [] (c1, c2) (A0 L) M Q := by
  obtain ⟨R, a, b⟩ : PR L 101 233 [vi (gI M 1000042 (i + 1)), vi (gI M 1000042 (i + 2)), vi (gI M 1000042 (i + 3))] k M := pr_cell h hk
  refine bw_aload rfl rfl ?_
  refine bw_aload rfl rfl ?_
  refine bw_iload rfl rfl ?_
  refine bw_push rfl ?_
  refine bw_iadd rfl ⟨by omega, by omega⟩ ?_
  refine bw_ialdS rfl rfl (by omega) (by rw [kk_s]; show _ < (L : Int); omega) ?_
  refine bw_aload rfl rfl ?_
  refine bw_iload rfl rfl ?_
  refine bw_push rfl ?_
  refine bw_iadd rfl ⟨by omega, by omega⟩ ?_
  refine bw_ialdS rfl rfl (by omega) (by rw [kk_s]; show _ < (L : Int); omega) ?_
  refine bw_aload rfl rfl ?_
  refine bw_iload rfl rfl ?_
  refine bw_push rfl ?_
  refine bw_iadd rfl ⟨by omega, by omega⟩ ?_
  refine bw_ialdS rfl rfl (by omega) (by rw [kk_s]; show _ < (L : Int); omega) ?_
  refine bw_callV (e := 13) (mc := 0) (ms := 0) (as := [_, _, _]) rfl rfl rfl rfl (Nat.le_of_ble_eq_true rfl) (Nat.le_of_ble_eq_true rfl) hc.1 hc.2 rfl a (fun v A N hv => ?_)
  obtain ⟨rfl, es, x, rfl, R2, a2, b2⟩ := b v A N hv
  show abW 14 (600000, 7302250) 297 772 [some (vr (some 1000042)), some (vr (some 0)), some (vr (some 567)), some (vi i)] [vi x] (c1, c2) (A0 L) N Q
  refine bw_aload rfl rfl ?_
  refine bw_aload rfl rfl ?_
  refine bw_iload rfl rfl ?_
  refine bw_push rfl ?_
  refine bw_iadd rfl ⟨by omega, by omega⟩ ?_
  refine bw_ialdS rfl rfl (by omega) (by rw [kk_s]; show _ < (L : Int); omega) ?_
  refine bw_aload rfl rfl ?_
  refine bw_iload rfl rfl ?_
  refine bw_push rfl ?_
  refine bw_iadd rfl ⟨by omega, by omega⟩ ?_
  refine bw_ialdS rfl rfl (by omega) (by rw [kk_s]; show _ < (L : Int); omega) ?_
  refine bw_aload rfl rfl ?_
  refine bw_iload rfl rfl ?_
  refine bw_push rfl ?_
  refine bw_iadd rfl ⟨by omega, by omega⟩ ?_
  refine bw_ialdS rfl rfl (by omega) (by rw [kk_s]; show _ < (L : Int); omega) ?_
  rw [es]
  refine bw_callV (e := 13) (mc := 0) (ms := 0) (as := [_, _, _]) rfl rfl rfl rfl (Nat.le_of_ble_eq_true rfl) (Nat.le_of_ble_eq_true rfl) hc.1 hc.2 rfl a2 (fun v2 A2 N2 h2 => ?_)
  obtain ⟨rfl, rfl, e2, r2, hI2⟩ := b2 v2 A2 N2 h2
  show abW 14 (600000, 7302250) 297 791 [some (vr (some 1000042)), some (vr (some 0)), some (vr (some 567)), some (vi i)] [vi x, vi x] (c1, c2) (A0 L) N2 Q
  refine bw_iceq rfl (fun _ => ?_) (fun c => absurd rfl c)
  exact cont r2 N2 hI2 e2
theorem arm_top (h : INV r M k) (hk : k ≤ 900000) (hs : ∀ j : Int, In32 (gI M 1000042 j)) (hi : 0 ≤ i ∧ i + 6 ≤ L ∧ L ≤ 3072) (hc : c1 ≤ 600000 ∧ c2 ≤ 7302250) (cont : ∀ (r2 : abRf) (N2 : abMem), INV r2 N2 (k + 98) → gI N2 1000042 = gI M 1000042 → abW 14 (600000, 7302250) 297 1485 [some (vr (some 1000042)), some (vr (some 0)), some (vr (some 567)), some (vi i)] [] (c1, c2) (A0 L) N2 Q) : abW 14 (600000, 7302250) 297 796 [some (vr (some 1000042)), some (vr (some 0)), some (vr (some 567)), some (vi i)] [] (c1, c2) (A0 L) M Q := by
  obtain ⟨R, a, b⟩ : PR L 102 234 [vi (gI M 1000042 (i + 1)), vi (gI M 1000042 (i + 2)), vi (gI M 1000042 (i + 3))] k M := pr_top h hk
  refine bw_aload rfl rfl ?_
  refine bw_aload rfl rfl ?_
  refine bw_iload rfl rfl ?_
  refine bw_push rfl ?_
  refine bw_iadd rfl ⟨by omega, by omega⟩ ?_
  refine bw_ialdS rfl rfl (by omega) (by rw [kk_s]; show _ < (L : Int); omega) ?_
  refine bw_aload rfl rfl ?_
  refine bw_iload rfl rfl ?_
  refine bw_push rfl ?_
  refine bw_iadd rfl ⟨by omega, by omega⟩ ?_
  refine bw_ialdS rfl rfl (by omega) (by rw [kk_s]; show _ < (L : Int); omega) ?_
  refine bw_aload rfl rfl ?_
  refine bw_iload rfl rfl ?_
  refine bw_push rfl ?_
  refine bw_iadd rfl ⟨by omega, by omega⟩ ?_
  refine bw_ialdS rfl rfl (by omega) (by rw [kk_s]; show _ < (L : Int); omega) ?_
  refine bw_callV (e := 13) (mc := 0) (ms := 0) (as := [_, _, _]) rfl rfl rfl rfl (Nat.le_of_ble_eq_true rfl) (Nat.le_of_ble_eq_true rfl) hc.1 hc.2 rfl a (fun v A N hv => ?_)
  obtain ⟨rfl, es, x, rfl, R2, a2, b2⟩ := b v A N hv
  show abW 14 (600000, 7302250) 297 815 [some (vr (some 1000042)), some (vr (some 0)), some (vr (some 567)), some (vi i)] [vi x] (c1, c2) (A0 L) N Q
  refine bw_aload rfl rfl ?_
  refine bw_aload rfl rfl ?_
  refine bw_iload rfl rfl ?_
  refine bw_push rfl ?_
  refine bw_iadd rfl ⟨by omega, by omega⟩ ?_
  refine bw_ialdS rfl rfl (by omega) (by rw [kk_s]; show _ < (L : Int); omega) ?_
  refine bw_aload rfl rfl ?_
  refine bw_iload rfl rfl ?_
  refine bw_push rfl ?_
  refine bw_iadd rfl ⟨by omega, by omega⟩ ?_
  refine bw_ialdS rfl rfl (by omega) (by rw [kk_s]; show _ < (L : Int); omega) ?_
  refine bw_aload rfl rfl ?_
  refine bw_iload rfl rfl ?_
  refine bw_push rfl ?_
  refine bw_iadd rfl ⟨by omega, by omega⟩ ?_
  refine bw_ialdS rfl rfl (by omega) (by rw [kk_s]; show _ < (L : Int); omega) ?_
  rw [es]
  refine bw_callV (e := 13) (mc := 0) (ms := 0) (as := [_, _, _]) rfl rfl rfl rfl (Nat.le_of_ble_eq_true rfl) (Nat.le_of_ble_eq_true rfl) hc.1 hc.2 rfl a2 (fun v2 A2 N2 h2 => ?_)
  obtain ⟨rfl, rfl, e2, r2, hI2⟩ := b2 v2 A2 N2 h2
  show abW 14 (600000, 7302250) 297 834 [some (vr (some 1000042)), some (vr (some 0)), some (vr (some 567)), some (vi i)] [vi x, vi x] (c1, c2) (A0 L) N2 Q
  refine bw_iceq rfl (fun _ => ?_) (fun c => absurd rfl c)
  exact cont r2 N2 hI2 e2
theorem arm_ink (h : INV r M k) (hk : k ≤ 900000) (hs : ∀ j : Int, In32 (gI M 1000042 j)) (hi : 0 ≤ i ∧ i + 6 ≤ L ∧ L ≤ 3072) (hc : c1 ≤ 600000 ∧ c2 ≤ 7302250) (cont : ∀ (r2 : abRf) (N2 : abMem), INV r2 N2 (k + 98) → gI N2 1000042 = gI M 1000042 → abW 14 (600000, 7302250) 297 1485 [some (vr (some 1000042)), some (vr (some 0)), some (vr (some 567)), some (vi i)] [] (c1, c2) (A0 L) N2 Q) : abW 14 (600000, 7302250) 297 839 [some (vr (some 1000042)), some (vr (some 0)), some (vr (some 567)), some (vi i)] [] (c1, c2) (A0 L) M Q := by
  obtain ⟨R, a, b⟩ : PR L 103 235 [vi (gI M 1000042 (i + 1)), vi (gI M 1000042 (i + 2))] k M := pr_ink h hk
  refine bw_aload rfl rfl ?_
  refine bw_aload rfl rfl ?_
  refine bw_iload rfl rfl ?_
  refine bw_push rfl ?_
  refine bw_iadd rfl ⟨by omega, by omega⟩ ?_
  refine bw_ialdS rfl rfl (by omega) (by rw [kk_s]; show _ < (L : Int); omega) ?_
  refine bw_aload rfl rfl ?_
  refine bw_iload rfl rfl ?_
  refine bw_push rfl ?_
  refine bw_iadd rfl ⟨by omega, by omega⟩ ?_
  refine bw_ialdS rfl rfl (by omega) (by rw [kk_s]; show _ < (L : Int); omega) ?_
  refine bw_callV (e := 13) (mc := 0) (ms := 0) (as := [_, _]) rfl rfl rfl rfl (Nat.le_of_ble_eq_true rfl) (Nat.le_of_ble_eq_true rfl) hc.1 hc.2 rfl a (fun v A N hv => ?_)
  obtain ⟨rfl, es, x, rfl, R2, a2, b2⟩ := b v A N hv
  show abW 14 (600000, 7302250) 297 853 [some (vr (some 1000042)), some (vr (some 0)), some (vr (some 567)), some (vi i)] [vi x] (c1, c2) (A0 L) N Q
  refine bw_aload rfl rfl ?_
  refine bw_aload rfl rfl ?_
  refine bw_iload rfl rfl ?_
  refine bw_push rfl ?_
  refine bw_iadd rfl ⟨by omega, by omega⟩ ?_
  refine bw_ialdS rfl rfl (by omega) (by rw [kk_s]; show _ < (L : Int); omega) ?_
  refine bw_aload rfl rfl ?_
  refine bw_iload rfl rfl ?_
  refine bw_push rfl ?_
  refine bw_iadd rfl ⟨by omega, by omega⟩ ?_
  refine bw_ialdS rfl rfl (by omega) (by rw [kk_s]; show _ < (L : Int); omega) ?_
  rw [es]
  refine bw_callV (e := 13) (mc := 0) (ms := 0) (as := [_, _]) rfl rfl rfl rfl (Nat.le_of_ble_eq_true rfl) (Nat.le_of_ble_eq_true rfl) hc.1 hc.2 rfl a2 (fun v2 A2 N2 h2 => ?_)
  obtain ⟨rfl, rfl, e2, r2, hI2⟩ := b2 v2 A2 N2 h2
  show abW 14 (600000, 7302250) 297 867 [some (vr (some 1000042)), some (vr (some 0)), some (vr (some 567)), some (vi i)] [vi x, vi x] (c1, c2) (A0 L) N2 Q
  refine bw_iceq rfl (fun _ => ?_) (fun c => absurd rfl c)
  exact cont r2 N2 hI2 e2
theorem arm_seen (h : INV r M k) (hk : k ≤ 900000) (hs : ∀ j : Int, In32 (gI M 1000042 j)) (hi : 0 ≤ i ∧ i + 6 ≤ L ∧ L ≤ 3072) (hc : c1 ≤ 600000 ∧ c2 ≤ 7302250) (cont : ∀ (r2 : abRf) (N2 : abMem), INV r2 N2 (k + 98) → gI N2 1000042 = gI M 1000042 → abW 14 (600000, 7302250) 297 1485 [some (vr (some 1000042)), some (vr (some 0)), some (vr (some 567)), some (vi i)] [] (c1, c2) (A0 L) N2 Q) : abW 14 (600000, 7302250) 297 872 [some (vr (some 1000042)), some (vr (some 0)), some (vr (some 567)), some (vi i)] [] (c1, c2) (A0 L) M Q := by
  obtain ⟨R, a, b⟩ : PR L 104 236 [vi (gI M 1000042 (i + 1)), vi (gI M 1000042 (i + 2))] k M := pr_seen h hk
  refine bw_aload rfl rfl ?_
  refine bw_aload rfl rfl ?_
  refine bw_iload rfl rfl ?_
  refine bw_push rfl ?_
  refine bw_iadd rfl ⟨by omega, by omega⟩ ?_
  refine bw_ialdS rfl rfl (by omega) (by rw [kk_s]; show _ < (L : Int); omega) ?_
  refine bw_aload rfl rfl ?_
  refine bw_iload rfl rfl ?_
  refine bw_push rfl ?_
  refine bw_iadd rfl ⟨by omega, by omega⟩ ?_
  refine bw_ialdS rfl rfl (by omega) (by rw [kk_s]; show _ < (L : Int); omega) ?_
  refine bw_callV (e := 13) (mc := 0) (ms := 0) (as := [_, _]) rfl rfl rfl rfl (Nat.le_of_ble_eq_true rfl) (Nat.le_of_ble_eq_true rfl) hc.1 hc.2 rfl a (fun v A N hv => ?_)
  obtain ⟨rfl, es, x, rfl, R2, a2, b2⟩ := b v A N hv
  show abW 14 (600000, 7302250) 297 886 [some (vr (some 1000042)), some (vr (some 0)), some (vr (some 567)), some (vi i)] [vi x] (c1, c2) (A0 L) N Q
  refine bw_aload rfl rfl ?_
  refine bw_aload rfl rfl ?_
  refine bw_iload rfl rfl ?_
  refine bw_push rfl ?_
  refine bw_iadd rfl ⟨by omega, by omega⟩ ?_
  refine bw_ialdS rfl rfl (by omega) (by rw [kk_s]; show _ < (L : Int); omega) ?_
  refine bw_aload rfl rfl ?_
  refine bw_iload rfl rfl ?_
  refine bw_push rfl ?_
  refine bw_iadd rfl ⟨by omega, by omega⟩ ?_
  refine bw_ialdS rfl rfl (by omega) (by rw [kk_s]; show _ < (L : Int); omega) ?_
  rw [es]
  refine bw_callV (e := 13) (mc := 0) (ms := 0) (as := [_, _]) rfl rfl rfl rfl (Nat.le_of_ble_eq_true rfl) (Nat.le_of_ble_eq_true rfl) hc.1 hc.2 rfl a2 (fun v2 A2 N2 h2 => ?_)
  obtain ⟨rfl, rfl, e2, r2, hI2⟩ := b2 v2 A2 N2 h2
  show abW 14 (600000, 7302250) 297 900 [some (vr (some 1000042)), some (vr (some 0)), some (vr (some 567)), some (vi i)] [vi x, vi x] (c1, c2) (A0 L) N2 Q
  refine bw_iceq rfl (fun _ => ?_) (fun c => absurd rfl c)
  exact cont r2 N2 hI2 e2
theorem arm_same (h : INV r M k) (hk : k ≤ 900000) (hs : ∀ j : Int, In32 (gI M 1000042 j)) (hi : 0 ≤ i ∧ i + 6 ≤ L ∧ L ≤ 3072) (hc : c1 ≤ 600000 ∧ c2 ≤ 7302250) (cont : ∀ (r2 : abRf) (N2 : abMem), INV r2 N2 (k + 98) → gI N2 1000042 = gI M 1000042 → abW 14 (600000, 7302250) 297 1485 [some (vr (some 1000042)), some (vr (some 0)), some (vr (some 567)), some (vi i)] [] (c1, c2) (A0 L) N2 Q) : abW 14 (600000, 7302250) 297 905 [some (vr (some 1000042)), some (vr (some 0)), some (vr (some 567)), some (vi i)] [] (c1, c2) (A0 L) M Q := by
  obtain ⟨R, a, b⟩ : PR L 105 238 [vi (gI M 1000042 (i + 1)), vi (gI M 1000042 (i + 2))] k M := pr_same h hk
  refine bw_aload rfl rfl ?_
  refine bw_aload rfl rfl ?_
  refine bw_iload rfl rfl ?_
  refine bw_push rfl ?_
  refine bw_iadd rfl ⟨by omega, by omega⟩ ?_
  refine bw_ialdS rfl rfl (by omega) (by rw [kk_s]; show _ < (L : Int); omega) ?_
  refine bw_aload rfl rfl ?_
  refine bw_iload rfl rfl ?_
  refine bw_push rfl ?_
  refine bw_iadd rfl ⟨by omega, by omega⟩ ?_
  refine bw_ialdS rfl rfl (by omega) (by rw [kk_s]; show _ < (L : Int); omega) ?_
  refine bw_callV (e := 13) (mc := 0) (ms := 0) (as := [_, _]) rfl rfl rfl rfl (Nat.le_of_ble_eq_true rfl) (Nat.le_of_ble_eq_true rfl) hc.1 hc.2 rfl a (fun v A N hv => ?_)
  obtain ⟨rfl, es, x, rfl, R2, a2, b2⟩ := b v A N hv
  show abW 14 (600000, 7302250) 297 919 [some (vr (some 1000042)), some (vr (some 0)), some (vr (some 567)), some (vi i)] [vi x] (c1, c2) (A0 L) N Q
  refine bw_aload rfl rfl ?_
  refine bw_aload rfl rfl ?_
  refine bw_iload rfl rfl ?_
  refine bw_push rfl ?_
  refine bw_iadd rfl ⟨by omega, by omega⟩ ?_
  refine bw_ialdS rfl rfl (by omega) (by rw [kk_s]; show _ < (L : Int); omega) ?_
  refine bw_aload rfl rfl ?_
  refine bw_iload rfl rfl ?_
  refine bw_push rfl ?_
  refine bw_iadd rfl ⟨by omega, by omega⟩ ?_
  refine bw_ialdS rfl rfl (by omega) (by rw [kk_s]; show _ < (L : Int); omega) ?_
  rw [es]
  refine bw_callV (e := 13) (mc := 0) (ms := 0) (as := [_, _]) rfl rfl rfl rfl (Nat.le_of_ble_eq_true rfl) (Nat.le_of_ble_eq_true rfl) hc.1 hc.2 rfl a2 (fun v2 A2 N2 h2 => ?_)
  obtain ⟨rfl, rfl, e2, r2, hI2⟩ := b2 v2 A2 N2 h2
  show abW 14 (600000, 7302250) 297 933 [some (vr (some 1000042)), some (vr (some 0)), some (vr (some 567)), some (vi i)] [vi x, vi x] (c1, c2) (A0 L) N2 Q
  refine bw_iceq rfl (fun _ => ?_) (fun c => absurd rfl c)
  exact cont r2 N2 hI2 e2
theorem arm_like (h : INV r M k) (hk : k ≤ 900000) (hs : ∀ j : Int, In32 (gI M 1000042 j)) (hi : 0 ≤ i ∧ i + 6 ≤ L ∧ L ≤ 3072) (hc : c1 ≤ 600000 ∧ c2 ≤ 7302250) (cont : ∀ (r2 : abRf) (N2 : abMem), INV r2 N2 (k + 98) → gI N2 1000042 = gI M 1000042 → abW 14 (600000, 7302250) 297 1485 [some (vr (some 1000042)), some (vr (some 0)), some (vr (some 567)), some (vi i)] [] (c1, c2) (A0 L) N2 Q) : abW 14 (600000, 7302250) 297 938 [some (vr (some 1000042)), some (vr (some 0)), some (vr (some 567)), some (vi i)] [] (c1, c2) (A0 L) M Q := by
  obtain ⟨R, a, b⟩ : PR L 106 240 [vi (gI M 1000042 (i + 1)), vi (gI M 1000042 (i + 2))] k M := pr_like h hk
  refine bw_aload rfl rfl ?_
  refine bw_aload rfl rfl ?_
  refine bw_iload rfl rfl ?_
  refine bw_push rfl ?_
  refine bw_iadd rfl ⟨by omega, by omega⟩ ?_
  refine bw_ialdS rfl rfl (by omega) (by rw [kk_s]; show _ < (L : Int); omega) ?_
  refine bw_aload rfl rfl ?_
  refine bw_iload rfl rfl ?_
  refine bw_push rfl ?_
  refine bw_iadd rfl ⟨by omega, by omega⟩ ?_
  refine bw_ialdS rfl rfl (by omega) (by rw [kk_s]; show _ < (L : Int); omega) ?_
  refine bw_callV (e := 13) (mc := 0) (ms := 0) (as := [_, _]) rfl rfl rfl rfl (Nat.le_of_ble_eq_true rfl) (Nat.le_of_ble_eq_true rfl) hc.1 hc.2 rfl a (fun v A N hv => ?_)
  obtain ⟨rfl, es, x, rfl, R2, a2, b2⟩ := b v A N hv
  show abW 14 (600000, 7302250) 297 952 [some (vr (some 1000042)), some (vr (some 0)), some (vr (some 567)), some (vi i)] [vi x] (c1, c2) (A0 L) N Q
  refine bw_aload rfl rfl ?_
  refine bw_aload rfl rfl ?_
  refine bw_iload rfl rfl ?_
  refine bw_push rfl ?_
  refine bw_iadd rfl ⟨by omega, by omega⟩ ?_
  refine bw_ialdS rfl rfl (by omega) (by rw [kk_s]; show _ < (L : Int); omega) ?_
  refine bw_aload rfl rfl ?_
  refine bw_iload rfl rfl ?_
  refine bw_push rfl ?_
  refine bw_iadd rfl ⟨by omega, by omega⟩ ?_
  refine bw_ialdS rfl rfl (by omega) (by rw [kk_s]; show _ < (L : Int); omega) ?_
  rw [es]
  refine bw_callV (e := 13) (mc := 0) (ms := 0) (as := [_, _]) rfl rfl rfl rfl (Nat.le_of_ble_eq_true rfl) (Nat.le_of_ble_eq_true rfl) hc.1 hc.2 rfl a2 (fun v2 A2 N2 h2 => ?_)
  obtain ⟨rfl, rfl, e2, r2, hI2⟩ := b2 v2 A2 N2 h2
  show abW 14 (600000, 7302250) 297 966 [some (vr (some 1000042)), some (vr (some 0)), some (vr (some 567)), some (vi i)] [vi x, vi x] (c1, c2) (A0 L) N2 Q
  refine bw_iceq rfl (fun _ => ?_) (fun c => absurd rfl c)
  exact cont r2 N2 hI2 e2
theorem arm_take (h : INV r M k) (hk : k ≤ 900000) (hs : ∀ j : Int, In32 (gI M 1000042 j)) (hi : 0 ≤ i ∧ i + 6 ≤ L ∧ L ≤ 3072) (hc : c1 ≤ 600000 ∧ c2 ≤ 7302250) (cont : ∀ (r2 : abRf) (N2 : abMem), INV r2 N2 (k + 98) → gI N2 1000042 = gI M 1000042 → abW 14 (600000, 7302250) 297 1485 [some (vr (some 1000042)), some (vr (some 0)), some (vr (some 567)), some (vi i)] [] (c1, c2) (A0 L) N2 Q) : abW 14 (600000, 7302250) 297 971 [some (vr (some 1000042)), some (vr (some 0)), some (vr (some 567)), some (vi i)] [] (c1, c2) (A0 L) M Q := by
  obtain ⟨R, a, b⟩ : PR L 107 242 [vi (gI M 1000042 (i + 1))] k M := pr_take h hk (hs _)
  refine bw_aload rfl rfl ?_
  refine bw_aload rfl rfl ?_
  refine bw_iload rfl rfl ?_
  refine bw_push rfl ?_
  refine bw_iadd rfl ⟨by omega, by omega⟩ ?_
  refine bw_ialdS rfl rfl (by omega) (by rw [kk_s]; show _ < (L : Int); omega) ?_
  refine bw_callV (e := 13) (mc := 0) (ms := 0) (as := [_]) rfl rfl rfl rfl (Nat.le_of_ble_eq_true rfl) (Nat.le_of_ble_eq_true rfl) hc.1 hc.2 rfl a (fun v A N hv => ?_)
  obtain ⟨rfl, es, x, rfl, R2, a2, b2⟩ := b v A N hv
  show abW 14 (600000, 7302250) 297 980 [some (vr (some 1000042)), some (vr (some 0)), some (vr (some 567)), some (vi i)] [vi x] (c1, c2) (A0 L) N Q
  refine bw_aload rfl rfl ?_
  refine bw_aload rfl rfl ?_
  refine bw_iload rfl rfl ?_
  refine bw_push rfl ?_
  refine bw_iadd rfl ⟨by omega, by omega⟩ ?_
  refine bw_ialdS rfl rfl (by omega) (by rw [kk_s]; show _ < (L : Int); omega) ?_
  rw [es]
  refine bw_callV (e := 13) (mc := 0) (ms := 0) (as := [_]) rfl rfl rfl rfl (Nat.le_of_ble_eq_true rfl) (Nat.le_of_ble_eq_true rfl) hc.1 hc.2 rfl a2 (fun v2 A2 N2 h2 => ?_)
  obtain ⟨rfl, rfl, e2, r2, hI2⟩ := b2 v2 A2 N2 h2
  show abW 14 (600000, 7302250) 297 989 [some (vr (some 1000042)), some (vr (some 0)), some (vr (some 567)), some (vi i)] [vi x, vi x] (c1, c2) (A0 L) N2 Q
  refine bw_iceq rfl (fun _ => ?_) (fun c => absurd rfl c)
  exact cont r2 N2 hI2 e2
theorem arm_still (h : INV r M k) (hk : k ≤ 900000) (hs : ∀ j : Int, In32 (gI M 1000042 j)) (hi : 0 ≤ i ∧ i + 6 ≤ L ∧ L ≤ 3072) (hc : c1 ≤ 600000 ∧ c2 ≤ 7302250) (cont : ∀ (r2 : abRf) (N2 : abMem), INV r2 N2 (k + 98) → gI N2 1000042 = gI M 1000042 → abW 14 (600000, 7302250) 297 1485 [some (vr (some 1000042)), some (vr (some 0)), some (vr (some 567)), some (vi i)] [] (c1, c2) (A0 L) N2 Q) : abW 14 (600000, 7302250) 297 994 [some (vr (some 1000042)), some (vr (some 0)), some (vr (some 567)), some (vi i)] [] (c1, c2) (A0 L) M Q := by
  obtain ⟨R, a, b⟩ : PR L 108 244 [vi (gI M 1000042 (i + 1))] k M := pr_still h hk
  refine bw_aload rfl rfl ?_
  refine bw_aload rfl rfl ?_
  refine bw_iload rfl rfl ?_
  refine bw_push rfl ?_
  refine bw_iadd rfl ⟨by omega, by omega⟩ ?_
  refine bw_ialdS rfl rfl (by omega) (by rw [kk_s]; show _ < (L : Int); omega) ?_
  refine bw_callV (e := 13) (mc := 0) (ms := 0) (as := [_]) rfl rfl rfl rfl (Nat.le_of_ble_eq_true rfl) (Nat.le_of_ble_eq_true rfl) hc.1 hc.2 rfl a (fun v A N hv => ?_)
  obtain ⟨rfl, es, x, rfl, R2, a2, b2⟩ := b v A N hv
  show abW 14 (600000, 7302250) 297 1003 [some (vr (some 1000042)), some (vr (some 0)), some (vr (some 567)), some (vi i)] [vi x] (c1, c2) (A0 L) N Q
  refine bw_aload rfl rfl ?_
  refine bw_aload rfl rfl ?_
  refine bw_iload rfl rfl ?_
  refine bw_push rfl ?_
  refine bw_iadd rfl ⟨by omega, by omega⟩ ?_
  refine bw_ialdS rfl rfl (by omega) (by rw [kk_s]; show _ < (L : Int); omega) ?_
  rw [es]
  refine bw_callV (e := 13) (mc := 0) (ms := 0) (as := [_]) rfl rfl rfl rfl (Nat.le_of_ble_eq_true rfl) (Nat.le_of_ble_eq_true rfl) hc.1 hc.2 rfl a2 (fun v2 A2 N2 h2 => ?_)
  obtain ⟨rfl, rfl, e2, r2, hI2⟩ := b2 v2 A2 N2 h2
  show abW 14 (600000, 7302250) 297 1012 [some (vr (some 1000042)), some (vr (some 0)), some (vr (some 567)), some (vi i)] [vi x, vi x] (c1, c2) (A0 L) N2 Q
  refine bw_iceq rfl (fun _ => ?_) (fun c => absurd rfl c)
  exact cont r2 N2 hI2 e2
theorem arm_changes (h : INV r M k) (hk : k ≤ 900000) (hs : ∀ j : Int, In32 (gI M 1000042 j)) (hi : 0 ≤ i ∧ i + 6 ≤ L ∧ L ≤ 3072) (hc : c1 ≤ 600000 ∧ c2 ≤ 7302250) (cont : ∀ (r2 : abRf) (N2 : abMem), INV r2 N2 (k + 98) → gI N2 1000042 = gI M 1000042 → abW 14 (600000, 7302250) 297 1485 [some (vr (some 1000042)), some (vr (some 0)), some (vr (some 567)), some (vi i)] [] (c1, c2) (A0 L) N2 Q) : abW 14 (600000, 7302250) 297 1017 [some (vr (some 1000042)), some (vr (some 0)), some (vr (some 567)), some (vi i)] [] (c1, c2) (A0 L) M Q := by
  obtain ⟨R, a, b⟩ : PR L 109 245 [vi (gI M 1000042 (i + 1))] k M := pr_changes h
  refine bw_aload rfl rfl ?_
  refine bw_aload rfl rfl ?_
  refine bw_iload rfl rfl ?_
  refine bw_push rfl ?_
  refine bw_iadd rfl ⟨by omega, by omega⟩ ?_
  refine bw_ialdS rfl rfl (by omega) (by rw [kk_s]; show _ < (L : Int); omega) ?_
  refine bw_callV (e := 13) (mc := 0) (ms := 0) (as := [_]) rfl rfl rfl rfl (Nat.le_of_ble_eq_true rfl) (Nat.le_of_ble_eq_true rfl) hc.1 hc.2 rfl a (fun v A N hv => ?_)
  obtain ⟨rfl, es, x, rfl, R2, a2, b2⟩ := b v A N hv
  show abW 14 (600000, 7302250) 297 1026 [some (vr (some 1000042)), some (vr (some 0)), some (vr (some 567)), some (vi i)] [vi x] (c1, c2) (A0 L) N Q
  refine bw_aload rfl rfl ?_
  refine bw_aload rfl rfl ?_
  refine bw_iload rfl rfl ?_
  refine bw_push rfl ?_
  refine bw_iadd rfl ⟨by omega, by omega⟩ ?_
  refine bw_ialdS rfl rfl (by omega) (by rw [kk_s]; show _ < (L : Int); omega) ?_
  rw [es]
  refine bw_callV (e := 13) (mc := 0) (ms := 0) (as := [_]) rfl rfl rfl rfl (Nat.le_of_ble_eq_true rfl) (Nat.le_of_ble_eq_true rfl) hc.1 hc.2 rfl a2 (fun v2 A2 N2 h2 => ?_)
  obtain ⟨rfl, rfl, e2, r2, hI2⟩ := b2 v2 A2 N2 h2
  show abW 14 (600000, 7302250) 297 1035 [some (vr (some 1000042)), some (vr (some 0)), some (vr (some 567)), some (vi i)] [vi x, vi x] (c1, c2) (A0 L) N2 Q
  refine bw_iceq rfl (fun _ => ?_) (fun c => absurd rfl c)
  exact cont r2 N2 hI2 e2
theorem arm_saved (h : INV r M k) (hk : k ≤ 900000) (hs : ∀ j : Int, In32 (gI M 1000042 j)) (hi : 0 ≤ i ∧ i + 6 ≤ L ∧ L ≤ 3072) (hc : c1 ≤ 600000 ∧ c2 ≤ 7302250) (cont : ∀ (r2 : abRf) (N2 : abMem), INV r2 N2 (k + 98) → gI N2 1000042 = gI M 1000042 → abW 14 (600000, 7302250) 297 1485 [some (vr (some 1000042)), some (vr (some 0)), some (vr (some 567)), some (vi i)] [] (c1, c2) (A0 L) N2 Q) : abW 14 (600000, 7302250) 297 1040 [some (vr (some 1000042)), some (vr (some 0)), some (vr (some 567)), some (vi i)] [] (c1, c2) (A0 L) M Q := by
  obtain ⟨R, a, b⟩ : PR L 110 249 [vi (gI M 1000042 (i + 1))] k M := pr_saved h hk
  refine bw_aload rfl rfl ?_
  refine bw_aload rfl rfl ?_
  refine bw_iload rfl rfl ?_
  refine bw_push rfl ?_
  refine bw_iadd rfl ⟨by omega, by omega⟩ ?_
  refine bw_ialdS rfl rfl (by omega) (by rw [kk_s]; show _ < (L : Int); omega) ?_
  refine bw_callV (e := 13) (mc := 0) (ms := 0) (as := [_]) rfl rfl rfl rfl (Nat.le_of_ble_eq_true rfl) (Nat.le_of_ble_eq_true rfl) hc.1 hc.2 rfl a (fun v A N hv => ?_)
  obtain ⟨rfl, es, x, rfl, R2, a2, b2⟩ := b v A N hv
  show abW 14 (600000, 7302250) 297 1049 [some (vr (some 1000042)), some (vr (some 0)), some (vr (some 567)), some (vi i)] [vi x] (c1, c2) (A0 L) N Q
  refine bw_aload rfl rfl ?_
  refine bw_aload rfl rfl ?_
  refine bw_iload rfl rfl ?_
  refine bw_push rfl ?_
  refine bw_iadd rfl ⟨by omega, by omega⟩ ?_
  refine bw_ialdS rfl rfl (by omega) (by rw [kk_s]; show _ < (L : Int); omega) ?_
  rw [es]
  refine bw_callV (e := 13) (mc := 0) (ms := 0) (as := [_]) rfl rfl rfl rfl (Nat.le_of_ble_eq_true rfl) (Nat.le_of_ble_eq_true rfl) hc.1 hc.2 rfl a2 (fun v2 A2 N2 h2 => ?_)
  obtain ⟨rfl, rfl, e2, r2, hI2⟩ := b2 v2 A2 N2 h2
  show abW 14 (600000, 7302250) 297 1058 [some (vr (some 1000042)), some (vr (some 0)), some (vr (some 567)), some (vi i)] [vi x, vi x] (c1, c2) (A0 L) N2 Q
  refine bw_iceq rfl (fun _ => ?_) (fun c => absurd rfl c)
  exact cont r2 N2 hI2 e2
theorem arm_turned (h : INV r M k) (hk : k ≤ 900000) (hs : ∀ j : Int, In32 (gI M 1000042 j)) (hi : 0 ≤ i ∧ i + 6 ≤ L ∧ L ≤ 3072) (hc : c1 ≤ 600000 ∧ c2 ≤ 7302250) (cont : ∀ (r2 : abRf) (N2 : abMem), INV r2 N2 (k + 98) → gI N2 1000042 = gI M 1000042 → abW 14 (600000, 7302250) 297 1485 [some (vr (some 1000042)), some (vr (some 0)), some (vr (some 567)), some (vi i)] [] (c1, c2) (A0 L) N2 Q) : abW 14 (600000, 7302250) 297 1063 [some (vr (some 1000042)), some (vr (some 0)), some (vr (some 567)), some (vi i)] [] (c1, c2) (A0 L) M Q := by
  obtain ⟨R, a, b⟩ : PR L 111 252 [vi (gI M 1000042 (i + 1)), vi (gI M 1000042 (i + 2))] k M := pr_turned h hk
  refine bw_aload rfl rfl ?_
  refine bw_aload rfl rfl ?_
  refine bw_iload rfl rfl ?_
  refine bw_push rfl ?_
  refine bw_iadd rfl ⟨by omega, by omega⟩ ?_
  refine bw_ialdS rfl rfl (by omega) (by rw [kk_s]; show _ < (L : Int); omega) ?_
  refine bw_aload rfl rfl ?_
  refine bw_iload rfl rfl ?_
  refine bw_push rfl ?_
  refine bw_iadd rfl ⟨by omega, by omega⟩ ?_
  refine bw_ialdS rfl rfl (by omega) (by rw [kk_s]; show _ < (L : Int); omega) ?_
  refine bw_callV (e := 13) (mc := 0) (ms := 0) (as := [_, _]) rfl rfl rfl rfl (Nat.le_of_ble_eq_true rfl) (Nat.le_of_ble_eq_true rfl) hc.1 hc.2 rfl a (fun v A N hv => ?_)
  obtain ⟨rfl, es, x, rfl, R2, a2, b2⟩ := b v A N hv
  show abW 14 (600000, 7302250) 297 1077 [some (vr (some 1000042)), some (vr (some 0)), some (vr (some 567)), some (vi i)] [vi x] (c1, c2) (A0 L) N Q
  refine bw_aload rfl rfl ?_
  refine bw_aload rfl rfl ?_
  refine bw_iload rfl rfl ?_
  refine bw_push rfl ?_
  refine bw_iadd rfl ⟨by omega, by omega⟩ ?_
  refine bw_ialdS rfl rfl (by omega) (by rw [kk_s]; show _ < (L : Int); omega) ?_
  refine bw_aload rfl rfl ?_
  refine bw_iload rfl rfl ?_
  refine bw_push rfl ?_
  refine bw_iadd rfl ⟨by omega, by omega⟩ ?_
  refine bw_ialdS rfl rfl (by omega) (by rw [kk_s]; show _ < (L : Int); omega) ?_
  rw [es]
  refine bw_callV (e := 13) (mc := 0) (ms := 0) (as := [_, _]) rfl rfl rfl rfl (Nat.le_of_ble_eq_true rfl) (Nat.le_of_ble_eq_true rfl) hc.1 hc.2 rfl a2 (fun v2 A2 N2 h2 => ?_)
  obtain ⟨rfl, rfl, e2, r2, hI2⟩ := b2 v2 A2 N2 h2
  show abW 14 (600000, 7302250) 297 1091 [some (vr (some 1000042)), some (vr (some 0)), some (vr (some 567)), some (vi i)] [vi x, vi x] (c1, c2) (A0 L) N2 Q
  refine bw_iceq rfl (fun _ => ?_) (fun c => absurd rfl c)
  exact cont r2 N2 hI2 e2
theorem arm_best (h : INV r M k) (hk : k ≤ 900000) (hs : ∀ j : Int, In32 (gI M 1000042 j)) (hi : 0 ≤ i ∧ i + 6 ≤ L ∧ L ≤ 3072) (hc : c1 ≤ 600000 ∧ c2 ≤ 7302250) (cont : ∀ (r2 : abRf) (N2 : abMem), INV r2 N2 (k + 98) → gI N2 1000042 = gI M 1000042 → abW 14 (600000, 7302250) 297 1485 [some (vr (some 1000042)), some (vr (some 0)), some (vr (some 567)), some (vi i)] [] (c1, c2) (A0 L) N2 Q) : abW 14 (600000, 7302250) 297 1096 [some (vr (some 1000042)), some (vr (some 0)), some (vr (some 567)), some (vi i)] [] (c1, c2) (A0 L) M Q := by
  obtain ⟨R, a, b⟩ : PR L 112 254 [vi (gI M 1000042 (i + 1)), vi (gI M 1000042 (i + 2))] k M := pr_best h hk
  refine bw_aload rfl rfl ?_
  refine bw_aload rfl rfl ?_
  refine bw_iload rfl rfl ?_
  refine bw_push rfl ?_
  refine bw_iadd rfl ⟨by omega, by omega⟩ ?_
  refine bw_ialdS rfl rfl (by omega) (by rw [kk_s]; show _ < (L : Int); omega) ?_
  refine bw_aload rfl rfl ?_
  refine bw_iload rfl rfl ?_
  refine bw_push rfl ?_
  refine bw_iadd rfl ⟨by omega, by omega⟩ ?_
  refine bw_ialdS rfl rfl (by omega) (by rw [kk_s]; show _ < (L : Int); omega) ?_
  refine bw_callV (e := 13) (mc := 0) (ms := 0) (as := [_, _]) rfl rfl rfl rfl (Nat.le_of_ble_eq_true rfl) (Nat.le_of_ble_eq_true rfl) hc.1 hc.2 rfl a (fun v A N hv => ?_)
  obtain ⟨rfl, es, x, rfl, R2, a2, b2⟩ := b v A N hv
  show abW 14 (600000, 7302250) 297 1110 [some (vr (some 1000042)), some (vr (some 0)), some (vr (some 567)), some (vi i)] [vi x] (c1, c2) (A0 L) N Q
  refine bw_aload rfl rfl ?_
  refine bw_aload rfl rfl ?_
  refine bw_iload rfl rfl ?_
  refine bw_push rfl ?_
  refine bw_iadd rfl ⟨by omega, by omega⟩ ?_
  refine bw_ialdS rfl rfl (by omega) (by rw [kk_s]; show _ < (L : Int); omega) ?_
  refine bw_aload rfl rfl ?_
  refine bw_iload rfl rfl ?_
  refine bw_push rfl ?_
  refine bw_iadd rfl ⟨by omega, by omega⟩ ?_
  refine bw_ialdS rfl rfl (by omega) (by rw [kk_s]; show _ < (L : Int); omega) ?_
  rw [es]
  refine bw_callV (e := 13) (mc := 0) (ms := 0) (as := [_, _]) rfl rfl rfl rfl (Nat.le_of_ble_eq_true rfl) (Nat.le_of_ble_eq_true rfl) hc.1 hc.2 rfl a2 (fun v2 A2 N2 h2 => ?_)
  obtain ⟨rfl, rfl, e2, r2, hI2⟩ := b2 v2 A2 N2 h2
  show abW 14 (600000, 7302250) 297 1124 [some (vr (some 1000042)), some (vr (some 0)), some (vr (some 567)), some (vi i)] [vi x, vi x] (c1, c2) (A0 L) N2 Q
  refine bw_iceq rfl (fun _ => ?_) (fun c => absurd rfl c)
  exact cont r2 N2 hI2 e2
theorem arm_without (h : INV r M k) (hk : k ≤ 900000) (hs : ∀ j : Int, In32 (gI M 1000042 j)) (hi : 0 ≤ i ∧ i + 6 ≤ L ∧ L ≤ 3072) (hc : c1 ≤ 600000 ∧ c2 ≤ 7302250) (cont : ∀ (r2 : abRf) (N2 : abMem), INV r2 N2 (k + 98) → gI N2 1000042 = gI M 1000042 → abW 14 (600000, 7302250) 297 1485 [some (vr (some 1000042)), some (vr (some 0)), some (vr (some 567)), some (vi i)] [] (c1, c2) (A0 L) N2 Q) : abW 14 (600000, 7302250) 297 1129 [some (vr (some 1000042)), some (vr (some 0)), some (vr (some 567)), some (vi i)] [] (c1, c2) (A0 L) M Q := by
  obtain ⟨R, a, b⟩ : PR L 113 255 [vi (gI M 1000042 (i + 1))] k M := pr_without h hk
  refine bw_aload rfl rfl ?_
  refine bw_aload rfl rfl ?_
  refine bw_iload rfl rfl ?_
  refine bw_push rfl ?_
  refine bw_iadd rfl ⟨by omega, by omega⟩ ?_
  refine bw_ialdS rfl rfl (by omega) (by rw [kk_s]; show _ < (L : Int); omega) ?_
  refine bw_callV (e := 13) (mc := 0) (ms := 0) (as := [_]) rfl rfl rfl rfl (Nat.le_of_ble_eq_true rfl) (Nat.le_of_ble_eq_true rfl) hc.1 hc.2 rfl a (fun v A N hv => ?_)
  obtain ⟨rfl, es, x, rfl, R2, a2, b2⟩ := b v A N hv
  show abW 14 (600000, 7302250) 297 1138 [some (vr (some 1000042)), some (vr (some 0)), some (vr (some 567)), some (vi i)] [vi x] (c1, c2) (A0 L) N Q
  refine bw_aload rfl rfl ?_
  refine bw_aload rfl rfl ?_
  refine bw_iload rfl rfl ?_
  refine bw_push rfl ?_
  refine bw_iadd rfl ⟨by omega, by omega⟩ ?_
  refine bw_ialdS rfl rfl (by omega) (by rw [kk_s]; show _ < (L : Int); omega) ?_
  rw [es]
  refine bw_callV (e := 13) (mc := 0) (ms := 0) (as := [_]) rfl rfl rfl rfl (Nat.le_of_ble_eq_true rfl) (Nat.le_of_ble_eq_true rfl) hc.1 hc.2 rfl a2 (fun v2 A2 N2 h2 => ?_)
  obtain ⟨rfl, rfl, e2, r2, hI2⟩ := b2 v2 A2 N2 h2
  show abW 14 (600000, 7302250) 297 1147 [some (vr (some 1000042)), some (vr (some 0)), some (vr (some 567)), some (vi i)] [vi x, vi x] (c1, c2) (A0 L) N2 Q
  refine bw_iceq rfl (fun _ => ?_) (fun c => absurd rfl c)
  exact cont r2 N2 hI2 e2
theorem arm_doubled (h : INV r M k) (hk : k ≤ 900000) (hs : ∀ j : Int, In32 (gI M 1000042 j)) (hi : 0 ≤ i ∧ i + 6 ≤ L ∧ L ≤ 3072) (hc : c1 ≤ 600000 ∧ c2 ≤ 7302250) (cont : ∀ (r2 : abRf) (N2 : abMem), INV r2 N2 (k + 98) → gI N2 1000042 = gI M 1000042 → abW 14 (600000, 7302250) 297 1485 [some (vr (some 1000042)), some (vr (some 0)), some (vr (some 567)), some (vi i)] [] (c1, c2) (A0 L) N2 Q) : abW 14 (600000, 7302250) 297 1152 [some (vr (some 1000042)), some (vr (some 0)), some (vr (some 567)), some (vi i)] [] (c1, c2) (A0 L) M Q := by
  obtain ⟨R, a, b⟩ : PR L 114 258 [vi (gI M 1000042 (i + 1)), vi (gI M 1000042 (i + 2))] k M := pr_doubled h hk
  refine bw_aload rfl rfl ?_
  refine bw_aload rfl rfl ?_
  refine bw_iload rfl rfl ?_
  refine bw_push rfl ?_
  refine bw_iadd rfl ⟨by omega, by omega⟩ ?_
  refine bw_ialdS rfl rfl (by omega) (by rw [kk_s]; show _ < (L : Int); omega) ?_
  refine bw_aload rfl rfl ?_
  refine bw_iload rfl rfl ?_
  refine bw_push rfl ?_
  refine bw_iadd rfl ⟨by omega, by omega⟩ ?_
  refine bw_ialdS rfl rfl (by omega) (by rw [kk_s]; show _ < (L : Int); omega) ?_
  refine bw_callV (e := 13) (mc := 0) (ms := 0) (as := [_, _]) rfl rfl rfl rfl (Nat.le_of_ble_eq_true rfl) (Nat.le_of_ble_eq_true rfl) hc.1 hc.2 rfl a (fun v A N hv => ?_)
  obtain ⟨rfl, es, x, rfl, R2, a2, b2⟩ := b v A N hv
  show abW 14 (600000, 7302250) 297 1166 [some (vr (some 1000042)), some (vr (some 0)), some (vr (some 567)), some (vi i)] [vi x] (c1, c2) (A0 L) N Q
  refine bw_aload rfl rfl ?_
  refine bw_aload rfl rfl ?_
  refine bw_iload rfl rfl ?_
  refine bw_push rfl ?_
  refine bw_iadd rfl ⟨by omega, by omega⟩ ?_
  refine bw_ialdS rfl rfl (by omega) (by rw [kk_s]; show _ < (L : Int); omega) ?_
  refine bw_aload rfl rfl ?_
  refine bw_iload rfl rfl ?_
  refine bw_push rfl ?_
  refine bw_iadd rfl ⟨by omega, by omega⟩ ?_
  refine bw_ialdS rfl rfl (by omega) (by rw [kk_s]; show _ < (L : Int); omega) ?_
  rw [es]
  refine bw_callV (e := 13) (mc := 0) (ms := 0) (as := [_, _]) rfl rfl rfl rfl (Nat.le_of_ble_eq_true rfl) (Nat.le_of_ble_eq_true rfl) hc.1 hc.2 rfl a2 (fun v2 A2 N2 h2 => ?_)
  obtain ⟨rfl, rfl, e2, r2, hI2⟩ := b2 v2 A2 N2 h2
  show abW 14 (600000, 7302250) 297 1180 [some (vr (some 1000042)), some (vr (some 0)), some (vr (some 567)), some (vi i)] [vi x, vi x] (c1, c2) (A0 L) N2 Q
  refine bw_iceq rfl (fun _ => ?_) (fun c => absurd rfl c)
  exact cont r2 N2 hI2 e2
theorem arm_expose (h : INV r M k) (hk : k ≤ 900000) (hs : ∀ j : Int, In32 (gI M 1000042 j)) (hi : 0 ≤ i ∧ i + 6 ≤ L ∧ L ≤ 3072) (hc : c1 ≤ 600000 ∧ c2 ≤ 7302250) (cont : ∀ (r2 : abRf) (N2 : abMem), INV r2 N2 (k + 98) → gI N2 1000042 = gI M 1000042 → abW 14 (600000, 7302250) 297 1485 [some (vr (some 1000042)), some (vr (some 0)), some (vr (some 567)), some (vi i)] [] (c1, c2) (A0 L) N2 Q) : abW 14 (600000, 7302250) 297 1185 [some (vr (some 1000042)), some (vr (some 0)), some (vr (some 567)), some (vi i)] [] (c1, c2) (A0 L) M Q := by
  obtain ⟨R, a, b⟩ : PR L 115 260 [vi (gI M 1000042 (i + 1)), vi (gI M 1000042 (i + 2)), vi (gI M 1000042 (i + 3)), vi (gI M 1000042 (i + 4))] k M := pr_expose h
  refine bw_aload rfl rfl ?_
  refine bw_aload rfl rfl ?_
  refine bw_iload rfl rfl ?_
  refine bw_push rfl ?_
  refine bw_iadd rfl ⟨by omega, by omega⟩ ?_
  refine bw_ialdS rfl rfl (by omega) (by rw [kk_s]; show _ < (L : Int); omega) ?_
  refine bw_aload rfl rfl ?_
  refine bw_iload rfl rfl ?_
  refine bw_push rfl ?_
  refine bw_iadd rfl ⟨by omega, by omega⟩ ?_
  refine bw_ialdS rfl rfl (by omega) (by rw [kk_s]; show _ < (L : Int); omega) ?_
  refine bw_aload rfl rfl ?_
  refine bw_iload rfl rfl ?_
  refine bw_push rfl ?_
  refine bw_iadd rfl ⟨by omega, by omega⟩ ?_
  refine bw_ialdS rfl rfl (by omega) (by rw [kk_s]; show _ < (L : Int); omega) ?_
  refine bw_aload rfl rfl ?_
  refine bw_iload rfl rfl ?_
  refine bw_push rfl ?_
  refine bw_iadd rfl ⟨by omega, by omega⟩ ?_
  refine bw_ialdS rfl rfl (by omega) (by rw [kk_s]; show _ < (L : Int); omega) ?_
  refine bw_callV (e := 13) (mc := 0) (ms := 0) (as := [_, _, _, _]) rfl rfl rfl rfl (Nat.le_of_ble_eq_true rfl) (Nat.le_of_ble_eq_true rfl) hc.1 hc.2 rfl a (fun v A N hv => ?_)
  obtain ⟨rfl, es, x, rfl, R2, a2, b2⟩ := b v A N hv
  show abW 14 (600000, 7302250) 297 1209 [some (vr (some 1000042)), some (vr (some 0)), some (vr (some 567)), some (vi i)] [vi x] (c1, c2) (A0 L) N Q
  refine bw_aload rfl rfl ?_
  refine bw_aload rfl rfl ?_
  refine bw_iload rfl rfl ?_
  refine bw_push rfl ?_
  refine bw_iadd rfl ⟨by omega, by omega⟩ ?_
  refine bw_ialdS rfl rfl (by omega) (by rw [kk_s]; show _ < (L : Int); omega) ?_
  refine bw_aload rfl rfl ?_
  refine bw_iload rfl rfl ?_
  refine bw_push rfl ?_
  refine bw_iadd rfl ⟨by omega, by omega⟩ ?_
  refine bw_ialdS rfl rfl (by omega) (by rw [kk_s]; show _ < (L : Int); omega) ?_
  refine bw_aload rfl rfl ?_
  refine bw_iload rfl rfl ?_
  refine bw_push rfl ?_
  refine bw_iadd rfl ⟨by omega, by omega⟩ ?_
  refine bw_ialdS rfl rfl (by omega) (by rw [kk_s]; show _ < (L : Int); omega) ?_
  refine bw_aload rfl rfl ?_
  refine bw_iload rfl rfl ?_
  refine bw_push rfl ?_
  refine bw_iadd rfl ⟨by omega, by omega⟩ ?_
  refine bw_ialdS rfl rfl (by omega) (by rw [kk_s]; show _ < (L : Int); omega) ?_
  rw [es]
  refine bw_callV (e := 13) (mc := 0) (ms := 0) (as := [_, _, _, _]) rfl rfl rfl rfl (Nat.le_of_ble_eq_true rfl) (Nat.le_of_ble_eq_true rfl) hc.1 hc.2 rfl a2 (fun v2 A2 N2 h2 => ?_)
  obtain ⟨rfl, rfl, e2, r2, hI2⟩ := b2 v2 A2 N2 h2
  show abW 14 (600000, 7302250) 297 1233 [some (vr (some 1000042)), some (vr (some 0)), some (vr (some 567)), some (vi i)] [vi x, vi x] (c1, c2) (A0 L) N2 Q
  refine bw_iceq rfl (fun _ => ?_) (fun c => absurd rfl c)
  exact cont r2 N2 hI2 e2
theorem arm_push (h : INV r M k) (hk : k ≤ 900000) (hs : ∀ j : Int, In32 (gI M 1000042 j)) (hi : 0 ≤ i ∧ i + 6 ≤ L ∧ L ≤ 3072) (hc : c1 ≤ 600000 ∧ c2 ≤ 7302250) (cont : ∀ (r2 : abRf) (N2 : abMem), INV r2 N2 (k + 98) → gI N2 1000042 = gI M 1000042 → abW 14 (600000, 7302250) 297 1485 [some (vr (some 1000042)), some (vr (some 0)), some (vr (some 567)), some (vi i)] [] (c1, c2) (A0 L) N2 Q) : abW 14 (600000, 7302250) 297 1238 [some (vr (some 1000042)), some (vr (some 0)), some (vr (some 567)), some (vi i)] [] (c1, c2) (A0 L) M Q := by
  obtain ⟨R, a, b⟩ : PR L 116 262 [vi (gI M 1000042 (i + 1)), vi (gI M 1000042 (i + 2)), vi (gI M 1000042 (i + 3))] k M := pr_push h
  refine bw_aload rfl rfl ?_
  refine bw_aload rfl rfl ?_
  refine bw_iload rfl rfl ?_
  refine bw_push rfl ?_
  refine bw_iadd rfl ⟨by omega, by omega⟩ ?_
  refine bw_ialdS rfl rfl (by omega) (by rw [kk_s]; show _ < (L : Int); omega) ?_
  refine bw_aload rfl rfl ?_
  refine bw_iload rfl rfl ?_
  refine bw_push rfl ?_
  refine bw_iadd rfl ⟨by omega, by omega⟩ ?_
  refine bw_ialdS rfl rfl (by omega) (by rw [kk_s]; show _ < (L : Int); omega) ?_
  refine bw_aload rfl rfl ?_
  refine bw_iload rfl rfl ?_
  refine bw_push rfl ?_
  refine bw_iadd rfl ⟨by omega, by omega⟩ ?_
  refine bw_ialdS rfl rfl (by omega) (by rw [kk_s]; show _ < (L : Int); omega) ?_
  refine bw_callV (e := 13) (mc := 0) (ms := 0) (as := [_, _, _]) rfl rfl rfl rfl (Nat.le_of_ble_eq_true rfl) (Nat.le_of_ble_eq_true rfl) hc.1 hc.2 rfl a (fun v A N hv => ?_)
  obtain ⟨rfl, es, x, rfl, R2, a2, b2⟩ := b v A N hv
  show abW 14 (600000, 7302250) 297 1257 [some (vr (some 1000042)), some (vr (some 0)), some (vr (some 567)), some (vi i)] [vi x] (c1, c2) (A0 L) N Q
  refine bw_aload rfl rfl ?_
  refine bw_aload rfl rfl ?_
  refine bw_iload rfl rfl ?_
  refine bw_push rfl ?_
  refine bw_iadd rfl ⟨by omega, by omega⟩ ?_
  refine bw_ialdS rfl rfl (by omega) (by rw [kk_s]; show _ < (L : Int); omega) ?_
  refine bw_aload rfl rfl ?_
  refine bw_iload rfl rfl ?_
  refine bw_push rfl ?_
  refine bw_iadd rfl ⟨by omega, by omega⟩ ?_
  refine bw_ialdS rfl rfl (by omega) (by rw [kk_s]; show _ < (L : Int); omega) ?_
  refine bw_aload rfl rfl ?_
  refine bw_iload rfl rfl ?_
  refine bw_push rfl ?_
  refine bw_iadd rfl ⟨by omega, by omega⟩ ?_
  refine bw_ialdS rfl rfl (by omega) (by rw [kk_s]; show _ < (L : Int); omega) ?_
  rw [es]
  refine bw_callV (e := 13) (mc := 0) (ms := 0) (as := [_, _, _]) rfl rfl rfl rfl (Nat.le_of_ble_eq_true rfl) (Nat.le_of_ble_eq_true rfl) hc.1 hc.2 rfl a2 (fun v2 A2 N2 h2 => ?_)
  obtain ⟨rfl, rfl, e2, r2, hI2⟩ := b2 v2 A2 N2 h2
  show abW 14 (600000, 7302250) 297 1276 [some (vr (some 1000042)), some (vr (some 0)), some (vr (some 567)), some (vi i)] [vi x, vi x] (c1, c2) (A0 L) N2 Q
  refine bw_iceq rfl (fun _ => ?_) (fun c => absurd rfl c)
  exact cont r2 N2 hI2 e2
theorem arm_pull (h : INV r M k) (hk : k ≤ 900000) (hs : ∀ j : Int, In32 (gI M 1000042 j)) (hi : 0 ≤ i ∧ i + 6 ≤ L ∧ L ≤ 3072) (hc : c1 ≤ 600000 ∧ c2 ≤ 7302250) (cont : ∀ (r2 : abRf) (N2 : abMem), INV r2 N2 (k + 98) → gI N2 1000042 = gI M 1000042 → abW 14 (600000, 7302250) 297 1485 [some (vr (some 1000042)), some (vr (some 0)), some (vr (some 567)), some (vi i)] [] (c1, c2) (A0 L) N2 Q) : abW 14 (600000, 7302250) 297 1281 [some (vr (some 1000042)), some (vr (some 0)), some (vr (some 567)), some (vi i)] [] (c1, c2) (A0 L) M Q := by
  obtain ⟨R, a, b⟩ : PR L 117 263 [vi (gI M 1000042 (i + 1)), vi (gI M 1000042 (i + 2)), vi (gI M 1000042 (i + 3))] k M := pr_pull h (hs _)
  refine bw_aload rfl rfl ?_
  refine bw_aload rfl rfl ?_
  refine bw_iload rfl rfl ?_
  refine bw_push rfl ?_
  refine bw_iadd rfl ⟨by omega, by omega⟩ ?_
  refine bw_ialdS rfl rfl (by omega) (by rw [kk_s]; show _ < (L : Int); omega) ?_
  refine bw_aload rfl rfl ?_
  refine bw_iload rfl rfl ?_
  refine bw_push rfl ?_
  refine bw_iadd rfl ⟨by omega, by omega⟩ ?_
  refine bw_ialdS rfl rfl (by omega) (by rw [kk_s]; show _ < (L : Int); omega) ?_
  refine bw_aload rfl rfl ?_
  refine bw_iload rfl rfl ?_
  refine bw_push rfl ?_
  refine bw_iadd rfl ⟨by omega, by omega⟩ ?_
  refine bw_ialdS rfl rfl (by omega) (by rw [kk_s]; show _ < (L : Int); omega) ?_
  refine bw_callV (e := 13) (mc := 0) (ms := 0) (as := [_, _, _]) rfl rfl rfl rfl (Nat.le_of_ble_eq_true rfl) (Nat.le_of_ble_eq_true rfl) hc.1 hc.2 rfl a (fun v A N hv => ?_)
  obtain ⟨rfl, es, x, rfl, R2, a2, b2⟩ := b v A N hv
  show abW 14 (600000, 7302250) 297 1300 [some (vr (some 1000042)), some (vr (some 0)), some (vr (some 567)), some (vi i)] [vi x] (c1, c2) (A0 L) N Q
  refine bw_aload rfl rfl ?_
  refine bw_aload rfl rfl ?_
  refine bw_iload rfl rfl ?_
  refine bw_push rfl ?_
  refine bw_iadd rfl ⟨by omega, by omega⟩ ?_
  refine bw_ialdS rfl rfl (by omega) (by rw [kk_s]; show _ < (L : Int); omega) ?_
  refine bw_aload rfl rfl ?_
  refine bw_iload rfl rfl ?_
  refine bw_push rfl ?_
  refine bw_iadd rfl ⟨by omega, by omega⟩ ?_
  refine bw_ialdS rfl rfl (by omega) (by rw [kk_s]; show _ < (L : Int); omega) ?_
  refine bw_aload rfl rfl ?_
  refine bw_iload rfl rfl ?_
  refine bw_push rfl ?_
  refine bw_iadd rfl ⟨by omega, by omega⟩ ?_
  refine bw_ialdS rfl rfl (by omega) (by rw [kk_s]; show _ < (L : Int); omega) ?_
  rw [es]
  refine bw_callV (e := 13) (mc := 0) (ms := 0) (as := [_, _, _]) rfl rfl rfl rfl (Nat.le_of_ble_eq_true rfl) (Nat.le_of_ble_eq_true rfl) hc.1 hc.2 rfl a2 (fun v2 A2 N2 h2 => ?_)
  obtain ⟨rfl, rfl, e2, r2, hI2⟩ := b2 v2 A2 N2 h2
  show abW 14 (600000, 7302250) 297 1319 [some (vr (some 1000042)), some (vr (some 0)), some (vr (some 567)), some (vi i)] [vi x, vi x] (c1, c2) (A0 L) N2 Q
  refine bw_iceq rfl (fun _ => ?_) (fun c => absurd rfl c)
  exact cont r2 N2 hI2 e2
theorem arm_turn (h : INV r M k) (hk : k ≤ 900000) (hs : ∀ j : Int, In32 (gI M 1000042 j)) (hi : 0 ≤ i ∧ i + 6 ≤ L ∧ L ≤ 3072) (hc : c1 ≤ 600000 ∧ c2 ≤ 7302250) (cont : ∀ (r2 : abRf) (N2 : abMem), INV r2 N2 (k + 98) → gI N2 1000042 = gI M 1000042 → abW 14 (600000, 7302250) 297 1485 [some (vr (some 1000042)), some (vr (some 0)), some (vr (some 567)), some (vi i)] [] (c1, c2) (A0 L) N2 Q) : abW 14 (600000, 7302250) 297 1324 [some (vr (some 1000042)), some (vr (some 0)), some (vr (some 567)), some (vi i)] [] (c1, c2) (A0 L) M Q := by
  obtain ⟨R, a, b⟩ : PR L 118 264 [vi (gI M 1000042 (i + 1)), vi (gI M 1000042 (i + 2))] k M := pr_turn h
  refine bw_aload rfl rfl ?_
  refine bw_aload rfl rfl ?_
  refine bw_iload rfl rfl ?_
  refine bw_push rfl ?_
  refine bw_iadd rfl ⟨by omega, by omega⟩ ?_
  refine bw_ialdS rfl rfl (by omega) (by rw [kk_s]; show _ < (L : Int); omega) ?_
  refine bw_aload rfl rfl ?_
  refine bw_iload rfl rfl ?_
  refine bw_push rfl ?_
  refine bw_iadd rfl ⟨by omega, by omega⟩ ?_
  refine bw_ialdS rfl rfl (by omega) (by rw [kk_s]; show _ < (L : Int); omega) ?_
  refine bw_callV (e := 13) (mc := 0) (ms := 0) (as := [_, _]) rfl rfl rfl rfl (Nat.le_of_ble_eq_true rfl) (Nat.le_of_ble_eq_true rfl) hc.1 hc.2 rfl a (fun v A N hv => ?_)
  obtain ⟨rfl, es, x, rfl, R2, a2, b2⟩ := b v A N hv
  show abW 14 (600000, 7302250) 297 1338 [some (vr (some 1000042)), some (vr (some 0)), some (vr (some 567)), some (vi i)] [vi x] (c1, c2) (A0 L) N Q
  refine bw_aload rfl rfl ?_
  refine bw_aload rfl rfl ?_
  refine bw_iload rfl rfl ?_
  refine bw_push rfl ?_
  refine bw_iadd rfl ⟨by omega, by omega⟩ ?_
  refine bw_ialdS rfl rfl (by omega) (by rw [kk_s]; show _ < (L : Int); omega) ?_
  refine bw_aload rfl rfl ?_
  refine bw_iload rfl rfl ?_
  refine bw_push rfl ?_
  refine bw_iadd rfl ⟨by omega, by omega⟩ ?_
  refine bw_ialdS rfl rfl (by omega) (by rw [kk_s]; show _ < (L : Int); omega) ?_
  rw [es]
  refine bw_callV (e := 13) (mc := 0) (ms := 0) (as := [_, _]) rfl rfl rfl rfl (Nat.le_of_ble_eq_true rfl) (Nat.le_of_ble_eq_true rfl) hc.1 hc.2 rfl a2 (fun v2 A2 N2 h2 => ?_)
  obtain ⟨rfl, rfl, e2, r2, hI2⟩ := b2 v2 A2 N2 h2
  show abW 14 (600000, 7302250) 297 1352 [some (vr (some 1000042)), some (vr (some 0)), some (vr (some 567)), some (vi i)] [vi x, vi x] (c1, c2) (A0 L) N2 Q
  refine bw_iceq rfl (fun _ => ?_) (fun c => absurd rfl c)
  exact cont r2 N2 hI2 e2
theorem arm_raise (h : INV r M k) (hk : k ≤ 900000) (hs : ∀ j : Int, In32 (gI M 1000042 j)) (hi : 0 ≤ i ∧ i + 6 ≤ L ∧ L ≤ 3072) (hc : c1 ≤ 600000 ∧ c2 ≤ 7302250) (cont : ∀ (r2 : abRf) (N2 : abMem), INV r2 N2 (k + 98) → gI N2 1000042 = gI M 1000042 → abW 14 (600000, 7302250) 297 1485 [some (vr (some 1000042)), some (vr (some 0)), some (vr (some 567)), some (vi i)] [] (c1, c2) (A0 L) N2 Q) : abW 14 (600000, 7302250) 297 1357 [some (vr (some 1000042)), some (vr (some 0)), some (vr (some 567)), some (vi i)] [] (c1, c2) (A0 L) M Q := by
  obtain ⟨R, a, b⟩ : PR L 119 265 [vi (gI M 1000042 (i + 1))] k M := pr_raise h
  refine bw_aload rfl rfl ?_
  refine bw_aload rfl rfl ?_
  refine bw_iload rfl rfl ?_
  refine bw_push rfl ?_
  refine bw_iadd rfl ⟨by omega, by omega⟩ ?_
  refine bw_ialdS rfl rfl (by omega) (by rw [kk_s]; show _ < (L : Int); omega) ?_
  refine bw_callV (e := 13) (mc := 0) (ms := 0) (as := [_]) rfl rfl rfl rfl (Nat.le_of_ble_eq_true rfl) (Nat.le_of_ble_eq_true rfl) hc.1 hc.2 rfl a (fun v A N hv => ?_)
  obtain ⟨rfl, es, x, rfl, R2, a2, b2⟩ := b v A N hv
  show abW 14 (600000, 7302250) 297 1366 [some (vr (some 1000042)), some (vr (some 0)), some (vr (some 567)), some (vi i)] [vi x] (c1, c2) (A0 L) N Q
  refine bw_aload rfl rfl ?_
  refine bw_aload rfl rfl ?_
  refine bw_iload rfl rfl ?_
  refine bw_push rfl ?_
  refine bw_iadd rfl ⟨by omega, by omega⟩ ?_
  refine bw_ialdS rfl rfl (by omega) (by rw [kk_s]; show _ < (L : Int); omega) ?_
  rw [es]
  refine bw_callV (e := 13) (mc := 0) (ms := 0) (as := [_]) rfl rfl rfl rfl (Nat.le_of_ble_eq_true rfl) (Nat.le_of_ble_eq_true rfl) hc.1 hc.2 rfl a2 (fun v2 A2 N2 h2 => ?_)
  obtain ⟨rfl, rfl, e2, r2, hI2⟩ := b2 v2 A2 N2 h2
  show abW 14 (600000, 7302250) 297 1375 [some (vr (some 1000042)), some (vr (some 0)), some (vr (some 567)), some (vi i)] [vi x, vi x] (c1, c2) (A0 L) N2 Q
  refine bw_iceq rfl (fun _ => ?_) (fun c => absurd rfl c)
  exact cont r2 N2 hI2 e2
theorem arm_twos (h : INV r M k) (hk : k ≤ 900000) (hs : ∀ j : Int, In32 (gI M 1000042 j)) (hi : 0 ≤ i ∧ i + 6 ≤ L ∧ L ≤ 3072) (hc : c1 ≤ 600000 ∧ c2 ≤ 7302250) (cont : ∀ (r2 : abRf) (N2 : abMem), INV r2 N2 (k + 98) → gI N2 1000042 = gI M 1000042 → abW 14 (600000, 7302250) 297 1485 [some (vr (some 1000042)), some (vr (some 0)), some (vr (some 567)), some (vi i)] [] (c1, c2) (A0 L) N2 Q) : abW 14 (600000, 7302250) 297 1380 [some (vr (some 1000042)), some (vr (some 0)), some (vr (some 567)), some (vi i)] [] (c1, c2) (A0 L) M Q := by
  obtain ⟨R, a, b⟩ : PR L 120 266 [vi (gI M 1000042 (i + 1))] k M := pr_twos h
  refine bw_aload rfl rfl ?_
  refine bw_aload rfl rfl ?_
  refine bw_iload rfl rfl ?_
  refine bw_push rfl ?_
  refine bw_iadd rfl ⟨by omega, by omega⟩ ?_
  refine bw_ialdS rfl rfl (by omega) (by rw [kk_s]; show _ < (L : Int); omega) ?_
  refine bw_callV (e := 13) (mc := 0) (ms := 0) (as := [_]) rfl rfl rfl rfl (Nat.le_of_ble_eq_true rfl) (Nat.le_of_ble_eq_true rfl) hc.1 hc.2 rfl a (fun v A N hv => ?_)
  obtain ⟨rfl, es, x, rfl, R2, a2, b2⟩ := b v A N hv
  show abW 14 (600000, 7302250) 297 1389 [some (vr (some 1000042)), some (vr (some 0)), some (vr (some 567)), some (vi i)] [vi x] (c1, c2) (A0 L) N Q
  refine bw_aload rfl rfl ?_
  refine bw_aload rfl rfl ?_
  refine bw_iload rfl rfl ?_
  refine bw_push rfl ?_
  refine bw_iadd rfl ⟨by omega, by omega⟩ ?_
  refine bw_ialdS rfl rfl (by omega) (by rw [kk_s]; show _ < (L : Int); omega) ?_
  rw [es]
  refine bw_callV (e := 13) (mc := 0) (ms := 0) (as := [_]) rfl rfl rfl rfl (Nat.le_of_ble_eq_true rfl) (Nat.le_of_ble_eq_true rfl) hc.1 hc.2 rfl a2 (fun v2 A2 N2 h2 => ?_)
  obtain ⟨rfl, rfl, e2, r2, hI2⟩ := b2 v2 A2 N2 h2
  show abW 14 (600000, 7302250) 297 1398 [some (vr (some 1000042)), some (vr (some 0)), some (vr (some 567)), some (vi i)] [vi x, vi x] (c1, c2) (A0 L) N2 Q
  refine bw_iceq rfl (fun _ => ?_) (fun c => absurd rfl c)
  exact cont r2 N2 hI2 e2
theorem arm_undo (h : INV r M k) (hk : k ≤ 900000) (hs : ∀ j : Int, In32 (gI M 1000042 j)) (hi : 0 ≤ i ∧ i + 6 ≤ L ∧ L ≤ 3072) (hc : c1 ≤ 600000 ∧ c2 ≤ 7302250) (cont : ∀ (r2 : abRf) (N2 : abMem), INV r2 N2 (k + 98) → gI N2 1000042 = gI M 1000042 → abW 14 (600000, 7302250) 297 1485 [some (vr (some 1000042)), some (vr (some 0)), some (vr (some 567)), some (vi i)] [] (c1, c2) (A0 L) N2 Q) : abW 14 (600000, 7302250) 297 1403 [some (vr (some 1000042)), some (vr (some 0)), some (vr (some 567)), some (vi i)] [] (c1, c2) (A0 L) M Q := by
  obtain ⟨R, a, b⟩ : PR L 121 267 [] k M := pr_undo h
  refine bw_aload rfl rfl ?_
  refine bw_callV (e := 13) (mc := 0) (ms := 0) (as := []) rfl rfl rfl rfl (Nat.le_of_ble_eq_true rfl) (Nat.le_of_ble_eq_true rfl) hc.1 hc.2 rfl a (fun v A N hv => ?_)
  obtain ⟨rfl, es, x, rfl, R2, a2, b2⟩ := b v A N hv
  show abW 14 (600000, 7302250) 297 1407 [some (vr (some 1000042)), some (vr (some 0)), some (vr (some 567)), some (vi i)] [vi x] (c1, c2) (A0 L) N Q
  refine bw_aload rfl rfl ?_
  refine bw_callV (e := 13) (mc := 0) (ms := 0) (as := []) rfl rfl rfl rfl (Nat.le_of_ble_eq_true rfl) (Nat.le_of_ble_eq_true rfl) hc.1 hc.2 rfl a2 (fun v2 A2 N2 h2 => ?_)
  obtain ⟨rfl, rfl, e2, r2, hI2⟩ := b2 v2 A2 N2 h2
  show abW 14 (600000, 7302250) 297 1411 [some (vr (some 1000042)), some (vr (some 0)), some (vr (some 567)), some (vi i)] [vi x, vi x] (c1, c2) (A0 L) N2 Q
  refine bw_iceq rfl (fun _ => ?_) (fun c => absurd rfl c)
  exact cont r2 N2 hI2 e2
theorem arm_keep (h : INV r M k) (hk : k ≤ 900000) (hs : ∀ j : Int, In32 (gI M 1000042 j)) (hi : 0 ≤ i ∧ i + 6 ≤ L ∧ L ≤ 3072) (hc : c1 ≤ 600000 ∧ c2 ≤ 7302250) (cont : ∀ (r2 : abRf) (N2 : abMem), INV r2 N2 (k + 98) → gI N2 1000042 = gI M 1000042 → abW 14 (600000, 7302250) 297 1485 [some (vr (some 1000042)), some (vr (some 0)), some (vr (some 567)), some (vi i)] [] (c1, c2) (A0 L) N2 Q) : abW 14 (600000, 7302250) 297 1416 [some (vr (some 1000042)), some (vr (some 0)), some (vr (some 567)), some (vi i)] [] (c1, c2) (A0 L) M Q := by
  obtain ⟨R, a, b⟩ : PR L 122 268 [vi (gI M 1000042 (i + 1))] k M := pr_keep h
  refine bw_aload rfl rfl ?_
  refine bw_aload rfl rfl ?_
  refine bw_iload rfl rfl ?_
  refine bw_push rfl ?_
  refine bw_iadd rfl ⟨by omega, by omega⟩ ?_
  refine bw_ialdS rfl rfl (by omega) (by rw [kk_s]; show _ < (L : Int); omega) ?_
  refine bw_callV (e := 13) (mc := 0) (ms := 0) (as := [_]) rfl rfl rfl rfl (Nat.le_of_ble_eq_true rfl) (Nat.le_of_ble_eq_true rfl) hc.1 hc.2 rfl a (fun v A N hv => ?_)
  obtain ⟨rfl, es, x, rfl, R2, a2, b2⟩ := b v A N hv
  show abW 14 (600000, 7302250) 297 1425 [some (vr (some 1000042)), some (vr (some 0)), some (vr (some 567)), some (vi i)] [vi x] (c1, c2) (A0 L) N Q
  refine bw_aload rfl rfl ?_
  refine bw_aload rfl rfl ?_
  refine bw_iload rfl rfl ?_
  refine bw_push rfl ?_
  refine bw_iadd rfl ⟨by omega, by omega⟩ ?_
  refine bw_ialdS rfl rfl (by omega) (by rw [kk_s]; show _ < (L : Int); omega) ?_
  rw [es]
  refine bw_callV (e := 13) (mc := 0) (ms := 0) (as := [_]) rfl rfl rfl rfl (Nat.le_of_ble_eq_true rfl) (Nat.le_of_ble_eq_true rfl) hc.1 hc.2 rfl a2 (fun v2 A2 N2 h2 => ?_)
  obtain ⟨rfl, rfl, e2, r2, hI2⟩ := b2 v2 A2 N2 h2
  show abW 14 (600000, 7302250) 297 1434 [some (vr (some 1000042)), some (vr (some 0)), some (vr (some 567)), some (vi i)] [vi x, vi x] (c1, c2) (A0 L) N2 Q
  refine bw_iceq rfl (fun _ => ?_) (fun c => absurd rfl c)
  exact cont r2 N2 hI2 e2
theorem arm_back (h : INV r M k) (hk : k ≤ 900000) (hs : ∀ j : Int, In32 (gI M 1000042 j)) (hi : 0 ≤ i ∧ i + 6 ≤ L ∧ L ≤ 3072) (hc : c1 ≤ 600000 ∧ c2 ≤ 7302250) (cont : ∀ (r2 : abRf) (N2 : abMem), INV r2 N2 (k + 98) → gI N2 1000042 = gI M 1000042 → abW 14 (600000, 7302250) 297 1485 [some (vr (some 1000042)), some (vr (some 0)), some (vr (some 567)), some (vi i)] [] (c1, c2) (A0 L) N2 Q) : abW 14 (600000, 7302250) 297 1439 [some (vr (some 1000042)), some (vr (some 0)), some (vr (some 567)), some (vi i)] [] (c1, c2) (A0 L) M Q := by
  obtain ⟨R, a, b⟩ : PR L 123 269 [vi (gI M 1000042 (i + 1))] k M := pr_back h
  refine bw_aload rfl rfl ?_
  refine bw_aload rfl rfl ?_
  refine bw_iload rfl rfl ?_
  refine bw_push rfl ?_
  refine bw_iadd rfl ⟨by omega, by omega⟩ ?_
  refine bw_ialdS rfl rfl (by omega) (by rw [kk_s]; show _ < (L : Int); omega) ?_
  refine bw_callV (e := 13) (mc := 0) (ms := 0) (as := [_]) rfl rfl rfl rfl (Nat.le_of_ble_eq_true rfl) (Nat.le_of_ble_eq_true rfl) hc.1 hc.2 rfl a (fun v A N hv => ?_)
  obtain ⟨rfl, es, x, rfl, R2, a2, b2⟩ := b v A N hv
  show abW 14 (600000, 7302250) 297 1448 [some (vr (some 1000042)), some (vr (some 0)), some (vr (some 567)), some (vi i)] [vi x] (c1, c2) (A0 L) N Q
  refine bw_aload rfl rfl ?_
  refine bw_aload rfl rfl ?_
  refine bw_iload rfl rfl ?_
  refine bw_push rfl ?_
  refine bw_iadd rfl ⟨by omega, by omega⟩ ?_
  refine bw_ialdS rfl rfl (by omega) (by rw [kk_s]; show _ < (L : Int); omega) ?_
  rw [es]
  refine bw_callV (e := 13) (mc := 0) (ms := 0) (as := [_]) rfl rfl rfl rfl (Nat.le_of_ble_eq_true rfl) (Nat.le_of_ble_eq_true rfl) hc.1 hc.2 rfl a2 (fun v2 A2 N2 h2 => ?_)
  obtain ⟨rfl, rfl, e2, r2, hI2⟩ := b2 v2 A2 N2 h2
  show abW 14 (600000, 7302250) 297 1457 [some (vr (some 1000042)), some (vr (some 0)), some (vr (some 567)), some (vi i)] [vi x, vi x] (c1, c2) (A0 L) N2 Q
  refine bw_iceq rfl (fun _ => ?_) (fun c => absurd rfl c)
  exact cont r2 N2 hI2 e2
theorem arm_apart (h : INV r M k) (hk : k ≤ 900000) (hs : ∀ j : Int, In32 (gI M 1000042 j)) (hi : 0 ≤ i ∧ i + 6 ≤ L ∧ L ≤ 3072) (hc : c1 ≤ 600000 ∧ c2 ≤ 7302250) (cont : ∀ (r2 : abRf) (N2 : abMem), INV r2 N2 (k + 98) → gI N2 1000042 = gI M 1000042 → abW 14 (600000, 7302250) 297 1485 [some (vr (some 1000042)), some (vr (some 0)), some (vr (some 567)), some (vi i)] [] (c1, c2) (A0 L) N2 Q) : abW 14 (600000, 7302250) 297 1462 [some (vr (some 1000042)), some (vr (some 0)), some (vr (some 567)), some (vi i)] [] (c1, c2) (A0 L) M Q := by
  obtain ⟨R, a, b⟩ : PR L 124 270 [vi (gI M 1000042 (i + 1))] k M := pr_apart h
  refine bw_aload rfl rfl ?_
  refine bw_aload rfl rfl ?_
  refine bw_iload rfl rfl ?_
  refine bw_push rfl ?_
  refine bw_iadd rfl ⟨by omega, by omega⟩ ?_
  refine bw_ialdS rfl rfl (by omega) (by rw [kk_s]; show _ < (L : Int); omega) ?_
  refine bw_callV (e := 13) (mc := 0) (ms := 0) (as := [_]) rfl rfl rfl rfl (Nat.le_of_ble_eq_true rfl) (Nat.le_of_ble_eq_true rfl) hc.1 hc.2 rfl a (fun v A N hv => ?_)
  obtain ⟨rfl, es, x, rfl, R2, a2, b2⟩ := b v A N hv
  show abW 14 (600000, 7302250) 297 1471 [some (vr (some 1000042)), some (vr (some 0)), some (vr (some 567)), some (vi i)] [vi x] (c1, c2) (A0 L) N Q
  refine bw_aload rfl rfl ?_
  refine bw_aload rfl rfl ?_
  refine bw_iload rfl rfl ?_
  refine bw_push rfl ?_
  refine bw_iadd rfl ⟨by omega, by omega⟩ ?_
  refine bw_ialdS rfl rfl (by omega) (by rw [kk_s]; show _ < (L : Int); omega) ?_
  rw [es]
  refine bw_callV (e := 13) (mc := 0) (ms := 0) (as := [_]) rfl rfl rfl rfl (Nat.le_of_ble_eq_true rfl) (Nat.le_of_ble_eq_true rfl) hc.1 hc.2 rfl a2 (fun v2 A2 N2 h2 => ?_)
  obtain ⟨rfl, rfl, e2, r2, hI2⟩ := b2 v2 A2 N2 h2
  show abW 14 (600000, 7302250) 297 1480 [some (vr (some 1000042)), some (vr (some 0)), some (vr (some 567)), some (vi i)] [vi x, vi x] (c1, c2) (A0 L) N2 Q
  refine bw_iceq rfl (fun _ => ?_) (fun c => absurd rfl c)
  exact cont r2 N2 hI2 e2
theorem law_loop (hL : L ≤ 3072) (hc : c1 ≤ 600000 ∧ c2 ≤ 7302250) : ∀ (kf : Nat) (r : abRf) (M : abMem) (i k : Int), INV r M k → k ≤ 98 * i → (∀ j : Int, In32 (gI M 1000042 j)) → 0 ≤ i → (L + 6 - i).toNat < kf → abW 14 (600000, 7302250) 297 18 [some (vr (some 1000042)), some (vr (some 0)), some (vr (some 567)), some (vi i)] [] (c1, c2) (A0 L) M (fun v _ _ => v = some (vi 1)) := by
  intro kf
  induction kf with
  | zero => intro r M i k _ _ _ _ h9; exact absurd h9 (Nat.not_lt_zero _)
  | succ kf ih =>
    intro r M i k h hk hs hi hm
    refine bw_iload rfl rfl ?_
    refine bw_aload rfl rfl ?_
    refine bw_alenS rfl rfl ?_
    rw [kk_s]
    refine bw_push rfl ?_
    refine bw_isub rfl ⟨by show -2147483648 ≤ (L : Int) - 6; omega, by show (L : Int) - 6 ≤ 2147483647; omega⟩ ?_
    refine bw_icgt rfl (fun c => ?_) (fun c => ?_)
    · refine bw_push rfl ?_
      exact bw_ireturn (st := []) rfl hc.1 hc.2 (Or.inr (Or.inl ⟨rfl, Or.inr rfl⟩)) rfl
    · have c : ¬ (L : Int) - 6 < i := c
      have hi2 : 0 ≤ i ∧ i + 6 ≤ L ∧ L ≤ 3072 := ⟨hi, by omega, hL⟩
      have hk2 : k ≤ 900000 := by omega
      have cont : ∀ (r2 : abRf) (N2 : abMem), INV r2 N2 (k + 98) → gI N2 1000042 = gI M 1000042 → abW 14 (600000, 7302250) 297 1485 [some (vr (some 1000042)), some (vr (some 0)), some (vr (some 567)), some (vi i)] [] (c1, c2) (A0 L) N2 (fun v _ _ => v = some (vi 1)) := fun r2 N2 h2 e2 => by
        refine bw_iinc (ls2 := [_, _, _, _]) rfl rfl rfl ⟨by omega, by omega⟩ rfl ?_
        refine bw_goto rfl ?_
        exact ih r2 N2 (i + 6) (k + 98) h2 (by omega) (fun j => by rw [e2]; exact hs j) (by omega) (by omega)
      refine bw_aload rfl rfl ?_
      refine bw_iload rfl rfl ?_
      refine bw_ialdS rfl rfl (by omega) (by rw [kk_s]; show i < (L : Int); omega) ?_
      refine bw_push rfl ?_
      refine bw_iand rfl ?_
      generalize xand (gI M 1000042 i) 63 = x
      by_cases s0 : x = 0
      · refine bw_switch (t := 212) rfl (by rw [s0]; rfl) ?_
        exact arm_feed h hk2 hs hi2 hc cont
      by_cases s1 : x = 1
      · refine bw_switch (t := 275) rfl (by rw [s1]; rfl) ?_
        exact arm_end h hk2 hs hi2 hc cont
      by_cases s2 : x = 2
      · refine bw_switch (t := 298) rfl (by rw [s2]; rfl) ?_
        exact arm_scene h hk2 hs hi2 hc cont
      by_cases s3 : x = 3
      · refine bw_switch (t := 311) rfl (by rw [s3]; rfl) ?_
        exact arm_fault h hk2 hs hi2 hc cont
      by_cases s4 : x = 4
      · refine bw_switch (t := 334) rfl (by rw [s4]; rfl) ?_
        exact arm_named h hk2 hs hi2 hc cont
      by_cases s5 : x = 5
      · refine bw_switch (t := 347) rfl (by rw [s5]; rfl) ?_
        exact arm_look h hk2 hs hi2 hc cont
      by_cases s6 : x = 6
      · refine bw_switch (t := 370) rfl (by rw [s6]; rfl) ?_
        exact arm_layer h hk2 hs hi2 hc cont
      by_cases s7 : x = 7
      · refine bw_switch (t := 403) rfl (by rw [s7]; rfl) ?_
        exact arm_spelt h hk2 hs hi2 hc cont
      by_cases s8 : x = 8
      · refine bw_switch (t := 436) rfl (by rw [s8]; rfl) ?_
        exact arm_box h hk2 hs hi2 hc cont
      by_cases s9 : x = 9
      · refine bw_switch (t := 469) rfl (by rw [s9]; rfl) ?_
        exact arm_at h hk2 hs hi2 hc cont
      by_cases s10 : x = 10
      · refine bw_switch (t := 502) rfl (by rw [s10]; rfl) ?_
        exact arm_told h hk2 hs hi2 hc cont
      by_cases s11 : x = 11
      · refine bw_switch (t := 535) rfl (by rw [s11]; rfl) ?_
        exact arm_hold h hk2 hs hi2 hc cont
      by_cases s12 : x = 12
      · refine bw_switch (t := 578) rfl (by rw [s12]; rfl) ?_
        exact arm_find h hk2 hs hi2 hc cont
      by_cases s13 : x = 13
      · refine bw_switch (t := 621) rfl (by rw [s13]; rfl) ?_
        exact arm_cycle h hk2 hs hi2 hc cont
      by_cases s14 : x = 14
      · refine bw_switch (t := 654) rfl (by rw [s14]; rfl) ?_
        exact arm_marks h hk2 hs hi2 hc cont
      by_cases s15 : x = 15
      · refine bw_switch (t := 677) rfl (by rw [s15]; rfl) ?_
        exact arm_shift h hk2 hs hi2 hc cont
      by_cases s16 : x = 16
      · refine bw_switch (t := 720) rfl (by rw [s16]; rfl) ?_
        exact arm_hidden h hk2 hs hi2 hc cont
      by_cases s17 : x = 17
      · refine bw_switch (t := 753) rfl (by rw [s17]; rfl) ?_
        exact arm_cell h hk2 hs hi2 hc cont
      by_cases s18 : x = 18
      · refine bw_switch (t := 796) rfl (by rw [s18]; rfl) ?_
        exact arm_top h hk2 hs hi2 hc cont
      by_cases s19 : x = 19
      · refine bw_switch (t := 839) rfl (by rw [s19]; rfl) ?_
        exact arm_ink h hk2 hs hi2 hc cont
      by_cases s20 : x = 20
      · refine bw_switch (t := 872) rfl (by rw [s20]; rfl) ?_
        exact arm_seen h hk2 hs hi2 hc cont
      by_cases s21 : x = 21
      · refine bw_switch (t := 905) rfl (by rw [s21]; rfl) ?_
        exact arm_same h hk2 hs hi2 hc cont
      by_cases s22 : x = 22
      · refine bw_switch (t := 938) rfl (by rw [s22]; rfl) ?_
        exact arm_like h hk2 hs hi2 hc cont
      by_cases s23 : x = 23
      · refine bw_switch (t := 971) rfl (by rw [s23]; rfl) ?_
        exact arm_take h hk2 hs hi2 hc cont
      by_cases s24 : x = 24
      · refine bw_switch (t := 994) rfl (by rw [s24]; rfl) ?_
        exact arm_still h hk2 hs hi2 hc cont
      by_cases s25 : x = 25
      · refine bw_switch (t := 1017) rfl (by rw [s25]; rfl) ?_
        exact arm_changes h hk2 hs hi2 hc cont
      by_cases s26 : x = 26
      · refine bw_switch (t := 1040) rfl (by rw [s26]; rfl) ?_
        exact arm_saved h hk2 hs hi2 hc cont
      by_cases s27 : x = 27
      · refine bw_switch (t := 1063) rfl (by rw [s27]; rfl) ?_
        exact arm_turned h hk2 hs hi2 hc cont
      by_cases s28 : x = 28
      · refine bw_switch (t := 1096) rfl (by rw [s28]; rfl) ?_
        exact arm_best h hk2 hs hi2 hc cont
      by_cases s29 : x = 29
      · refine bw_switch (t := 1129) rfl (by rw [s29]; rfl) ?_
        exact arm_without h hk2 hs hi2 hc cont
      by_cases s30 : x = 30
      · refine bw_switch (t := 1152) rfl (by rw [s30]; rfl) ?_
        exact arm_doubled h hk2 hs hi2 hc cont
      by_cases s31 : x = 31
      · refine bw_switch (t := 1185) rfl (by rw [s31]; rfl) ?_
        exact arm_expose h hk2 hs hi2 hc cont
      by_cases s32 : x = 32
      · refine bw_switch (t := 1238) rfl (by rw [s32]; rfl) ?_
        exact arm_push h hk2 hs hi2 hc cont
      by_cases s33 : x = 33
      · refine bw_switch (t := 1281) rfl (by rw [s33]; rfl) ?_
        exact arm_pull h hk2 hs hi2 hc cont
      by_cases s34 : x = 34
      · refine bw_switch (t := 1324) rfl (by rw [s34]; rfl) ?_
        exact arm_turn h hk2 hs hi2 hc cont
      by_cases s35 : x = 35
      · refine bw_switch (t := 1357) rfl (by rw [s35]; rfl) ?_
        exact arm_raise h hk2 hs hi2 hc cont
      by_cases s36 : x = 36
      · refine bw_switch (t := 1380) rfl (by rw [s36]; rfl) ?_
        exact arm_twos h hk2 hs hi2 hc cont
      by_cases s37 : x = 37
      · refine bw_switch (t := 1403) rfl (by rw [s37]; rfl) ?_
        exact arm_undo h hk2 hs hi2 hc cont
      by_cases s38 : x = 38
      · refine bw_switch (t := 1416) rfl (by rw [s38]; rfl) ?_
        exact arm_keep h hk2 hs hi2 hc cont
      by_cases s39 : x = 39
      · refine bw_switch (t := 1439) rfl (by rw [s39]; rfl) ?_
        exact arm_back h hk2 hs hi2 hc cont
      by_cases s40 : x = 40
      · refine bw_switch (t := 1462) rfl (by rw [s40]; rfl) ?_
        exact arm_apart h hk2 hs hi2 hc cont
      refine bw_switch (t := 1485) rfl (by show (if (x) < (0 : Int) ∨ (40 : Int) < (x) then _ else _) = _; rw [if_pos (by omega)]; rfl) ?_
      exact cont r M (h.le (by omega)) rfl
end
