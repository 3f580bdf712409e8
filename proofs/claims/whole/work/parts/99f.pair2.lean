theorem pr_cell {r : abRf} {M : abMem} {k : Int} {L : Nat} (h : INV r M k) {f u v : Int} (hk : k ≤ 900000) : PR L 101 233 [vi f, vi u, vi v] k M := PR_i (x_cell h.rf (cur_in r) rfl h (by decide)) (fun x N hxN => by
  obtain ⟨⟨r', hr', hI, hS⟩, hx⟩ := hxN
  refine ⟨hS 1000042 (by decide), _, m_cell hI.rf hI.rb hI.hS (by decide), fun y N2 hyN => ?_⟩
  obtain ⟨u, hy⟩ := hyN
  have e8 : gI N 568 = gI M 568 := hS 568 (by decide)
  have e9 : gI N 569 = gI M 569 := hS 569 (by decide)
  try rw [e8] at hy
  try rw [e9] at hy
  try rw [mR_f e9] at hy
  try rw [pcI_eq e8 e9] at hy
  try rw [alk_e e8 e9] at hy
  try rw [tk_eq (a := 0) e8 e9] at hy
  try rw [bsT_f e8 e9] at hy
  try rw [tk_w e8] at hy
  try rw [rwW_f e8 e9] at hy
  have z := INV_sm hI u (fun a z => by omega)
  refine ⟨?_, z.2.trans (hS 1000042 (by decide)), r', z.1.le (by omega)⟩
  exact hy.trans hx.symm)
theorem pr_top {r : abRf} {M : abMem} {k : Int} {L : Nat} (h : INV r M k) {f u v : Int} (hk : k ≤ 900000) : PR L 102 234 [vi f, vi u, vi v] k M := PR_i (x_top h.rf (cur_in r) rfl h (by decide)) (fun x N hxN => by
  obtain ⟨⟨r', hr', hI, hS⟩, hx⟩ := hxN
  refine ⟨hS 1000042 (by decide), _, m_top hI.rf hI.rb hI.hS (by decide), fun y N2 hyN => ?_⟩
  obtain ⟨u, hy⟩ := hyN
  have e8 : gI N 568 = gI M 568 := hS 568 (by decide)
  have e9 : gI N 569 = gI M 569 := hS 569 (by decide)
  try rw [e8] at hy
  try rw [e9] at hy
  try rw [mR_f e9] at hy
  try rw [pcI_eq e8 e9] at hy
  try rw [alk_e e8 e9] at hy
  try rw [tk_eq (a := 0) e8 e9] at hy
  try rw [bsT_f e8 e9] at hy
  try rw [tk_w e8] at hy
  try rw [rwW_f e8 e9] at hy
  have z := INV_sm hI u (fun a z => by omega)
  refine ⟨?_, z.2.trans (hS 1000042 (by decide)), r', z.1.le (by omega)⟩
  exact hy.trans hx.symm)
theorem pr_ink {r : abRf} {M : abMem} {k : Int} {L : Nat} (h : INV r M k) {f v : Int} (hk : k ≤ 900000) : PR L 103 235 [vi f, vi v] k M := PR_i (x_ink h.rf (cur_in r) rfl h (by decide)) (fun x N hxN => by
  obtain ⟨⟨r', hr', hI, hS⟩, hx⟩ := hxN
  refine ⟨hS 1000042 (by decide), _, m_ink hI.rf hI.rb hI.hS (by decide), fun y N2 hyN => ?_⟩
  obtain ⟨u, hy⟩ := hyN
  have e8 : gI N 568 = gI M 568 := hS 568 (by decide)
  have e9 : gI N 569 = gI M 569 := hS 569 (by decide)
  try rw [e8] at hy
  try rw [e9] at hy
  try rw [mR_f e9] at hy
  try rw [pcI_eq e8 e9] at hy
  try rw [alk_e e8 e9] at hy
  try rw [tk_eq (a := 0) e8 e9] at hy
  try rw [bsT_f e8 e9] at hy
  try rw [tk_w e8] at hy
  try rw [rwW_f e8 e9] at hy
  have z := INV_sm hI u (fun a z => by omega)
  refine ⟨?_, z.2.trans (hS 1000042 (by decide)), r', z.1.le (by omega)⟩
  exact hy.trans hx.symm)
theorem pr_seen {r : abRf} {M : abMem} {k : Int} {L : Nat} (h : INV r M k) {l f : Int} (hk : k ≤ 900000) : PR L 104 236 [vi l, vi f] k M := PR_i (x_seen h.rf (cur_in r) rfl h (by decide)) (fun x N hxN => by
  obtain ⟨⟨r', hr', hI, hS⟩, hx⟩ := hxN
  refine ⟨hS 1000042 (by decide), _, m_seen hI.rf hI.rb hI.hS (by decide), fun y N2 hyN => ?_⟩
  obtain ⟨u, hy⟩ := hyN
  have e8 : gI N 568 = gI M 568 := hS 568 (by decide)
  have e9 : gI N 569 = gI M 569 := hS 569 (by decide)
  try rw [e8] at hy
  try rw [e9] at hy
  try rw [mR_f e9] at hy
  try rw [pcI_eq e8 e9] at hy
  try rw [alk_e e8 e9] at hy
  try rw [tk_eq (a := 0) e8 e9] at hy
  try rw [bsT_f e8 e9] at hy
  try rw [tk_w e8] at hy
  try rw [rwW_f e8 e9] at hy
  have z := INV_sm hI u (fun a z => by omega)
  refine ⟨?_, z.2.trans (hS 1000042 (by decide)), r', z.1.le (by omega)⟩
  exact hy.trans hx.symm)
theorem pr_same {r : abRf} {M : abMem} {k : Int} {L : Nat} (h : INV r M k) {f e : Int} (hk : k ≤ 900000) : PR L 105 238 [vi f, vi e] k M := PR_i (x_same h.rf (cur_in r) rfl h hk (by decide)) (fun x N hxN => by
  obtain ⟨⟨r', hr', hI, hS⟩, hx⟩ := hxN
  refine ⟨hS 1000042 (by decide), _, m_same hI.rf hI.rb hI.hS (by decide), fun y N2 hyN => ?_⟩
  obtain ⟨u, hy⟩ := hyN
  have e8 : gI N 568 = gI M 568 := hS 568 (by decide)
  have e9 : gI N 569 = gI M 569 := hS 569 (by decide)
  try rw [e8] at hy
  try rw [e9] at hy
  try rw [mR_f e9] at hy
  try rw [pcI_eq e8 e9] at hy
  try rw [alk_e e8 e9] at hy
  try rw [tk_eq (a := 0) e8 e9] at hy
  try rw [bsT_f e8 e9] at hy
  try rw [tk_w e8] at hy
  try rw [rwW_f e8 e9] at hy
  have z := INV_sm hI u (fun a z => by omega)
  refine ⟨?_, z.2.trans (hS 1000042 (by decide)), r', z.1.le (by omega)⟩
  exact by
      rcases hx with ⟨a0, a⟩ | ⟨a0, a⟩
      · rcases hy with ⟨b0, b⟩ | ⟨b0, b⟩
        · rcases a with a | a <;> rcases b with b | b <;> first | exact absurd a.1 b.1 | exact absurd b.1 a.1 | exact b.2.trans a.2.symm
        · exact absurd a0 b0
      · rcases hy with ⟨b0, b⟩ | ⟨b0, b⟩
        · exact absurd b0 a0
        · exact b.trans a.symm)
theorem pr_like {r : abRf} {M : abMem} {k : Int} {L : Nat} (h : INV r M k) {f w : Int} (hk : k ≤ 900000) : PR L 106 240 [vi f, vi w] k M := PR_i (x_like h.rf (cur_in r) rfl h hk (by decide)) (fun x N hxN => by
  obtain ⟨⟨r', hr', hI, hS⟩, hx⟩ := hxN
  refine ⟨hS 1000042 (by decide), _, m_like hI.rf hI.rb hI.hS (by decide), fun y N2 hyN => ?_⟩
  obtain ⟨u, hy⟩ := hyN
  have e8 : gI N 568 = gI M 568 := hS 568 (by decide)
  have e9 : gI N 569 = gI M 569 := hS 569 (by decide)
  try rw [e8] at hy
  try rw [e9] at hy
  try rw [mR_f e9] at hy
  try rw [pcI_eq e8 e9] at hy
  try rw [alk_e e8 e9] at hy
  try rw [tk_eq (a := 0) e8 e9] at hy
  try rw [bsT_f e8 e9] at hy
  try rw [tk_w e8] at hy
  try rw [rwW_f e8 e9] at hy
  have z := INV_sm hI u (fun a z => by omega)
  refine ⟨?_, z.2.trans (hS 1000042 (by decide)), r', z.1.le (by omega)⟩
  exact by
      rcases hx with ⟨a0, a⟩ | ⟨a0, a⟩
      · rcases hy with ⟨b0, b⟩ | ⟨b0, b⟩
        · rcases a with ⟨a1, a2⟩ | ⟨a1, a2⟩ <;> rcases b with ⟨b1, b2⟩ | ⟨b1, b2⟩ <;> first | (exfalso; omega) | exact isFL_eq b2 a2 | exact b2.trans a2.symm
        · exact absurd a0 b0
      · rcases hy with ⟨b0, b⟩ | ⟨b0, b⟩
        · exact absurd b0 a0
        · exact b.trans a.symm)
theorem pr_take {r : abRf} {M : abMem} {k : Int} {L : Nat} (h : INV r M k) {z : Int} (hk : k ≤ 900000) (hz : In32 z) : PR L 107 242 [vi z] k M := PR_i (x_take h.rf (cur_in r) rfl h hk (by decide)) (fun x N hxN => by
  obtain ⟨⟨r', hr', hI, hS⟩, hx⟩ := hxN
  refine ⟨hS 1000042 (by decide), _, m_take hI.rf hI.rb hI.hS hz (by decide), fun y N2 hyN => ?_⟩
  obtain ⟨u, hy⟩ := hyN
  have e8 : gI N 568 = gI M 568 := hS 568 (by decide)
  have e9 : gI N 569 = gI M 569 := hS 569 (by decide)
  try rw [e8] at hy
  try rw [e9] at hy
  try rw [mR_f e9] at hy
  try rw [pcI_eq e8 e9] at hy
  try rw [alk_e e8 e9] at hy
  try rw [tk_eq (a := 0) e8 e9] at hy
  try rw [bsT_f e8 e9] at hy
  try rw [tk_w e8] at hy
  try rw [rwW_f e8 e9] at hy
  have z := INV_sm hI u (fun a z => by omega)
  refine ⟨?_, z.2.trans (hS 1000042 (by decide)), r', z.1.le (by omega)⟩
  rcases hx with ⟨a1, a2⟩ | ⟨a1, a2⟩ | ⟨a1, a2⟩ <;> rcases hy with ⟨b1, b2⟩ | ⟨b1, b2⟩ | ⟨b1, b2⟩ <;> first | (exfalso; omega) | exact isKth_eq b2 a2 | exact b2.trans a2.symm)
theorem pr_still {r : abRf} {M : abMem} {k : Int} {L : Nat} (h : INV r M k) {w : Int} (hk : k ≤ 900000) : PR L 108 244 [vi w] k M := PR_i (x_still h.rf (cur_in r) rfl h hk (by decide)) (fun x N hxN => by
  obtain ⟨⟨r', hr', hI, hS⟩, hx⟩ := hxN
  refine ⟨hS 1000042 (by decide), _, m_still hI.rf hI.rb hI.hS (by decide), fun y N2 hyN => ?_⟩
  obtain ⟨u, hy⟩ := hyN
  have e8 : gI N 568 = gI M 568 := hS 568 (by decide)
  have e9 : gI N 569 = gI M 569 := hS 569 (by decide)
  try rw [e8] at hy
  try rw [e9] at hy
  try rw [mR_f e9] at hy
  try rw [pcI_eq e8 e9] at hy
  try rw [alk_e e8 e9] at hy
  try rw [tk_eq (a := 0) e8 e9] at hy
  try rw [bsT_f e8 e9] at hy
  try rw [tk_w e8] at hy
  try rw [rwW_f e8 e9] at hy
  have z := INV_s5 hI u (fun a z => by omega) (fun j z => by omega)
  refine ⟨?_, z.2.trans (hS 1000042 (by decide)), r', z.1.le (by omega)⟩
  exact by
      rcases hx with ⟨a0, a⟩ | ⟨a0, a⟩
      · rcases hy with ⟨b0, b⟩ | ⟨b0, b⟩
        · obtain ⟨m1, c1, s1, a⟩ := a
          obtain ⟨m2, c2, s2, b⟩ := b
          obtain ⟨rfl, rfl⟩ := isStl_eq s1 s2
          rcases a with ⟨a1, a2⟩ | ⟨a1, a2⟩ <;> rcases b with ⟨b1, b2⟩ | ⟨b1, b2⟩ <;> first | (exfalso; omega) | exact b2.trans a2.symm
        · exact absurd a0 b0
      · rcases hy with ⟨b0, b⟩ | ⟨b0, b⟩
        · exact absurd b0 a0
        · exact b.trans a.symm)
theorem pr_saved {r : abRf} {M : abMem} {k : Int} {L : Nat} (h : INV r M k) {w : Int} (hk : k ≤ 900000) : PR L 110 249 [vi w] k M := PR_i (x_saved h.rf (cur_in r) rfl h hk (by decide)) (fun x N hxN => by
  obtain ⟨⟨r', hr', hI, hS⟩, hx⟩ := hxN
  refine ⟨hS 1000042 (by decide), _, m_saved hI.rf hI.rb hI.hS (by decide), fun y N2 hyN => ?_⟩
  obtain ⟨u, hy⟩ := hyN
  have e8 : gI N 568 = gI M 568 := hS 568 (by decide)
  have e9 : gI N 569 = gI M 569 := hS 569 (by decide)
  try rw [e8] at hy
  try rw [e9] at hy
  try rw [mR_f e9] at hy
  try rw [pcI_eq e8 e9] at hy
  try rw [alk_e e8 e9] at hy
  try rw [tk_eq (a := 0) e8 e9] at hy
  try rw [bsT_f e8 e9] at hy
  try rw [tk_w e8] at hy
  try rw [rwW_f e8 e9] at hy
  have z := INV_s5 hI u (fun a z => by omega) (fun j z => by omega)
  refine ⟨?_, z.2.trans (hS 1000042 (by decide)), r', z.1.le (by omega)⟩
  exact by
      rcases hx with ⟨a0, a⟩ | ⟨a0, a⟩
      · rcases hy with ⟨b0, b⟩ | ⟨b0, b⟩
        · rcases a with ⟨a1, a2⟩ | ⟨a1, a2⟩ | ⟨a1, a2⟩ | ⟨a1, a2⟩ <;> rcases b with ⟨b1, b2⟩ | ⟨b1, b2⟩ | ⟨b1, b2⟩ | ⟨b1, b2⟩ <;> first | (exfalso; omega) | exact b2.trans a2.symm
        · exact absurd a0 b0
      · rcases hy with ⟨b0, b⟩ | ⟨b0, b⟩
        · exact absurd b0 a0
        · exact b.trans a.symm)
theorem pr_turned {r : abRf} {M : abMem} {k : Int} {L : Nat} (h : INV r M k) {l z : Int} (hk : k ≤ 900000) : PR L 111 252 [vi l, vi z] k M := PR_i (x_turned h.rf (cur_in r) rfl h hk (by decide)) (fun x N hxN => by
  obtain ⟨⟨r', hr', hI, hS⟩, hx⟩ := hxN
  refine ⟨hS 1000042 (by decide), _, m_turned hI.rf hI.rb hI.hS (by decide), fun y N2 hyN => ?_⟩
  obtain ⟨u, hy⟩ := hyN
  have e8 : gI N 568 = gI M 568 := hS 568 (by decide)
  have e9 : gI N 569 = gI M 569 := hS 569 (by decide)
  try rw [e8] at hy
  try rw [e9] at hy
  try rw [mR_f e9] at hy
  try rw [pcI_eq e8 e9] at hy
  try rw [alk_e e8 e9] at hy
  try rw [tk_eq (a := 0) e8 e9] at hy
  try rw [bsT_f e8 e9] at hy
  try rw [tk_w e8] at hy
  try rw [rwW_f e8 e9] at hy
  have z := INV_np hI u (fun j z => z.elim)
  refine ⟨?_, z.2.trans (hS 1000042 (by decide)), r', z.1.le (by omega)⟩
  exact by
      rcases hx with ⟨a0, a⟩ | ⟨a0, a⟩
      · rcases hy with ⟨b0, b⟩ | ⟨b0, b⟩
        · exact b.trans a.symm
        · exact absurd a0 b0
      · rcases hy with ⟨b0, b⟩ | ⟨b0, b⟩
        · exact absurd b0 a0
        · exact b.trans a.symm)
theorem pr_best {r : abRf} {M : abMem} {k : Int} {L : Nat} (h : INV r M k) {l w : Int} (hk : k ≤ 900000) : PR L 112 254 [vi l, vi w] k M := PR_i (x_best h.rf (cur_in r) rfl h hk (by decide)) (fun x N hxN => by
  obtain ⟨⟨r', hr', hI, hS⟩, hx⟩ := hxN
  refine ⟨hS 1000042 (by decide), _, m_best hI.rf hI.rb hI.hS (by decide), fun y N2 hyN => ?_⟩
  obtain ⟨u, hy⟩ := hyN
  have e8 : gI N 568 = gI M 568 := hS 568 (by decide)
  have e9 : gI N 569 = gI M 569 := hS 569 (by decide)
  try rw [e8] at hy
  try rw [e9] at hy
  try rw [mR_f e9] at hy
  try rw [pcI_eq e8 e9] at hy
  try rw [alk_e e8 e9] at hy
  try rw [tk_eq (a := 0) e8 e9] at hy
  try rw [bsT_f e8 e9] at hy
  try rw [tk_w e8] at hy
  try rw [rwW_f e8 e9] at hy
  have z := INV_np hI u (fun j z => by omega)
  refine ⟨?_, z.2.trans (hS 1000042 (by decide)), r', z.1.le (by omega)⟩
  exact by
      rcases hx with ⟨a0, a⟩ | ⟨a0, a⟩
      · rcases hy with ⟨b0, b⟩ | ⟨b0, b⟩
        · obtain ⟨m1, c1, s1, a⟩ := a
          obtain ⟨m2, c2, s2, b⟩ := b
          obtain ⟨rfl, rfl⟩ := bst_eq s1 s2
          rcases a with ⟨a1, a2⟩ | ⟨a1, a2⟩ <;> rcases b with ⟨b1, b2⟩ | ⟨b1, b2⟩ <;> first | (exfalso; omega) | exact b2.trans a2.symm
        · exact absurd a0 b0
      · rcases hy with ⟨b0, b⟩ | ⟨b0, b⟩
        · exact absurd b0 a0
        · exact b.trans a.symm)
theorem pr_without {r : abRf} {M : abMem} {k : Int} {L : Nat} (h : INV r M k) {l : Int} (hk : k ≤ 900000) : PR L 113 255 [vi l] k M := PR_i (x_without h.rf (cur_in r) rfl h hk (by decide)) (fun x N hxN => by
  obtain ⟨⟨r', hr', hI, hS⟩, hx⟩ := hxN
  refine ⟨hS 1000042 (by decide), _, m_without hI.rf hI.rb hI.hS (by decide), fun y N2 hyN => ?_⟩
  obtain ⟨u, hy⟩ := hyN
  have e8 : gI N 568 = gI M 568 := hS 568 (by decide)
  have e9 : gI N 569 = gI M 569 := hS 569 (by decide)
  try rw [e8] at hy
  try rw [e9] at hy
  try rw [mR_f e9] at hy
  try rw [pcI_eq e8 e9] at hy
  try rw [alk_e e8 e9] at hy
  try rw [tk_eq (a := 0) e8 e9] at hy
  try rw [bsT_f e8 e9] at hy
  try rw [tk_w e8] at hy
  try rw [rwW_f e8 e9] at hy
  have z := INV_np hI u (fun j z => z.elim)
  refine ⟨?_, z.2.trans (hS 1000042 (by decide)), r', z.1.le (by omega)⟩
  exact by
      rcases hx with ⟨a0, a⟩ | ⟨a0, a⟩
      · rcases hy with ⟨b0, b⟩ | ⟨b0, b⟩
        · exact b.trans a.symm
        · exact absurd a0 b0
      · rcases hy with ⟨b0, b⟩ | ⟨b0, b⟩
        · exact absurd b0 a0
        · exact b.trans a.symm)
theorem pr_doubled {r : abRf} {M : abMem} {k : Int} {L : Nat} (h : INV r M k) {l w : Int} (hk : k ≤ 900000) : PR L 114 258 [vi l, vi w] k M := PR_i (x_doubled h.rf (cur_in r) rfl h hk (by decide)) (fun x N hxN => by
  obtain ⟨⟨r', hr', hI, hS⟩, hx⟩ := hxN
  refine ⟨hS 1000042 (by decide), _, m_doubled hI.rf hI.rb hI.hS (by decide), fun y N2 hyN => ?_⟩
  obtain ⟨u, hy⟩ := hyN
  have e8 : gI N 568 = gI M 568 := hS 568 (by decide)
  have e9 : gI N 569 = gI M 569 := hS 569 (by decide)
  try rw [e8] at hy
  try rw [e9] at hy
  try rw [mR_f e9] at hy
  try rw [pcI_eq e8 e9] at hy
  try rw [alk_e e8 e9] at hy
  try rw [tk_eq (a := 0) e8 e9] at hy
  try rw [bsT_f e8 e9] at hy
  try rw [tk_w e8] at hy
  try rw [rwW_f e8 e9] at hy
  have z := INV_np hI u (fun j z => z.elim)
  refine ⟨?_, z.2.trans (hS 1000042 (by decide)), r', z.1.le (by omega)⟩
  exact by
      rcases hx with ⟨a0, a⟩ | ⟨a0, a⟩
      · rcases hy with ⟨b0, b⟩ | ⟨b0, b⟩
        · rcases a with ⟨a1, a2⟩ | ⟨a1, a2⟩ | ⟨a1, a2⟩ <;> rcases b with ⟨b1, b2⟩ | ⟨b1, b2⟩ | ⟨b1, b2⟩ <;> first | (exfalso; omega) | exact b2.trans a2.symm
        · exact absurd a0 b0
      · rcases hy with ⟨b0, b⟩ | ⟨b0, b⟩
        · exact absurd b0 a0
        · exact b.trans a.symm)
theorem pr_marks {r : abRf} {M : abMem} {k : Int} {L : Nat} (h : INV r M k) {l : Int} : PR L 98 224 [vi l] k M := PR_i (x_marks h.rf (cur_in r) rfl h (by decide)) (fun x N hxN => by
  obtain ⟨g, hI, hx⟩ := hxN
  refine ⟨g.at 1000042 (fun z => by omega), _, m_marks hI.rf hI.rb (by decide), fun y N2 hyN => ?_⟩
  obtain ⟨u, hy⟩ := hyN
  have e8 : gI N 568 = gI M 568 := g.at 568 (fun z => by omega)
  have e9 : gI N 569 = gI M 569 := g.at 569 (fun z => by omega)
  try rw [e8] at hy
  try rw [e9] at hy
  try rw [mR_f e9] at hy
  try rw [pcI_eq e8 e9] at hy
  try rw [alk_e e8 e9] at hy
  try rw [tk_eq (a := 0) e8 e9] at hy
  try rw [bsT_f e8 e9] at hy
  try rw [tk_w e8] at hy
  try rw [rwW_f e8 e9] at hy
  have z := INV_s5 hI u (fun a z => by omega) (fun j z => by omega)
  refine ⟨?_, z.2.trans (g.at 1000042 (fun z => by omega)), r, z.1.le (by omega)⟩
  exact by
      rcases hx with ⟨a0, a⟩ | ⟨a0, a⟩
      · rcases hy with ⟨b0, b⟩ | ⟨b0, b⟩
        · exact isMk_eq b a
        · exact absurd a0 b0
      · rcases hy with ⟨b0, b⟩ | ⟨b0, b⟩
        · exact absurd b0 a0
        · exact b.trans a.symm)
theorem pr_cycle {r : abRf} {M : abMem} {k : Int} {L : Nat} (h : INV r M k) {l w : Int} : PR L 97 214 [vi l, vi w] k M := ⟨_, x_cycle h.rf (cur_in r) rfl h (by decide), fun v A N hv => by
  obtain ⟨rfl, rfl, x, rfl, hx⟩ := hv
  exact ⟨rfl, rfl, x, rfl, _, m_cycle h.rf h.rb (by decide), fun v2 A2 N2 h2 => by
    obtain ⟨rfl, y, rfl, u, hy⟩ := h2
    have z := INV_s5 h u (fun a z => z.elim) (fun j z => by omega)
    have e : y = x := by
      rcases hx with ⟨a0, a⟩ | ⟨a0, a⟩
      · rcases hy with ⟨b0, b⟩ | ⟨b0, b⟩
        · exact cyV_eq b a
        · exact absurd a0 b0
      · rcases hy with ⟨b0, b⟩ | ⟨b0, b⟩
        · exact absurd b0 a0
        · exact b.trans a.symm
    exact ⟨rfl, by rw [e], z.2, r, z.1.le (by omega)⟩⟩⟩
theorem pr_twos {r : abRf} {M : abMem} {k : Int} {L : Nat} (h : INV r M k) {l : Int} : PR L 120 266 [vi l] k M := PR_i (x_twos h.rf (cur_in r) rfl h (by decide)) (fun x N hxN => by
  have hm : RF r N ∧ ∀ a : Nat, 567 ≤ a → gI N a = gI M a := by
    rcases hxN with ⟨_, ⟨_, _, u⟩ | ⟨_, _, u⟩⟩ | ⟨_, _, u⟩
    · exact ⟨u.RF h.rf, fun a ha => u.at a (fun z => by omega)⟩
    · exact ⟨u.1.RF h.rf, fun a ha => u.1.at a (fun z => by omega)⟩
    · rw [u]; exact ⟨h.rf, fun _ _ => rfl⟩
  have e8 : gI N 568 = gI M 568 := hm.2 568 (by decide)
  have e9 : gI N 569 = gI M 569 := hm.2 569 (by decide)
  have hi := h.hi.1
  refine ⟨hm.2 1000042 (by decide), _, m_twos hm.1 (RB_e h.rb e8 e9) (by rw [hm.2 567 (by decide)]; exact ⟨hi.2.1, hi.2.2⟩) (by decide), fun y N2 hy => ?_⟩
  try rw [e8] at hy
  try rw [e9] at hy
  try rw [mR_f e9] at hy
  try rw [pcI_eq e8 e9] at hy
  try rw [alk_e e8 e9] at hy
  try rw [tk_eq (a := 0) e8 e9] at hy
  try rw [bsT_f e8 e9] at hy
  try rw [tk_w e8] at hy
  try rw [rwW_f e8 e9] at hy
  rcases hxN with ⟨a, ⟨b, c, u⟩ | ⟨b, c, u⟩⟩ | ⟨a, c, u⟩ <;> rcases hy with ⟨a2, ⟨b2, c2, w⟩ | ⟨b2, c2, w⟩⟩ | ⟨a2, c2, w⟩ <;> first | exact absurd a a2 | exact absurd a2 a | exact absurd b b2 | exact absurd b2 b | (exfalso; omega) | skip
  · have z := INV_np (INV_546 h u) w (fun j z => z.elim)
    exact ⟨c2.trans c.symm, z.2.trans (hm.2 1000042 (by decide)), r, z.1.le (by omega)⟩
  · exact ⟨c2.trans c.symm, (w.1.at 1000042 (fun z => by omega) (by decide)).trans (hm.2 1000042 (by decide)), r, (act_inv h u w).le (by omega)⟩
  · exact ⟨c2.trans c.symm, by rw [w, u], r, by rw [w, u]; exact h.le (by omega)⟩)
theorem pr_expose {r : abRf} {M : abMem} {k : Int} {L : Nat} (h : INV r M k) {l t u_ v : Int} : PR L 115 260 [vi l, vi t, vi u_, vi v] k M := PR_i (x_expose h.rf (cur_in r) rfl h (by decide)) (fun x N hxN => by
  have hm : RF r N ∧ ∀ a : Nat, 567 ≤ a → gI N a = gI M a := by
    rcases hxN with ⟨_, ⟨_, _, u⟩ | ⟨_, _, u⟩⟩ | ⟨_, _, u⟩
    · exact ⟨u.RF h.rf, fun a ha => u.at a (fun z => by omega)⟩
    · exact ⟨u.1.RF h.rf, fun a ha => u.1.at a (fun z => by omega)⟩
    · rw [u]; exact ⟨h.rf, fun _ _ => rfl⟩
  have e8 : gI N 568 = gI M 568 := hm.2 568 (by decide)
  have e9 : gI N 569 = gI M 569 := hm.2 569 (by decide)
  have hi := h.hi.1
  refine ⟨hm.2 1000042 (by decide), _, m_expose hm.1 (RB_e h.rb e8 e9) (by rw [hm.2 567 (by decide)]; exact ⟨hi.2.1, hi.2.2⟩) (by decide), fun y N2 hy => ?_⟩
  try rw [e8] at hy
  try rw [e9] at hy
  try rw [mR_f e9] at hy
  try rw [pcI_eq e8 e9] at hy
  try rw [alk_e e8 e9] at hy
  try rw [tk_eq (a := 0) e8 e9] at hy
  try rw [bsT_f e8 e9] at hy
  try rw [tk_w e8] at hy
  try rw [rwW_f e8 e9] at hy
  rcases hxN with ⟨a, ⟨b, c, u⟩ | ⟨b, c, u⟩⟩ | ⟨a, c, u⟩ <;> rcases hy with ⟨a2, ⟨b2, c2, w⟩ | ⟨b2, c2, w⟩⟩ | ⟨a2, c2, w⟩ <;> first | exact absurd a a2 | exact absurd a2 a | exact absurd b b2 | exact absurd b2 b | (exfalso; omega) | skip
  · have z := INV_np (INV_546 h u) w (fun j z => z.elim)
    exact ⟨c2.trans c.symm, z.2.trans (hm.2 1000042 (by decide)), r, z.1.le (by omega)⟩
  · exact ⟨c2.trans c.symm, (w.1.at 1000042 (fun z => by omega) (by decide)).trans (hm.2 1000042 (by decide)), r, (act_inv h u w).le (by omega)⟩
  · exact ⟨c2.trans c.symm, by rw [w, u], r, by rw [w, u]; exact h.le (by omega)⟩)
theorem pr_push {r : abRf} {M : abMem} {k : Int} {L : Nat} (h : INV r M k) {l t z : Int} : PR L 116 262 [vi l, vi t, vi z] k M := PR_i (x_push h.rf (cur_in r) rfl h (by decide)) (fun x N hxN => by
  have hm : RF r N ∧ ∀ a : Nat, 567 ≤ a → gI N a = gI M a := by
    rcases hxN with ⟨_, _, u⟩ | ⟨_, _, u⟩
    · exact ⟨u.1.RF h.rf, fun a ha => u.1.at a (fun z => by omega)⟩
    · rw [u]; exact ⟨h.rf, fun _ _ => rfl⟩
  have e8 : gI N 568 = gI M 568 := hm.2 568 (by decide)
  have e9 : gI N 569 = gI M 569 := hm.2 569 (by decide)
  have hi := h.hi.1
  refine ⟨hm.2 1000042 (by decide), _, m_push hm.1 (RB_e h.rb e8 e9) (by rw [hm.2 567 (by decide)]; exact ⟨hi.2.1, hi.2.2⟩) (by decide), fun y N2 hy => ?_⟩
  try rw [e8] at hy
  try rw [e9] at hy
  try rw [mR_f e9] at hy
  try rw [pcI_eq e8 e9] at hy
  try rw [alk_e e8 e9] at hy
  try rw [tk_eq (a := 0) e8 e9] at hy
  try rw [bsT_f e8 e9] at hy
  try rw [tk_w e8] at hy
  try rw [rwW_f e8 e9] at hy
  rcases hxN with ⟨a, c, u⟩ | ⟨a, c, u⟩ <;> rcases hy with ⟨a2, c2, w⟩ | ⟨a2, c2, w⟩ <;> first | exact absurd a a2 | exact absurd a2 a | (exfalso; omega) | skip
  · exact ⟨c2.trans c.symm, (w.1.at 1000042 (fun z => by omega) (by decide)).trans (hm.2 1000042 (by decide)), r, (act_inv h u w).le (by omega)⟩
  · exact ⟨c2.trans c.symm, by rw [w, u], r, by rw [w, u]; exact h.le (by omega)⟩)
theorem pr_pull {r : abRf} {M : abMem} {k : Int} {L : Nat} (h : INV r M k) {l t z : Int} (ht : In32 t) : PR L 117 263 [vi l, vi t, vi z] k M := PR_i (x_pull h.rf (cur_in r) rfl h ht (by decide)) (fun x N hxN => by
  have hm : RF r N ∧ ∀ a : Nat, 567 ≤ a → gI N a = gI M a := by
    rcases hxN with ⟨_, _, u⟩ | ⟨_, _, u⟩
    · exact ⟨u.1.RF h.rf, fun a ha => u.1.at a (fun z => by omega)⟩
    · rw [u]; exact ⟨h.rf, fun _ _ => rfl⟩
  have e8 : gI N 568 = gI M 568 := hm.2 568 (by decide)
  have e9 : gI N 569 = gI M 569 := hm.2 569 (by decide)
  have hi := h.hi.1
  refine ⟨hm.2 1000042 (by decide), _, m_pull hm.1 (RB_e h.rb e8 e9) (by rw [hm.2 567 (by decide)]; exact ⟨hi.2.1, hi.2.2⟩) ht (by decide), fun y N2 hy => ?_⟩
  try rw [e8] at hy
  try rw [e9] at hy
  try rw [mR_f e9] at hy
  try rw [pcI_eq e8 e9] at hy
  try rw [alk_e e8 e9] at hy
  try rw [tk_eq (a := 0) e8 e9] at hy
  try rw [bsT_f e8 e9] at hy
  try rw [tk_w e8] at hy
  try rw [rwW_f e8 e9] at hy
  rcases hxN with ⟨a, c, u⟩ | ⟨a, c, u⟩ <;> rcases hy with ⟨a2, c2, w⟩ | ⟨a2, c2, w⟩ <;> first | exact absurd a a2 | exact absurd a2 a | (exfalso; omega) | skip
  · exact ⟨c2.trans c.symm, (w.1.at 1000042 (fun z => by omega) (by decide)).trans (hm.2 1000042 (by decide)), r, (act_inv h u w).le (by omega)⟩
  · exact ⟨c2.trans c.symm, by rw [w, u], r, by rw [w, u]; exact h.le (by omega)⟩)
theorem pr_turn {r : abRf} {M : abMem} {k : Int} {L : Nat} (h : INV r M k) {l z : Int} : PR L 118 264 [vi l, vi z] k M := PR_i (x_turn h.rf (cur_in r) rfl h (by decide)) (fun x N hxN => by
  have hm : RF r N ∧ ∀ a : Nat, 567 ≤ a → gI N a = gI M a := by
    rcases hxN with ⟨_, _, u⟩ | ⟨_, _, u⟩
    · exact ⟨u.1.RF h.rf, fun a ha => u.1.at a (fun z => by omega)⟩
    · rw [u]; exact ⟨h.rf, fun _ _ => rfl⟩
  have e8 : gI N 568 = gI M 568 := hm.2 568 (by decide)
  have e9 : gI N 569 = gI M 569 := hm.2 569 (by decide)
  have hi := h.hi.1
  refine ⟨hm.2 1000042 (by decide), _, m_turn hm.1 (RB_e h.rb e8 e9) (by rw [hm.2 567 (by decide)]; exact ⟨hi.2.1, hi.2.2⟩) (by decide), fun y N2 hy => ?_⟩
  try rw [e8] at hy
  try rw [e9] at hy
  try rw [mR_f e9] at hy
  try rw [pcI_eq e8 e9] at hy
  try rw [alk_e e8 e9] at hy
  try rw [tk_eq (a := 0) e8 e9] at hy
  try rw [bsT_f e8 e9] at hy
  try rw [tk_w e8] at hy
  try rw [rwW_f e8 e9] at hy
  rcases hxN with ⟨a, c, u⟩ | ⟨a, c, u⟩ <;> rcases hy with ⟨a2, c2, w⟩ | ⟨a2, c2, w⟩ <;> first | exact absurd a a2 | exact absurd a2 a | (exfalso; omega) | skip
  · exact ⟨c2.trans c.symm, (w.1.at 1000042 (fun z => by omega) (by decide)).trans (hm.2 1000042 (by decide)), r, (act_inv h u w).le (by omega)⟩
  · exact ⟨c2.trans c.symm, by rw [w, u], r, by rw [w, u]; exact h.le (by omega)⟩)
theorem pr_raise {r : abRf} {M : abMem} {k : Int} {L : Nat} (h : INV r M k) {l : Int} : PR L 119 265 [vi l] k M := PR_i (x_raise h.rf (cur_in r) rfl h (by decide)) (fun x N hxN => by
  have hm : RF r N ∧ ∀ a : Nat, 567 ≤ a → gI N a = gI M a := by
    rcases hxN with ⟨_, ⟨_, _, u⟩ | ⟨_, _, u⟩⟩ | ⟨_, _, u⟩
    · rw [u]; exact ⟨h.rf, fun _ _ => rfl⟩
    · exact ⟨u.1.RF h.rf, fun a ha => u.1.at a (fun z => by omega)⟩
    · rw [u]; exact ⟨h.rf, fun _ _ => rfl⟩
  have e8 : gI N 568 = gI M 568 := hm.2 568 (by decide)
  have e9 : gI N 569 = gI M 569 := hm.2 569 (by decide)
  have hi := h.hi.1
  refine ⟨hm.2 1000042 (by decide), _, m_raise hm.1 (RB_e h.rb e8 e9) (by rw [hm.2 567 (by decide)]; exact ⟨hi.2.1, hi.2.2⟩) (by rw [e8, e9]; exact h.hp2) (by decide), fun y N2 hy => ?_⟩
  try rw [e8] at hy
  try rw [e9] at hy
  try rw [mR_f e9] at hy
  try rw [pcI_eq e8 e9] at hy
  try rw [alk_e e8 e9] at hy
  try rw [tk_eq (a := 0) e8 e9] at hy
  try rw [bsT_f e8 e9] at hy
  try rw [tk_w e8] at hy
  try rw [rwW_f e8 e9] at hy
  rcases hxN with ⟨a, ⟨b, c, u⟩ | ⟨b, c, u⟩⟩ | ⟨a, c, u⟩ <;> rcases hy with ⟨a2, ⟨b2, c2, w⟩ | ⟨b2, c2, w⟩⟩ | ⟨a2, c2, w⟩ <;> first | exact absurd a a2 | exact absurd a2 a | (exfalso; omega) | skip
  · exact ⟨c2.trans c.symm, by rw [w, u], r, by rw [w, u]; exact h.le (by omega)⟩
  · exact ⟨c2.trans c.symm, (w.1.at 1000042 (fun z => by omega) (by decide)).trans (hm.2 1000042 (by decide)), r, (act_inv h u w).le (by omega)⟩
  · exact ⟨c2.trans c.symm, by rw [w, u], r, by rw [w, u]; exact h.le (by omega)⟩)
