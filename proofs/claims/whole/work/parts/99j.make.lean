set_option maxRecDepth 20000 in
set_option maxHeartbeats 4000000 in
theorem ct_72_1 {g h : Int → Option Nat} {q : Int → Int} (A : abAl) (M : abMem) (hA : A.1 = 1) : abW 12 (1, 1200) 72 0 (abEnt (abL 72) [vr (some 1)]) [] (0, 0) (kN A 8 5) (zM M 1 (1 + 1)) (fun v A2 M2 => v = none ∧ A2 = aF A 1 3 ∧ M2 = gF (IQ q) (FF g h) M 1 3) := by
  rw [aF_1 (o := 1) (show kT 1 = (8, 5) from rfl) hA, wF_new (I := IQ q) (F := FF g h)]
  show abW 12 (1, 1200) 72 0 [some (vr (some 1))] [] (0, 0) (aF A 1 2) (wF (IQ q) (FF g h) M 1 2 (fun _ => none) (fun _ => 0)) _
  refine bw_aload rfl rfl ?_
  refine kw_objinit rfl (by decide) (by decide) (by decide) (Nat.le_of_ble_eq_true rfl) ?_
  refine bw_aload rfl rfl ?_
  refine bw_push rfl ?_
  refine kw_newarr rfl rfl (by decide) (by decide) (Nat.le_of_ble_eq_true rfl) (Nat.le_of_ble_eq_true rfl) (by decide) (by decide) ((FF_o (by decide) (by decide)).trans (rr_no (by decide) (fun _ => rfl))) (IQ_z (by decide) (by decide) (by decide)) ?_
  show abW _ _ _ _ _ _ (1, 1200) (aF A 1 3) (wF (IQ q) (FF g h) M 1 3 _ _) _
  refine kw_putR rfl rfl (by decide) ?_
  refine bw_return (st := []) rfl (Nat.le_of_ble_eq_true rfl) (Nat.le_of_ble_eq_true rfl) rfl ⟨rfl, rfl, ?_⟩
  exact wF_fin ((rr_ext (o := 1) (by decide) (fun k => match k with
      | 0 => rfl
      | k + 1 => by rw [up_ne (by omega)]; rfl) (fun j hj => by rw [up_ne (by omega)])).symm.trans (FF_o (by decide) (by decide)).symm) (IQ_z (by decide) (by decide) (by decide)).symm
set_option maxRecDepth 20000 in
set_option maxHeartbeats 4000000 in
theorem ct_18_4 {g h : Int → Option Nat} {q : Int → Int} (A : abAl) (M : abMem) (hA : A.1 = 4) : abW 11 (4, 202) 18 0 (abEnt (abL 18) [vr (some 4)]) [] (0, 0) (kN A 3 11) (zM M 4 (4 + 1)) (fun v A2 M2 => v = none ∧ A2 = aF A 4 9 ∧ M2 = gF (IQ q) (FF g h) M 4 9) := by
  rw [aF_1 (o := 4) (show kT 4 = (3, 11) from rfl) hA, wF_new (I := IQ q) (F := FF g h)]
  show abW 11 (4, 202) 18 0 [some (vr (some 4))] [] (0, 0) (aF A 4 5) (wF (IQ q) (FF g h) M 4 5 (fun _ => none) (fun _ => 0)) _
  refine bw_aload rfl rfl ?_
  refine kw_objinit rfl (by decide) (by decide) (by decide) (Nat.le_of_ble_eq_true rfl) ?_
  refine bw_aload rfl rfl ?_
  refine bw_push rfl ?_
  refine kw_newarr rfl rfl (by decide) (by decide) (Nat.le_of_ble_eq_true rfl) (Nat.le_of_ble_eq_true rfl) (by decide) (by decide) ((FF_o (by decide) (by decide)).trans (rr_no (by decide) (fun _ => rfl))) (IQ_z (by decide) (by decide) (by decide)) ?_
  show abW _ _ _ _ _ _ (1, 96) (aF A 4 6) (wF (IQ q) (FF g h) M 4 6 _ _) _
  refine kw_putR rfl rfl (by decide) ?_
  refine bw_aload rfl rfl ?_
  refine bw_push rfl ?_
  refine kw_newarr rfl rfl (by decide) (by decide) (Nat.le_of_ble_eq_true rfl) (Nat.le_of_ble_eq_true rfl) (by decide) (by decide) ((FF_o (by decide) (by decide)).trans (rr_no (by decide) (fun _ => rfl))) (IQ_z (by decide) (by decide) (by decide)) ?_
  show abW _ _ _ _ _ _ (2, 192) (aF A 4 7) (wF (IQ q) (FF g h) M 4 7 _ _) _
  refine kw_putR rfl rfl (by decide) ?_
  refine bw_aload rfl rfl ?_
  refine bw_push rfl ?_
  refine kw_newarr rfl rfl (by decide) (by decide) (Nat.le_of_ble_eq_true rfl) (Nat.le_of_ble_eq_true rfl) (by decide) (by decide) ((FF_o (by decide) (by decide)).trans (rr_no (by decide) (fun _ => rfl))) (IQ_z (by decide) (by decide) (by decide)) ?_
  show abW _ _ _ _ _ _ (3, 197) (aF A 4 8) (wF (IQ q) (FF g h) M 4 8 _ _) _
  refine kw_putR rfl rfl (by decide) ?_
  refine bw_aload rfl rfl ?_
  refine bw_push rfl ?_
  refine kw_newarr rfl rfl (by decide) (by decide) (Nat.le_of_ble_eq_true rfl) (Nat.le_of_ble_eq_true rfl) (by decide) (by decide) ((FF_o (by decide) (by decide)).trans (rr_no (by decide) (fun _ => rfl))) (IQ_z (by decide) (by decide) (by decide)) ?_
  show abW _ _ _ _ _ _ (4, 202) (aF A 4 9) (wF (IQ q) (FF g h) M 4 9 _ _) _
  refine kw_putR rfl rfl (by decide) ?_
  refine bw_return (st := []) rfl (Nat.le_of_ble_eq_true rfl) (Nat.le_of_ble_eq_true rfl) rfl ⟨rfl, rfl, ?_⟩
  exact wF_fin ((rr_ext (o := 4) (by decide) (fun k => match k with
      | 0 => rfl
      | 1 => rfl
      | 2 => rfl
      | 3 => rfl
      | k + 4 => by rw [up_ne (by omega), up_ne (by omega), up_ne (by omega), up_ne (by omega)]; rfl) (fun j hj => by rw [up_ne (by omega), up_ne (by omega), up_ne (by omega), up_ne (by omega)])).symm.trans (FF_o (by decide) (by decide)).symm) (IQ_z (by decide) (by decide) (by decide)).symm
set_option maxRecDepth 20000 in
set_option maxHeartbeats 4000000 in
theorem ct_34_3 {g h : Int → Option Nat} {q : Int → Int} (A : abAl) (M : abMem) (hA : A.1 = 3) : abW 12 (6, 220) 34 0 (abEnt (abL 34) [vr (some 3), vr (some 1)]) [] (0, 0) (kN A 5 7) (zM M 3 (3 + 1)) (fun v A2 M2 => v = none ∧ A2 = aF A 3 10 ∧ M2 = gF (IQ q) (FF g h) M 3 10) := by
  rw [aF_1 (o := 3) (show kT 3 = (5, 7) from rfl) hA, wF_new (I := IQ q) (F := FF g h)]
  show abW 12 (6, 220) 34 0 [some (vr (some 3)), some (vr (some 1))] [] (0, 0) (aF A 3 4) (wF (IQ q) (FF g h) M 3 4 (fun _ => none) (fun _ => 0)) _
  refine bw_aload rfl rfl ?_
  refine kw_objinit rfl (by decide) (by decide) (by decide) (Nat.le_of_ble_eq_true rfl) ?_
  refine bw_aload rfl rfl ?_
  refine bw_new rfl (Nat.le_of_ble_eq_true rfl) (Nat.le_of_ble_eq_true rfl) (by show 4 + 1 < 1000000; decide) ?_
  first | refine bw_dup rfl ?_ | refine bw_dupi rfl ?_
  refine bw_callIN (e := 11) (mc := 4) (ms := 202) (as := []) rfl rfl rfl rfl (Nat.le_of_ble_eq_true rfl) (Nat.le_of_ble_eq_true rfl) (Nat.le_of_ble_eq_true rfl) (Nat.le_of_ble_eq_true rfl) rfl (ct_18_4 (g := g) (h := h) (q := q) (aF A 3 4) (wF (IQ q) (FF g h) M 3 4 _ _) rfl) (fun v A2 M2 hq => ?_)
  obtain ⟨rfl, rfl, rfl⟩ := hq
  rw [aF_aF (by decide) (by decide), wF_g (by decide) (by decide)]
  show abW _ _ _ _ _ _ (5, 213) (aF A 3 9) (wF (IQ q) (FF g h) M 3 9 _ _) _
  refine kw_putR rfl rfl (by decide) ?_
  refine bw_aload rfl rfl ?_
  refine bw_push rfl ?_
  refine kw_newarr rfl rfl (by decide) (by decide) (Nat.le_of_ble_eq_true rfl) (Nat.le_of_ble_eq_true rfl) (by decide) (by decide) ((FF_o (by decide) (by decide)).trans (rr_no (by decide) (fun _ => rfl))) (IQ_z (by decide) (by decide) (by decide)) ?_
  show abW _ _ _ _ _ _ (6, 220) (aF A 3 10) (wF (IQ q) (FF g h) M 3 10 _ _) _
  refine kw_putR rfl rfl (by decide) ?_
  refine bw_aload rfl rfl ?_
  refine bw_push rfl ?_
  refine kw_putI rfl rfl (by decide) ?_
  refine bw_aload rfl rfl ?_
  refine bw_aload rfl rfl ?_
  refine kw_putR rfl rfl (by decide) ?_
  refine bw_return (st := []) rfl (Nat.le_of_ble_eq_true rfl) (Nat.le_of_ble_eq_true rfl) rfl ⟨rfl, rfl, ?_⟩
  exact wF_fin ((rr_ext (o := 3) (by decide) (fun k => match k with
      | 0 => rfl
      | 1 => rfl
      | 2 => rfl
      | 3 => rfl
      | k + 4 => by rw [up_ne (by omega), up_ne (by omega), up_ne (by omega)]; rfl) (fun j hj => by rw [up_ne (by omega), up_ne (by omega), up_ne (by omega)])).symm.trans (FF_o (by decide) (by decide)).symm) (by
    funext j
    show up (fun _ => 0) 6 (-1) j = (if 3 = 3 ∧ j = 6 then -1 else if 3 = 567 ∧ (j = 7 ∨ j = 12 ∨ j = 21) then -1 else 0)
    by_cases z : j = 6
    · rw [up_eq z, if_pos ⟨rfl, z⟩]
    · rw [up_ne z, if_neg (fun k => z k.2), if_neg (fun k => absurd k.1 (by decide))])
theorem rz_11_6 : ∀ t : Nat, t < 6 → rr r0 (11 + 1 + t) = fun _ => none
  | 0, _ => rr_no (by decide) (fun _ => rfl)
  | 1, _ => rr_no (by decide) (fun _ => rfl)
  | 2, _ => rr_no (by decide) (fun _ => rfl)
  | 3, _ => rr_no (by decide) (fun _ => rfl)
  | 4, _ => rr_no (by decide) (fun _ => rfl)
  | 5, _ => rr_no (by decide) (fun _ => rfl)
  | t + 6, h => absurd h (by omega)
set_option maxRecDepth 20000 in
set_option maxHeartbeats 4000000 in
theorem ct_68_10 {g h : Int → Option Nat} {q : Int → Int} (A : abAl) (M : abMem) (hA : A.1 = 10) : abW 12 (8, 588) 68 0 (abEnt (abL 68) [vr (some 10)]) [] (0, 0) (kN A 7 2) (zM M 10 (10 + 1)) (fun v A2 M2 => v = none ∧ A2 = aF A 10 19 ∧ M2 = gF (IQ q) (FF g h) M 10 19) := by
  rw [aF_1 (o := 10) (show kT 10 = (7, 2) from rfl) hA, wF_new (I := IQ q) (F := FF g h)]
  show abW 12 (8, 588) 68 0 [some (vr (some 10))] [] (0, 0) (aF A 10 11) (wF (IQ q) (FF g h) M 10 11 (fun _ => none) (fun _ => 0)) _
  refine bw_aload rfl rfl ?_
  refine kw_objinit rfl (by decide) (by decide) (by decide) (Nat.le_of_ble_eq_true rfl) ?_
  refine bw_aload rfl rfl ?_
  refine bw_push rfl ?_
  refine bw_push rfl ?_
  refine kw_mnewarr (l := 6) rfl rfl (by decide) (by decide) (by decide) (by decide) (Nat.le_of_ble_eq_true rfl) (Nat.le_of_ble_eq_true rfl) (by decide) (by decide) ((FF_o (by decide) (by decide)).trans (rr_rw (l := 6) (by decide) (fun _ => rfl))) (fun y y0 y1 => ?_) (fun y y0 y1 => IQ_z (by omega) (by omega) (by omega)) ?_
  · rw [FF_o (by omega) (by omega), show y = 11 + 1 + (y - (11 + 1)) by omega]; exact rz_11_6 _ (by omega)
  show abW _ _ _ _ _ _ (7, 582) (aF A 10 18) (wF (IQ q) (FF g h) M 10 18 _ _) _
  refine kw_putR rfl rfl (by decide) ?_
  refine bw_aload rfl rfl ?_
  refine bw_push rfl ?_
  refine kw_newarr rfl rfl (by decide) (by decide) (Nat.le_of_ble_eq_true rfl) (Nat.le_of_ble_eq_true rfl) (by decide) (by decide) ((FF_o (by decide) (by decide)).trans (rr_no (by decide) (fun _ => rfl))) (IQ_z (by decide) (by decide) (by decide)) ?_
  show abW _ _ _ _ _ _ (8, 588) (aF A 10 19) (wF (IQ q) (FF g h) M 10 19 _ _) _
  refine kw_putR rfl rfl (by decide) ?_
  refine bw_return (st := []) rfl (Nat.le_of_ble_eq_true rfl) (Nat.le_of_ble_eq_true rfl) rfl ⟨rfl, rfl, ?_⟩
  exact wF_fin ((rr_ext (o := 10) (by decide) (fun k => match k with
      | 0 => rfl
      | 1 => rfl
      | k + 2 => by rw [up_ne (by omega), up_ne (by omega)]; rfl) (fun j hj => by rw [up_ne (by omega), up_ne (by omega)])).symm.trans (FF_o (by decide) (by decide)).symm) (IQ_z (by decide) (by decide) (by decide)).symm
theorem rz_22_6 : ∀ t : Nat, t < 6 → rr r0 (22 + 1 + t) = fun _ => none
  | 0, _ => rr_no (by decide) (fun _ => rfl)
  | 1, _ => rr_no (by decide) (fun _ => rfl)
  | 2, _ => rr_no (by decide) (fun _ => rfl)
  | 3, _ => rr_no (by decide) (fun _ => rfl)
  | 4, _ => rr_no (by decide) (fun _ => rfl)
  | 5, _ => rr_no (by decide) (fun _ => rfl)
  | t + 6, h => absurd h (by omega)
set_option maxRecDepth 20000 in
set_option maxHeartbeats 4000000 in
theorem ct_68_21 {g h : Int → Option Nat} {q : Int → Int} (A : abAl) (M : abMem) (hA : A.1 = 21) : abW 11 (8, 588) 68 0 (abEnt (abL 68) [vr (some 21)]) [] (0, 0) (kN A 7 2) (zM M 21 (21 + 1)) (fun v A2 M2 => v = none ∧ A2 = aF A 21 30 ∧ M2 = gF (IQ q) (FF g h) M 21 30) := by
  rw [aF_1 (o := 21) (show kT 21 = (7, 2) from rfl) hA, wF_new (I := IQ q) (F := FF g h)]
  show abW 11 (8, 588) 68 0 [some (vr (some 21))] [] (0, 0) (aF A 21 22) (wF (IQ q) (FF g h) M 21 22 (fun _ => none) (fun _ => 0)) _
  refine bw_aload rfl rfl ?_
  refine kw_objinit rfl (by decide) (by decide) (by decide) (Nat.le_of_ble_eq_true rfl) ?_
  refine bw_aload rfl rfl ?_
  refine bw_push rfl ?_
  refine bw_push rfl ?_
  refine kw_mnewarr (l := 6) rfl rfl (by decide) (by decide) (by decide) (by decide) (Nat.le_of_ble_eq_true rfl) (Nat.le_of_ble_eq_true rfl) (by decide) (by decide) ((FF_o (by decide) (by decide)).trans (rr_rw (l := 6) (by decide) (fun _ => rfl))) (fun y y0 y1 => ?_) (fun y y0 y1 => IQ_z (by omega) (by omega) (by omega)) ?_
  · rw [FF_o (by omega) (by omega), show y = 22 + 1 + (y - (22 + 1)) by omega]; exact rz_22_6 _ (by omega)
  show abW _ _ _ _ _ _ (7, 582) (aF A 21 29) (wF (IQ q) (FF g h) M 21 29 _ _) _
  refine kw_putR rfl rfl (by decide) ?_
  refine bw_aload rfl rfl ?_
  refine bw_push rfl ?_
  refine kw_newarr rfl rfl (by decide) (by decide) (Nat.le_of_ble_eq_true rfl) (Nat.le_of_ble_eq_true rfl) (by decide) (by decide) ((FF_o (by decide) (by decide)).trans (rr_no (by decide) (fun _ => rfl))) (IQ_z (by decide) (by decide) (by decide)) ?_
  show abW _ _ _ _ _ _ (8, 588) (aF A 21 30) (wF (IQ q) (FF g h) M 21 30 _ _) _
  refine kw_putR rfl rfl (by decide) ?_
  refine bw_return (st := []) rfl (Nat.le_of_ble_eq_true rfl) (Nat.le_of_ble_eq_true rfl) rfl ⟨rfl, rfl, ?_⟩
  exact wF_fin ((rr_ext (o := 21) (by decide) (fun k => match k with
      | 0 => rfl
      | 1 => rfl
      | k + 2 => by rw [up_ne (by omega), up_ne (by omega)]; rfl) (fun j hj => by rw [up_ne (by omega), up_ne (by omega)])).symm.trans (FF_o (by decide) (by decide)).symm) (IQ_z (by decide) (by decide) (by decide)).symm
theorem rz_31_6 : ∀ t : Nat, t < 6 → rr r0 (31 + 1 + t) = fun _ => none
  | 0, _ => rr_no (by decide) (fun _ => rfl)
  | 1, _ => rr_no (by decide) (fun _ => rfl)
  | 2, _ => rr_no (by decide) (fun _ => rfl)
  | 3, _ => rr_no (by decide) (fun _ => rfl)
  | 4, _ => rr_no (by decide) (fun _ => rfl)
  | 5, _ => rr_no (by decide) (fun _ => rfl)
  | t + 6, h => absurd h (by omega)
set_option maxRecDepth 20000 in
set_option maxHeartbeats 4000000 in
theorem ct_68_30 {g h : Int → Option Nat} {q : Int → Int} (A : abAl) (M : abMem) (hA : A.1 = 30) : abW 11 (8, 588) 68 0 (abEnt (abL 68) [vr (some 30)]) [] (0, 0) (kN A 7 2) (zM M 30 (30 + 1)) (fun v A2 M2 => v = none ∧ A2 = aF A 30 39 ∧ M2 = gF (IQ q) (FF g h) M 30 39) := by
  rw [aF_1 (o := 30) (show kT 30 = (7, 2) from rfl) hA, wF_new (I := IQ q) (F := FF g h)]
  show abW 11 (8, 588) 68 0 [some (vr (some 30))] [] (0, 0) (aF A 30 31) (wF (IQ q) (FF g h) M 30 31 (fun _ => none) (fun _ => 0)) _
  refine bw_aload rfl rfl ?_
  refine kw_objinit rfl (by decide) (by decide) (by decide) (Nat.le_of_ble_eq_true rfl) ?_
  refine bw_aload rfl rfl ?_
  refine bw_push rfl ?_
  refine bw_push rfl ?_
  refine kw_mnewarr (l := 6) rfl rfl (by decide) (by decide) (by decide) (by decide) (Nat.le_of_ble_eq_true rfl) (Nat.le_of_ble_eq_true rfl) (by decide) (by decide) ((FF_o (by decide) (by decide)).trans (rr_rw (l := 6) (by decide) (fun _ => rfl))) (fun y y0 y1 => ?_) (fun y y0 y1 => IQ_z (by omega) (by omega) (by omega)) ?_
  · rw [FF_o (by omega) (by omega), show y = 31 + 1 + (y - (31 + 1)) by omega]; exact rz_31_6 _ (by omega)
  show abW _ _ _ _ _ _ (7, 582) (aF A 30 38) (wF (IQ q) (FF g h) M 30 38 _ _) _
  refine kw_putR rfl rfl (by decide) ?_
  refine bw_aload rfl rfl ?_
  refine bw_push rfl ?_
  refine kw_newarr rfl rfl (by decide) (by decide) (Nat.le_of_ble_eq_true rfl) (Nat.le_of_ble_eq_true rfl) (by decide) (by decide) ((FF_o (by decide) (by decide)).trans (rr_no (by decide) (fun _ => rfl))) (IQ_z (by decide) (by decide) (by decide)) ?_
  show abW _ _ _ _ _ _ (8, 588) (aF A 30 39) (wF (IQ q) (FF g h) M 30 39 _ _) _
  refine kw_putR rfl rfl (by decide) ?_
  refine bw_return (st := []) rfl (Nat.le_of_ble_eq_true rfl) (Nat.le_of_ble_eq_true rfl) rfl ⟨rfl, rfl, ?_⟩
  exact wF_fin ((rr_ext (o := 30) (by decide) (fun k => match k with
      | 0 => rfl
      | 1 => rfl
      | k + 2 => by rw [up_ne (by omega), up_ne (by omega)]; rfl) (fun j hj => by rw [up_ne (by omega), up_ne (by omega)])).symm.trans (FF_o (by decide) (by decide)).symm) (IQ_z (by decide) (by decide) (by decide)).symm
theorem rz_40_6 : ∀ t : Nat, t < 6 → rr r0 (40 + 1 + t) = fun _ => none
  | 0, _ => rr_no (by decide) (fun _ => rfl)
  | 1, _ => rr_no (by decide) (fun _ => rfl)
  | 2, _ => rr_no (by decide) (fun _ => rfl)
  | 3, _ => rr_no (by decide) (fun _ => rfl)
  | 4, _ => rr_no (by decide) (fun _ => rfl)
  | 5, _ => rr_no (by decide) (fun _ => rfl)
  | t + 6, h => absurd h (by omega)
set_option maxRecDepth 20000 in
set_option maxHeartbeats 4000000 in
theorem ct_68_39 {g h : Int → Option Nat} {q : Int → Int} (A : abAl) (M : abMem) (hA : A.1 = 39) : abW 11 (8, 588) 68 0 (abEnt (abL 68) [vr (some 39)]) [] (0, 0) (kN A 7 2) (zM M 39 (39 + 1)) (fun v A2 M2 => v = none ∧ A2 = aF A 39 48 ∧ M2 = gF (IQ q) (FF g h) M 39 48) := by
  rw [aF_1 (o := 39) (show kT 39 = (7, 2) from rfl) hA, wF_new (I := IQ q) (F := FF g h)]
  show abW 11 (8, 588) 68 0 [some (vr (some 39))] [] (0, 0) (aF A 39 40) (wF (IQ q) (FF g h) M 39 40 (fun _ => none) (fun _ => 0)) _
  refine bw_aload rfl rfl ?_
  refine kw_objinit rfl (by decide) (by decide) (by decide) (Nat.le_of_ble_eq_true rfl) ?_
  refine bw_aload rfl rfl ?_
  refine bw_push rfl ?_
  refine bw_push rfl ?_
  refine kw_mnewarr (l := 6) rfl rfl (by decide) (by decide) (by decide) (by decide) (Nat.le_of_ble_eq_true rfl) (Nat.le_of_ble_eq_true rfl) (by decide) (by decide) ((FF_o (by decide) (by decide)).trans (rr_rw (l := 6) (by decide) (fun _ => rfl))) (fun y y0 y1 => ?_) (fun y y0 y1 => IQ_z (by omega) (by omega) (by omega)) ?_
  · rw [FF_o (by omega) (by omega), show y = 40 + 1 + (y - (40 + 1)) by omega]; exact rz_40_6 _ (by omega)
  show abW _ _ _ _ _ _ (7, 582) (aF A 39 47) (wF (IQ q) (FF g h) M 39 47 _ _) _
  refine kw_putR rfl rfl (by decide) ?_
  refine bw_aload rfl rfl ?_
  refine bw_push rfl ?_
  refine kw_newarr rfl rfl (by decide) (by decide) (Nat.le_of_ble_eq_true rfl) (Nat.le_of_ble_eq_true rfl) (by decide) (by decide) ((FF_o (by decide) (by decide)).trans (rr_no (by decide) (fun _ => rfl))) (IQ_z (by decide) (by decide) (by decide)) ?_
  show abW _ _ _ _ _ _ (8, 588) (aF A 39 48) (wF (IQ q) (FF g h) M 39 48 _ _) _
  refine kw_putR rfl rfl (by decide) ?_
  refine bw_return (st := []) rfl (Nat.le_of_ble_eq_true rfl) (Nat.le_of_ble_eq_true rfl) rfl ⟨rfl, rfl, ?_⟩
  exact wF_fin ((rr_ext (o := 39) (by decide) (fun k => match k with
      | 0 => rfl
      | 1 => rfl
      | k + 2 => by rw [up_ne (by omega), up_ne (by omega)]; rfl) (fun j hj => by rw [up_ne (by omega), up_ne (by omega)])).symm.trans (FF_o (by decide) (by decide)).symm) (IQ_z (by decide) (by decide) (by decide)).symm
theorem rz_49_6 : ∀ t : Nat, t < 6 → rr r0 (49 + 1 + t) = fun _ => none
  | 0, _ => rr_no (by decide) (fun _ => rfl)
  | 1, _ => rr_no (by decide) (fun _ => rfl)
  | 2, _ => rr_no (by decide) (fun _ => rfl)
  | 3, _ => rr_no (by decide) (fun _ => rfl)
  | 4, _ => rr_no (by decide) (fun _ => rfl)
  | 5, _ => rr_no (by decide) (fun _ => rfl)
  | t + 6, h => absurd h (by omega)
set_option maxRecDepth 20000 in
set_option maxHeartbeats 4000000 in
theorem ct_68_48 {g h : Int → Option Nat} {q : Int → Int} (A : abAl) (M : abMem) (hA : A.1 = 48) : abW 11 (8, 588) 68 0 (abEnt (abL 68) [vr (some 48)]) [] (0, 0) (kN A 7 2) (zM M 48 (48 + 1)) (fun v A2 M2 => v = none ∧ A2 = aF A 48 57 ∧ M2 = gF (IQ q) (FF g h) M 48 57) := by
  rw [aF_1 (o := 48) (show kT 48 = (7, 2) from rfl) hA, wF_new (I := IQ q) (F := FF g h)]
  show abW 11 (8, 588) 68 0 [some (vr (some 48))] [] (0, 0) (aF A 48 49) (wF (IQ q) (FF g h) M 48 49 (fun _ => none) (fun _ => 0)) _
  refine bw_aload rfl rfl ?_
  refine kw_objinit rfl (by decide) (by decide) (by decide) (Nat.le_of_ble_eq_true rfl) ?_
  refine bw_aload rfl rfl ?_
  refine bw_push rfl ?_
  refine bw_push rfl ?_
  refine kw_mnewarr (l := 6) rfl rfl (by decide) (by decide) (by decide) (by decide) (Nat.le_of_ble_eq_true rfl) (Nat.le_of_ble_eq_true rfl) (by decide) (by decide) ((FF_o (by decide) (by decide)).trans (rr_rw (l := 6) (by decide) (fun _ => rfl))) (fun y y0 y1 => ?_) (fun y y0 y1 => IQ_z (by omega) (by omega) (by omega)) ?_
  · rw [FF_o (by omega) (by omega), show y = 49 + 1 + (y - (49 + 1)) by omega]; exact rz_49_6 _ (by omega)
  show abW _ _ _ _ _ _ (7, 582) (aF A 48 56) (wF (IQ q) (FF g h) M 48 56 _ _) _
  refine kw_putR rfl rfl (by decide) ?_
  refine bw_aload rfl rfl ?_
  refine bw_push rfl ?_
  refine kw_newarr rfl rfl (by decide) (by decide) (Nat.le_of_ble_eq_true rfl) (Nat.le_of_ble_eq_true rfl) (by decide) (by decide) ((FF_o (by decide) (by decide)).trans (rr_no (by decide) (fun _ => rfl))) (IQ_z (by decide) (by decide) (by decide)) ?_
  show abW _ _ _ _ _ _ (8, 588) (aF A 48 57) (wF (IQ q) (FF g h) M 48 57 _ _) _
  refine kw_putR rfl rfl (by decide) ?_
  refine bw_return (st := []) rfl (Nat.le_of_ble_eq_true rfl) (Nat.le_of_ble_eq_true rfl) rfl ⟨rfl, rfl, ?_⟩
  exact wF_fin ((rr_ext (o := 48) (by decide) (fun k => match k with
      | 0 => rfl
      | 1 => rfl
      | k + 2 => by rw [up_ne (by omega), up_ne (by omega)]; rfl) (fun j hj => by rw [up_ne (by omega), up_ne (by omega)])).symm.trans (FF_o (by decide) (by decide)).symm) (IQ_z (by decide) (by decide) (by decide)).symm
theorem rz_58_6 : ∀ t : Nat, t < 6 → rr r0 (58 + 1 + t) = fun _ => none
  | 0, _ => rr_no (by decide) (fun _ => rfl)
  | 1, _ => rr_no (by decide) (fun _ => rfl)
  | 2, _ => rr_no (by decide) (fun _ => rfl)
  | 3, _ => rr_no (by decide) (fun _ => rfl)
  | 4, _ => rr_no (by decide) (fun _ => rfl)
  | 5, _ => rr_no (by decide) (fun _ => rfl)
  | t + 6, h => absurd h (by omega)
set_option maxRecDepth 20000 in
set_option maxHeartbeats 4000000 in
theorem ct_68_57 {g h : Int → Option Nat} {q : Int → Int} (A : abAl) (M : abMem) (hA : A.1 = 57) : abW 11 (8, 588) 68 0 (abEnt (abL 68) [vr (some 57)]) [] (0, 0) (kN A 7 2) (zM M 57 (57 + 1)) (fun v A2 M2 => v = none ∧ A2 = aF A 57 66 ∧ M2 = gF (IQ q) (FF g h) M 57 66) := by
  rw [aF_1 (o := 57) (show kT 57 = (7, 2) from rfl) hA, wF_new (I := IQ q) (F := FF g h)]
  show abW 11 (8, 588) 68 0 [some (vr (some 57))] [] (0, 0) (aF A 57 58) (wF (IQ q) (FF g h) M 57 58 (fun _ => none) (fun _ => 0)) _
  refine bw_aload rfl rfl ?_
  refine kw_objinit rfl (by decide) (by decide) (by decide) (Nat.le_of_ble_eq_true rfl) ?_
  refine bw_aload rfl rfl ?_
  refine bw_push rfl ?_
  refine bw_push rfl ?_
  refine kw_mnewarr (l := 6) rfl rfl (by decide) (by decide) (by decide) (by decide) (Nat.le_of_ble_eq_true rfl) (Nat.le_of_ble_eq_true rfl) (by decide) (by decide) ((FF_o (by decide) (by decide)).trans (rr_rw (l := 6) (by decide) (fun _ => rfl))) (fun y y0 y1 => ?_) (fun y y0 y1 => IQ_z (by omega) (by omega) (by omega)) ?_
  · rw [FF_o (by omega) (by omega), show y = 58 + 1 + (y - (58 + 1)) by omega]; exact rz_58_6 _ (by omega)
  show abW _ _ _ _ _ _ (7, 582) (aF A 57 65) (wF (IQ q) (FF g h) M 57 65 _ _) _
  refine kw_putR rfl rfl (by decide) ?_
  refine bw_aload rfl rfl ?_
  refine bw_push rfl ?_
  refine kw_newarr rfl rfl (by decide) (by decide) (Nat.le_of_ble_eq_true rfl) (Nat.le_of_ble_eq_true rfl) (by decide) (by decide) ((FF_o (by decide) (by decide)).trans (rr_no (by decide) (fun _ => rfl))) (IQ_z (by decide) (by decide) (by decide)) ?_
  show abW _ _ _ _ _ _ (8, 588) (aF A 57 66) (wF (IQ q) (FF g h) M 57 66 _ _) _
  refine kw_putR rfl rfl (by decide) ?_
  refine bw_return (st := []) rfl (Nat.le_of_ble_eq_true rfl) (Nat.le_of_ble_eq_true rfl) rfl ⟨rfl, rfl, ?_⟩
  exact wF_fin ((rr_ext (o := 57) (by decide) (fun k => match k with
      | 0 => rfl
      | 1 => rfl
      | k + 2 => by rw [up_ne (by omega), up_ne (by omega)]; rfl) (fun j hj => by rw [up_ne (by omega), up_ne (by omega)])).symm.trans (FF_o (by decide) (by decide)).symm) (IQ_z (by decide) (by decide) (by decide)).symm
theorem rz_67_6 : ∀ t : Nat, t < 6 → rr r0 (67 + 1 + t) = fun _ => none
  | 0, _ => rr_no (by decide) (fun _ => rfl)
  | 1, _ => rr_no (by decide) (fun _ => rfl)
  | 2, _ => rr_no (by decide) (fun _ => rfl)
  | 3, _ => rr_no (by decide) (fun _ => rfl)
  | 4, _ => rr_no (by decide) (fun _ => rfl)
  | 5, _ => rr_no (by decide) (fun _ => rfl)
  | t + 6, h => absurd h (by omega)
set_option maxRecDepth 20000 in
set_option maxHeartbeats 4000000 in
theorem ct_68_66 {g h : Int → Option Nat} {q : Int → Int} (A : abAl) (M : abMem) (hA : A.1 = 66) : abW 11 (8, 588) 68 0 (abEnt (abL 68) [vr (some 66)]) [] (0, 0) (kN A 7 2) (zM M 66 (66 + 1)) (fun v A2 M2 => v = none ∧ A2 = aF A 66 75 ∧ M2 = gF (IQ q) (FF g h) M 66 75) := by
  rw [aF_1 (o := 66) (show kT 66 = (7, 2) from rfl) hA, wF_new (I := IQ q) (F := FF g h)]
  show abW 11 (8, 588) 68 0 [some (vr (some 66))] [] (0, 0) (aF A 66 67) (wF (IQ q) (FF g h) M 66 67 (fun _ => none) (fun _ => 0)) _
  refine bw_aload rfl rfl ?_
  refine kw_objinit rfl (by decide) (by decide) (by decide) (Nat.le_of_ble_eq_true rfl) ?_
  refine bw_aload rfl rfl ?_
  refine bw_push rfl ?_
  refine bw_push rfl ?_
  refine kw_mnewarr (l := 6) rfl rfl (by decide) (by decide) (by decide) (by decide) (Nat.le_of_ble_eq_true rfl) (Nat.le_of_ble_eq_true rfl) (by decide) (by decide) ((FF_o (by decide) (by decide)).trans (rr_rw (l := 6) (by decide) (fun _ => rfl))) (fun y y0 y1 => ?_) (fun y y0 y1 => IQ_z (by omega) (by omega) (by omega)) ?_
  · rw [FF_o (by omega) (by omega), show y = 67 + 1 + (y - (67 + 1)) by omega]; exact rz_67_6 _ (by omega)
  show abW _ _ _ _ _ _ (7, 582) (aF A 66 74) (wF (IQ q) (FF g h) M 66 74 _ _) _
  refine kw_putR rfl rfl (by decide) ?_
  refine bw_aload rfl rfl ?_
  refine bw_push rfl ?_
  refine kw_newarr rfl rfl (by decide) (by decide) (Nat.le_of_ble_eq_true rfl) (Nat.le_of_ble_eq_true rfl) (by decide) (by decide) ((FF_o (by decide) (by decide)).trans (rr_no (by decide) (fun _ => rfl))) (IQ_z (by decide) (by decide) (by decide)) ?_
  show abW _ _ _ _ _ _ (8, 588) (aF A 66 75) (wF (IQ q) (FF g h) M 66 75 _ _) _
  refine kw_putR rfl rfl (by decide) ?_
  refine bw_return (st := []) rfl (Nat.le_of_ble_eq_true rfl) (Nat.le_of_ble_eq_true rfl) rfl ⟨rfl, rfl, ?_⟩
  exact wF_fin ((rr_ext (o := 66) (by decide) (fun k => match k with
      | 0 => rfl
      | 1 => rfl
      | k + 2 => by rw [up_ne (by omega), up_ne (by omega)]; rfl) (fun j hj => by rw [up_ne (by omega), up_ne (by omega)])).symm.trans (FF_o (by decide) (by decide)).symm) (IQ_z (by decide) (by decide) (by decide)).symm
theorem rz_76_6 : ∀ t : Nat, t < 6 → rr r0 (76 + 1 + t) = fun _ => none
  | 0, _ => rr_no (by decide) (fun _ => rfl)
  | 1, _ => rr_no (by decide) (fun _ => rfl)
  | 2, _ => rr_no (by decide) (fun _ => rfl)
  | 3, _ => rr_no (by decide) (fun _ => rfl)
  | 4, _ => rr_no (by decide) (fun _ => rfl)
  | 5, _ => rr_no (by decide) (fun _ => rfl)
  | t + 6, h => absurd h (by omega)
set_option maxRecDepth 20000 in
set_option maxHeartbeats 4000000 in
theorem ct_68_75 {g h : Int → Option Nat} {q : Int → Int} (A : abAl) (M : abMem) (hA : A.1 = 75) : abW 11 (8, 588) 68 0 (abEnt (abL 68) [vr (some 75)]) [] (0, 0) (kN A 7 2) (zM M 75 (75 + 1)) (fun v A2 M2 => v = none ∧ A2 = aF A 75 84 ∧ M2 = gF (IQ q) (FF g h) M 75 84) := by
  rw [aF_1 (o := 75) (show kT 75 = (7, 2) from rfl) hA, wF_new (I := IQ q) (F := FF g h)]
  show abW 11 (8, 588) 68 0 [some (vr (some 75))] [] (0, 0) (aF A 75 76) (wF (IQ q) (FF g h) M 75 76 (fun _ => none) (fun _ => 0)) _
  refine bw_aload rfl rfl ?_
  refine kw_objinit rfl (by decide) (by decide) (by decide) (Nat.le_of_ble_eq_true rfl) ?_
  refine bw_aload rfl rfl ?_
  refine bw_push rfl ?_
  refine bw_push rfl ?_
  refine kw_mnewarr (l := 6) rfl rfl (by decide) (by decide) (by decide) (by decide) (Nat.le_of_ble_eq_true rfl) (Nat.le_of_ble_eq_true rfl) (by decide) (by decide) ((FF_o (by decide) (by decide)).trans (rr_rw (l := 6) (by decide) (fun _ => rfl))) (fun y y0 y1 => ?_) (fun y y0 y1 => IQ_z (by omega) (by omega) (by omega)) ?_
  · rw [FF_o (by omega) (by omega), show y = 76 + 1 + (y - (76 + 1)) by omega]; exact rz_76_6 _ (by omega)
  show abW _ _ _ _ _ _ (7, 582) (aF A 75 83) (wF (IQ q) (FF g h) M 75 83 _ _) _
  refine kw_putR rfl rfl (by decide) ?_
  refine bw_aload rfl rfl ?_
  refine bw_push rfl ?_
  refine kw_newarr rfl rfl (by decide) (by decide) (Nat.le_of_ble_eq_true rfl) (Nat.le_of_ble_eq_true rfl) (by decide) (by decide) ((FF_o (by decide) (by decide)).trans (rr_no (by decide) (fun _ => rfl))) (IQ_z (by decide) (by decide) (by decide)) ?_
  show abW _ _ _ _ _ _ (8, 588) (aF A 75 84) (wF (IQ q) (FF g h) M 75 84 _ _) _
  refine kw_putR rfl rfl (by decide) ?_
  refine bw_return (st := []) rfl (Nat.le_of_ble_eq_true rfl) (Nat.le_of_ble_eq_true rfl) rfl ⟨rfl, rfl, ?_⟩
  exact wF_fin ((rr_ext (o := 75) (by decide) (fun k => match k with
      | 0 => rfl
      | 1 => rfl
      | k + 2 => by rw [up_ne (by omega), up_ne (by omega)]; rfl) (fun j hj => by rw [up_ne (by omega), up_ne (by omega)])).symm.trans (FF_o (by decide) (by decide)).symm) (IQ_z (by decide) (by decide) (by decide)).symm
theorem rz_85_6 : ∀ t : Nat, t < 6 → rr r0 (85 + 1 + t) = fun _ => none
  | 0, _ => rr_no (by decide) (fun _ => rfl)
  | 1, _ => rr_no (by decide) (fun _ => rfl)
  | 2, _ => rr_no (by decide) (fun _ => rfl)
  | 3, _ => rr_no (by decide) (fun _ => rfl)
  | 4, _ => rr_no (by decide) (fun _ => rfl)
  | 5, _ => rr_no (by decide) (fun _ => rfl)
  | t + 6, h => absurd h (by omega)
set_option maxRecDepth 20000 in
set_option maxHeartbeats 4000000 in
theorem ct_68_84 {g h : Int → Option Nat} {q : Int → Int} (A : abAl) (M : abMem) (hA : A.1 = 84) : abW 11 (8, 588) 68 0 (abEnt (abL 68) [vr (some 84)]) [] (0, 0) (kN A 7 2) (zM M 84 (84 + 1)) (fun v A2 M2 => v = none ∧ A2 = aF A 84 93 ∧ M2 = gF (IQ q) (FF g h) M 84 93) := by
  rw [aF_1 (o := 84) (show kT 84 = (7, 2) from rfl) hA, wF_new (I := IQ q) (F := FF g h)]
  show abW 11 (8, 588) 68 0 [some (vr (some 84))] [] (0, 0) (aF A 84 85) (wF (IQ q) (FF g h) M 84 85 (fun _ => none) (fun _ => 0)) _
  refine bw_aload rfl rfl ?_
  refine kw_objinit rfl (by decide) (by decide) (by decide) (Nat.le_of_ble_eq_true rfl) ?_
  refine bw_aload rfl rfl ?_
  refine bw_push rfl ?_
  refine bw_push rfl ?_
  refine kw_mnewarr (l := 6) rfl rfl (by decide) (by decide) (by decide) (by decide) (Nat.le_of_ble_eq_true rfl) (Nat.le_of_ble_eq_true rfl) (by decide) (by decide) ((FF_o (by decide) (by decide)).trans (rr_rw (l := 6) (by decide) (fun _ => rfl))) (fun y y0 y1 => ?_) (fun y y0 y1 => IQ_z (by omega) (by omega) (by omega)) ?_
  · rw [FF_o (by omega) (by omega), show y = 85 + 1 + (y - (85 + 1)) by omega]; exact rz_85_6 _ (by omega)
  show abW _ _ _ _ _ _ (7, 582) (aF A 84 92) (wF (IQ q) (FF g h) M 84 92 _ _) _
  refine kw_putR rfl rfl (by decide) ?_
  refine bw_aload rfl rfl ?_
  refine bw_push rfl ?_
  refine kw_newarr rfl rfl (by decide) (by decide) (Nat.le_of_ble_eq_true rfl) (Nat.le_of_ble_eq_true rfl) (by decide) (by decide) ((FF_o (by decide) (by decide)).trans (rr_no (by decide) (fun _ => rfl))) (IQ_z (by decide) (by decide) (by decide)) ?_
  show abW _ _ _ _ _ _ (8, 588) (aF A 84 93) (wF (IQ q) (FF g h) M 84 93 _ _) _
  refine kw_putR rfl rfl (by decide) ?_
  refine bw_return (st := []) rfl (Nat.le_of_ble_eq_true rfl) (Nat.le_of_ble_eq_true rfl) rfl ⟨rfl, rfl, ?_⟩
  exact wF_fin ((rr_ext (o := 84) (by decide) (fun k => match k with
      | 0 => rfl
      | 1 => rfl
      | k + 2 => by rw [up_ne (by omega), up_ne (by omega)]; rfl) (fun j hj => by rw [up_ne (by omega), up_ne (by omega)])).symm.trans (FF_o (by decide) (by decide)).symm) (IQ_z (by decide) (by decide) (by decide)).symm
theorem rz_94_6 : ∀ t : Nat, t < 6 → rr r0 (94 + 1 + t) = fun _ => none
  | 0, _ => rr_no (by decide) (fun _ => rfl)
  | 1, _ => rr_no (by decide) (fun _ => rfl)
  | 2, _ => rr_no (by decide) (fun _ => rfl)
  | 3, _ => rr_no (by decide) (fun _ => rfl)
  | 4, _ => rr_no (by decide) (fun _ => rfl)
  | 5, _ => rr_no (by decide) (fun _ => rfl)
  | t + 6, h => absurd h (by omega)
set_option maxRecDepth 20000 in
set_option maxHeartbeats 4000000 in
theorem ct_68_93 {g h : Int → Option Nat} {q : Int → Int} (A : abAl) (M : abMem) (hA : A.1 = 93) : abW 11 (8, 588) 68 0 (abEnt (abL 68) [vr (some 93)]) [] (0, 0) (kN A 7 2) (zM M 93 (93 + 1)) (fun v A2 M2 => v = none ∧ A2 = aF A 93 102 ∧ M2 = gF (IQ q) (FF g h) M 93 102) := by
  rw [aF_1 (o := 93) (show kT 93 = (7, 2) from rfl) hA, wF_new (I := IQ q) (F := FF g h)]
  show abW 11 (8, 588) 68 0 [some (vr (some 93))] [] (0, 0) (aF A 93 94) (wF (IQ q) (FF g h) M 93 94 (fun _ => none) (fun _ => 0)) _
  refine bw_aload rfl rfl ?_
  refine kw_objinit rfl (by decide) (by decide) (by decide) (Nat.le_of_ble_eq_true rfl) ?_
  refine bw_aload rfl rfl ?_
  refine bw_push rfl ?_
  refine bw_push rfl ?_
  refine kw_mnewarr (l := 6) rfl rfl (by decide) (by decide) (by decide) (by decide) (Nat.le_of_ble_eq_true rfl) (Nat.le_of_ble_eq_true rfl) (by decide) (by decide) ((FF_o (by decide) (by decide)).trans (rr_rw (l := 6) (by decide) (fun _ => rfl))) (fun y y0 y1 => ?_) (fun y y0 y1 => IQ_z (by omega) (by omega) (by omega)) ?_
  · rw [FF_o (by omega) (by omega), show y = 94 + 1 + (y - (94 + 1)) by omega]; exact rz_94_6 _ (by omega)
  show abW _ _ _ _ _ _ (7, 582) (aF A 93 101) (wF (IQ q) (FF g h) M 93 101 _ _) _
  refine kw_putR rfl rfl (by decide) ?_
  refine bw_aload rfl rfl ?_
  refine bw_push rfl ?_
  refine kw_newarr rfl rfl (by decide) (by decide) (Nat.le_of_ble_eq_true rfl) (Nat.le_of_ble_eq_true rfl) (by decide) (by decide) ((FF_o (by decide) (by decide)).trans (rr_no (by decide) (fun _ => rfl))) (IQ_z (by decide) (by decide) (by decide)) ?_
  show abW _ _ _ _ _ _ (8, 588) (aF A 93 102) (wF (IQ q) (FF g h) M 93 102 _ _) _
  refine kw_putR rfl rfl (by decide) ?_
  refine bw_return (st := []) rfl (Nat.le_of_ble_eq_true rfl) (Nat.le_of_ble_eq_true rfl) rfl ⟨rfl, rfl, ?_⟩
  exact wF_fin ((rr_ext (o := 93) (by decide) (fun k => match k with
      | 0 => rfl
      | 1 => rfl
      | k + 2 => by rw [up_ne (by omega), up_ne (by omega)]; rfl) (fun j hj => by rw [up_ne (by omega), up_ne (by omega)])).symm.trans (FF_o (by decide) (by decide)).symm) (IQ_z (by decide) (by decide) (by decide)).symm
theorem rz_103_6 : ∀ t : Nat, t < 6 → rr r0 (103 + 1 + t) = fun _ => none
  | 0, _ => rr_no (by decide) (fun _ => rfl)
  | 1, _ => rr_no (by decide) (fun _ => rfl)
  | 2, _ => rr_no (by decide) (fun _ => rfl)
  | 3, _ => rr_no (by decide) (fun _ => rfl)
  | 4, _ => rr_no (by decide) (fun _ => rfl)
  | 5, _ => rr_no (by decide) (fun _ => rfl)
  | t + 6, h => absurd h (by omega)
set_option maxRecDepth 20000 in
set_option maxHeartbeats 4000000 in
theorem ct_68_102 {g h : Int → Option Nat} {q : Int → Int} (A : abAl) (M : abMem) (hA : A.1 = 102) : abW 11 (8, 588) 68 0 (abEnt (abL 68) [vr (some 102)]) [] (0, 0) (kN A 7 2) (zM M 102 (102 + 1)) (fun v A2 M2 => v = none ∧ A2 = aF A 102 111 ∧ M2 = gF (IQ q) (FF g h) M 102 111) := by
  rw [aF_1 (o := 102) (show kT 102 = (7, 2) from rfl) hA, wF_new (I := IQ q) (F := FF g h)]
  show abW 11 (8, 588) 68 0 [some (vr (some 102))] [] (0, 0) (aF A 102 103) (wF (IQ q) (FF g h) M 102 103 (fun _ => none) (fun _ => 0)) _
  refine bw_aload rfl rfl ?_
  refine kw_objinit rfl (by decide) (by decide) (by decide) (Nat.le_of_ble_eq_true rfl) ?_
  refine bw_aload rfl rfl ?_
  refine bw_push rfl ?_
  refine bw_push rfl ?_
  refine kw_mnewarr (l := 6) rfl rfl (by decide) (by decide) (by decide) (by decide) (Nat.le_of_ble_eq_true rfl) (Nat.le_of_ble_eq_true rfl) (by decide) (by decide) ((FF_o (by decide) (by decide)).trans (rr_rw (l := 6) (by decide) (fun _ => rfl))) (fun y y0 y1 => ?_) (fun y y0 y1 => IQ_z (by omega) (by omega) (by omega)) ?_
  · rw [FF_o (by omega) (by omega), show y = 103 + 1 + (y - (103 + 1)) by omega]; exact rz_103_6 _ (by omega)
  show abW _ _ _ _ _ _ (7, 582) (aF A 102 110) (wF (IQ q) (FF g h) M 102 110 _ _) _
  refine kw_putR rfl rfl (by decide) ?_
  refine bw_aload rfl rfl ?_
  refine bw_push rfl ?_
  refine kw_newarr rfl rfl (by decide) (by decide) (Nat.le_of_ble_eq_true rfl) (Nat.le_of_ble_eq_true rfl) (by decide) (by decide) ((FF_o (by decide) (by decide)).trans (rr_no (by decide) (fun _ => rfl))) (IQ_z (by decide) (by decide) (by decide)) ?_
  show abW _ _ _ _ _ _ (8, 588) (aF A 102 111) (wF (IQ q) (FF g h) M 102 111 _ _) _
  refine kw_putR rfl rfl (by decide) ?_
  refine bw_return (st := []) rfl (Nat.le_of_ble_eq_true rfl) (Nat.le_of_ble_eq_true rfl) rfl ⟨rfl, rfl, ?_⟩
  exact wF_fin ((rr_ext (o := 102) (by decide) (fun k => match k with
      | 0 => rfl
      | 1 => rfl
      | k + 2 => by rw [up_ne (by omega), up_ne (by omega)]; rfl) (fun j hj => by rw [up_ne (by omega), up_ne (by omega)])).symm.trans (FF_o (by decide) (by decide)).symm) (IQ_z (by decide) (by decide) (by decide)).symm
theorem rz_112_6 : ∀ t : Nat, t < 6 → rr r0 (112 + 1 + t) = fun _ => none
  | 0, _ => rr_no (by decide) (fun _ => rfl)
  | 1, _ => rr_no (by decide) (fun _ => rfl)
  | 2, _ => rr_no (by decide) (fun _ => rfl)
  | 3, _ => rr_no (by decide) (fun _ => rfl)
  | 4, _ => rr_no (by decide) (fun _ => rfl)
  | 5, _ => rr_no (by decide) (fun _ => rfl)
  | t + 6, h => absurd h (by omega)
set_option maxRecDepth 20000 in
set_option maxHeartbeats 4000000 in
theorem ct_68_111 {g h : Int → Option Nat} {q : Int → Int} (A : abAl) (M : abMem) (hA : A.1 = 111) : abW 11 (8, 588) 68 0 (abEnt (abL 68) [vr (some 111)]) [] (0, 0) (kN A 7 2) (zM M 111 (111 + 1)) (fun v A2 M2 => v = none ∧ A2 = aF A 111 120 ∧ M2 = gF (IQ q) (FF g h) M 111 120) := by
  rw [aF_1 (o := 111) (show kT 111 = (7, 2) from rfl) hA, wF_new (I := IQ q) (F := FF g h)]
  show abW 11 (8, 588) 68 0 [some (vr (some 111))] [] (0, 0) (aF A 111 112) (wF (IQ q) (FF g h) M 111 112 (fun _ => none) (fun _ => 0)) _
  refine bw_aload rfl rfl ?_
  refine kw_objinit rfl (by decide) (by decide) (by decide) (Nat.le_of_ble_eq_true rfl) ?_
  refine bw_aload rfl rfl ?_
  refine bw_push rfl ?_
  refine bw_push rfl ?_
  refine kw_mnewarr (l := 6) rfl rfl (by decide) (by decide) (by decide) (by decide) (Nat.le_of_ble_eq_true rfl) (Nat.le_of_ble_eq_true rfl) (by decide) (by decide) ((FF_o (by decide) (by decide)).trans (rr_rw (l := 6) (by decide) (fun _ => rfl))) (fun y y0 y1 => ?_) (fun y y0 y1 => IQ_z (by omega) (by omega) (by omega)) ?_
  · rw [FF_o (by omega) (by omega), show y = 112 + 1 + (y - (112 + 1)) by omega]; exact rz_112_6 _ (by omega)
  show abW _ _ _ _ _ _ (7, 582) (aF A 111 119) (wF (IQ q) (FF g h) M 111 119 _ _) _
  refine kw_putR rfl rfl (by decide) ?_
  refine bw_aload rfl rfl ?_
  refine bw_push rfl ?_
  refine kw_newarr rfl rfl (by decide) (by decide) (Nat.le_of_ble_eq_true rfl) (Nat.le_of_ble_eq_true rfl) (by decide) (by decide) ((FF_o (by decide) (by decide)).trans (rr_no (by decide) (fun _ => rfl))) (IQ_z (by decide) (by decide) (by decide)) ?_
  show abW _ _ _ _ _ _ (8, 588) (aF A 111 120) (wF (IQ q) (FF g h) M 111 120 _ _) _
  refine kw_putR rfl rfl (by decide) ?_
  refine bw_return (st := []) rfl (Nat.le_of_ble_eq_true rfl) (Nat.le_of_ble_eq_true rfl) rfl ⟨rfl, rfl, ?_⟩
  exact wF_fin ((rr_ext (o := 111) (by decide) (fun k => match k with
      | 0 => rfl
      | 1 => rfl
      | k + 2 => by rw [up_ne (by omega), up_ne (by omega)]; rfl) (fun j hj => by rw [up_ne (by omega), up_ne (by omega)])).symm.trans (FF_o (by decide) (by decide)).symm) (IQ_z (by decide) (by decide) (by decide)).symm
theorem rz_121_6 : ∀ t : Nat, t < 6 → rr r0 (121 + 1 + t) = fun _ => none
  | 0, _ => rr_no (by decide) (fun _ => rfl)
  | 1, _ => rr_no (by decide) (fun _ => rfl)
  | 2, _ => rr_no (by decide) (fun _ => rfl)
  | 3, _ => rr_no (by decide) (fun _ => rfl)
  | 4, _ => rr_no (by decide) (fun _ => rfl)
  | 5, _ => rr_no (by decide) (fun _ => rfl)
  | t + 6, h => absurd h (by omega)
set_option maxRecDepth 20000 in
set_option maxHeartbeats 4000000 in
theorem ct_68_120 {g h : Int → Option Nat} {q : Int → Int} (A : abAl) (M : abMem) (hA : A.1 = 120) : abW 11 (8, 588) 68 0 (abEnt (abL 68) [vr (some 120)]) [] (0, 0) (kN A 7 2) (zM M 120 (120 + 1)) (fun v A2 M2 => v = none ∧ A2 = aF A 120 129 ∧ M2 = gF (IQ q) (FF g h) M 120 129) := by
  rw [aF_1 (o := 120) (show kT 120 = (7, 2) from rfl) hA, wF_new (I := IQ q) (F := FF g h)]
  show abW 11 (8, 588) 68 0 [some (vr (some 120))] [] (0, 0) (aF A 120 121) (wF (IQ q) (FF g h) M 120 121 (fun _ => none) (fun _ => 0)) _
  refine bw_aload rfl rfl ?_
  refine kw_objinit rfl (by decide) (by decide) (by decide) (Nat.le_of_ble_eq_true rfl) ?_
  refine bw_aload rfl rfl ?_
  refine bw_push rfl ?_
  refine bw_push rfl ?_
  refine kw_mnewarr (l := 6) rfl rfl (by decide) (by decide) (by decide) (by decide) (Nat.le_of_ble_eq_true rfl) (Nat.le_of_ble_eq_true rfl) (by decide) (by decide) ((FF_o (by decide) (by decide)).trans (rr_rw (l := 6) (by decide) (fun _ => rfl))) (fun y y0 y1 => ?_) (fun y y0 y1 => IQ_z (by omega) (by omega) (by omega)) ?_
  · rw [FF_o (by omega) (by omega), show y = 121 + 1 + (y - (121 + 1)) by omega]; exact rz_121_6 _ (by omega)
  show abW _ _ _ _ _ _ (7, 582) (aF A 120 128) (wF (IQ q) (FF g h) M 120 128 _ _) _
  refine kw_putR rfl rfl (by decide) ?_
  refine bw_aload rfl rfl ?_
  refine bw_push rfl ?_
  refine kw_newarr rfl rfl (by decide) (by decide) (Nat.le_of_ble_eq_true rfl) (Nat.le_of_ble_eq_true rfl) (by decide) (by decide) ((FF_o (by decide) (by decide)).trans (rr_no (by decide) (fun _ => rfl))) (IQ_z (by decide) (by decide) (by decide)) ?_
  show abW _ _ _ _ _ _ (8, 588) (aF A 120 129) (wF (IQ q) (FF g h) M 120 129 _ _) _
  refine kw_putR rfl rfl (by decide) ?_
  refine bw_return (st := []) rfl (Nat.le_of_ble_eq_true rfl) (Nat.le_of_ble_eq_true rfl) rfl ⟨rfl, rfl, ?_⟩
  exact wF_fin ((rr_ext (o := 120) (by decide) (fun k => match k with
      | 0 => rfl
      | 1 => rfl
      | k + 2 => by rw [up_ne (by omega), up_ne (by omega)]; rfl) (fun j hj => by rw [up_ne (by omega), up_ne (by omega)])).symm.trans (FF_o (by decide) (by decide)).symm) (IQ_z (by decide) (by decide) (by decide)).symm
theorem rz_130_6 : ∀ t : Nat, t < 6 → rr r0 (130 + 1 + t) = fun _ => none
  | 0, _ => rr_no (by decide) (fun _ => rfl)
  | 1, _ => rr_no (by decide) (fun _ => rfl)
  | 2, _ => rr_no (by decide) (fun _ => rfl)
  | 3, _ => rr_no (by decide) (fun _ => rfl)
  | 4, _ => rr_no (by decide) (fun _ => rfl)
  | 5, _ => rr_no (by decide) (fun _ => rfl)
  | t + 6, h => absurd h (by omega)
set_option maxRecDepth 20000 in
set_option maxHeartbeats 4000000 in
theorem ct_68_129 {g h : Int → Option Nat} {q : Int → Int} (A : abAl) (M : abMem) (hA : A.1 = 129) : abW 11 (8, 588) 68 0 (abEnt (abL 68) [vr (some 129)]) [] (0, 0) (kN A 7 2) (zM M 129 (129 + 1)) (fun v A2 M2 => v = none ∧ A2 = aF A 129 138 ∧ M2 = gF (IQ q) (FF g h) M 129 138) := by
  rw [aF_1 (o := 129) (show kT 129 = (7, 2) from rfl) hA, wF_new (I := IQ q) (F := FF g h)]
  show abW 11 (8, 588) 68 0 [some (vr (some 129))] [] (0, 0) (aF A 129 130) (wF (IQ q) (FF g h) M 129 130 (fun _ => none) (fun _ => 0)) _
  refine bw_aload rfl rfl ?_
  refine kw_objinit rfl (by decide) (by decide) (by decide) (Nat.le_of_ble_eq_true rfl) ?_
  refine bw_aload rfl rfl ?_
  refine bw_push rfl ?_
  refine bw_push rfl ?_
  refine kw_mnewarr (l := 6) rfl rfl (by decide) (by decide) (by decide) (by decide) (Nat.le_of_ble_eq_true rfl) (Nat.le_of_ble_eq_true rfl) (by decide) (by decide) ((FF_o (by decide) (by decide)).trans (rr_rw (l := 6) (by decide) (fun _ => rfl))) (fun y y0 y1 => ?_) (fun y y0 y1 => IQ_z (by omega) (by omega) (by omega)) ?_
  · rw [FF_o (by omega) (by omega), show y = 130 + 1 + (y - (130 + 1)) by omega]; exact rz_130_6 _ (by omega)
  show abW _ _ _ _ _ _ (7, 582) (aF A 129 137) (wF (IQ q) (FF g h) M 129 137 _ _) _
  refine kw_putR rfl rfl (by decide) ?_
  refine bw_aload rfl rfl ?_
  refine bw_push rfl ?_
  refine kw_newarr rfl rfl (by decide) (by decide) (Nat.le_of_ble_eq_true rfl) (Nat.le_of_ble_eq_true rfl) (by decide) (by decide) ((FF_o (by decide) (by decide)).trans (rr_no (by decide) (fun _ => rfl))) (IQ_z (by decide) (by decide) (by decide)) ?_
  show abW _ _ _ _ _ _ (8, 588) (aF A 129 138) (wF (IQ q) (FF g h) M 129 138 _ _) _
  refine kw_putR rfl rfl (by decide) ?_
  refine bw_return (st := []) rfl (Nat.le_of_ble_eq_true rfl) (Nat.le_of_ble_eq_true rfl) rfl ⟨rfl, rfl, ?_⟩
  exact wF_fin ((rr_ext (o := 129) (by decide) (fun k => match k with
      | 0 => rfl
      | 1 => rfl
      | k + 2 => by rw [up_ne (by omega), up_ne (by omega)]; rfl) (fun j hj => by rw [up_ne (by omega), up_ne (by omega)])).symm.trans (FF_o (by decide) (by decide)).symm) (IQ_z (by decide) (by decide) (by decide)).symm
theorem rz_139_6 : ∀ t : Nat, t < 6 → rr r0 (139 + 1 + t) = fun _ => none
  | 0, _ => rr_no (by decide) (fun _ => rfl)
  | 1, _ => rr_no (by decide) (fun _ => rfl)
  | 2, _ => rr_no (by decide) (fun _ => rfl)
  | 3, _ => rr_no (by decide) (fun _ => rfl)
  | 4, _ => rr_no (by decide) (fun _ => rfl)
  | 5, _ => rr_no (by decide) (fun _ => rfl)
  | t + 6, h => absurd h (by omega)
set_option maxRecDepth 20000 in
set_option maxHeartbeats 4000000 in
theorem ct_68_138 {g h : Int → Option Nat} {q : Int → Int} (A : abAl) (M : abMem) (hA : A.1 = 138) : abW 11 (8, 588) 68 0 (abEnt (abL 68) [vr (some 138)]) [] (0, 0) (kN A 7 2) (zM M 138 (138 + 1)) (fun v A2 M2 => v = none ∧ A2 = aF A 138 147 ∧ M2 = gF (IQ q) (FF g h) M 138 147) := by
  rw [aF_1 (o := 138) (show kT 138 = (7, 2) from rfl) hA, wF_new (I := IQ q) (F := FF g h)]
  show abW 11 (8, 588) 68 0 [some (vr (some 138))] [] (0, 0) (aF A 138 139) (wF (IQ q) (FF g h) M 138 139 (fun _ => none) (fun _ => 0)) _
  refine bw_aload rfl rfl ?_
  refine kw_objinit rfl (by decide) (by decide) (by decide) (Nat.le_of_ble_eq_true rfl) ?_
  refine bw_aload rfl rfl ?_
  refine bw_push rfl ?_
  refine bw_push rfl ?_
  refine kw_mnewarr (l := 6) rfl rfl (by decide) (by decide) (by decide) (by decide) (Nat.le_of_ble_eq_true rfl) (Nat.le_of_ble_eq_true rfl) (by decide) (by decide) ((FF_o (by decide) (by decide)).trans (rr_rw (l := 6) (by decide) (fun _ => rfl))) (fun y y0 y1 => ?_) (fun y y0 y1 => IQ_z (by omega) (by omega) (by omega)) ?_
  · rw [FF_o (by omega) (by omega), show y = 139 + 1 + (y - (139 + 1)) by omega]; exact rz_139_6 _ (by omega)
  show abW _ _ _ _ _ _ (7, 582) (aF A 138 146) (wF (IQ q) (FF g h) M 138 146 _ _) _
  refine kw_putR rfl rfl (by decide) ?_
  refine bw_aload rfl rfl ?_
  refine bw_push rfl ?_
  refine kw_newarr rfl rfl (by decide) (by decide) (Nat.le_of_ble_eq_true rfl) (Nat.le_of_ble_eq_true rfl) (by decide) (by decide) ((FF_o (by decide) (by decide)).trans (rr_no (by decide) (fun _ => rfl))) (IQ_z (by decide) (by decide) (by decide)) ?_
  show abW _ _ _ _ _ _ (8, 588) (aF A 138 147) (wF (IQ q) (FF g h) M 138 147 _ _) _
  refine kw_putR rfl rfl (by decide) ?_
  refine bw_return (st := []) rfl (Nat.le_of_ble_eq_true rfl) (Nat.le_of_ble_eq_true rfl) rfl ⟨rfl, rfl, ?_⟩
  exact wF_fin ((rr_ext (o := 138) (by decide) (fun k => match k with
      | 0 => rfl
      | 1 => rfl
      | k + 2 => by rw [up_ne (by omega), up_ne (by omega)]; rfl) (fun j hj => by rw [up_ne (by omega), up_ne (by omega)])).symm.trans (FF_o (by decide) (by decide)).symm) (IQ_z (by decide) (by decide) (by decide)).symm
theorem rz_148_6 : ∀ t : Nat, t < 6 → rr r0 (148 + 1 + t) = fun _ => none
  | 0, _ => rr_no (by decide) (fun _ => rfl)
  | 1, _ => rr_no (by decide) (fun _ => rfl)
  | 2, _ => rr_no (by decide) (fun _ => rfl)
  | 3, _ => rr_no (by decide) (fun _ => rfl)
  | 4, _ => rr_no (by decide) (fun _ => rfl)
  | 5, _ => rr_no (by decide) (fun _ => rfl)
  | t + 6, h => absurd h (by omega)
set_option maxRecDepth 20000 in
set_option maxHeartbeats 4000000 in
theorem ct_68_147 {g h : Int → Option Nat} {q : Int → Int} (A : abAl) (M : abMem) (hA : A.1 = 147) : abW 11 (8, 588) 68 0 (abEnt (abL 68) [vr (some 147)]) [] (0, 0) (kN A 7 2) (zM M 147 (147 + 1)) (fun v A2 M2 => v = none ∧ A2 = aF A 147 156 ∧ M2 = gF (IQ q) (FF g h) M 147 156) := by
  rw [aF_1 (o := 147) (show kT 147 = (7, 2) from rfl) hA, wF_new (I := IQ q) (F := FF g h)]
  show abW 11 (8, 588) 68 0 [some (vr (some 147))] [] (0, 0) (aF A 147 148) (wF (IQ q) (FF g h) M 147 148 (fun _ => none) (fun _ => 0)) _
  refine bw_aload rfl rfl ?_
  refine kw_objinit rfl (by decide) (by decide) (by decide) (Nat.le_of_ble_eq_true rfl) ?_
  refine bw_aload rfl rfl ?_
  refine bw_push rfl ?_
  refine bw_push rfl ?_
  refine kw_mnewarr (l := 6) rfl rfl (by decide) (by decide) (by decide) (by decide) (Nat.le_of_ble_eq_true rfl) (Nat.le_of_ble_eq_true rfl) (by decide) (by decide) ((FF_o (by decide) (by decide)).trans (rr_rw (l := 6) (by decide) (fun _ => rfl))) (fun y y0 y1 => ?_) (fun y y0 y1 => IQ_z (by omega) (by omega) (by omega)) ?_
  · rw [FF_o (by omega) (by omega), show y = 148 + 1 + (y - (148 + 1)) by omega]; exact rz_148_6 _ (by omega)
  show abW _ _ _ _ _ _ (7, 582) (aF A 147 155) (wF (IQ q) (FF g h) M 147 155 _ _) _
  refine kw_putR rfl rfl (by decide) ?_
  refine bw_aload rfl rfl ?_
  refine bw_push rfl ?_
  refine kw_newarr rfl rfl (by decide) (by decide) (Nat.le_of_ble_eq_true rfl) (Nat.le_of_ble_eq_true rfl) (by decide) (by decide) ((FF_o (by decide) (by decide)).trans (rr_no (by decide) (fun _ => rfl))) (IQ_z (by decide) (by decide) (by decide)) ?_
  show abW _ _ _ _ _ _ (8, 588) (aF A 147 156) (wF (IQ q) (FF g h) M 147 156 _ _) _
  refine kw_putR rfl rfl (by decide) ?_
  refine bw_return (st := []) rfl (Nat.le_of_ble_eq_true rfl) (Nat.le_of_ble_eq_true rfl) rfl ⟨rfl, rfl, ?_⟩
  exact wF_fin ((rr_ext (o := 147) (by decide) (fun k => match k with
      | 0 => rfl
      | 1 => rfl
      | k + 2 => by rw [up_ne (by omega), up_ne (by omega)]; rfl) (fun j hj => by rw [up_ne (by omega), up_ne (by omega)])).symm.trans (FF_o (by decide) (by decide)).symm) (IQ_z (by decide) (by decide) (by decide)).symm
theorem rz_157_6 : ∀ t : Nat, t < 6 → rr r0 (157 + 1 + t) = fun _ => none
  | 0, _ => rr_no (by decide) (fun _ => rfl)
  | 1, _ => rr_no (by decide) (fun _ => rfl)
  | 2, _ => rr_no (by decide) (fun _ => rfl)
  | 3, _ => rr_no (by decide) (fun _ => rfl)
  | 4, _ => rr_no (by decide) (fun _ => rfl)
  | 5, _ => rr_no (by decide) (fun _ => rfl)
  | t + 6, h => absurd h (by omega)
set_option maxRecDepth 20000 in
set_option maxHeartbeats 4000000 in
theorem ct_68_156 {g h : Int → Option Nat} {q : Int → Int} (A : abAl) (M : abMem) (hA : A.1 = 156) : abW 11 (8, 588) 68 0 (abEnt (abL 68) [vr (some 156)]) [] (0, 0) (kN A 7 2) (zM M 156 (156 + 1)) (fun v A2 M2 => v = none ∧ A2 = aF A 156 165 ∧ M2 = gF (IQ q) (FF g h) M 156 165) := by
  rw [aF_1 (o := 156) (show kT 156 = (7, 2) from rfl) hA, wF_new (I := IQ q) (F := FF g h)]
  show abW 11 (8, 588) 68 0 [some (vr (some 156))] [] (0, 0) (aF A 156 157) (wF (IQ q) (FF g h) M 156 157 (fun _ => none) (fun _ => 0)) _
  refine bw_aload rfl rfl ?_
  refine kw_objinit rfl (by decide) (by decide) (by decide) (Nat.le_of_ble_eq_true rfl) ?_
  refine bw_aload rfl rfl ?_
  refine bw_push rfl ?_
  refine bw_push rfl ?_
  refine kw_mnewarr (l := 6) rfl rfl (by decide) (by decide) (by decide) (by decide) (Nat.le_of_ble_eq_true rfl) (Nat.le_of_ble_eq_true rfl) (by decide) (by decide) ((FF_o (by decide) (by decide)).trans (rr_rw (l := 6) (by decide) (fun _ => rfl))) (fun y y0 y1 => ?_) (fun y y0 y1 => IQ_z (by omega) (by omega) (by omega)) ?_
  · rw [FF_o (by omega) (by omega), show y = 157 + 1 + (y - (157 + 1)) by omega]; exact rz_157_6 _ (by omega)
  show abW _ _ _ _ _ _ (7, 582) (aF A 156 164) (wF (IQ q) (FF g h) M 156 164 _ _) _
  refine kw_putR rfl rfl (by decide) ?_
  refine bw_aload rfl rfl ?_
  refine bw_push rfl ?_
  refine kw_newarr rfl rfl (by decide) (by decide) (Nat.le_of_ble_eq_true rfl) (Nat.le_of_ble_eq_true rfl) (by decide) (by decide) ((FF_o (by decide) (by decide)).trans (rr_no (by decide) (fun _ => rfl))) (IQ_z (by decide) (by decide) (by decide)) ?_
  show abW _ _ _ _ _ _ (8, 588) (aF A 156 165) (wF (IQ q) (FF g h) M 156 165 _ _) _
  refine kw_putR rfl rfl (by decide) ?_
  refine bw_return (st := []) rfl (Nat.le_of_ble_eq_true rfl) (Nat.le_of_ble_eq_true rfl) rfl ⟨rfl, rfl, ?_⟩
  exact wF_fin ((rr_ext (o := 156) (by decide) (fun k => match k with
      | 0 => rfl
      | 1 => rfl
      | k + 2 => by rw [up_ne (by omega), up_ne (by omega)]; rfl) (fun j hj => by rw [up_ne (by omega), up_ne (by omega)])).symm.trans (FF_o (by decide) (by decide)).symm) (IQ_z (by decide) (by decide) (by decide)).symm
theorem rz_166_6 : ∀ t : Nat, t < 6 → rr r0 (166 + 1 + t) = fun _ => none
  | 0, _ => rr_no (by decide) (fun _ => rfl)
  | 1, _ => rr_no (by decide) (fun _ => rfl)
  | 2, _ => rr_no (by decide) (fun _ => rfl)
  | 3, _ => rr_no (by decide) (fun _ => rfl)
  | 4, _ => rr_no (by decide) (fun _ => rfl)
  | 5, _ => rr_no (by decide) (fun _ => rfl)
  | t + 6, h => absurd h (by omega)
set_option maxRecDepth 20000 in
set_option maxHeartbeats 4000000 in
theorem ct_68_165 {g h : Int → Option Nat} {q : Int → Int} (A : abAl) (M : abMem) (hA : A.1 = 165) : abW 11 (8, 588) 68 0 (abEnt (abL 68) [vr (some 165)]) [] (0, 0) (kN A 7 2) (zM M 165 (165 + 1)) (fun v A2 M2 => v = none ∧ A2 = aF A 165 174 ∧ M2 = gF (IQ q) (FF g h) M 165 174) := by
  rw [aF_1 (o := 165) (show kT 165 = (7, 2) from rfl) hA, wF_new (I := IQ q) (F := FF g h)]
  show abW 11 (8, 588) 68 0 [some (vr (some 165))] [] (0, 0) (aF A 165 166) (wF (IQ q) (FF g h) M 165 166 (fun _ => none) (fun _ => 0)) _
  refine bw_aload rfl rfl ?_
  refine kw_objinit rfl (by decide) (by decide) (by decide) (Nat.le_of_ble_eq_true rfl) ?_
  refine bw_aload rfl rfl ?_
  refine bw_push rfl ?_
  refine bw_push rfl ?_
  refine kw_mnewarr (l := 6) rfl rfl (by decide) (by decide) (by decide) (by decide) (Nat.le_of_ble_eq_true rfl) (Nat.le_of_ble_eq_true rfl) (by decide) (by decide) ((FF_o (by decide) (by decide)).trans (rr_rw (l := 6) (by decide) (fun _ => rfl))) (fun y y0 y1 => ?_) (fun y y0 y1 => IQ_z (by omega) (by omega) (by omega)) ?_
  · rw [FF_o (by omega) (by omega), show y = 166 + 1 + (y - (166 + 1)) by omega]; exact rz_166_6 _ (by omega)
  show abW _ _ _ _ _ _ (7, 582) (aF A 165 173) (wF (IQ q) (FF g h) M 165 173 _ _) _
  refine kw_putR rfl rfl (by decide) ?_
  refine bw_aload rfl rfl ?_
  refine bw_push rfl ?_
  refine kw_newarr rfl rfl (by decide) (by decide) (Nat.le_of_ble_eq_true rfl) (Nat.le_of_ble_eq_true rfl) (by decide) (by decide) ((FF_o (by decide) (by decide)).trans (rr_no (by decide) (fun _ => rfl))) (IQ_z (by decide) (by decide) (by decide)) ?_
  show abW _ _ _ _ _ _ (8, 588) (aF A 165 174) (wF (IQ q) (FF g h) M 165 174 _ _) _
  refine kw_putR rfl rfl (by decide) ?_
  refine bw_return (st := []) rfl (Nat.le_of_ble_eq_true rfl) (Nat.le_of_ble_eq_true rfl) rfl ⟨rfl, rfl, ?_⟩
  exact wF_fin ((rr_ext (o := 165) (by decide) (fun k => match k with
      | 0 => rfl
      | 1 => rfl
      | k + 2 => by rw [up_ne (by omega), up_ne (by omega)]; rfl) (fun j hj => by rw [up_ne (by omega), up_ne (by omega)])).symm.trans (FF_o (by decide) (by decide)).symm) (IQ_z (by decide) (by decide) (by decide)).symm
theorem rz_175_6 : ∀ t : Nat, t < 6 → rr r0 (175 + 1 + t) = fun _ => none
  | 0, _ => rr_no (by decide) (fun _ => rfl)
  | 1, _ => rr_no (by decide) (fun _ => rfl)
  | 2, _ => rr_no (by decide) (fun _ => rfl)
  | 3, _ => rr_no (by decide) (fun _ => rfl)
  | 4, _ => rr_no (by decide) (fun _ => rfl)
  | 5, _ => rr_no (by decide) (fun _ => rfl)
  | t + 6, h => absurd h (by omega)
set_option maxRecDepth 20000 in
set_option maxHeartbeats 4000000 in
theorem ct_68_174 {g h : Int → Option Nat} {q : Int → Int} (A : abAl) (M : abMem) (hA : A.1 = 174) : abW 11 (8, 588) 68 0 (abEnt (abL 68) [vr (some 174)]) [] (0, 0) (kN A 7 2) (zM M 174 (174 + 1)) (fun v A2 M2 => v = none ∧ A2 = aF A 174 183 ∧ M2 = gF (IQ q) (FF g h) M 174 183) := by
  rw [aF_1 (o := 174) (show kT 174 = (7, 2) from rfl) hA, wF_new (I := IQ q) (F := FF g h)]
  show abW 11 (8, 588) 68 0 [some (vr (some 174))] [] (0, 0) (aF A 174 175) (wF (IQ q) (FF g h) M 174 175 (fun _ => none) (fun _ => 0)) _
  refine bw_aload rfl rfl ?_
  refine kw_objinit rfl (by decide) (by decide) (by decide) (Nat.le_of_ble_eq_true rfl) ?_
  refine bw_aload rfl rfl ?_
  refine bw_push rfl ?_
  refine bw_push rfl ?_
  refine kw_mnewarr (l := 6) rfl rfl (by decide) (by decide) (by decide) (by decide) (Nat.le_of_ble_eq_true rfl) (Nat.le_of_ble_eq_true rfl) (by decide) (by decide) ((FF_o (by decide) (by decide)).trans (rr_rw (l := 6) (by decide) (fun _ => rfl))) (fun y y0 y1 => ?_) (fun y y0 y1 => IQ_z (by omega) (by omega) (by omega)) ?_
  · rw [FF_o (by omega) (by omega), show y = 175 + 1 + (y - (175 + 1)) by omega]; exact rz_175_6 _ (by omega)
  show abW _ _ _ _ _ _ (7, 582) (aF A 174 182) (wF (IQ q) (FF g h) M 174 182 _ _) _
  refine kw_putR rfl rfl (by decide) ?_
  refine bw_aload rfl rfl ?_
  refine bw_push rfl ?_
  refine kw_newarr rfl rfl (by decide) (by decide) (Nat.le_of_ble_eq_true rfl) (Nat.le_of_ble_eq_true rfl) (by decide) (by decide) ((FF_o (by decide) (by decide)).trans (rr_no (by decide) (fun _ => rfl))) (IQ_z (by decide) (by decide) (by decide)) ?_
  show abW _ _ _ _ _ _ (8, 588) (aF A 174 183) (wF (IQ q) (FF g h) M 174 183 _ _) _
  refine kw_putR rfl rfl (by decide) ?_
  refine bw_return (st := []) rfl (Nat.le_of_ble_eq_true rfl) (Nat.le_of_ble_eq_true rfl) rfl ⟨rfl, rfl, ?_⟩
  exact wF_fin ((rr_ext (o := 174) (by decide) (fun k => match k with
      | 0 => rfl
      | 1 => rfl
      | k + 2 => by rw [up_ne (by omega), up_ne (by omega)]; rfl) (fun j hj => by rw [up_ne (by omega), up_ne (by omega)])).symm.trans (FF_o (by decide) (by decide)).symm) (IQ_z (by decide) (by decide) (by decide)).symm
theorem rz_184_6 : ∀ t : Nat, t < 6 → rr r0 (184 + 1 + t) = fun _ => none
  | 0, _ => rr_no (by decide) (fun _ => rfl)
  | 1, _ => rr_no (by decide) (fun _ => rfl)
  | 2, _ => rr_no (by decide) (fun _ => rfl)
  | 3, _ => rr_no (by decide) (fun _ => rfl)
  | 4, _ => rr_no (by decide) (fun _ => rfl)
  | 5, _ => rr_no (by decide) (fun _ => rfl)
  | t + 6, h => absurd h (by omega)
set_option maxRecDepth 20000 in
set_option maxHeartbeats 4000000 in
theorem ct_68_183 {g h : Int → Option Nat} {q : Int → Int} (A : abAl) (M : abMem) (hA : A.1 = 183) : abW 11 (8, 588) 68 0 (abEnt (abL 68) [vr (some 183)]) [] (0, 0) (kN A 7 2) (zM M 183 (183 + 1)) (fun v A2 M2 => v = none ∧ A2 = aF A 183 192 ∧ M2 = gF (IQ q) (FF g h) M 183 192) := by
  rw [aF_1 (o := 183) (show kT 183 = (7, 2) from rfl) hA, wF_new (I := IQ q) (F := FF g h)]
  show abW 11 (8, 588) 68 0 [some (vr (some 183))] [] (0, 0) (aF A 183 184) (wF (IQ q) (FF g h) M 183 184 (fun _ => none) (fun _ => 0)) _
  refine bw_aload rfl rfl ?_
  refine kw_objinit rfl (by decide) (by decide) (by decide) (Nat.le_of_ble_eq_true rfl) ?_
  refine bw_aload rfl rfl ?_
  refine bw_push rfl ?_
  refine bw_push rfl ?_
  refine kw_mnewarr (l := 6) rfl rfl (by decide) (by decide) (by decide) (by decide) (Nat.le_of_ble_eq_true rfl) (Nat.le_of_ble_eq_true rfl) (by decide) (by decide) ((FF_o (by decide) (by decide)).trans (rr_rw (l := 6) (by decide) (fun _ => rfl))) (fun y y0 y1 => ?_) (fun y y0 y1 => IQ_z (by omega) (by omega) (by omega)) ?_
  · rw [FF_o (by omega) (by omega), show y = 184 + 1 + (y - (184 + 1)) by omega]; exact rz_184_6 _ (by omega)
  show abW _ _ _ _ _ _ (7, 582) (aF A 183 191) (wF (IQ q) (FF g h) M 183 191 _ _) _
  refine kw_putR rfl rfl (by decide) ?_
  refine bw_aload rfl rfl ?_
  refine bw_push rfl ?_
  refine kw_newarr rfl rfl (by decide) (by decide) (Nat.le_of_ble_eq_true rfl) (Nat.le_of_ble_eq_true rfl) (by decide) (by decide) ((FF_o (by decide) (by decide)).trans (rr_no (by decide) (fun _ => rfl))) (IQ_z (by decide) (by decide) (by decide)) ?_
  show abW _ _ _ _ _ _ (8, 588) (aF A 183 192) (wF (IQ q) (FF g h) M 183 192 _ _) _
  refine kw_putR rfl rfl (by decide) ?_
  refine bw_return (st := []) rfl (Nat.le_of_ble_eq_true rfl) (Nat.le_of_ble_eq_true rfl) rfl ⟨rfl, rfl, ?_⟩
  exact wF_fin ((rr_ext (o := 183) (by decide) (fun k => match k with
      | 0 => rfl
      | 1 => rfl
      | k + 2 => by rw [up_ne (by omega), up_ne (by omega)]; rfl) (fun j hj => by rw [up_ne (by omega), up_ne (by omega)])).symm.trans (FF_o (by decide) (by decide)).symm) (IQ_z (by decide) (by decide) (by decide)).symm
theorem rz_193_6 : ∀ t : Nat, t < 6 → rr r0 (193 + 1 + t) = fun _ => none
  | 0, _ => rr_no (by decide) (fun _ => rfl)
  | 1, _ => rr_no (by decide) (fun _ => rfl)
  | 2, _ => rr_no (by decide) (fun _ => rfl)
  | 3, _ => rr_no (by decide) (fun _ => rfl)
  | 4, _ => rr_no (by decide) (fun _ => rfl)
  | 5, _ => rr_no (by decide) (fun _ => rfl)
  | t + 6, h => absurd h (by omega)
set_option maxRecDepth 20000 in
set_option maxHeartbeats 4000000 in
theorem ct_68_192 {g h : Int → Option Nat} {q : Int → Int} (A : abAl) (M : abMem) (hA : A.1 = 192) : abW 11 (8, 588) 68 0 (abEnt (abL 68) [vr (some 192)]) [] (0, 0) (kN A 7 2) (zM M 192 (192 + 1)) (fun v A2 M2 => v = none ∧ A2 = aF A 192 201 ∧ M2 = gF (IQ q) (FF g h) M 192 201) := by
  rw [aF_1 (o := 192) (show kT 192 = (7, 2) from rfl) hA, wF_new (I := IQ q) (F := FF g h)]
  show abW 11 (8, 588) 68 0 [some (vr (some 192))] [] (0, 0) (aF A 192 193) (wF (IQ q) (FF g h) M 192 193 (fun _ => none) (fun _ => 0)) _
  refine bw_aload rfl rfl ?_
  refine kw_objinit rfl (by decide) (by decide) (by decide) (Nat.le_of_ble_eq_true rfl) ?_
  refine bw_aload rfl rfl ?_
  refine bw_push rfl ?_
  refine bw_push rfl ?_
  refine kw_mnewarr (l := 6) rfl rfl (by decide) (by decide) (by decide) (by decide) (Nat.le_of_ble_eq_true rfl) (Nat.le_of_ble_eq_true rfl) (by decide) (by decide) ((FF_o (by decide) (by decide)).trans (rr_rw (l := 6) (by decide) (fun _ => rfl))) (fun y y0 y1 => ?_) (fun y y0 y1 => IQ_z (by omega) (by omega) (by omega)) ?_
  · rw [FF_o (by omega) (by omega), show y = 193 + 1 + (y - (193 + 1)) by omega]; exact rz_193_6 _ (by omega)
  show abW _ _ _ _ _ _ (7, 582) (aF A 192 200) (wF (IQ q) (FF g h) M 192 200 _ _) _
  refine kw_putR rfl rfl (by decide) ?_
  refine bw_aload rfl rfl ?_
  refine bw_push rfl ?_
  refine kw_newarr rfl rfl (by decide) (by decide) (Nat.le_of_ble_eq_true rfl) (Nat.le_of_ble_eq_true rfl) (by decide) (by decide) ((FF_o (by decide) (by decide)).trans (rr_no (by decide) (fun _ => rfl))) (IQ_z (by decide) (by decide) (by decide)) ?_
  show abW _ _ _ _ _ _ (8, 588) (aF A 192 201) (wF (IQ q) (FF g h) M 192 201 _ _) _
  refine kw_putR rfl rfl (by decide) ?_
  refine bw_return (st := []) rfl (Nat.le_of_ble_eq_true rfl) (Nat.le_of_ble_eq_true rfl) rfl ⟨rfl, rfl, ?_⟩
  exact wF_fin ((rr_ext (o := 192) (by decide) (fun k => match k with
      | 0 => rfl
      | 1 => rfl
      | k + 2 => by rw [up_ne (by omega), up_ne (by omega)]; rfl) (fun j hj => by rw [up_ne (by omega), up_ne (by omega)])).symm.trans (FF_o (by decide) (by decide)).symm) (IQ_z (by decide) (by decide) (by decide)).symm
set_option maxRecDepth 20000 in
set_option maxHeartbeats 4000000 in
theorem ct_14_19 {h : Int → Option Nat} {q : Int → Int} (A : abAl) (M : abMem) (hA : A.1 = 19) : abW 12 (181, 11820) 14 0 (abEnt (abL 14) [vr (some 19)]) [] (0, 0) (kN A 2 3) (zM M 19 (19 + 1)) (fun v A2 M2 => v = none ∧ A2 = aF A 19 201 ∧ M2 = gF (IQ q) (FF (rr r0 20) h) M 19 201) := by
  rw [aF_1 (o := 19) (show kT 19 = (2, 3) from rfl) hA, wF_new (I := IQ q) (F := FF (fun _ => none) h)]
  show abW 12 (181, 11820) 14 0 [some (vr (some 19)), none] [] (0, 0) (aF A 19 20) (wF (IQ q) (FF (fun _ => none) h) M 19 20 (fun _ => none) (fun _ => 0)) _
  refine bw_aload rfl rfl ?_
  refine kw_objinit rfl (by decide) (by decide) (by decide) (Nat.le_of_ble_eq_true rfl) ?_
  refine bw_aload rfl rfl ?_
  refine bw_push rfl ?_
  refine kw_anewarr rfl rfl (by decide) (by decide) (Nat.le_of_ble_eq_true rfl) (Nat.le_of_ble_eq_true rfl) (by decide) (by decide) rfl (IQ_z (by decide) (by decide) (by decide)) ?_
  show abW _ _ _ _ _ _ (1, 20) (aF A 19 21) (wF (IQ q) (FF (fun _ => none) h) M 19 21 _ _) _
  refine kw_putR rfl rfl (by decide) ?_
  refine bw_push rfl ?_
  refine bw_istore (ls2 := [_, _]) rfl rfl (Nat.le_of_ble_eq_true rfl) rfl ?_
  refine bw_iload rfl rfl ?_
  refine bw_push rfl ?_
  refine bw_icge rfl (fun c => absurd c (by decide)) (fun _ => ?_)
  refine bw_aload rfl rfl ?_
  refine kw_getr rfl rfl (by decide) rfl ?_
  refine bw_iload rfl rfl ?_
  refine bw_new rfl (Nat.le_of_ble_eq_true rfl) (Nat.le_of_ble_eq_true rfl) (by show 21 + 1 < 1000000; decide) ?_
  first | refine bw_dup rfl ?_ | refine bw_dupi rfl ?_
  refine bw_callIN (e := 11) (mc := 8) (ms := 588) (as := []) rfl rfl rfl rfl (Nat.le_of_ble_eq_true rfl) (Nat.le_of_ble_eq_true rfl) (Nat.le_of_ble_eq_true rfl) (Nat.le_of_ble_eq_true rfl) rfl (ct_68_21 (g := (fun _ => none)) (h := h) (q := q) (aF A 19 21) (wF (IQ q) (FF (fun _ => none) h) M 19 21 _ _) rfl) (fun v A2 M2 hq => ?_)
  obtain ⟨rfl, rfl, rfl⟩ := hq
  rw [aF_aF (by decide) (by decide), wF_g (by decide) (by decide)]
  show abW _ _ _ _ _ _ (10, 610) (aF A 19 30) (wF (IQ q) (FF (fun _ => none) h) M 19 30 _ _) _
  refine kw_a20 (x := 21) rfl (by decide) (by decide) (by decide) (by decide) ⟨by decide, by decide⟩ rfl ?_
  refine bw_iinc (ls2 := [some (vr (some 19)), some (vi 1)]) rfl rfl rfl ⟨by decide, by decide⟩ rfl ?_
  refine bw_goto rfl ?_
  refine bw_iload rfl rfl ?_
  refine bw_push rfl ?_
  refine bw_icge rfl (fun c => absurd c (by decide)) (fun _ => ?_)
  refine bw_aload rfl rfl ?_
  refine kw_getr rfl rfl (by decide) rfl ?_
  refine bw_iload rfl rfl ?_
  refine bw_new rfl (Nat.le_of_ble_eq_true rfl) (Nat.le_of_ble_eq_true rfl) (by show 30 + 1 < 1000000; decide) ?_
  first | refine bw_dup rfl ?_ | refine bw_dupi rfl ?_
  refine bw_callIN (e := 11) (mc := 8) (ms := 588) (as := []) rfl rfl rfl rfl (Nat.le_of_ble_eq_true rfl) (Nat.le_of_ble_eq_true rfl) (Nat.le_of_ble_eq_true rfl) (Nat.le_of_ble_eq_true rfl) rfl (ct_68_30 (g := (up (fun _ => none) 0 (some 21))) (h := h) (q := q) (aF A 19 30) (wF (IQ q) (FF (up (fun _ => none) 0 (some 21)) h) M 19 30 _ _) rfl) (fun v A2 M2 hq => ?_)
  obtain ⟨rfl, rfl, rfl⟩ := hq
  rw [aF_aF (by decide) (by decide), wF_g (by decide) (by decide)]
  show abW _ _ _ _ _ _ (19, 1200) (aF A 19 39) (wF (IQ q) (FF (up (fun _ => none) 0 (some 21)) h) M 19 39 _ _) _
  refine kw_a20 (x := 30) rfl (by decide) (by decide) (by decide) (by decide) ⟨by decide, by decide⟩ rfl ?_
  refine bw_iinc (ls2 := [some (vr (some 19)), some (vi 2)]) rfl rfl rfl ⟨by decide, by decide⟩ rfl ?_
  refine bw_goto rfl ?_
  refine bw_iload rfl rfl ?_
  refine bw_push rfl ?_
  refine bw_icge rfl (fun c => absurd c (by decide)) (fun _ => ?_)
  refine bw_aload rfl rfl ?_
  refine kw_getr rfl rfl (by decide) rfl ?_
  refine bw_iload rfl rfl ?_
  refine bw_new rfl (Nat.le_of_ble_eq_true rfl) (Nat.le_of_ble_eq_true rfl) (by show 39 + 1 < 1000000; decide) ?_
  first | refine bw_dup rfl ?_ | refine bw_dupi rfl ?_
  refine bw_callIN (e := 11) (mc := 8) (ms := 588) (as := []) rfl rfl rfl rfl (Nat.le_of_ble_eq_true rfl) (Nat.le_of_ble_eq_true rfl) (Nat.le_of_ble_eq_true rfl) (Nat.le_of_ble_eq_true rfl) rfl (ct_68_39 (g := (up (up (fun _ => none) 0 (some 21)) 1 (some 30))) (h := h) (q := q) (aF A 19 39) (wF (IQ q) (FF (up (up (fun _ => none) 0 (some 21)) 1 (some 30)) h) M 19 39 _ _) rfl) (fun v A2 M2 hq => ?_)
  obtain ⟨rfl, rfl, rfl⟩ := hq
  rw [aF_aF (by decide) (by decide), wF_g (by decide) (by decide)]
  show abW _ _ _ _ _ _ (28, 1790) (aF A 19 48) (wF (IQ q) (FF (up (up (fun _ => none) 0 (some 21)) 1 (some 30)) h) M 19 48 _ _) _
  refine kw_a20 (x := 39) rfl (by decide) (by decide) (by decide) (by decide) ⟨by decide, by decide⟩ rfl ?_
  refine bw_iinc (ls2 := [some (vr (some 19)), some (vi 3)]) rfl rfl rfl ⟨by decide, by decide⟩ rfl ?_
  refine bw_goto rfl ?_
  refine bw_iload rfl rfl ?_
  refine bw_push rfl ?_
  refine bw_icge rfl (fun c => absurd c (by decide)) (fun _ => ?_)
  refine bw_aload rfl rfl ?_
  refine kw_getr rfl rfl (by decide) rfl ?_
  refine bw_iload rfl rfl ?_
  refine bw_new rfl (Nat.le_of_ble_eq_true rfl) (Nat.le_of_ble_eq_true rfl) (by show 48 + 1 < 1000000; decide) ?_
  first | refine bw_dup rfl ?_ | refine bw_dupi rfl ?_
  refine bw_callIN (e := 11) (mc := 8) (ms := 588) (as := []) rfl rfl rfl rfl (Nat.le_of_ble_eq_true rfl) (Nat.le_of_ble_eq_true rfl) (Nat.le_of_ble_eq_true rfl) (Nat.le_of_ble_eq_true rfl) rfl (ct_68_48 (g := (up (up (up (fun _ => none) 0 (some 21)) 1 (some 30)) 2 (some 39))) (h := h) (q := q) (aF A 19 48) (wF (IQ q) (FF (up (up (up (fun _ => none) 0 (some 21)) 1 (some 30)) 2 (some 39)) h) M 19 48 _ _) rfl) (fun v A2 M2 hq => ?_)
  obtain ⟨rfl, rfl, rfl⟩ := hq
  rw [aF_aF (by decide) (by decide), wF_g (by decide) (by decide)]
  show abW _ _ _ _ _ _ (37, 2380) (aF A 19 57) (wF (IQ q) (FF (up (up (up (fun _ => none) 0 (some 21)) 1 (some 30)) 2 (some 39)) h) M 19 57 _ _) _
  refine kw_a20 (x := 48) rfl (by decide) (by decide) (by decide) (by decide) ⟨by decide, by decide⟩ rfl ?_
  refine bw_iinc (ls2 := [some (vr (some 19)), some (vi 4)]) rfl rfl rfl ⟨by decide, by decide⟩ rfl ?_
  refine bw_goto rfl ?_
  refine bw_iload rfl rfl ?_
  refine bw_push rfl ?_
  refine bw_icge rfl (fun c => absurd c (by decide)) (fun _ => ?_)
  refine bw_aload rfl rfl ?_
  refine kw_getr rfl rfl (by decide) rfl ?_
  refine bw_iload rfl rfl ?_
  refine bw_new rfl (Nat.le_of_ble_eq_true rfl) (Nat.le_of_ble_eq_true rfl) (by show 57 + 1 < 1000000; decide) ?_
  first | refine bw_dup rfl ?_ | refine bw_dupi rfl ?_
  refine bw_callIN (e := 11) (mc := 8) (ms := 588) (as := []) rfl rfl rfl rfl (Nat.le_of_ble_eq_true rfl) (Nat.le_of_ble_eq_true rfl) (Nat.le_of_ble_eq_true rfl) (Nat.le_of_ble_eq_true rfl) rfl (ct_68_57 (g := (up (up (up (up (fun _ => none) 0 (some 21)) 1 (some 30)) 2 (some 39)) 3 (some 48))) (h := h) (q := q) (aF A 19 57) (wF (IQ q) (FF (up (up (up (up (fun _ => none) 0 (some 21)) 1 (some 30)) 2 (some 39)) 3 (some 48)) h) M 19 57 _ _) rfl) (fun v A2 M2 hq => ?_)
  obtain ⟨rfl, rfl, rfl⟩ := hq
  rw [aF_aF (by decide) (by decide), wF_g (by decide) (by decide)]
  show abW _ _ _ _ _ _ (46, 2970) (aF A 19 66) (wF (IQ q) (FF (up (up (up (up (fun _ => none) 0 (some 21)) 1 (some 30)) 2 (some 39)) 3 (some 48)) h) M 19 66 _ _) _
  refine kw_a20 (x := 57) rfl (by decide) (by decide) (by decide) (by decide) ⟨by decide, by decide⟩ rfl ?_
  refine bw_iinc (ls2 := [some (vr (some 19)), some (vi 5)]) rfl rfl rfl ⟨by decide, by decide⟩ rfl ?_
  refine bw_goto rfl ?_
  refine bw_iload rfl rfl ?_
  refine bw_push rfl ?_
  refine bw_icge rfl (fun c => absurd c (by decide)) (fun _ => ?_)
  refine bw_aload rfl rfl ?_
  refine kw_getr rfl rfl (by decide) rfl ?_
  refine bw_iload rfl rfl ?_
  refine bw_new rfl (Nat.le_of_ble_eq_true rfl) (Nat.le_of_ble_eq_true rfl) (by show 66 + 1 < 1000000; decide) ?_
  first | refine bw_dup rfl ?_ | refine bw_dupi rfl ?_
  refine bw_callIN (e := 11) (mc := 8) (ms := 588) (as := []) rfl rfl rfl rfl (Nat.le_of_ble_eq_true rfl) (Nat.le_of_ble_eq_true rfl) (Nat.le_of_ble_eq_true rfl) (Nat.le_of_ble_eq_true rfl) rfl (ct_68_66 (g := (up (up (up (up (up (fun _ => none) 0 (some 21)) 1 (some 30)) 2 (some 39)) 3 (some 48)) 4 (some 57))) (h := h) (q := q) (aF A 19 66) (wF (IQ q) (FF (up (up (up (up (up (fun _ => none) 0 (some 21)) 1 (some 30)) 2 (some 39)) 3 (some 48)) 4 (some 57)) h) M 19 66 _ _) rfl) (fun v A2 M2 hq => ?_)
  obtain ⟨rfl, rfl, rfl⟩ := hq
  rw [aF_aF (by decide) (by decide), wF_g (by decide) (by decide)]
  show abW _ _ _ _ _ _ (55, 3560) (aF A 19 75) (wF (IQ q) (FF (up (up (up (up (up (fun _ => none) 0 (some 21)) 1 (some 30)) 2 (some 39)) 3 (some 48)) 4 (some 57)) h) M 19 75 _ _) _
  refine kw_a20 (x := 66) rfl (by decide) (by decide) (by decide) (by decide) ⟨by decide, by decide⟩ rfl ?_
  refine bw_iinc (ls2 := [some (vr (some 19)), some (vi 6)]) rfl rfl rfl ⟨by decide, by decide⟩ rfl ?_
  refine bw_goto rfl ?_
  refine bw_iload rfl rfl ?_
  refine bw_push rfl ?_
  refine bw_icge rfl (fun c => absurd c (by decide)) (fun _ => ?_)
  refine bw_aload rfl rfl ?_
  refine kw_getr rfl rfl (by decide) rfl ?_
  refine bw_iload rfl rfl ?_
  refine bw_new rfl (Nat.le_of_ble_eq_true rfl) (Nat.le_of_ble_eq_true rfl) (by show 75 + 1 < 1000000; decide) ?_
  first | refine bw_dup rfl ?_ | refine bw_dupi rfl ?_
  refine bw_callIN (e := 11) (mc := 8) (ms := 588) (as := []) rfl rfl rfl rfl (Nat.le_of_ble_eq_true rfl) (Nat.le_of_ble_eq_true rfl) (Nat.le_of_ble_eq_true rfl) (Nat.le_of_ble_eq_true rfl) rfl (ct_68_75 (g := (up (up (up (up (up (up (fun _ => none) 0 (some 21)) 1 (some 30)) 2 (some 39)) 3 (some 48)) 4 (some 57)) 5 (some 66))) (h := h) (q := q) (aF A 19 75) (wF (IQ q) (FF (up (up (up (up (up (up (fun _ => none) 0 (some 21)) 1 (some 30)) 2 (some 39)) 3 (some 48)) 4 (some 57)) 5 (some 66)) h) M 19 75 _ _) rfl) (fun v A2 M2 hq => ?_)
  obtain ⟨rfl, rfl, rfl⟩ := hq
  rw [aF_aF (by decide) (by decide), wF_g (by decide) (by decide)]
  show abW _ _ _ _ _ _ (64, 4150) (aF A 19 84) (wF (IQ q) (FF (up (up (up (up (up (up (fun _ => none) 0 (some 21)) 1 (some 30)) 2 (some 39)) 3 (some 48)) 4 (some 57)) 5 (some 66)) h) M 19 84 _ _) _
  refine kw_a20 (x := 75) rfl (by decide) (by decide) (by decide) (by decide) ⟨by decide, by decide⟩ rfl ?_
  refine bw_iinc (ls2 := [some (vr (some 19)), some (vi 7)]) rfl rfl rfl ⟨by decide, by decide⟩ rfl ?_
  refine bw_goto rfl ?_
  refine bw_iload rfl rfl ?_
  refine bw_push rfl ?_
  refine bw_icge rfl (fun c => absurd c (by decide)) (fun _ => ?_)
  refine bw_aload rfl rfl ?_
  refine kw_getr rfl rfl (by decide) rfl ?_
  refine bw_iload rfl rfl ?_
  refine bw_new rfl (Nat.le_of_ble_eq_true rfl) (Nat.le_of_ble_eq_true rfl) (by show 84 + 1 < 1000000; decide) ?_
  first | refine bw_dup rfl ?_ | refine bw_dupi rfl ?_
  refine bw_callIN (e := 11) (mc := 8) (ms := 588) (as := []) rfl rfl rfl rfl (Nat.le_of_ble_eq_true rfl) (Nat.le_of_ble_eq_true rfl) (Nat.le_of_ble_eq_true rfl) (Nat.le_of_ble_eq_true rfl) rfl (ct_68_84 (g := (up (up (up (up (up (up (up (fun _ => none) 0 (some 21)) 1 (some 30)) 2 (some 39)) 3 (some 48)) 4 (some 57)) 5 (some 66)) 6 (some 75))) (h := h) (q := q) (aF A 19 84) (wF (IQ q) (FF (up (up (up (up (up (up (up (fun _ => none) 0 (some 21)) 1 (some 30)) 2 (some 39)) 3 (some 48)) 4 (some 57)) 5 (some 66)) 6 (some 75)) h) M 19 84 _ _) rfl) (fun v A2 M2 hq => ?_)
  obtain ⟨rfl, rfl, rfl⟩ := hq
  rw [aF_aF (by decide) (by decide), wF_g (by decide) (by decide)]
  show abW _ _ _ _ _ _ (73, 4740) (aF A 19 93) (wF (IQ q) (FF (up (up (up (up (up (up (up (fun _ => none) 0 (some 21)) 1 (some 30)) 2 (some 39)) 3 (some 48)) 4 (some 57)) 5 (some 66)) 6 (some 75)) h) M 19 93 _ _) _
  refine kw_a20 (x := 84) rfl (by decide) (by decide) (by decide) (by decide) ⟨by decide, by decide⟩ rfl ?_
  refine bw_iinc (ls2 := [some (vr (some 19)), some (vi 8)]) rfl rfl rfl ⟨by decide, by decide⟩ rfl ?_
  refine bw_goto rfl ?_
  refine bw_iload rfl rfl ?_
  refine bw_push rfl ?_
  refine bw_icge rfl (fun c => absurd c (by decide)) (fun _ => ?_)
  refine bw_aload rfl rfl ?_
  refine kw_getr rfl rfl (by decide) rfl ?_
  refine bw_iload rfl rfl ?_
  refine bw_new rfl (Nat.le_of_ble_eq_true rfl) (Nat.le_of_ble_eq_true rfl) (by show 93 + 1 < 1000000; decide) ?_
  first | refine bw_dup rfl ?_ | refine bw_dupi rfl ?_
  refine bw_callIN (e := 11) (mc := 8) (ms := 588) (as := []) rfl rfl rfl rfl (Nat.le_of_ble_eq_true rfl) (Nat.le_of_ble_eq_true rfl) (Nat.le_of_ble_eq_true rfl) (Nat.le_of_ble_eq_true rfl) rfl (ct_68_93 (g := (up (up (up (up (up (up (up (up (fun _ => none) 0 (some 21)) 1 (some 30)) 2 (some 39)) 3 (some 48)) 4 (some 57)) 5 (some 66)) 6 (some 75)) 7 (some 84))) (h := h) (q := q) (aF A 19 93) (wF (IQ q) (FF (up (up (up (up (up (up (up (up (fun _ => none) 0 (some 21)) 1 (some 30)) 2 (some 39)) 3 (some 48)) 4 (some 57)) 5 (some 66)) 6 (some 75)) 7 (some 84)) h) M 19 93 _ _) rfl) (fun v A2 M2 hq => ?_)
  obtain ⟨rfl, rfl, rfl⟩ := hq
  rw [aF_aF (by decide) (by decide), wF_g (by decide) (by decide)]
  show abW _ _ _ _ _ _ (82, 5330) (aF A 19 102) (wF (IQ q) (FF (up (up (up (up (up (up (up (up (fun _ => none) 0 (some 21)) 1 (some 30)) 2 (some 39)) 3 (some 48)) 4 (some 57)) 5 (some 66)) 6 (some 75)) 7 (some 84)) h) M 19 102 _ _) _
  refine kw_a20 (x := 93) rfl (by decide) (by decide) (by decide) (by decide) ⟨by decide, by decide⟩ rfl ?_
  refine bw_iinc (ls2 := [some (vr (some 19)), some (vi 9)]) rfl rfl rfl ⟨by decide, by decide⟩ rfl ?_
  refine bw_goto rfl ?_
  refine bw_iload rfl rfl ?_
  refine bw_push rfl ?_
  refine bw_icge rfl (fun c => absurd c (by decide)) (fun _ => ?_)
  refine bw_aload rfl rfl ?_
  refine kw_getr rfl rfl (by decide) rfl ?_
  refine bw_iload rfl rfl ?_
  refine bw_new rfl (Nat.le_of_ble_eq_true rfl) (Nat.le_of_ble_eq_true rfl) (by show 102 + 1 < 1000000; decide) ?_
  first | refine bw_dup rfl ?_ | refine bw_dupi rfl ?_
  refine bw_callIN (e := 11) (mc := 8) (ms := 588) (as := []) rfl rfl rfl rfl (Nat.le_of_ble_eq_true rfl) (Nat.le_of_ble_eq_true rfl) (Nat.le_of_ble_eq_true rfl) (Nat.le_of_ble_eq_true rfl) rfl (ct_68_102 (g := (up (up (up (up (up (up (up (up (up (fun _ => none) 0 (some 21)) 1 (some 30)) 2 (some 39)) 3 (some 48)) 4 (some 57)) 5 (some 66)) 6 (some 75)) 7 (some 84)) 8 (some 93))) (h := h) (q := q) (aF A 19 102) (wF (IQ q) (FF (up (up (up (up (up (up (up (up (up (fun _ => none) 0 (some 21)) 1 (some 30)) 2 (some 39)) 3 (some 48)) 4 (some 57)) 5 (some 66)) 6 (some 75)) 7 (some 84)) 8 (some 93)) h) M 19 102 _ _) rfl) (fun v A2 M2 hq => ?_)
  obtain ⟨rfl, rfl, rfl⟩ := hq
  rw [aF_aF (by decide) (by decide), wF_g (by decide) (by decide)]
  show abW _ _ _ _ _ _ (91, 5920) (aF A 19 111) (wF (IQ q) (FF (up (up (up (up (up (up (up (up (up (fun _ => none) 0 (some 21)) 1 (some 30)) 2 (some 39)) 3 (some 48)) 4 (some 57)) 5 (some 66)) 6 (some 75)) 7 (some 84)) 8 (some 93)) h) M 19 111 _ _) _
  refine kw_a20 (x := 102) rfl (by decide) (by decide) (by decide) (by decide) ⟨by decide, by decide⟩ rfl ?_
  refine bw_iinc (ls2 := [some (vr (some 19)), some (vi 10)]) rfl rfl rfl ⟨by decide, by decide⟩ rfl ?_
  refine bw_goto rfl ?_
  refine bw_iload rfl rfl ?_
  refine bw_push rfl ?_
  refine bw_icge rfl (fun c => absurd c (by decide)) (fun _ => ?_)
  refine bw_aload rfl rfl ?_
  refine kw_getr rfl rfl (by decide) rfl ?_
  refine bw_iload rfl rfl ?_
  refine bw_new rfl (Nat.le_of_ble_eq_true rfl) (Nat.le_of_ble_eq_true rfl) (by show 111 + 1 < 1000000; decide) ?_
  first | refine bw_dup rfl ?_ | refine bw_dupi rfl ?_
  refine bw_callIN (e := 11) (mc := 8) (ms := 588) (as := []) rfl rfl rfl rfl (Nat.le_of_ble_eq_true rfl) (Nat.le_of_ble_eq_true rfl) (Nat.le_of_ble_eq_true rfl) (Nat.le_of_ble_eq_true rfl) rfl (ct_68_111 (g := (up (up (up (up (up (up (up (up (up (up (fun _ => none) 0 (some 21)) 1 (some 30)) 2 (some 39)) 3 (some 48)) 4 (some 57)) 5 (some 66)) 6 (some 75)) 7 (some 84)) 8 (some 93)) 9 (some 102))) (h := h) (q := q) (aF A 19 111) (wF (IQ q) (FF (up (up (up (up (up (up (up (up (up (up (fun _ => none) 0 (some 21)) 1 (some 30)) 2 (some 39)) 3 (some 48)) 4 (some 57)) 5 (some 66)) 6 (some 75)) 7 (some 84)) 8 (some 93)) 9 (some 102)) h) M 19 111 _ _) rfl) (fun v A2 M2 hq => ?_)
  obtain ⟨rfl, rfl, rfl⟩ := hq
  rw [aF_aF (by decide) (by decide), wF_g (by decide) (by decide)]
  show abW _ _ _ _ _ _ (100, 6510) (aF A 19 120) (wF (IQ q) (FF (up (up (up (up (up (up (up (up (up (up (fun _ => none) 0 (some 21)) 1 (some 30)) 2 (some 39)) 3 (some 48)) 4 (some 57)) 5 (some 66)) 6 (some 75)) 7 (some 84)) 8 (some 93)) 9 (some 102)) h) M 19 120 _ _) _
  refine kw_a20 (x := 111) rfl (by decide) (by decide) (by decide) (by decide) ⟨by decide, by decide⟩ rfl ?_
  refine bw_iinc (ls2 := [some (vr (some 19)), some (vi 11)]) rfl rfl rfl ⟨by decide, by decide⟩ rfl ?_
  refine bw_goto rfl ?_
  refine bw_iload rfl rfl ?_
  refine bw_push rfl ?_
  refine bw_icge rfl (fun c => absurd c (by decide)) (fun _ => ?_)
  refine bw_aload rfl rfl ?_
  refine kw_getr rfl rfl (by decide) rfl ?_
  refine bw_iload rfl rfl ?_
  refine bw_new rfl (Nat.le_of_ble_eq_true rfl) (Nat.le_of_ble_eq_true rfl) (by show 120 + 1 < 1000000; decide) ?_
  first | refine bw_dup rfl ?_ | refine bw_dupi rfl ?_
  refine bw_callIN (e := 11) (mc := 8) (ms := 588) (as := []) rfl rfl rfl rfl (Nat.le_of_ble_eq_true rfl) (Nat.le_of_ble_eq_true rfl) (Nat.le_of_ble_eq_true rfl) (Nat.le_of_ble_eq_true rfl) rfl (ct_68_120 (g := (up (up (up (up (up (up (up (up (up (up (up (fun _ => none) 0 (some 21)) 1 (some 30)) 2 (some 39)) 3 (some 48)) 4 (some 57)) 5 (some 66)) 6 (some 75)) 7 (some 84)) 8 (some 93)) 9 (some 102)) 10 (some 111))) (h := h) (q := q) (aF A 19 120) (wF (IQ q) (FF (up (up (up (up (up (up (up (up (up (up (up (fun _ => none) 0 (some 21)) 1 (some 30)) 2 (some 39)) 3 (some 48)) 4 (some 57)) 5 (some 66)) 6 (some 75)) 7 (some 84)) 8 (some 93)) 9 (some 102)) 10 (some 111)) h) M 19 120 _ _) rfl) (fun v A2 M2 hq => ?_)
  obtain ⟨rfl, rfl, rfl⟩ := hq
  rw [aF_aF (by decide) (by decide), wF_g (by decide) (by decide)]
  show abW _ _ _ _ _ _ (109, 7100) (aF A 19 129) (wF (IQ q) (FF (up (up (up (up (up (up (up (up (up (up (up (fun _ => none) 0 (some 21)) 1 (some 30)) 2 (some 39)) 3 (some 48)) 4 (some 57)) 5 (some 66)) 6 (some 75)) 7 (some 84)) 8 (some 93)) 9 (some 102)) 10 (some 111)) h) M 19 129 _ _) _
  refine kw_a20 (x := 120) rfl (by decide) (by decide) (by decide) (by decide) ⟨by decide, by decide⟩ rfl ?_
  refine bw_iinc (ls2 := [some (vr (some 19)), some (vi 12)]) rfl rfl rfl ⟨by decide, by decide⟩ rfl ?_
  refine bw_goto rfl ?_
  refine bw_iload rfl rfl ?_
  refine bw_push rfl ?_
  refine bw_icge rfl (fun c => absurd c (by decide)) (fun _ => ?_)
  refine bw_aload rfl rfl ?_
  refine kw_getr rfl rfl (by decide) rfl ?_
  refine bw_iload rfl rfl ?_
  refine bw_new rfl (Nat.le_of_ble_eq_true rfl) (Nat.le_of_ble_eq_true rfl) (by show 129 + 1 < 1000000; decide) ?_
  first | refine bw_dup rfl ?_ | refine bw_dupi rfl ?_
  refine bw_callIN (e := 11) (mc := 8) (ms := 588) (as := []) rfl rfl rfl rfl (Nat.le_of_ble_eq_true rfl) (Nat.le_of_ble_eq_true rfl) (Nat.le_of_ble_eq_true rfl) (Nat.le_of_ble_eq_true rfl) rfl (ct_68_129 (g := (up (up (up (up (up (up (up (up (up (up (up (up (fun _ => none) 0 (some 21)) 1 (some 30)) 2 (some 39)) 3 (some 48)) 4 (some 57)) 5 (some 66)) 6 (some 75)) 7 (some 84)) 8 (some 93)) 9 (some 102)) 10 (some 111)) 11 (some 120))) (h := h) (q := q) (aF A 19 129) (wF (IQ q) (FF (up (up (up (up (up (up (up (up (up (up (up (up (fun _ => none) 0 (some 21)) 1 (some 30)) 2 (some 39)) 3 (some 48)) 4 (some 57)) 5 (some 66)) 6 (some 75)) 7 (some 84)) 8 (some 93)) 9 (some 102)) 10 (some 111)) 11 (some 120)) h) M 19 129 _ _) rfl) (fun v A2 M2 hq => ?_)
  obtain ⟨rfl, rfl, rfl⟩ := hq
  rw [aF_aF (by decide) (by decide), wF_g (by decide) (by decide)]
  show abW _ _ _ _ _ _ (118, 7690) (aF A 19 138) (wF (IQ q) (FF (up (up (up (up (up (up (up (up (up (up (up (up (fun _ => none) 0 (some 21)) 1 (some 30)) 2 (some 39)) 3 (some 48)) 4 (some 57)) 5 (some 66)) 6 (some 75)) 7 (some 84)) 8 (some 93)) 9 (some 102)) 10 (some 111)) 11 (some 120)) h) M 19 138 _ _) _
  refine kw_a20 (x := 129) rfl (by decide) (by decide) (by decide) (by decide) ⟨by decide, by decide⟩ rfl ?_
  refine bw_iinc (ls2 := [some (vr (some 19)), some (vi 13)]) rfl rfl rfl ⟨by decide, by decide⟩ rfl ?_
  refine bw_goto rfl ?_
  refine bw_iload rfl rfl ?_
  refine bw_push rfl ?_
  refine bw_icge rfl (fun c => absurd c (by decide)) (fun _ => ?_)
  refine bw_aload rfl rfl ?_
  refine kw_getr rfl rfl (by decide) rfl ?_
  refine bw_iload rfl rfl ?_
  refine bw_new rfl (Nat.le_of_ble_eq_true rfl) (Nat.le_of_ble_eq_true rfl) (by show 138 + 1 < 1000000; decide) ?_
  first | refine bw_dup rfl ?_ | refine bw_dupi rfl ?_
  refine bw_callIN (e := 11) (mc := 8) (ms := 588) (as := []) rfl rfl rfl rfl (Nat.le_of_ble_eq_true rfl) (Nat.le_of_ble_eq_true rfl) (Nat.le_of_ble_eq_true rfl) (Nat.le_of_ble_eq_true rfl) rfl (ct_68_138 (g := (up (up (up (up (up (up (up (up (up (up (up (up (up (fun _ => none) 0 (some 21)) 1 (some 30)) 2 (some 39)) 3 (some 48)) 4 (some 57)) 5 (some 66)) 6 (some 75)) 7 (some 84)) 8 (some 93)) 9 (some 102)) 10 (some 111)) 11 (some 120)) 12 (some 129))) (h := h) (q := q) (aF A 19 138) (wF (IQ q) (FF (up (up (up (up (up (up (up (up (up (up (up (up (up (fun _ => none) 0 (some 21)) 1 (some 30)) 2 (some 39)) 3 (some 48)) 4 (some 57)) 5 (some 66)) 6 (some 75)) 7 (some 84)) 8 (some 93)) 9 (some 102)) 10 (some 111)) 11 (some 120)) 12 (some 129)) h) M 19 138 _ _) rfl) (fun v A2 M2 hq => ?_)
  obtain ⟨rfl, rfl, rfl⟩ := hq
  rw [aF_aF (by decide) (by decide), wF_g (by decide) (by decide)]
  show abW _ _ _ _ _ _ (127, 8280) (aF A 19 147) (wF (IQ q) (FF (up (up (up (up (up (up (up (up (up (up (up (up (up (fun _ => none) 0 (some 21)) 1 (some 30)) 2 (some 39)) 3 (some 48)) 4 (some 57)) 5 (some 66)) 6 (some 75)) 7 (some 84)) 8 (some 93)) 9 (some 102)) 10 (some 111)) 11 (some 120)) 12 (some 129)) h) M 19 147 _ _) _
  refine kw_a20 (x := 138) rfl (by decide) (by decide) (by decide) (by decide) ⟨by decide, by decide⟩ rfl ?_
  refine bw_iinc (ls2 := [some (vr (some 19)), some (vi 14)]) rfl rfl rfl ⟨by decide, by decide⟩ rfl ?_
  refine bw_goto rfl ?_
  refine bw_iload rfl rfl ?_
  refine bw_push rfl ?_
  refine bw_icge rfl (fun c => absurd c (by decide)) (fun _ => ?_)
  refine bw_aload rfl rfl ?_
  refine kw_getr rfl rfl (by decide) rfl ?_
  refine bw_iload rfl rfl ?_
  refine bw_new rfl (Nat.le_of_ble_eq_true rfl) (Nat.le_of_ble_eq_true rfl) (by show 147 + 1 < 1000000; decide) ?_
  first | refine bw_dup rfl ?_ | refine bw_dupi rfl ?_
  refine bw_callIN (e := 11) (mc := 8) (ms := 588) (as := []) rfl rfl rfl rfl (Nat.le_of_ble_eq_true rfl) (Nat.le_of_ble_eq_true rfl) (Nat.le_of_ble_eq_true rfl) (Nat.le_of_ble_eq_true rfl) rfl (ct_68_147 (g := (up (up (up (up (up (up (up (up (up (up (up (up (up (up (fun _ => none) 0 (some 21)) 1 (some 30)) 2 (some 39)) 3 (some 48)) 4 (some 57)) 5 (some 66)) 6 (some 75)) 7 (some 84)) 8 (some 93)) 9 (some 102)) 10 (some 111)) 11 (some 120)) 12 (some 129)) 13 (some 138))) (h := h) (q := q) (aF A 19 147) (wF (IQ q) (FF (up (up (up (up (up (up (up (up (up (up (up (up (up (up (fun _ => none) 0 (some 21)) 1 (some 30)) 2 (some 39)) 3 (some 48)) 4 (some 57)) 5 (some 66)) 6 (some 75)) 7 (some 84)) 8 (some 93)) 9 (some 102)) 10 (some 111)) 11 (some 120)) 12 (some 129)) 13 (some 138)) h) M 19 147 _ _) rfl) (fun v A2 M2 hq => ?_)
  obtain ⟨rfl, rfl, rfl⟩ := hq
  rw [aF_aF (by decide) (by decide), wF_g (by decide) (by decide)]
  show abW _ _ _ _ _ _ (136, 8870) (aF A 19 156) (wF (IQ q) (FF (up (up (up (up (up (up (up (up (up (up (up (up (up (up (fun _ => none) 0 (some 21)) 1 (some 30)) 2 (some 39)) 3 (some 48)) 4 (some 57)) 5 (some 66)) 6 (some 75)) 7 (some 84)) 8 (some 93)) 9 (some 102)) 10 (some 111)) 11 (some 120)) 12 (some 129)) 13 (some 138)) h) M 19 156 _ _) _
  refine kw_a20 (x := 147) rfl (by decide) (by decide) (by decide) (by decide) ⟨by decide, by decide⟩ rfl ?_
  refine bw_iinc (ls2 := [some (vr (some 19)), some (vi 15)]) rfl rfl rfl ⟨by decide, by decide⟩ rfl ?_
  refine bw_goto rfl ?_
  refine bw_iload rfl rfl ?_
  refine bw_push rfl ?_
  refine bw_icge rfl (fun c => absurd c (by decide)) (fun _ => ?_)
  refine bw_aload rfl rfl ?_
  refine kw_getr rfl rfl (by decide) rfl ?_
  refine bw_iload rfl rfl ?_
  refine bw_new rfl (Nat.le_of_ble_eq_true rfl) (Nat.le_of_ble_eq_true rfl) (by show 156 + 1 < 1000000; decide) ?_
  first | refine bw_dup rfl ?_ | refine bw_dupi rfl ?_
  refine bw_callIN (e := 11) (mc := 8) (ms := 588) (as := []) rfl rfl rfl rfl (Nat.le_of_ble_eq_true rfl) (Nat.le_of_ble_eq_true rfl) (Nat.le_of_ble_eq_true rfl) (Nat.le_of_ble_eq_true rfl) rfl (ct_68_156 (g := (up (up (up (up (up (up (up (up (up (up (up (up (up (up (up (fun _ => none) 0 (some 21)) 1 (some 30)) 2 (some 39)) 3 (some 48)) 4 (some 57)) 5 (some 66)) 6 (some 75)) 7 (some 84)) 8 (some 93)) 9 (some 102)) 10 (some 111)) 11 (some 120)) 12 (some 129)) 13 (some 138)) 14 (some 147))) (h := h) (q := q) (aF A 19 156) (wF (IQ q) (FF (up (up (up (up (up (up (up (up (up (up (up (up (up (up (up (fun _ => none) 0 (some 21)) 1 (some 30)) 2 (some 39)) 3 (some 48)) 4 (some 57)) 5 (some 66)) 6 (some 75)) 7 (some 84)) 8 (some 93)) 9 (some 102)) 10 (some 111)) 11 (some 120)) 12 (some 129)) 13 (some 138)) 14 (some 147)) h) M 19 156 _ _) rfl) (fun v A2 M2 hq => ?_)
  obtain ⟨rfl, rfl, rfl⟩ := hq
  rw [aF_aF (by decide) (by decide), wF_g (by decide) (by decide)]
  show abW _ _ _ _ _ _ (145, 9460) (aF A 19 165) (wF (IQ q) (FF (up (up (up (up (up (up (up (up (up (up (up (up (up (up (up (fun _ => none) 0 (some 21)) 1 (some 30)) 2 (some 39)) 3 (some 48)) 4 (some 57)) 5 (some 66)) 6 (some 75)) 7 (some 84)) 8 (some 93)) 9 (some 102)) 10 (some 111)) 11 (some 120)) 12 (some 129)) 13 (some 138)) 14 (some 147)) h) M 19 165 _ _) _
  refine kw_a20 (x := 156) rfl (by decide) (by decide) (by decide) (by decide) ⟨by decide, by decide⟩ rfl ?_
  refine bw_iinc (ls2 := [some (vr (some 19)), some (vi 16)]) rfl rfl rfl ⟨by decide, by decide⟩ rfl ?_
  refine bw_goto rfl ?_
  refine bw_iload rfl rfl ?_
  refine bw_push rfl ?_
  refine bw_icge rfl (fun c => absurd c (by decide)) (fun _ => ?_)
  refine bw_aload rfl rfl ?_
  refine kw_getr rfl rfl (by decide) rfl ?_
  refine bw_iload rfl rfl ?_
  refine bw_new rfl (Nat.le_of_ble_eq_true rfl) (Nat.le_of_ble_eq_true rfl) (by show 165 + 1 < 1000000; decide) ?_
  first | refine bw_dup rfl ?_ | refine bw_dupi rfl ?_
  refine bw_callIN (e := 11) (mc := 8) (ms := 588) (as := []) rfl rfl rfl rfl (Nat.le_of_ble_eq_true rfl) (Nat.le_of_ble_eq_true rfl) (Nat.le_of_ble_eq_true rfl) (Nat.le_of_ble_eq_true rfl) rfl (ct_68_165 (g := (up (up (up (up (up (up (up (up (up (up (up (up (up (up (up (up (fun _ => none) 0 (some 21)) 1 (some 30)) 2 (some 39)) 3 (some 48)) 4 (some 57)) 5 (some 66)) 6 (some 75)) 7 (some 84)) 8 (some 93)) 9 (some 102)) 10 (some 111)) 11 (some 120)) 12 (some 129)) 13 (some 138)) 14 (some 147)) 15 (some 156))) (h := h) (q := q) (aF A 19 165) (wF (IQ q) (FF (up (up (up (up (up (up (up (up (up (up (up (up (up (up (up (up (fun _ => none) 0 (some 21)) 1 (some 30)) 2 (some 39)) 3 (some 48)) 4 (some 57)) 5 (some 66)) 6 (some 75)) 7 (some 84)) 8 (some 93)) 9 (some 102)) 10 (some 111)) 11 (some 120)) 12 (some 129)) 13 (some 138)) 14 (some 147)) 15 (some 156)) h) M 19 165 _ _) rfl) (fun v A2 M2 hq => ?_)
  obtain ⟨rfl, rfl, rfl⟩ := hq
  rw [aF_aF (by decide) (by decide), wF_g (by decide) (by decide)]
  show abW _ _ _ _ _ _ (154, 10050) (aF A 19 174) (wF (IQ q) (FF (up (up (up (up (up (up (up (up (up (up (up (up (up (up (up (up (fun _ => none) 0 (some 21)) 1 (some 30)) 2 (some 39)) 3 (some 48)) 4 (some 57)) 5 (some 66)) 6 (some 75)) 7 (some 84)) 8 (some 93)) 9 (some 102)) 10 (some 111)) 11 (some 120)) 12 (some 129)) 13 (some 138)) 14 (some 147)) 15 (some 156)) h) M 19 174 _ _) _
  refine kw_a20 (x := 165) rfl (by decide) (by decide) (by decide) (by decide) ⟨by decide, by decide⟩ rfl ?_
  refine bw_iinc (ls2 := [some (vr (some 19)), some (vi 17)]) rfl rfl rfl ⟨by decide, by decide⟩ rfl ?_
  refine bw_goto rfl ?_
  refine bw_iload rfl rfl ?_
  refine bw_push rfl ?_
  refine bw_icge rfl (fun c => absurd c (by decide)) (fun _ => ?_)
  refine bw_aload rfl rfl ?_
  refine kw_getr rfl rfl (by decide) rfl ?_
  refine bw_iload rfl rfl ?_
  refine bw_new rfl (Nat.le_of_ble_eq_true rfl) (Nat.le_of_ble_eq_true rfl) (by show 174 + 1 < 1000000; decide) ?_
  first | refine bw_dup rfl ?_ | refine bw_dupi rfl ?_
  refine bw_callIN (e := 11) (mc := 8) (ms := 588) (as := []) rfl rfl rfl rfl (Nat.le_of_ble_eq_true rfl) (Nat.le_of_ble_eq_true rfl) (Nat.le_of_ble_eq_true rfl) (Nat.le_of_ble_eq_true rfl) rfl (ct_68_174 (g := (up (up (up (up (up (up (up (up (up (up (up (up (up (up (up (up (up (fun _ => none) 0 (some 21)) 1 (some 30)) 2 (some 39)) 3 (some 48)) 4 (some 57)) 5 (some 66)) 6 (some 75)) 7 (some 84)) 8 (some 93)) 9 (some 102)) 10 (some 111)) 11 (some 120)) 12 (some 129)) 13 (some 138)) 14 (some 147)) 15 (some 156)) 16 (some 165))) (h := h) (q := q) (aF A 19 174) (wF (IQ q) (FF (up (up (up (up (up (up (up (up (up (up (up (up (up (up (up (up (up (fun _ => none) 0 (some 21)) 1 (some 30)) 2 (some 39)) 3 (some 48)) 4 (some 57)) 5 (some 66)) 6 (some 75)) 7 (some 84)) 8 (some 93)) 9 (some 102)) 10 (some 111)) 11 (some 120)) 12 (some 129)) 13 (some 138)) 14 (some 147)) 15 (some 156)) 16 (some 165)) h) M 19 174 _ _) rfl) (fun v A2 M2 hq => ?_)
  obtain ⟨rfl, rfl, rfl⟩ := hq
  rw [aF_aF (by decide) (by decide), wF_g (by decide) (by decide)]
  show abW _ _ _ _ _ _ (163, 10640) (aF A 19 183) (wF (IQ q) (FF (up (up (up (up (up (up (up (up (up (up (up (up (up (up (up (up (up (fun _ => none) 0 (some 21)) 1 (some 30)) 2 (some 39)) 3 (some 48)) 4 (some 57)) 5 (some 66)) 6 (some 75)) 7 (some 84)) 8 (some 93)) 9 (some 102)) 10 (some 111)) 11 (some 120)) 12 (some 129)) 13 (some 138)) 14 (some 147)) 15 (some 156)) 16 (some 165)) h) M 19 183 _ _) _
  refine kw_a20 (x := 174) rfl (by decide) (by decide) (by decide) (by decide) ⟨by decide, by decide⟩ rfl ?_
  refine bw_iinc (ls2 := [some (vr (some 19)), some (vi 18)]) rfl rfl rfl ⟨by decide, by decide⟩ rfl ?_
  refine bw_goto rfl ?_
  refine bw_iload rfl rfl ?_
  refine bw_push rfl ?_
  refine bw_icge rfl (fun c => absurd c (by decide)) (fun _ => ?_)
  refine bw_aload rfl rfl ?_
  refine kw_getr rfl rfl (by decide) rfl ?_
  refine bw_iload rfl rfl ?_
  refine bw_new rfl (Nat.le_of_ble_eq_true rfl) (Nat.le_of_ble_eq_true rfl) (by show 183 + 1 < 1000000; decide) ?_
  first | refine bw_dup rfl ?_ | refine bw_dupi rfl ?_
  refine bw_callIN (e := 11) (mc := 8) (ms := 588) (as := []) rfl rfl rfl rfl (Nat.le_of_ble_eq_true rfl) (Nat.le_of_ble_eq_true rfl) (Nat.le_of_ble_eq_true rfl) (Nat.le_of_ble_eq_true rfl) rfl (ct_68_183 (g := (up (up (up (up (up (up (up (up (up (up (up (up (up (up (up (up (up (up (fun _ => none) 0 (some 21)) 1 (some 30)) 2 (some 39)) 3 (some 48)) 4 (some 57)) 5 (some 66)) 6 (some 75)) 7 (some 84)) 8 (some 93)) 9 (some 102)) 10 (some 111)) 11 (some 120)) 12 (some 129)) 13 (some 138)) 14 (some 147)) 15 (some 156)) 16 (some 165)) 17 (some 174))) (h := h) (q := q) (aF A 19 183) (wF (IQ q) (FF (up (up (up (up (up (up (up (up (up (up (up (up (up (up (up (up (up (up (fun _ => none) 0 (some 21)) 1 (some 30)) 2 (some 39)) 3 (some 48)) 4 (some 57)) 5 (some 66)) 6 (some 75)) 7 (some 84)) 8 (some 93)) 9 (some 102)) 10 (some 111)) 11 (some 120)) 12 (some 129)) 13 (some 138)) 14 (some 147)) 15 (some 156)) 16 (some 165)) 17 (some 174)) h) M 19 183 _ _) rfl) (fun v A2 M2 hq => ?_)
  obtain ⟨rfl, rfl, rfl⟩ := hq
  rw [aF_aF (by decide) (by decide), wF_g (by decide) (by decide)]
  show abW _ _ _ _ _ _ (172, 11230) (aF A 19 192) (wF (IQ q) (FF (up (up (up (up (up (up (up (up (up (up (up (up (up (up (up (up (up (up (fun _ => none) 0 (some 21)) 1 (some 30)) 2 (some 39)) 3 (some 48)) 4 (some 57)) 5 (some 66)) 6 (some 75)) 7 (some 84)) 8 (some 93)) 9 (some 102)) 10 (some 111)) 11 (some 120)) 12 (some 129)) 13 (some 138)) 14 (some 147)) 15 (some 156)) 16 (some 165)) 17 (some 174)) h) M 19 192 _ _) _
  refine kw_a20 (x := 183) rfl (by decide) (by decide) (by decide) (by decide) ⟨by decide, by decide⟩ rfl ?_
  refine bw_iinc (ls2 := [some (vr (some 19)), some (vi 19)]) rfl rfl rfl ⟨by decide, by decide⟩ rfl ?_
  refine bw_goto rfl ?_
  refine bw_iload rfl rfl ?_
  refine bw_push rfl ?_
  refine bw_icge rfl (fun c => absurd c (by decide)) (fun _ => ?_)
  refine bw_aload rfl rfl ?_
  refine kw_getr rfl rfl (by decide) rfl ?_
  refine bw_iload rfl rfl ?_
  refine bw_new rfl (Nat.le_of_ble_eq_true rfl) (Nat.le_of_ble_eq_true rfl) (by show 192 + 1 < 1000000; decide) ?_
  first | refine bw_dup rfl ?_ | refine bw_dupi rfl ?_
  refine bw_callIN (e := 11) (mc := 8) (ms := 588) (as := []) rfl rfl rfl rfl (Nat.le_of_ble_eq_true rfl) (Nat.le_of_ble_eq_true rfl) (Nat.le_of_ble_eq_true rfl) (Nat.le_of_ble_eq_true rfl) rfl (ct_68_192 (g := (up (up (up (up (up (up (up (up (up (up (up (up (up (up (up (up (up (up (up (fun _ => none) 0 (some 21)) 1 (some 30)) 2 (some 39)) 3 (some 48)) 4 (some 57)) 5 (some 66)) 6 (some 75)) 7 (some 84)) 8 (some 93)) 9 (some 102)) 10 (some 111)) 11 (some 120)) 12 (some 129)) 13 (some 138)) 14 (some 147)) 15 (some 156)) 16 (some 165)) 17 (some 174)) 18 (some 183))) (h := h) (q := q) (aF A 19 192) (wF (IQ q) (FF (up (up (up (up (up (up (up (up (up (up (up (up (up (up (up (up (up (up (up (fun _ => none) 0 (some 21)) 1 (some 30)) 2 (some 39)) 3 (some 48)) 4 (some 57)) 5 (some 66)) 6 (some 75)) 7 (some 84)) 8 (some 93)) 9 (some 102)) 10 (some 111)) 11 (some 120)) 12 (some 129)) 13 (some 138)) 14 (some 147)) 15 (some 156)) 16 (some 165)) 17 (some 174)) 18 (some 183)) h) M 19 192 _ _) rfl) (fun v A2 M2 hq => ?_)
  obtain ⟨rfl, rfl, rfl⟩ := hq
  rw [aF_aF (by decide) (by decide), wF_g (by decide) (by decide)]
  show abW _ _ _ _ _ _ (181, 11820) (aF A 19 201) (wF (IQ q) (FF (up (up (up (up (up (up (up (up (up (up (up (up (up (up (up (up (up (up (up (fun _ => none) 0 (some 21)) 1 (some 30)) 2 (some 39)) 3 (some 48)) 4 (some 57)) 5 (some 66)) 6 (some 75)) 7 (some 84)) 8 (some 93)) 9 (some 102)) 10 (some 111)) 11 (some 120)) 12 (some 129)) 13 (some 138)) 14 (some 147)) 15 (some 156)) 16 (some 165)) 17 (some 174)) 18 (some 183)) h) M 19 201 _ _) _
  refine kw_a20 (x := 192) rfl (by decide) (by decide) (by decide) (by decide) ⟨by decide, by decide⟩ rfl ?_
  refine bw_iinc (ls2 := [some (vr (some 19)), some (vi 20)]) rfl rfl rfl ⟨by decide, by decide⟩ rfl ?_
  refine bw_goto rfl ?_
  refine bw_iload rfl rfl ?_
  refine bw_push rfl ?_
  refine bw_icge rfl (fun _ => ?_) (fun c => absurd (by decide) c)
  refine bw_return (st := []) rfl (Nat.le_of_ble_eq_true rfl) (Nat.le_of_ble_eq_true rfl) rfl ⟨rfl, rfl, ?_⟩
  rw [show (up (up (up (up (up (up (up (up (up (up (up (up (up (up (up (up (up (up (up (up (fun _ => none) 0 (some 21)) 1 (some 30)) 2 (some 39)) 3 (some 48)) 4 (some 57)) 5 (some 66)) 6 (some 75)) 7 (some 84)) 8 (some 93)) 9 (some 102)) 10 (some 111)) 11 (some 120)) 12 (some 129)) 13 (some 138)) 14 (some 147)) 15 (some 156)) 16 (some 165)) 17 (some 174)) 18 (some 183)) 19 (some 192)) = rr r0 20 from (rr_ext (o := 20) (by decide) (fun k => match k with
    | 0 => rfl
    | 1 => rfl
    | 2 => rfl
    | 3 => rfl
    | 4 => rfl
    | 5 => rfl
    | 6 => rfl
    | 7 => rfl
    | 8 => rfl
    | 9 => rfl
    | 10 => rfl
    | 11 => rfl
    | 12 => rfl
    | 13 => rfl
    | 14 => rfl
    | 15 => rfl
    | 16 => rfl
    | 17 => rfl
    | 18 => rfl
    | 19 => rfl
    | k + 20 => by rw [up_ne (by omega), up_ne (by omega), up_ne (by omega), up_ne (by omega), up_ne (by omega), up_ne (by omega), up_ne (by omega), up_ne (by omega), up_ne (by omega), up_ne (by omega), up_ne (by omega), up_ne (by omega), up_ne (by omega), up_ne (by omega), up_ne (by omega), up_ne (by omega), up_ne (by omega), up_ne (by omega), up_ne (by omega), up_ne (by omega)]; rfl) (fun j hj => by rw [up_ne (by omega), up_ne (by omega), up_ne (by omega), up_ne (by omega), up_ne (by omega), up_ne (by omega), up_ne (by omega), up_ne (by omega), up_ne (by omega), up_ne (by omega), up_ne (by omega), up_ne (by omega), up_ne (by omega), up_ne (by omega), up_ne (by omega), up_ne (by omega), up_ne (by omega), up_ne (by omega), up_ne (by omega), up_ne (by omega)])).symm]
  exact wF_fin ((rr_ext (o := 19) (by decide) (fun k => match k with
      | 0 => rfl
      | k + 1 => by rw [up_ne (by omega)]; rfl) (fun j hj => by rw [up_ne (by omega)])).symm.trans (FF_o (by decide) (by decide)).symm) (IQ_z (by decide) (by decide) (by decide)).symm
theorem rz_207_8 : ∀ t : Nat, t < 8 → rr r0 (207 + 1 + t) = fun _ => none
  | 0, _ => rr_no (by decide) (fun _ => rfl)
  | 1, _ => rr_no (by decide) (fun _ => rfl)
  | 2, _ => rr_no (by decide) (fun _ => rfl)
  | 3, _ => rr_no (by decide) (fun _ => rfl)
  | 4, _ => rr_no (by decide) (fun _ => rfl)
  | 5, _ => rr_no (by decide) (fun _ => rfl)
  | 6, _ => rr_no (by decide) (fun _ => rfl)
  | 7, _ => rr_no (by decide) (fun _ => rfl)
  | t + 8, h => absurd h (by omega)
set_option maxRecDepth 20000 in
set_option maxHeartbeats 4000000 in
theorem ct_0_205 {g h : Int → Option Nat} {q : Int → Int} (A : abAl) (M : abMem) (hA : A.1 = 205) : abW 11 (11, 35944) 0 0 (abEnt (abL 0) [vr (some 205), vi 3936]) [] (0, 0) (kN A 0 4) (zM M 205 (205 + 1)) (fun v A2 M2 => v = none ∧ A2 = aF A 205 217 ∧ M2 = gF (IQ q) (FF g h) M 205 217) := by
  rw [aF_1 (o := 205) (show kT 205 = (0, 4) from rfl) hA, wF_new (I := IQ q) (F := FF g h)]
  show abW 11 (11, 35944) 0 0 [some (vr (some 205)), some (vi 3936)] [] (0, 0) (aF A 205 206) (wF (IQ q) (FF g h) M 205 206 (fun _ => none) (fun _ => 0)) _
  refine bw_aload rfl rfl ?_
  refine kw_objinit rfl (by decide) (by decide) (by decide) (Nat.le_of_ble_eq_true rfl) ?_
  refine bw_aload rfl rfl ?_
  refine bw_push rfl ?_
  refine kw_newarr rfl rfl (by decide) (by decide) (Nat.le_of_ble_eq_true rfl) (Nat.le_of_ble_eq_true rfl) (by decide) (by decide) ((FF_o (by decide) (by decide)).trans (rr_no (by decide) (fun _ => rfl))) (IQ_z (by decide) (by decide) (by decide)) ?_
  show abW _ _ _ _ _ _ (1, 512) (aF A 205 207) (wF (IQ q) (FF g h) M 205 207 _ _) _
  refine kw_putR rfl rfl (by decide) ?_
  refine bw_aload rfl rfl ?_
  refine bw_push rfl ?_
  refine bw_iload rfl rfl ?_
  refine kw_mnewarr (l := 8) rfl rfl (by decide) (by decide) (by decide) (by decide) (Nat.le_of_ble_eq_true rfl) (Nat.le_of_ble_eq_true rfl) (by decide) (by decide) ((FF_o (by decide) (by decide)).trans (rr_rw (l := 8) (by decide) (fun _ => rfl))) (fun y y0 y1 => ?_) (fun y y0 y1 => IQ_z (by omega) (by omega) (by omega)) ?_
  · rw [FF_o (by omega) (by omega), show y = 207 + 1 + (y - (207 + 1)) by omega]; exact rz_207_8 _ (by omega)
  show abW _ _ _ _ _ _ (10, 32008) (aF A 205 216) (wF (IQ q) (FF g h) M 205 216 _ _) _
  refine kw_putR rfl rfl (by decide) ?_
  refine bw_aload rfl rfl ?_
  refine bw_iload rfl rfl ?_
  refine kw_newarr rfl rfl (by decide) (by decide) (Nat.le_of_ble_eq_true rfl) (Nat.le_of_ble_eq_true rfl) (by decide) (by decide) ((FF_o (by decide) (by decide)).trans (rr_no (by decide) (fun _ => rfl))) (IQ_z (by decide) (by decide) (by decide)) ?_
  show abW _ _ _ _ _ _ (11, 35944) (aF A 205 217) (wF (IQ q) (FF g h) M 205 217 _ _) _
  refine kw_putR rfl rfl (by decide) ?_
  refine bw_return (st := []) rfl (Nat.le_of_ble_eq_true rfl) (Nat.le_of_ble_eq_true rfl) rfl ⟨rfl, rfl, ?_⟩
  exact wF_fin ((rr_ext (o := 205) (by decide) (fun k => match k with
      | 0 => rfl
      | 1 => rfl
      | 2 => rfl
      | k + 3 => by rw [up_ne (by omega), up_ne (by omega), up_ne (by omega)]; rfl) (fun j hj => by rw [up_ne (by omega), up_ne (by omega), up_ne (by omega)])).symm.trans (FF_o (by decide) (by decide)).symm) (IQ_z (by decide) (by decide) (by decide)).symm
set_option maxRecDepth 20000 in
set_option maxHeartbeats 4000000 in
theorem ct_5_203 {g h : Int → Option Nat} {q : Int → Int} (A : abAl) (M : abMem) (hA : A.1 = 203) : abW 12 (15, 43828) 5 0 (abEnt (abL 5) [vr (some 203)]) [] (0, 0) (kN A 1 8) (zM M 203 (203 + 1)) (fun v A2 M2 => v = none ∧ A2 = aF A 203 219 ∧ M2 = gF (IQ q) (FF g h) M 203 219) := by
  rw [aF_1 (o := 203) (show kT 203 = (1, 8) from rfl) hA, wF_new (I := IQ q) (F := FF g h)]
  show abW 12 (15, 43828) 5 0 [some (vr (some 203))] [] (0, 0) (aF A 203 204) (wF (IQ q) (FF g h) M 203 204 (fun _ => none) (fun _ => 0)) _
  refine bw_aload rfl rfl ?_
  refine kw_objinit rfl (by decide) (by decide) (by decide) (Nat.le_of_ble_eq_true rfl) ?_
  refine bw_aload rfl rfl ?_
  refine bw_push rfl ?_
  refine kw_newarr rfl rfl (by decide) (by decide) (Nat.le_of_ble_eq_true rfl) (Nat.le_of_ble_eq_true rfl) (by decide) (by decide) ((FF_o (by decide) (by decide)).trans (rr_no (by decide) (fun _ => rfl))) (IQ_z (by decide) (by decide) (by decide)) ?_
  show abW _ _ _ _ _ _ (1, 8) (aF A 203 205) (wF (IQ q) (FF g h) M 203 205 _ _) _
  refine kw_putR rfl rfl (by decide) ?_
  refine bw_aload rfl rfl ?_
  refine bw_new rfl (Nat.le_of_ble_eq_true rfl) (Nat.le_of_ble_eq_true rfl) (by show 205 + 1 < 1000000; decide) ?_
  first | refine bw_dup rfl ?_ | refine bw_dupi rfl ?_
  refine bw_push rfl ?_
  refine bw_callIN (e := 11) (mc := 11) (ms := 35944) (as := [vi 3936]) rfl rfl rfl rfl (Nat.le_of_ble_eq_true rfl) (Nat.le_of_ble_eq_true rfl) (Nat.le_of_ble_eq_true rfl) (Nat.le_of_ble_eq_true rfl) rfl (ct_0_205 (g := g) (h := h) (q := q) (aF A 203 205) (wF (IQ q) (FF g h) M 203 205 _ _) rfl) (fun v A2 M2 hq => ?_)
  obtain ⟨rfl, rfl, rfl⟩ := hq
  rw [aF_aF (by decide) (by decide), wF_g (by decide) (by decide)]
  show abW _ _ _ _ _ _ (13, 35956) (aF A 203 217) (wF (IQ q) (FF g h) M 203 217 _ _) _
  refine kw_putR rfl rfl (by decide) ?_
  refine bw_aload rfl rfl ?_
  refine bw_push rfl ?_
  refine kw_newarr rfl rfl (by decide) (by decide) (Nat.le_of_ble_eq_true rfl) (Nat.le_of_ble_eq_true rfl) (by decide) (by decide) ((FF_o (by decide) (by decide)).trans (rr_no (by decide) (fun _ => rfl))) (IQ_z (by decide) (by decide) (by decide)) ?_
  show abW _ _ _ _ _ _ (14, 39892) (aF A 203 218) (wF (IQ q) (FF g h) M 203 218 _ _) _
  refine kw_putR rfl rfl (by decide) ?_
  refine bw_aload rfl rfl ?_
  refine bw_push rfl ?_
  refine kw_newarr rfl rfl (by decide) (by decide) (Nat.le_of_ble_eq_true rfl) (Nat.le_of_ble_eq_true rfl) (by decide) (by decide) ((FF_o (by decide) (by decide)).trans (rr_no (by decide) (fun _ => rfl))) (IQ_z (by decide) (by decide) (by decide)) ?_
  show abW _ _ _ _ _ _ (15, 43828) (aF A 203 219) (wF (IQ q) (FF g h) M 203 219 _ _) _
  refine kw_putR rfl rfl (by decide) ?_
  refine bw_return (st := []) rfl (Nat.le_of_ble_eq_true rfl) (Nat.le_of_ble_eq_true rfl) rfl ⟨rfl, rfl, ?_⟩
  exact wF_fin ((rr_ext (o := 203) (by decide) (fun k => match k with
      | 0 => rfl
      | 1 => rfl
      | 2 => rfl
      | 3 => rfl
      | 4 => rfl
      | 5 => rfl
      | 6 => rfl
      | k + 7 => by rw [up_ne (by omega), up_ne (by omega), up_ne (by omega), up_ne (by omega)]; rfl) (fun j hj => by rw [up_ne (by omega), up_ne (by omega), up_ne (by omega), up_ne (by omega)])).symm.trans (FF_o (by decide) (by decide)).symm) (IQ_z (by decide) (by decide) (by decide)).symm
theorem rz_224_49 : ∀ t : Nat, t < 49 → rr r0 (224 + 1 + t) = fun _ => none
  | 0, _ => rr_no (by decide) (fun _ => rfl)
  | 1, _ => rr_no (by decide) (fun _ => rfl)
  | 2, _ => rr_no (by decide) (fun _ => rfl)
  | 3, _ => rr_no (by decide) (fun _ => rfl)
  | 4, _ => rr_no (by decide) (fun _ => rfl)
  | 5, _ => rr_no (by decide) (fun _ => rfl)
  | 6, _ => rr_no (by decide) (fun _ => rfl)
  | 7, _ => rr_no (by decide) (fun _ => rfl)
  | 8, _ => rr_no (by decide) (fun _ => rfl)
  | 9, _ => rr_no (by decide) (fun _ => rfl)
  | 10, _ => rr_no (by decide) (fun _ => rfl)
  | 11, _ => rr_no (by decide) (fun _ => rfl)
  | 12, _ => rr_no (by decide) (fun _ => rfl)
  | 13, _ => rr_no (by decide) (fun _ => rfl)
  | 14, _ => rr_no (by decide) (fun _ => rfl)
  | 15, _ => rr_no (by decide) (fun _ => rfl)
  | 16, _ => rr_no (by decide) (fun _ => rfl)
  | 17, _ => rr_no (by decide) (fun _ => rfl)
  | 18, _ => rr_no (by decide) (fun _ => rfl)
  | 19, _ => rr_no (by decide) (fun _ => rfl)
  | 20, _ => rr_no (by decide) (fun _ => rfl)
  | 21, _ => rr_no (by decide) (fun _ => rfl)
  | 22, _ => rr_no (by decide) (fun _ => rfl)
  | 23, _ => rr_no (by decide) (fun _ => rfl)
  | 24, _ => rr_no (by decide) (fun _ => rfl)
  | 25, _ => rr_no (by decide) (fun _ => rfl)
  | 26, _ => rr_no (by decide) (fun _ => rfl)
  | 27, _ => rr_no (by decide) (fun _ => rfl)
  | 28, _ => rr_no (by decide) (fun _ => rfl)
  | 29, _ => rr_no (by decide) (fun _ => rfl)
  | 30, _ => rr_no (by decide) (fun _ => rfl)
  | 31, _ => rr_no (by decide) (fun _ => rfl)
  | 32, _ => rr_no (by decide) (fun _ => rfl)
  | 33, _ => rr_no (by decide) (fun _ => rfl)
  | 34, _ => rr_no (by decide) (fun _ => rfl)
  | 35, _ => rr_no (by decide) (fun _ => rfl)
  | 36, _ => rr_no (by decide) (fun _ => rfl)
  | 37, _ => rr_no (by decide) (fun _ => rfl)
  | 38, _ => rr_no (by decide) (fun _ => rfl)
  | 39, _ => rr_no (by decide) (fun _ => rfl)
  | 40, _ => rr_no (by decide) (fun _ => rfl)
  | 41, _ => rr_no (by decide) (fun _ => rfl)
  | 42, _ => rr_no (by decide) (fun _ => rfl)
  | 43, _ => rr_no (by decide) (fun _ => rfl)
  | 44, _ => rr_no (by decide) (fun _ => rfl)
  | 45, _ => rr_no (by decide) (fun _ => rfl)
  | 46, _ => rr_no (by decide) (fun _ => rfl)
  | 47, _ => rr_no (by decide) (fun _ => rfl)
  | 48, _ => rr_no (by decide) (fun _ => rfl)
  | t + 49, h => absurd h (by omega)
theorem rz_274_97 : ∀ t : Nat, t < 97 → rr r0 (274 + 1 + t) = fun _ => none
  | 0, _ => rr_no (by decide) (fun _ => rfl)
  | 1, _ => rr_no (by decide) (fun _ => rfl)
  | 2, _ => rr_no (by decide) (fun _ => rfl)
  | 3, _ => rr_no (by decide) (fun _ => rfl)
  | 4, _ => rr_no (by decide) (fun _ => rfl)
  | 5, _ => rr_no (by decide) (fun _ => rfl)
  | 6, _ => rr_no (by decide) (fun _ => rfl)
  | 7, _ => rr_no (by decide) (fun _ => rfl)
  | 8, _ => rr_no (by decide) (fun _ => rfl)
  | 9, _ => rr_no (by decide) (fun _ => rfl)
  | 10, _ => rr_no (by decide) (fun _ => rfl)
  | 11, _ => rr_no (by decide) (fun _ => rfl)
  | 12, _ => rr_no (by decide) (fun _ => rfl)
  | 13, _ => rr_no (by decide) (fun _ => rfl)
  | 14, _ => rr_no (by decide) (fun _ => rfl)
  | 15, _ => rr_no (by decide) (fun _ => rfl)
  | 16, _ => rr_no (by decide) (fun _ => rfl)
  | 17, _ => rr_no (by decide) (fun _ => rfl)
  | 18, _ => rr_no (by decide) (fun _ => rfl)
  | 19, _ => rr_no (by decide) (fun _ => rfl)
  | 20, _ => rr_no (by decide) (fun _ => rfl)
  | 21, _ => rr_no (by decide) (fun _ => rfl)
  | 22, _ => rr_no (by decide) (fun _ => rfl)
  | 23, _ => rr_no (by decide) (fun _ => rfl)
  | 24, _ => rr_no (by decide) (fun _ => rfl)
  | 25, _ => rr_no (by decide) (fun _ => rfl)
  | 26, _ => rr_no (by decide) (fun _ => rfl)
  | 27, _ => rr_no (by decide) (fun _ => rfl)
  | 28, _ => rr_no (by decide) (fun _ => rfl)
  | 29, _ => rr_no (by decide) (fun _ => rfl)
  | 30, _ => rr_no (by decide) (fun _ => rfl)
  | 31, _ => rr_no (by decide) (fun _ => rfl)
  | 32, _ => rr_no (by decide) (fun _ => rfl)
  | 33, _ => rr_no (by decide) (fun _ => rfl)
  | 34, _ => rr_no (by decide) (fun _ => rfl)
  | 35, _ => rr_no (by decide) (fun _ => rfl)
  | 36, _ => rr_no (by decide) (fun _ => rfl)
  | 37, _ => rr_no (by decide) (fun _ => rfl)
  | 38, _ => rr_no (by decide) (fun _ => rfl)
  | 39, _ => rr_no (by decide) (fun _ => rfl)
  | 40, _ => rr_no (by decide) (fun _ => rfl)
  | 41, _ => rr_no (by decide) (fun _ => rfl)
  | 42, _ => rr_no (by decide) (fun _ => rfl)
  | 43, _ => rr_no (by decide) (fun _ => rfl)
  | 44, _ => rr_no (by decide) (fun _ => rfl)
  | 45, _ => rr_no (by decide) (fun _ => rfl)
  | 46, _ => rr_no (by decide) (fun _ => rfl)
  | 47, _ => rr_no (by decide) (fun _ => rfl)
  | 48, _ => rr_no (by decide) (fun _ => rfl)
  | 49, _ => rr_no (by decide) (fun _ => rfl)
  | 50, _ => rr_no (by decide) (fun _ => rfl)
  | 51, _ => rr_no (by decide) (fun _ => rfl)
  | 52, _ => rr_no (by decide) (fun _ => rfl)
  | 53, _ => rr_no (by decide) (fun _ => rfl)
  | 54, _ => rr_no (by decide) (fun _ => rfl)
  | 55, _ => rr_no (by decide) (fun _ => rfl)
  | 56, _ => rr_no (by decide) (fun _ => rfl)
  | 57, _ => rr_no (by decide) (fun _ => rfl)
  | 58, _ => rr_no (by decide) (fun _ => rfl)
  | 59, _ => rr_no (by decide) (fun _ => rfl)
  | 60, _ => rr_no (by decide) (fun _ => rfl)
  | 61, _ => rr_no (by decide) (fun _ => rfl)
  | 62, _ => rr_no (by decide) (fun _ => rfl)
  | 63, _ => rr_no (by decide) (fun _ => rfl)
  | 64, _ => rr_no (by decide) (fun _ => rfl)
  | 65, _ => rr_no (by decide) (fun _ => rfl)
  | 66, _ => rr_no (by decide) (fun _ => rfl)
  | 67, _ => rr_no (by decide) (fun _ => rfl)
  | 68, _ => rr_no (by decide) (fun _ => rfl)
  | 69, _ => rr_no (by decide) (fun _ => rfl)
  | 70, _ => rr_no (by decide) (fun _ => rfl)
  | 71, _ => rr_no (by decide) (fun _ => rfl)
  | 72, _ => rr_no (by decide) (fun _ => rfl)
  | 73, _ => rr_no (by decide) (fun _ => rfl)
  | 74, _ => rr_no (by decide) (fun _ => rfl)
  | 75, _ => rr_no (by decide) (fun _ => rfl)
  | 76, _ => rr_no (by decide) (fun _ => rfl)
  | 77, _ => rr_no (by decide) (fun _ => rfl)
  | 78, _ => rr_no (by decide) (fun _ => rfl)
  | 79, _ => rr_no (by decide) (fun _ => rfl)
  | 80, _ => rr_no (by decide) (fun _ => rfl)
  | 81, _ => rr_no (by decide) (fun _ => rfl)
  | 82, _ => rr_no (by decide) (fun _ => rfl)
  | 83, _ => rr_no (by decide) (fun _ => rfl)
  | 84, _ => rr_no (by decide) (fun _ => rfl)
  | 85, _ => rr_no (by decide) (fun _ => rfl)
  | 86, _ => rr_no (by decide) (fun _ => rfl)
  | 87, _ => rr_no (by decide) (fun _ => rfl)
  | 88, _ => rr_no (by decide) (fun _ => rfl)
  | 89, _ => rr_no (by decide) (fun _ => rfl)
  | 90, _ => rr_no (by decide) (fun _ => rfl)
  | 91, _ => rr_no (by decide) (fun _ => rfl)
  | 92, _ => rr_no (by decide) (fun _ => rfl)
  | 93, _ => rr_no (by decide) (fun _ => rfl)
  | 94, _ => rr_no (by decide) (fun _ => rfl)
  | 95, _ => rr_no (by decide) (fun _ => rfl)
  | 96, _ => rr_no (by decide) (fun _ => rfl)
  | t + 97, h => absurd h (by omega)
set_option maxRecDepth 20000 in
set_option maxHeartbeats 4000000 in
theorem ct_25_219 {g h : Int → Option Nat} {q : Int → Int} (A : abAl) (M : abMem) (hA : A.1 = 219) : abW 12 (152, 14643) 25 0 (abEnt (abL 25) [vr (some 219)]) [] (0, 0) (kN A 4 7) (zM M 219 (219 + 1)) (fun v A2 M2 => v = none ∧ A2 = aF A 219 372 ∧ M2 = gF (IQ q) (FF g h) M 219 372) := by
  rw [aF_1 (o := 219) (show kT 219 = (4, 7) from rfl) hA, wF_new (I := IQ q) (F := FF g h)]
  show abW 12 (152, 14643) 25 0 [some (vr (some 219))] [] (0, 0) (aF A 219 220) (wF (IQ q) (FF g h) M 219 220 (fun _ => none) (fun _ => 0)) _
  refine bw_aload rfl rfl ?_
  refine kw_objinit rfl (by decide) (by decide) (by decide) (Nat.le_of_ble_eq_true rfl) ?_
  refine bw_aload rfl rfl ?_
  refine bw_push rfl ?_
  refine kw_newarr rfl rfl (by decide) (by decide) (Nat.le_of_ble_eq_true rfl) (Nat.le_of_ble_eq_true rfl) (by decide) (by decide) ((FF_o (by decide) (by decide)).trans (rr_no (by decide) (fun _ => rfl))) (IQ_z (by decide) (by decide) (by decide)) ?_
  show abW _ _ _ _ _ _ (1, 96) (aF A 219 221) (wF (IQ q) (FF g h) M 219 221 _ _) _
  refine kw_putR rfl rfl (by decide) ?_
  refine bw_aload rfl rfl ?_
  refine bw_push rfl ?_
  refine kw_newarr rfl rfl (by decide) (by decide) (Nat.le_of_ble_eq_true rfl) (Nat.le_of_ble_eq_true rfl) (by decide) (by decide) ((FF_o (by decide) (by decide)).trans (rr_no (by decide) (fun _ => rfl))) (IQ_z (by decide) (by decide) (by decide)) ?_
  show abW _ _ _ _ _ _ (2, 192) (aF A 219 222) (wF (IQ q) (FF g h) M 219 222 _ _) _
  refine kw_putR rfl rfl (by decide) ?_
  refine bw_aload rfl rfl ?_
  refine bw_push rfl ?_
  refine kw_newarr rfl rfl (by decide) (by decide) (Nat.le_of_ble_eq_true rfl) (Nat.le_of_ble_eq_true rfl) (by decide) (by decide) ((FF_o (by decide) (by decide)).trans (rr_no (by decide) (fun _ => rfl))) (IQ_z (by decide) (by decide) (by decide)) ?_
  show abW _ _ _ _ _ _ (3, 288) (aF A 219 223) (wF (IQ q) (FF g h) M 219 223 _ _) _
  refine kw_putR rfl rfl (by decide) ?_
  refine bw_aload rfl rfl ?_
  refine bw_push rfl ?_
  refine kw_newarr rfl rfl (by decide) (by decide) (Nat.le_of_ble_eq_true rfl) (Nat.le_of_ble_eq_true rfl) (by decide) (by decide) ((FF_o (by decide) (by decide)).trans (rr_no (by decide) (fun _ => rfl))) (IQ_z (by decide) (by decide) (by decide)) ?_
  show abW _ _ _ _ _ _ (4, 384) (aF A 219 224) (wF (IQ q) (FF g h) M 219 224 _ _) _
  refine kw_putR rfl rfl (by decide) ?_
  refine bw_aload rfl rfl ?_
  refine bw_push rfl ?_
  refine bw_push rfl ?_
  refine kw_mnewarr (l := 49) rfl rfl (by decide) (by decide) (by decide) (by decide) (Nat.le_of_ble_eq_true rfl) (Nat.le_of_ble_eq_true rfl) (by decide) (by decide) ((FF_o (by decide) (by decide)).trans (rr_rw (l := 49) (by decide) (fun _ => rfl))) (fun y y0 y1 => ?_) (fun y y0 y1 => IQ_z (by omega) (by omega) (by omega)) ?_
  · rw [FF_o (by omega) (by omega), show y = 224 + 1 + (y - (224 + 1)) by omega]; exact rz_224_49 _ (by omega)
  show abW _ _ _ _ _ _ (54, 5137) (aF A 219 274) (wF (IQ q) (FF g h) M 219 274 _ _) _
  refine kw_putR rfl rfl (by decide) ?_
  refine bw_aload rfl rfl ?_
  refine bw_push rfl ?_
  refine bw_push rfl ?_
  refine kw_mnewarr (l := 97) rfl rfl (by decide) (by decide) (by decide) (by decide) (Nat.le_of_ble_eq_true rfl) (Nat.le_of_ble_eq_true rfl) (by decide) (by decide) ((FF_o (by decide) (by decide)).trans (rr_rw (l := 97) (by decide) (fun _ => rfl))) (fun y y0 y1 => ?_) (fun y y0 y1 => IQ_z (by omega) (by omega) (by omega)) ?_
  · rw [FF_o (by omega) (by omega), show y = 274 + 1 + (y - (274 + 1)) by omega]; exact rz_274_97 _ (by omega)
  show abW _ _ _ _ _ _ (152, 14643) (aF A 219 372) (wF (IQ q) (FF g h) M 219 372 _ _) _
  refine kw_putR rfl rfl (by decide) ?_
  refine bw_return (st := []) rfl (Nat.le_of_ble_eq_true rfl) (Nat.le_of_ble_eq_true rfl) rfl ⟨rfl, rfl, ?_⟩
  exact wF_fin ((rr_ext (o := 219) (by decide) (fun k => match k with
      | 0 => rfl
      | 1 => rfl
      | 2 => rfl
      | 3 => rfl
      | 4 => rfl
      | 5 => rfl
      | 6 => rfl
      | k + 7 => by rw [up_ne (by omega), up_ne (by omega), up_ne (by omega), up_ne (by omega), up_ne (by omega), up_ne (by omega)]; rfl) (fun j hj => by rw [up_ne (by omega), up_ne (by omega), up_ne (by omega), up_ne (by omega), up_ne (by omega), up_ne (by omega)])).symm.trans (FF_o (by decide) (by decide)).symm) (IQ_z (by decide) (by decide) (by decide)).symm
theorem rz_375_6 : ∀ t : Nat, t < 6 → rr r0 (375 + 1 + t) = fun _ => none
  | 0, _ => rr_no (by decide) (fun _ => rfl)
  | 1, _ => rr_no (by decide) (fun _ => rfl)
  | 2, _ => rr_no (by decide) (fun _ => rfl)
  | 3, _ => rr_no (by decide) (fun _ => rfl)
  | 4, _ => rr_no (by decide) (fun _ => rfl)
  | 5, _ => rr_no (by decide) (fun _ => rfl)
  | t + 6, h => absurd h (by omega)
theorem rz_382_6 : ∀ t : Nat, t < 6 → rr r0 (382 + 1 + t) = fun _ => none
  | 0, _ => rr_no (by decide) (fun _ => rfl)
  | 1, _ => rr_no (by decide) (fun _ => rfl)
  | 2, _ => rr_no (by decide) (fun _ => rfl)
  | 3, _ => rr_no (by decide) (fun _ => rfl)
  | 4, _ => rr_no (by decide) (fun _ => rfl)
  | 5, _ => rr_no (by decide) (fun _ => rfl)
  | t + 6, h => absurd h (by omega)
theorem rz_389_6 : ∀ t : Nat, t < 6 → rr r0 (389 + 1 + t) = fun _ => none
  | 0, _ => rr_no (by decide) (fun _ => rfl)
  | 1, _ => rr_no (by decide) (fun _ => rfl)
  | 2, _ => rr_no (by decide) (fun _ => rfl)
  | 3, _ => rr_no (by decide) (fun _ => rfl)
  | 4, _ => rr_no (by decide) (fun _ => rfl)
  | 5, _ => rr_no (by decide) (fun _ => rfl)
  | t + 6, h => absurd h (by omega)
theorem rz_396_6 : ∀ t : Nat, t < 6 → rr r0 (396 + 1 + t) = fun _ => none
  | 0, _ => rr_no (by decide) (fun _ => rfl)
  | 1, _ => rr_no (by decide) (fun _ => rfl)
  | 2, _ => rr_no (by decide) (fun _ => rfl)
  | 3, _ => rr_no (by decide) (fun _ => rfl)
  | 4, _ => rr_no (by decide) (fun _ => rfl)
  | 5, _ => rr_no (by decide) (fun _ => rfl)
  | t + 6, h => absurd h (by omega)
theorem rz_403_6 : ∀ t : Nat, t < 6 → rr r0 (403 + 1 + t) = fun _ => none
  | 0, _ => rr_no (by decide) (fun _ => rfl)
  | 1, _ => rr_no (by decide) (fun _ => rfl)
  | 2, _ => rr_no (by decide) (fun _ => rfl)
  | 3, _ => rr_no (by decide) (fun _ => rfl)
  | 4, _ => rr_no (by decide) (fun _ => rfl)
  | 5, _ => rr_no (by decide) (fun _ => rfl)
  | t + 6, h => absurd h (by omega)
theorem rz_410_40 : ∀ t : Nat, t < 40 → rr r0 (410 + 1 + t) = fun _ => none
  | 0, _ => rr_no (by decide) (fun _ => rfl)
  | 1, _ => rr_no (by decide) (fun _ => rfl)
  | 2, _ => rr_no (by decide) (fun _ => rfl)
  | 3, _ => rr_no (by decide) (fun _ => rfl)
  | 4, _ => rr_no (by decide) (fun _ => rfl)
  | 5, _ => rr_no (by decide) (fun _ => rfl)
  | 6, _ => rr_no (by decide) (fun _ => rfl)
  | 7, _ => rr_no (by decide) (fun _ => rfl)
  | 8, _ => rr_no (by decide) (fun _ => rfl)
  | 9, _ => rr_no (by decide) (fun _ => rfl)
  | 10, _ => rr_no (by decide) (fun _ => rfl)
  | 11, _ => rr_no (by decide) (fun _ => rfl)
  | 12, _ => rr_no (by decide) (fun _ => rfl)
  | 13, _ => rr_no (by decide) (fun _ => rfl)
  | 14, _ => rr_no (by decide) (fun _ => rfl)
  | 15, _ => rr_no (by decide) (fun _ => rfl)
  | 16, _ => rr_no (by decide) (fun _ => rfl)
  | 17, _ => rr_no (by decide) (fun _ => rfl)
  | 18, _ => rr_no (by decide) (fun _ => rfl)
  | 19, _ => rr_no (by decide) (fun _ => rfl)
  | 20, _ => rr_no (by decide) (fun _ => rfl)
  | 21, _ => rr_no (by decide) (fun _ => rfl)
  | 22, _ => rr_no (by decide) (fun _ => rfl)
  | 23, _ => rr_no (by decide) (fun _ => rfl)
  | 24, _ => rr_no (by decide) (fun _ => rfl)
  | 25, _ => rr_no (by decide) (fun _ => rfl)
  | 26, _ => rr_no (by decide) (fun _ => rfl)
  | 27, _ => rr_no (by decide) (fun _ => rfl)
  | 28, _ => rr_no (by decide) (fun _ => rfl)
  | 29, _ => rr_no (by decide) (fun _ => rfl)
  | 30, _ => rr_no (by decide) (fun _ => rfl)
  | 31, _ => rr_no (by decide) (fun _ => rfl)
  | 32, _ => rr_no (by decide) (fun _ => rfl)
  | 33, _ => rr_no (by decide) (fun _ => rfl)
  | 34, _ => rr_no (by decide) (fun _ => rfl)
  | 35, _ => rr_no (by decide) (fun _ => rfl)
  | 36, _ => rr_no (by decide) (fun _ => rfl)
  | 37, _ => rr_no (by decide) (fun _ => rfl)
  | 38, _ => rr_no (by decide) (fun _ => rfl)
  | 39, _ => rr_no (by decide) (fun _ => rfl)
  | t + 40, h => absurd h (by omega)
theorem rz_451_6 : ∀ t : Nat, t < 6 → rr r0 (451 + 1 + t) = fun _ => none
  | 0, _ => rr_no (by decide) (fun _ => rfl)
  | 1, _ => rr_no (by decide) (fun _ => rfl)
  | 2, _ => rr_no (by decide) (fun _ => rfl)
  | 3, _ => rr_no (by decide) (fun _ => rfl)
  | 4, _ => rr_no (by decide) (fun _ => rfl)
  | 5, _ => rr_no (by decide) (fun _ => rfl)
  | t + 6, h => absurd h (by omega)
set_option maxRecDepth 20000 in
set_option maxHeartbeats 4000000 in
theorem ct_57_372 {g h : Int → Option Nat} {q : Int → Int} (A : abAl) (M : abMem) (hA : A.1 = 372) : abW 12 (86, 3348) 57 0 (abEnt (abL 57) [vr (some 372)]) [] (0, 0) (kN A 6 16) (zM M 372 (372 + 1)) (fun v A2 M2 => v = none ∧ A2 = aF A 372 459 ∧ M2 = gF (IQ q) (FF g h) M 372 459) := by
  rw [aF_1 (o := 372) (show kT 372 = (6, 16) from rfl) hA, wF_new (I := IQ q) (F := FF g h)]
  show abW 12 (86, 3348) 57 0 [some (vr (some 372))] [] (0, 0) (aF A 372 373) (wF (IQ q) (FF g h) M 372 373 (fun _ => none) (fun _ => 0)) _
  refine bw_aload rfl rfl ?_
  refine kw_objinit rfl (by decide) (by decide) (by decide) (Nat.le_of_ble_eq_true rfl) ?_
  refine bw_aload rfl rfl ?_
  refine bw_push rfl ?_
  refine kw_newarr rfl rfl (by decide) (by decide) (Nat.le_of_ble_eq_true rfl) (Nat.le_of_ble_eq_true rfl) (by decide) (by decide) ((FF_o (by decide) (by decide)).trans (rr_no (by decide) (fun _ => rfl))) (IQ_z (by decide) (by decide) (by decide)) ?_
  show abW _ _ _ _ _ _ (1, 6) (aF A 372 374) (wF (IQ q) (FF g h) M 372 374 _ _) _
  refine kw_putR rfl rfl (by decide) ?_
  refine bw_aload rfl rfl ?_
  refine bw_push rfl ?_
  refine kw_newarr rfl rfl (by decide) (by decide) (Nat.le_of_ble_eq_true rfl) (Nat.le_of_ble_eq_true rfl) (by decide) (by decide) ((FF_o (by decide) (by decide)).trans (rr_no (by decide) (fun _ => rfl))) (IQ_z (by decide) (by decide) (by decide)) ?_
  show abW _ _ _ _ _ _ (2, 12) (aF A 372 375) (wF (IQ q) (FF g h) M 372 375 _ _) _
  refine kw_putR rfl rfl (by decide) ?_
  refine bw_aload rfl rfl ?_
  refine bw_push rfl ?_
  refine bw_push rfl ?_
  refine kw_mnewarr (l := 6) rfl rfl (by decide) (by decide) (by decide) (by decide) (Nat.le_of_ble_eq_true rfl) (Nat.le_of_ble_eq_true rfl) (by decide) (by decide) ((FF_o (by decide) (by decide)).trans (rr_rw (l := 6) (by decide) (fun _ => rfl))) (fun y y0 y1 => ?_) (fun y y0 y1 => IQ_z (by omega) (by omega) (by omega)) ?_
  · rw [FF_o (by omega) (by omega), show y = 375 + 1 + (y - (375 + 1)) by omega]; exact rz_375_6 _ (by omega)
  show abW _ _ _ _ _ _ (9, 54) (aF A 372 382) (wF (IQ q) (FF g h) M 372 382 _ _) _
  refine kw_putR rfl rfl (by decide) ?_
  refine bw_aload rfl rfl ?_
  refine bw_push rfl ?_
  refine bw_push rfl ?_
  refine kw_mnewarr (l := 6) rfl rfl (by decide) (by decide) (by decide) (by decide) (Nat.le_of_ble_eq_true rfl) (Nat.le_of_ble_eq_true rfl) (by decide) (by decide) ((FF_o (by decide) (by decide)).trans (rr_rw (l := 6) (by decide) (fun _ => rfl))) (fun y y0 y1 => ?_) (fun y y0 y1 => IQ_z (by omega) (by omega) (by omega)) ?_
  · rw [FF_o (by omega) (by omega), show y = 382 + 1 + (y - (382 + 1)) by omega]; exact rz_382_6 _ (by omega)
  show abW _ _ _ _ _ _ (16, 636) (aF A 372 389) (wF (IQ q) (FF g h) M 372 389 _ _) _
  refine kw_putR rfl rfl (by decide) ?_
  refine bw_aload rfl rfl ?_
  refine bw_push rfl ?_
  refine bw_push rfl ?_
  refine kw_mnewarr (l := 6) rfl rfl (by decide) (by decide) (by decide) (by decide) (Nat.le_of_ble_eq_true rfl) (Nat.le_of_ble_eq_true rfl) (by decide) (by decide) ((FF_o (by decide) (by decide)).trans (rr_rw (l := 6) (by decide) (fun _ => rfl))) (fun y y0 y1 => ?_) (fun y y0 y1 => IQ_z (by omega) (by omega) (by omega)) ?_
  · rw [FF_o (by omega) (by omega), show y = 389 + 1 + (y - (389 + 1)) by omega]; exact rz_389_6 _ (by omega)
  show abW _ _ _ _ _ _ (23, 1218) (aF A 372 396) (wF (IQ q) (FF g h) M 372 396 _ _) _
  refine kw_putR rfl rfl (by decide) ?_
  refine bw_aload rfl rfl ?_
  refine bw_push rfl ?_
  refine bw_push rfl ?_
  refine kw_mnewarr (l := 6) rfl rfl (by decide) (by decide) (by decide) (by decide) (Nat.le_of_ble_eq_true rfl) (Nat.le_of_ble_eq_true rfl) (by decide) (by decide) ((FF_o (by decide) (by decide)).trans (rr_rw (l := 6) (by decide) (fun _ => rfl))) (fun y y0 y1 => ?_) (fun y y0 y1 => IQ_z (by omega) (by omega) (by omega)) ?_
  · rw [FF_o (by omega) (by omega), show y = 396 + 1 + (y - (396 + 1)) by omega]; exact rz_396_6 _ (by omega)
  show abW _ _ _ _ _ _ (30, 1800) (aF A 372 403) (wF (IQ q) (FF g h) M 372 403 _ _) _
  refine kw_putR rfl rfl (by decide) ?_
  refine bw_aload rfl rfl ?_
  refine bw_push rfl ?_
  refine bw_push rfl ?_
  refine kw_mnewarr (l := 6) rfl rfl (by decide) (by decide) (by decide) (by decide) (Nat.le_of_ble_eq_true rfl) (Nat.le_of_ble_eq_true rfl) (by decide) (by decide) ((FF_o (by decide) (by decide)).trans (rr_rw (l := 6) (by decide) (fun _ => rfl))) (fun y y0 y1 => ?_) (fun y y0 y1 => IQ_z (by omega) (by omega) (by omega)) ?_
  · rw [FF_o (by omega) (by omega), show y = 403 + 1 + (y - (403 + 1)) by omega]; exact rz_403_6 _ (by omega)
  show abW _ _ _ _ _ _ (37, 2382) (aF A 372 410) (wF (IQ q) (FF g h) M 372 410 _ _) _
  refine kw_putR rfl rfl (by decide) ?_
  refine bw_aload rfl rfl ?_
  refine bw_push rfl ?_
  refine bw_push rfl ?_
  refine kw_mnewarr (l := 40) rfl rfl (by decide) (by decide) (by decide) (by decide) (Nat.le_of_ble_eq_true rfl) (Nat.le_of_ble_eq_true rfl) (by decide) (by decide) ((FF_o (by decide) (by decide)).trans (rr_rw (l := 40) (by decide) (fun _ => rfl))) (fun y y0 y1 => ?_) (fun y y0 y1 => IQ_z (by omega) (by omega) (by omega)) ?_
  · rw [FF_o (by omega) (by omega), show y = 410 + 1 + (y - (410 + 1)) by omega]; exact rz_410_40 _ (by omega)
  show abW _ _ _ _ _ _ (78, 2702) (aF A 372 451) (wF (IQ q) (FF g h) M 372 451 _ _) _
  refine kw_putR rfl rfl (by decide) ?_
  refine bw_aload rfl rfl ?_
  refine bw_push rfl ?_
  refine bw_push rfl ?_
  refine kw_mnewarr (l := 6) rfl rfl (by decide) (by decide) (by decide) (by decide) (Nat.le_of_ble_eq_true rfl) (Nat.le_of_ble_eq_true rfl) (by decide) (by decide) ((FF_o (by decide) (by decide)).trans (rr_rw (l := 6) (by decide) (fun _ => rfl))) (fun y y0 y1 => ?_) (fun y y0 y1 => IQ_z (by omega) (by omega) (by omega)) ?_
  · rw [FF_o (by omega) (by omega), show y = 451 + 1 + (y - (451 + 1)) by omega]; exact rz_451_6 _ (by omega)
  show abW _ _ _ _ _ _ (85, 3308) (aF A 372 458) (wF (IQ q) (FF g h) M 372 458 _ _) _
  refine kw_putR rfl rfl (by decide) ?_
  refine bw_aload rfl rfl ?_
  refine bw_push rfl ?_
  refine kw_newarr rfl rfl (by decide) (by decide) (Nat.le_of_ble_eq_true rfl) (Nat.le_of_ble_eq_true rfl) (by decide) (by decide) ((FF_o (by decide) (by decide)).trans (rr_no (by decide) (fun _ => rfl))) (IQ_z (by decide) (by decide) (by decide)) ?_
  show abW _ _ _ _ _ _ (86, 3348) (aF A 372 459) (wF (IQ q) (FF g h) M 372 459 _ _) _
  refine kw_putR rfl rfl (by decide) ?_
  refine bw_return (st := []) rfl (Nat.le_of_ble_eq_true rfl) (Nat.le_of_ble_eq_true rfl) rfl ⟨rfl, rfl, ?_⟩
  exact wF_fin ((rr_ext (o := 372) (by decide) (fun k => match k with
      | 0 => rfl
      | 1 => rfl
      | 2 => rfl
      | 3 => rfl
      | 4 => rfl
      | 5 => rfl
      | 6 => rfl
      | 7 => rfl
      | 8 => rfl
      | 9 => rfl
      | 10 => rfl
      | 11 => rfl
      | 12 => rfl
      | 13 => rfl
      | 14 => rfl
      | 15 => rfl
      | k + 16 => by rw [up_ne (by omega), up_ne (by omega), up_ne (by omega), up_ne (by omega), up_ne (by omega), up_ne (by omega), up_ne (by omega), up_ne (by omega), up_ne (by omega), up_ne (by omega)]; rfl) (fun j hj => by rw [up_ne (by omega), up_ne (by omega), up_ne (by omega), up_ne (by omega), up_ne (by omega), up_ne (by omega), up_ne (by omega), up_ne (by omega), up_ne (by omega), up_ne (by omega)])).symm.trans (FF_o (by decide) (by decide)).symm) (IQ_z (by decide) (by decide) (by decide)).symm
theorem rz_462_6 : ∀ t : Nat, t < 6 → rr r0 (462 + 1 + t) = fun _ => none
  | 0, _ => rr_no (by decide) (fun _ => rfl)
  | 1, _ => rr_no (by decide) (fun _ => rfl)
  | 2, _ => rr_no (by decide) (fun _ => rfl)
  | 3, _ => rr_no (by decide) (fun _ => rfl)
  | 4, _ => rr_no (by decide) (fun _ => rfl)
  | 5, _ => rr_no (by decide) (fun _ => rfl)
  | t + 6, h => absurd h (by omega)
theorem rz_469_6 : ∀ t : Nat, t < 6 → rr r0 (469 + 1 + t) = fun _ => none
  | 0, _ => rr_no (by decide) (fun _ => rfl)
  | 1, _ => rr_no (by decide) (fun _ => rfl)
  | 2, _ => rr_no (by decide) (fun _ => rfl)
  | 3, _ => rr_no (by decide) (fun _ => rfl)
  | 4, _ => rr_no (by decide) (fun _ => rfl)
  | 5, _ => rr_no (by decide) (fun _ => rfl)
  | t + 6, h => absurd h (by omega)
theorem rz_476_6 : ∀ t : Nat, t < 6 → rr r0 (476 + 1 + t) = fun _ => none
  | 0, _ => rr_no (by decide) (fun _ => rfl)
  | 1, _ => rr_no (by decide) (fun _ => rfl)
  | 2, _ => rr_no (by decide) (fun _ => rfl)
  | 3, _ => rr_no (by decide) (fun _ => rfl)
  | 4, _ => rr_no (by decide) (fun _ => rfl)
  | 5, _ => rr_no (by decide) (fun _ => rfl)
  | t + 6, h => absurd h (by omega)
theorem rz_483_6 : ∀ t : Nat, t < 6 → rr r0 (483 + 1 + t) = fun _ => none
  | 0, _ => rr_no (by decide) (fun _ => rfl)
  | 1, _ => rr_no (by decide) (fun _ => rfl)
  | 2, _ => rr_no (by decide) (fun _ => rfl)
  | 3, _ => rr_no (by decide) (fun _ => rfl)
  | 4, _ => rr_no (by decide) (fun _ => rfl)
  | 5, _ => rr_no (by decide) (fun _ => rfl)
  | t + 6, h => absurd h (by omega)
theorem rz_490_6 : ∀ t : Nat, t < 6 → rr r0 (490 + 1 + t) = fun _ => none
  | 0, _ => rr_no (by decide) (fun _ => rfl)
  | 1, _ => rr_no (by decide) (fun _ => rfl)
  | 2, _ => rr_no (by decide) (fun _ => rfl)
  | 3, _ => rr_no (by decide) (fun _ => rfl)
  | 4, _ => rr_no (by decide) (fun _ => rfl)
  | 5, _ => rr_no (by decide) (fun _ => rfl)
  | t + 6, h => absurd h (by omega)
theorem rz_497_40 : ∀ t : Nat, t < 40 → rr r0 (497 + 1 + t) = fun _ => none
  | 0, _ => rr_no (by decide) (fun _ => rfl)
  | 1, _ => rr_no (by decide) (fun _ => rfl)
  | 2, _ => rr_no (by decide) (fun _ => rfl)
  | 3, _ => rr_no (by decide) (fun _ => rfl)
  | 4, _ => rr_no (by decide) (fun _ => rfl)
  | 5, _ => rr_no (by decide) (fun _ => rfl)
  | 6, _ => rr_no (by decide) (fun _ => rfl)
  | 7, _ => rr_no (by decide) (fun _ => rfl)
  | 8, _ => rr_no (by decide) (fun _ => rfl)
  | 9, _ => rr_no (by decide) (fun _ => rfl)
  | 10, _ => rr_no (by decide) (fun _ => rfl)
  | 11, _ => rr_no (by decide) (fun _ => rfl)
  | 12, _ => rr_no (by decide) (fun _ => rfl)
  | 13, _ => rr_no (by decide) (fun _ => rfl)
  | 14, _ => rr_no (by decide) (fun _ => rfl)
  | 15, _ => rr_no (by decide) (fun _ => rfl)
  | 16, _ => rr_no (by decide) (fun _ => rfl)
  | 17, _ => rr_no (by decide) (fun _ => rfl)
  | 18, _ => rr_no (by decide) (fun _ => rfl)
  | 19, _ => rr_no (by decide) (fun _ => rfl)
  | 20, _ => rr_no (by decide) (fun _ => rfl)
  | 21, _ => rr_no (by decide) (fun _ => rfl)
  | 22, _ => rr_no (by decide) (fun _ => rfl)
  | 23, _ => rr_no (by decide) (fun _ => rfl)
  | 24, _ => rr_no (by decide) (fun _ => rfl)
  | 25, _ => rr_no (by decide) (fun _ => rfl)
  | 26, _ => rr_no (by decide) (fun _ => rfl)
  | 27, _ => rr_no (by decide) (fun _ => rfl)
  | 28, _ => rr_no (by decide) (fun _ => rfl)
  | 29, _ => rr_no (by decide) (fun _ => rfl)
  | 30, _ => rr_no (by decide) (fun _ => rfl)
  | 31, _ => rr_no (by decide) (fun _ => rfl)
  | 32, _ => rr_no (by decide) (fun _ => rfl)
  | 33, _ => rr_no (by decide) (fun _ => rfl)
  | 34, _ => rr_no (by decide) (fun _ => rfl)
  | 35, _ => rr_no (by decide) (fun _ => rfl)
  | 36, _ => rr_no (by decide) (fun _ => rfl)
  | 37, _ => rr_no (by decide) (fun _ => rfl)
  | 38, _ => rr_no (by decide) (fun _ => rfl)
  | 39, _ => rr_no (by decide) (fun _ => rfl)
  | t + 40, h => absurd h (by omega)
theorem rz_538_6 : ∀ t : Nat, t < 6 → rr r0 (538 + 1 + t) = fun _ => none
  | 0, _ => rr_no (by decide) (fun _ => rfl)
  | 1, _ => rr_no (by decide) (fun _ => rfl)
  | 2, _ => rr_no (by decide) (fun _ => rfl)
  | 3, _ => rr_no (by decide) (fun _ => rfl)
  | 4, _ => rr_no (by decide) (fun _ => rfl)
  | 5, _ => rr_no (by decide) (fun _ => rfl)
  | t + 6, h => absurd h (by omega)
set_option maxRecDepth 20000 in
set_option maxHeartbeats 4000000 in
theorem ct_57_459 {g h : Int → Option Nat} {q : Int → Int} (A : abAl) (M : abMem) (hA : A.1 = 459) : abW 12 (86, 3348) 57 0 (abEnt (abL 57) [vr (some 459)]) [] (0, 0) (kN A 6 16) (zM M 459 (459 + 1)) (fun v A2 M2 => v = none ∧ A2 = aF A 459 546 ∧ M2 = gF (IQ q) (FF g h) M 459 546) := by
  rw [aF_1 (o := 459) (show kT 459 = (6, 16) from rfl) hA, wF_new (I := IQ q) (F := FF g h)]
  show abW 12 (86, 3348) 57 0 [some (vr (some 459))] [] (0, 0) (aF A 459 460) (wF (IQ q) (FF g h) M 459 460 (fun _ => none) (fun _ => 0)) _
  refine bw_aload rfl rfl ?_
  refine kw_objinit rfl (by decide) (by decide) (by decide) (Nat.le_of_ble_eq_true rfl) ?_
  refine bw_aload rfl rfl ?_
  refine bw_push rfl ?_
  refine kw_newarr rfl rfl (by decide) (by decide) (Nat.le_of_ble_eq_true rfl) (Nat.le_of_ble_eq_true rfl) (by decide) (by decide) ((FF_o (by decide) (by decide)).trans (rr_no (by decide) (fun _ => rfl))) (IQ_z (by decide) (by decide) (by decide)) ?_
  show abW _ _ _ _ _ _ (1, 6) (aF A 459 461) (wF (IQ q) (FF g h) M 459 461 _ _) _
  refine kw_putR rfl rfl (by decide) ?_
  refine bw_aload rfl rfl ?_
  refine bw_push rfl ?_
  refine kw_newarr rfl rfl (by decide) (by decide) (Nat.le_of_ble_eq_true rfl) (Nat.le_of_ble_eq_true rfl) (by decide) (by decide) ((FF_o (by decide) (by decide)).trans (rr_no (by decide) (fun _ => rfl))) (IQ_z (by decide) (by decide) (by decide)) ?_
  show abW _ _ _ _ _ _ (2, 12) (aF A 459 462) (wF (IQ q) (FF g h) M 459 462 _ _) _
  refine kw_putR rfl rfl (by decide) ?_
  refine bw_aload rfl rfl ?_
  refine bw_push rfl ?_
  refine bw_push rfl ?_
  refine kw_mnewarr (l := 6) rfl rfl (by decide) (by decide) (by decide) (by decide) (Nat.le_of_ble_eq_true rfl) (Nat.le_of_ble_eq_true rfl) (by decide) (by decide) ((FF_o (by decide) (by decide)).trans (rr_rw (l := 6) (by decide) (fun _ => rfl))) (fun y y0 y1 => ?_) (fun y y0 y1 => IQ_z (by omega) (by omega) (by omega)) ?_
  · rw [FF_o (by omega) (by omega), show y = 462 + 1 + (y - (462 + 1)) by omega]; exact rz_462_6 _ (by omega)
  show abW _ _ _ _ _ _ (9, 54) (aF A 459 469) (wF (IQ q) (FF g h) M 459 469 _ _) _
  refine kw_putR rfl rfl (by decide) ?_
  refine bw_aload rfl rfl ?_
  refine bw_push rfl ?_
  refine bw_push rfl ?_
  refine kw_mnewarr (l := 6) rfl rfl (by decide) (by decide) (by decide) (by decide) (Nat.le_of_ble_eq_true rfl) (Nat.le_of_ble_eq_true rfl) (by decide) (by decide) ((FF_o (by decide) (by decide)).trans (rr_rw (l := 6) (by decide) (fun _ => rfl))) (fun y y0 y1 => ?_) (fun y y0 y1 => IQ_z (by omega) (by omega) (by omega)) ?_
  · rw [FF_o (by omega) (by omega), show y = 469 + 1 + (y - (469 + 1)) by omega]; exact rz_469_6 _ (by omega)
  show abW _ _ _ _ _ _ (16, 636) (aF A 459 476) (wF (IQ q) (FF g h) M 459 476 _ _) _
  refine kw_putR rfl rfl (by decide) ?_
  refine bw_aload rfl rfl ?_
  refine bw_push rfl ?_
  refine bw_push rfl ?_
  refine kw_mnewarr (l := 6) rfl rfl (by decide) (by decide) (by decide) (by decide) (Nat.le_of_ble_eq_true rfl) (Nat.le_of_ble_eq_true rfl) (by decide) (by decide) ((FF_o (by decide) (by decide)).trans (rr_rw (l := 6) (by decide) (fun _ => rfl))) (fun y y0 y1 => ?_) (fun y y0 y1 => IQ_z (by omega) (by omega) (by omega)) ?_
  · rw [FF_o (by omega) (by omega), show y = 476 + 1 + (y - (476 + 1)) by omega]; exact rz_476_6 _ (by omega)
  show abW _ _ _ _ _ _ (23, 1218) (aF A 459 483) (wF (IQ q) (FF g h) M 459 483 _ _) _
  refine kw_putR rfl rfl (by decide) ?_
  refine bw_aload rfl rfl ?_
  refine bw_push rfl ?_
  refine bw_push rfl ?_
  refine kw_mnewarr (l := 6) rfl rfl (by decide) (by decide) (by decide) (by decide) (Nat.le_of_ble_eq_true rfl) (Nat.le_of_ble_eq_true rfl) (by decide) (by decide) ((FF_o (by decide) (by decide)).trans (rr_rw (l := 6) (by decide) (fun _ => rfl))) (fun y y0 y1 => ?_) (fun y y0 y1 => IQ_z (by omega) (by omega) (by omega)) ?_
  · rw [FF_o (by omega) (by omega), show y = 483 + 1 + (y - (483 + 1)) by omega]; exact rz_483_6 _ (by omega)
  show abW _ _ _ _ _ _ (30, 1800) (aF A 459 490) (wF (IQ q) (FF g h) M 459 490 _ _) _
  refine kw_putR rfl rfl (by decide) ?_
  refine bw_aload rfl rfl ?_
  refine bw_push rfl ?_
  refine bw_push rfl ?_
  refine kw_mnewarr (l := 6) rfl rfl (by decide) (by decide) (by decide) (by decide) (Nat.le_of_ble_eq_true rfl) (Nat.le_of_ble_eq_true rfl) (by decide) (by decide) ((FF_o (by decide) (by decide)).trans (rr_rw (l := 6) (by decide) (fun _ => rfl))) (fun y y0 y1 => ?_) (fun y y0 y1 => IQ_z (by omega) (by omega) (by omega)) ?_
  · rw [FF_o (by omega) (by omega), show y = 490 + 1 + (y - (490 + 1)) by omega]; exact rz_490_6 _ (by omega)
  show abW _ _ _ _ _ _ (37, 2382) (aF A 459 497) (wF (IQ q) (FF g h) M 459 497 _ _) _
  refine kw_putR rfl rfl (by decide) ?_
  refine bw_aload rfl rfl ?_
  refine bw_push rfl ?_
  refine bw_push rfl ?_
  refine kw_mnewarr (l := 40) rfl rfl (by decide) (by decide) (by decide) (by decide) (Nat.le_of_ble_eq_true rfl) (Nat.le_of_ble_eq_true rfl) (by decide) (by decide) ((FF_o (by decide) (by decide)).trans (rr_rw (l := 40) (by decide) (fun _ => rfl))) (fun y y0 y1 => ?_) (fun y y0 y1 => IQ_z (by omega) (by omega) (by omega)) ?_
  · rw [FF_o (by omega) (by omega), show y = 497 + 1 + (y - (497 + 1)) by omega]; exact rz_497_40 _ (by omega)
  show abW _ _ _ _ _ _ (78, 2702) (aF A 459 538) (wF (IQ q) (FF g h) M 459 538 _ _) _
  refine kw_putR rfl rfl (by decide) ?_
  refine bw_aload rfl rfl ?_
  refine bw_push rfl ?_
  refine bw_push rfl ?_
  refine kw_mnewarr (l := 6) rfl rfl (by decide) (by decide) (by decide) (by decide) (Nat.le_of_ble_eq_true rfl) (Nat.le_of_ble_eq_true rfl) (by decide) (by decide) ((FF_o (by decide) (by decide)).trans (rr_rw (l := 6) (by decide) (fun _ => rfl))) (fun y y0 y1 => ?_) (fun y y0 y1 => IQ_z (by omega) (by omega) (by omega)) ?_
  · rw [FF_o (by omega) (by omega), show y = 538 + 1 + (y - (538 + 1)) by omega]; exact rz_538_6 _ (by omega)
  show abW _ _ _ _ _ _ (85, 3308) (aF A 459 545) (wF (IQ q) (FF g h) M 459 545 _ _) _
  refine kw_putR rfl rfl (by decide) ?_
  refine bw_aload rfl rfl ?_
  refine bw_push rfl ?_
  refine kw_newarr rfl rfl (by decide) (by decide) (Nat.le_of_ble_eq_true rfl) (Nat.le_of_ble_eq_true rfl) (by decide) (by decide) ((FF_o (by decide) (by decide)).trans (rr_no (by decide) (fun _ => rfl))) (IQ_z (by decide) (by decide) (by decide)) ?_
  show abW _ _ _ _ _ _ (86, 3348) (aF A 459 546) (wF (IQ q) (FF g h) M 459 546 _ _) _
  refine kw_putR rfl rfl (by decide) ?_
  refine bw_return (st := []) rfl (Nat.le_of_ble_eq_true rfl) (Nat.le_of_ble_eq_true rfl) rfl ⟨rfl, rfl, ?_⟩
  exact wF_fin ((rr_ext (o := 459) (by decide) (fun k => match k with
      | 0 => rfl
      | 1 => rfl
      | 2 => rfl
      | 3 => rfl
      | 4 => rfl
      | 5 => rfl
      | 6 => rfl
      | 7 => rfl
      | 8 => rfl
      | 9 => rfl
      | 10 => rfl
      | 11 => rfl
      | 12 => rfl
      | 13 => rfl
      | 14 => rfl
      | 15 => rfl
      | k + 16 => by rw [up_ne (by omega), up_ne (by omega), up_ne (by omega), up_ne (by omega), up_ne (by omega), up_ne (by omega), up_ne (by omega), up_ne (by omega), up_ne (by omega), up_ne (by omega)]; rfl) (fun j hj => by rw [up_ne (by omega), up_ne (by omega), up_ne (by omega), up_ne (by omega), up_ne (by omega), up_ne (by omega), up_ne (by omega), up_ne (by omega), up_ne (by omega), up_ne (by omega)])).symm.trans (FF_o (by decide) (by decide)).symm) (IQ_z (by decide) (by decide) (by decide)).symm
theorem rz_550_6 : ∀ t : Nat, t < 6 → rr r0 (550 + 1 + t) = fun _ => none
  | 0, _ => rr_no (by decide) (fun _ => rfl)
  | 1, _ => rr_no (by decide) (fun _ => rfl)
  | 2, _ => rr_no (by decide) (fun _ => rfl)
  | 3, _ => rr_no (by decide) (fun _ => rfl)
  | 4, _ => rr_no (by decide) (fun _ => rfl)
  | 5, _ => rr_no (by decide) (fun _ => rfl)
  | t + 6, h => absurd h (by omega)
set_option maxRecDepth 20000 in
set_option maxHeartbeats 4000000 in
theorem ct_68_549 {g h : Int → Option Nat} {q : Int → Int} (A : abAl) (M : abMem) (hA : A.1 = 549) : abW 12 (8, 588) 68 0 (abEnt (abL 68) [vr (some 549)]) [] (0, 0) (kN A 7 2) (zM M 549 (549 + 1)) (fun v A2 M2 => v = none ∧ A2 = aF A 549 558 ∧ M2 = gF (IQ q) (FF g h) M 549 558) := by
  rw [aF_1 (o := 549) (show kT 549 = (7, 2) from rfl) hA, wF_new (I := IQ q) (F := FF g h)]
  show abW 12 (8, 588) 68 0 [some (vr (some 549))] [] (0, 0) (aF A 549 550) (wF (IQ q) (FF g h) M 549 550 (fun _ => none) (fun _ => 0)) _
  refine bw_aload rfl rfl ?_
  refine kw_objinit rfl (by decide) (by decide) (by decide) (Nat.le_of_ble_eq_true rfl) ?_
  refine bw_aload rfl rfl ?_
  refine bw_push rfl ?_
  refine bw_push rfl ?_
  refine kw_mnewarr (l := 6) rfl rfl (by decide) (by decide) (by decide) (by decide) (Nat.le_of_ble_eq_true rfl) (Nat.le_of_ble_eq_true rfl) (by decide) (by decide) ((FF_o (by decide) (by decide)).trans (rr_rw (l := 6) (by decide) (fun _ => rfl))) (fun y y0 y1 => ?_) (fun y y0 y1 => IQ_z (by omega) (by omega) (by omega)) ?_
  · rw [FF_o (by omega) (by omega), show y = 550 + 1 + (y - (550 + 1)) by omega]; exact rz_550_6 _ (by omega)
  show abW _ _ _ _ _ _ (7, 582) (aF A 549 557) (wF (IQ q) (FF g h) M 549 557 _ _) _
  refine kw_putR rfl rfl (by decide) ?_
  refine bw_aload rfl rfl ?_
  refine bw_push rfl ?_
  refine kw_newarr rfl rfl (by decide) (by decide) (Nat.le_of_ble_eq_true rfl) (Nat.le_of_ble_eq_true rfl) (by decide) (by decide) ((FF_o (by decide) (by decide)).trans (rr_no (by decide) (fun _ => rfl))) (IQ_z (by decide) (by decide) (by decide)) ?_
  show abW _ _ _ _ _ _ (8, 588) (aF A 549 558) (wF (IQ q) (FF g h) M 549 558 _ _) _
  refine kw_putR rfl rfl (by decide) ?_
  refine bw_return (st := []) rfl (Nat.le_of_ble_eq_true rfl) (Nat.le_of_ble_eq_true rfl) rfl ⟨rfl, rfl, ?_⟩
  exact wF_fin ((rr_ext (o := 549) (by decide) (fun k => match k with
      | 0 => rfl
      | 1 => rfl
      | k + 2 => by rw [up_ne (by omega), up_ne (by omega)]; rfl) (fun j hj => by rw [up_ne (by omega), up_ne (by omega)])).symm.trans (FF_o (by decide) (by decide)).symm) (IQ_z (by decide) (by decide) (by decide)).symm
theorem rz_559_6 : ∀ t : Nat, t < 6 → rr r0 (559 + 1 + t) = fun _ => none
  | 0, _ => rr_no (by decide) (fun _ => rfl)
  | 1, _ => rr_no (by decide) (fun _ => rfl)
  | 2, _ => rr_no (by decide) (fun _ => rfl)
  | 3, _ => rr_no (by decide) (fun _ => rfl)
  | 4, _ => rr_no (by decide) (fun _ => rfl)
  | 5, _ => rr_no (by decide) (fun _ => rfl)
  | t + 6, h => absurd h (by omega)
set_option maxRecDepth 20000 in
set_option maxHeartbeats 4000000 in
theorem ct_68_558 {g h : Int → Option Nat} {q : Int → Int} (A : abAl) (M : abMem) (hA : A.1 = 558) : abW 12 (8, 588) 68 0 (abEnt (abL 68) [vr (some 558)]) [] (0, 0) (kN A 7 2) (zM M 558 (558 + 1)) (fun v A2 M2 => v = none ∧ A2 = aF A 558 567 ∧ M2 = gF (IQ q) (FF g h) M 558 567) := by
  rw [aF_1 (o := 558) (show kT 558 = (7, 2) from rfl) hA, wF_new (I := IQ q) (F := FF g h)]
  show abW 12 (8, 588) 68 0 [some (vr (some 558))] [] (0, 0) (aF A 558 559) (wF (IQ q) (FF g h) M 558 559 (fun _ => none) (fun _ => 0)) _
  refine bw_aload rfl rfl ?_
  refine kw_objinit rfl (by decide) (by decide) (by decide) (Nat.le_of_ble_eq_true rfl) ?_
  refine bw_aload rfl rfl ?_
  refine bw_push rfl ?_
  refine bw_push rfl ?_
  refine kw_mnewarr (l := 6) rfl rfl (by decide) (by decide) (by decide) (by decide) (Nat.le_of_ble_eq_true rfl) (Nat.le_of_ble_eq_true rfl) (by decide) (by decide) ((FF_o (by decide) (by decide)).trans (rr_rw (l := 6) (by decide) (fun _ => rfl))) (fun y y0 y1 => ?_) (fun y y0 y1 => IQ_z (by omega) (by omega) (by omega)) ?_
  · rw [FF_o (by omega) (by omega), show y = 559 + 1 + (y - (559 + 1)) by omega]; exact rz_559_6 _ (by omega)
  show abW _ _ _ _ _ _ (7, 582) (aF A 558 566) (wF (IQ q) (FF g h) M 558 566 _ _) _
  refine kw_putR rfl rfl (by decide) ?_
  refine bw_aload rfl rfl ?_
  refine bw_push rfl ?_
  refine kw_newarr rfl rfl (by decide) (by decide) (Nat.le_of_ble_eq_true rfl) (Nat.le_of_ble_eq_true rfl) (by decide) (by decide) ((FF_o (by decide) (by decide)).trans (rr_no (by decide) (fun _ => rfl))) (IQ_z (by decide) (by decide) (by decide)) ?_
  show abW _ _ _ _ _ _ (8, 588) (aF A 558 567) (wF (IQ q) (FF g h) M 558 567 _ _) _
  refine kw_putR rfl rfl (by decide) ?_
  refine bw_return (st := []) rfl (Nat.le_of_ble_eq_true rfl) (Nat.le_of_ble_eq_true rfl) rfl ⟨rfl, rfl, ?_⟩
  exact wF_fin ((rr_ext (o := 558) (by decide) (fun k => match k with
      | 0 => rfl
      | 1 => rfl
      | k + 2 => by rw [up_ne (by omega), up_ne (by omega)]; rfl) (fun j hj => by rw [up_ne (by omega), up_ne (by omega)])).symm.trans (FF_o (by decide) (by decide)).symm) (IQ_z (by decide) (by decide) (by decide)).symm
set_option maxRecDepth 20000 in
set_option maxHeartbeats 4000000 in
theorem ct_83_0 {q : Int → Int} (A : abAl) (M : abMem) (hA : A.1 = 0) : abW 13 (566, 80441) 83 0 (abEnt (abL 83) [vr (some 0)]) [] (0, 0) (kN A 9 15) (zM M 0 (0 + 1)) (fun v A2 M2 => v = none ∧ A2 = aF A 0 567 ∧ M2 = gF (IQ q) (FF (rr r0 20) (rr r0 201)) M 0 567) := by
  rw [aF_1 (o := 0) (show kT 0 = (9, 15) from rfl) hA, wF_new (I := IQ q) (F := FF (rr r0 20) (fun _ => none))]
  show abW 13 (566, 80441) 83 0 [some (vr (some 0)), none] [] (0, 0) (aF A 0 1) (wF (IQ q) (FF (rr r0 20) (fun _ => none)) M 0 1 (fun _ => none) (fun _ => 0)) _
  refine bw_aload rfl rfl ?_
  refine kw_objinit rfl (by decide) (by decide) (by decide) (Nat.le_of_ble_eq_true rfl) ?_
  refine bw_aload rfl rfl ?_
  refine bw_new rfl (Nat.le_of_ble_eq_true rfl) (Nat.le_of_ble_eq_true rfl) (by show 1 + 1 < 1000000; decide) ?_
  first | refine bw_dup rfl ?_ | refine bw_dupi rfl ?_
  refine bw_callIN (e := 12) (mc := 1) (ms := 1200) (as := []) rfl rfl rfl rfl (Nat.le_of_ble_eq_true rfl) (Nat.le_of_ble_eq_true rfl) (Nat.le_of_ble_eq_true rfl) (Nat.le_of_ble_eq_true rfl) rfl (ct_72_1 (g := (rr r0 20)) (h := (fun _ => none)) (q := q) (aF A 0 1) (wF (IQ q) (FF (rr r0 20) (fun _ => none)) M 0 1 _ _) rfl) (fun v A2 M2 hq => ?_)
  obtain ⟨rfl, rfl, rfl⟩ := hq
  rw [aF_aF (by decide) (by decide), wF_g (by decide) (by decide)]
  show abW _ _ _ _ _ _ (2, 1205) (aF A 0 3) (wF (IQ q) (FF (rr r0 20) (fun _ => none)) M 0 3 _ _) _
  refine kw_putR rfl rfl (by decide) ?_
  refine bw_aload rfl rfl ?_
  refine bw_new rfl (Nat.le_of_ble_eq_true rfl) (Nat.le_of_ble_eq_true rfl) (by show 3 + 1 < 1000000; decide) ?_
  first | refine bw_dup rfl ?_ | refine bw_dupi rfl ?_
  refine bw_aload rfl rfl ?_
  refine bw_getr rfl rfl rfl ?_
  refine bw_callIN (e := 12) (mc := 6) (ms := 220) (as := [vr (some 1)]) rfl rfl rfl rfl (Nat.le_of_ble_eq_true rfl) (Nat.le_of_ble_eq_true rfl) (Nat.le_of_ble_eq_true rfl) (Nat.le_of_ble_eq_true rfl) rfl (ct_34_3 (g := (rr r0 20)) (h := (fun _ => none)) (q := q) (aF A 0 3) (wF (IQ q) (FF (rr r0 20) (fun _ => none)) M 0 3 _ _) rfl) (fun v A2 M2 hq => ?_)
  obtain ⟨rfl, rfl, rfl⟩ := hq
  rw [aF_aF (by decide) (by decide), wF_g (by decide) (by decide)]
  show abW _ _ _ _ _ _ (9, 1432) (aF A 0 10) (wF (IQ q) (FF (rr r0 20) (fun _ => none)) M 0 10 _ _) _
  refine kw_putR rfl rfl (by decide) ?_
  refine bw_aload rfl rfl ?_
  refine bw_new rfl (Nat.le_of_ble_eq_true rfl) (Nat.le_of_ble_eq_true rfl) (by show 10 + 1 < 1000000; decide) ?_
  first | refine bw_dup rfl ?_ | refine bw_dupi rfl ?_
  refine bw_callIN (e := 12) (mc := 8) (ms := 588) (as := []) rfl rfl rfl rfl (Nat.le_of_ble_eq_true rfl) (Nat.le_of_ble_eq_true rfl) (Nat.le_of_ble_eq_true rfl) (Nat.le_of_ble_eq_true rfl) rfl (ct_68_10 (g := (rr r0 20)) (h := (fun _ => none)) (q := q) (aF A 0 10) (wF (IQ q) (FF (rr r0 20) (fun _ => none)) M 0 10 _ _) rfl) (fun v A2 M2 hq => ?_)
  obtain ⟨rfl, rfl, rfl⟩ := hq
  rw [aF_aF (by decide) (by decide), wF_g (by decide) (by decide)]
  show abW _ _ _ _ _ _ (18, 2022) (aF A 0 19) (wF (IQ q) (FF (rr r0 20) (fun _ => none)) M 0 19 _ _) _
  refine kw_putR rfl rfl (by decide) ?_
  refine bw_aload rfl rfl ?_
  refine bw_new rfl (Nat.le_of_ble_eq_true rfl) (Nat.le_of_ble_eq_true rfl) (by show 19 + 1 < 1000000; decide) ?_
  first | refine bw_dup rfl ?_ | refine bw_dupi rfl ?_
  refine bw_callIN (e := 12) (mc := 181) (ms := 11820) (as := []) rfl rfl rfl rfl (Nat.le_of_ble_eq_true rfl) (Nat.le_of_ble_eq_true rfl) (Nat.le_of_ble_eq_true rfl) (Nat.le_of_ble_eq_true rfl) rfl (ct_14_19 (h := (fun _ => none)) (q := q) (aF A 0 19) (wF (IQ q) (FF (rr r0 20) (fun _ => none)) M 0 19 _ _) rfl) (fun v A2 M2 hq => ?_)
  obtain ⟨rfl, rfl, rfl⟩ := hq
  rw [aF_aF (by decide) (by decide), wF_g (by decide) (by decide)]
  show abW _ _ _ _ _ _ (200, 13845) (aF A 0 201) (wF (IQ q) (FF (rr r0 20) (fun _ => none)) M 0 201 _ _) _
  refine kw_putR rfl rfl (by decide) ?_
  refine bw_aload rfl rfl ?_
  refine bw_push rfl ?_
  refine kw_anewarr rfl rfl (by decide) (by decide) (Nat.le_of_ble_eq_true rfl) (Nat.le_of_ble_eq_true rfl) (by decide) (by decide) rfl (IQ_z (by decide) (by decide) (by decide)) ?_
  show abW _ _ _ _ _ _ (201, 13847) (aF A 0 202) (wF (IQ q) (FF (rr r0 20) (fun _ => none)) M 0 202 _ _) _
  refine kw_putR rfl rfl (by decide) ?_
  refine bw_aload rfl rfl ?_
  refine bw_push rfl ?_
  refine kw_newarr rfl rfl (by decide) (by decide) (Nat.le_of_ble_eq_true rfl) (Nat.le_of_ble_eq_true rfl) (by decide) (by decide) ((FF_o (by decide) (by decide)).trans (rr_no (by decide) (fun _ => rfl))) (IQ_z (by decide) (by decide) (by decide)) ?_
  show abW _ _ _ _ _ _ (202, 13849) (aF A 0 203) (wF (IQ q) (FF (rr r0 20) (fun _ => none)) M 0 203 _ _) _
  refine kw_putR rfl rfl (by decide) ?_
  refine bw_aload rfl rfl ?_
  refine bw_new rfl (Nat.le_of_ble_eq_true rfl) (Nat.le_of_ble_eq_true rfl) (by show 203 + 1 < 1000000; decide) ?_
  first | refine bw_dup rfl ?_ | refine bw_dupi rfl ?_
  refine bw_callIN (e := 12) (mc := 15) (ms := 43828) (as := []) rfl rfl rfl rfl (Nat.le_of_ble_eq_true rfl) (Nat.le_of_ble_eq_true rfl) (Nat.le_of_ble_eq_true rfl) (Nat.le_of_ble_eq_true rfl) rfl (ct_5_203 (g := (rr r0 20)) (h := (fun _ => none)) (q := q) (aF A 0 203) (wF (IQ q) (FF (rr r0 20) (fun _ => none)) M 0 203 _ _) rfl) (fun v A2 M2 hq => ?_)
  obtain ⟨rfl, rfl, rfl⟩ := hq
  rw [aF_aF (by decide) (by decide), wF_g (by decide) (by decide)]
  show abW _ _ _ _ _ _ (218, 57685) (aF A 0 219) (wF (IQ q) (FF (rr r0 20) (fun _ => none)) M 0 219 _ _) _
  refine kw_putR rfl rfl (by decide) ?_
  refine bw_aload rfl rfl ?_
  refine bw_new rfl (Nat.le_of_ble_eq_true rfl) (Nat.le_of_ble_eq_true rfl) (by show 219 + 1 < 1000000; decide) ?_
  first | refine bw_dup rfl ?_ | refine bw_dupi rfl ?_
  refine bw_callIN (e := 12) (mc := 152) (ms := 14643) (as := []) rfl rfl rfl rfl (Nat.le_of_ble_eq_true rfl) (Nat.le_of_ble_eq_true rfl) (Nat.le_of_ble_eq_true rfl) (Nat.le_of_ble_eq_true rfl) rfl (ct_25_219 (g := (rr r0 20)) (h := (fun _ => none)) (q := q) (aF A 0 219) (wF (IQ q) (FF (rr r0 20) (fun _ => none)) M 0 219 _ _) rfl) (fun v A2 M2 hq => ?_)
  obtain ⟨rfl, rfl, rfl⟩ := hq
  rw [aF_aF (by decide) (by decide), wF_g (by decide) (by decide)]
  show abW _ _ _ _ _ _ (371, 72335) (aF A 0 372) (wF (IQ q) (FF (rr r0 20) (fun _ => none)) M 0 372 _ _) _
  refine kw_putR rfl rfl (by decide) ?_
  refine bw_aload rfl rfl ?_
  refine bw_new rfl (Nat.le_of_ble_eq_true rfl) (Nat.le_of_ble_eq_true rfl) (by show 372 + 1 < 1000000; decide) ?_
  first | refine bw_dup rfl ?_ | refine bw_dupi rfl ?_
  refine bw_callIN (e := 12) (mc := 86) (ms := 3348) (as := []) rfl rfl rfl rfl (Nat.le_of_ble_eq_true rfl) (Nat.le_of_ble_eq_true rfl) (Nat.le_of_ble_eq_true rfl) (Nat.le_of_ble_eq_true rfl) rfl (ct_57_372 (g := (rr r0 20)) (h := (fun _ => none)) (q := q) (aF A 0 372) (wF (IQ q) (FF (rr r0 20) (fun _ => none)) M 0 372 _ _) rfl) (fun v A2 M2 hq => ?_)
  obtain ⟨rfl, rfl, rfl⟩ := hq
  rw [aF_aF (by decide) (by decide), wF_g (by decide) (by decide)]
  show abW _ _ _ _ _ _ (458, 75699) (aF A 0 459) (wF (IQ q) (FF (rr r0 20) (fun _ => none)) M 0 459 _ _) _
  refine kw_putR rfl rfl (by decide) ?_
  refine bw_aload rfl rfl ?_
  refine bw_new rfl (Nat.le_of_ble_eq_true rfl) (Nat.le_of_ble_eq_true rfl) (by show 459 + 1 < 1000000; decide) ?_
  first | refine bw_dup rfl ?_ | refine bw_dupi rfl ?_
  refine bw_callIN (e := 12) (mc := 86) (ms := 3348) (as := []) rfl rfl rfl rfl (Nat.le_of_ble_eq_true rfl) (Nat.le_of_ble_eq_true rfl) (Nat.le_of_ble_eq_true rfl) (Nat.le_of_ble_eq_true rfl) rfl (ct_57_459 (g := (rr r0 20)) (h := (fun _ => none)) (q := q) (aF A 0 459) (wF (IQ q) (FF (rr r0 20) (fun _ => none)) M 0 459 _ _) rfl) (fun v A2 M2 hq => ?_)
  obtain ⟨rfl, rfl, rfl⟩ := hq
  rw [aF_aF (by decide) (by decide), wF_g (by decide) (by decide)]
  show abW _ _ _ _ _ _ (545, 79063) (aF A 0 546) (wF (IQ q) (FF (rr r0 20) (fun _ => none)) M 0 546 _ _) _
  refine kw_putR rfl rfl (by decide) ?_
  refine bw_aload rfl rfl ?_
  refine bw_push rfl ?_
  refine kw_newarr rfl rfl (by decide) (by decide) (Nat.le_of_ble_eq_true rfl) (Nat.le_of_ble_eq_true rfl) (by decide) (by decide) ((FF_o (by decide) (by decide)).trans (rr_no (by decide) (fun _ => rfl))) (IQ_z (by decide) (by decide) (by decide)) ?_
  show abW _ _ _ _ _ _ (546, 79159) (aF A 0 547) (wF (IQ q) (FF (rr r0 20) (fun _ => none)) M 0 547 _ _) _
  refine kw_putR rfl rfl (by decide) ?_
  refine bw_aload rfl rfl ?_
  refine bw_push rfl ?_
  refine kw_newarr rfl rfl (by decide) (by decide) (Nat.le_of_ble_eq_true rfl) (Nat.le_of_ble_eq_true rfl) (by decide) (by decide) ((FF_o (by decide) (by decide)).trans (rr_no (by decide) (fun _ => rfl))) (IQ_z (by decide) (by decide) (by decide)) ?_
  show abW _ _ _ _ _ _ (547, 79165) (aF A 0 548) (wF (IQ q) (FF (rr r0 20) (fun _ => none)) M 0 548 _ _) _
  refine kw_putR rfl rfl (by decide) ?_
  refine bw_aload rfl rfl ?_
  refine bw_push rfl ?_
  refine kw_newarr rfl rfl (by decide) (by decide) (Nat.le_of_ble_eq_true rfl) (Nat.le_of_ble_eq_true rfl) (by decide) (by decide) ((FF_o (by decide) (by decide)).trans (rr_no (by decide) (fun _ => rfl))) (IQ_z (by decide) (by decide) (by decide)) ?_
  show abW _ _ _ _ _ _ (548, 79261) (aF A 0 549) (wF (IQ q) (FF (rr r0 20) (fun _ => none)) M 0 549 _ _) _
  refine kw_putR rfl rfl (by decide) ?_
  refine bw_push rfl ?_
  refine bw_istore (ls2 := [_, _]) rfl rfl (Nat.le_of_ble_eq_true rfl) rfl ?_
  refine bw_iload rfl rfl ?_
  refine bw_push rfl ?_
  refine bw_icge rfl (fun c => absurd c (by decide)) (fun _ => ?_)
  refine bw_aload rfl rfl ?_
  refine kw_getr rfl rfl (by decide) rfl ?_
  refine bw_iload rfl rfl ?_
  refine bw_new rfl (Nat.le_of_ble_eq_true rfl) (Nat.le_of_ble_eq_true rfl) (by show 549 + 1 < 1000000; decide) ?_
  first | refine bw_dup rfl ?_ | refine bw_dupi rfl ?_
  refine bw_callIN (e := 12) (mc := 8) (ms := 588) (as := []) rfl rfl rfl rfl (Nat.le_of_ble_eq_true rfl) (Nat.le_of_ble_eq_true rfl) (Nat.le_of_ble_eq_true rfl) (Nat.le_of_ble_eq_true rfl) rfl (ct_68_549 (g := (rr r0 20)) (h := (fun _ => none)) (q := q) (aF A 0 549) (wF (IQ q) (FF (rr r0 20) (fun _ => none)) M 0 549 _ _) rfl) (fun v A2 M2 hq => ?_)
  obtain ⟨rfl, rfl, rfl⟩ := hq
  rw [aF_aF (by decide) (by decide), wF_g (by decide) (by decide)]
  show abW _ _ _ _ _ _ (557, 79851) (aF A 0 558) (wF (IQ q) (FF (rr r0 20) (fun _ => none)) M 0 558 _ _) _
  refine kw_a201 (x := 549) rfl (by decide) (by decide) (by decide) (by decide) ⟨by decide, by decide⟩ rfl ?_
  refine bw_iinc (ls2 := [some (vr (some 0)), some (vi 1)]) rfl rfl rfl ⟨by decide, by decide⟩ rfl ?_
  refine bw_goto rfl ?_
  refine bw_iload rfl rfl ?_
  refine bw_push rfl ?_
  refine bw_icge rfl (fun c => absurd c (by decide)) (fun _ => ?_)
  refine bw_aload rfl rfl ?_
  refine kw_getr rfl rfl (by decide) rfl ?_
  refine bw_iload rfl rfl ?_
  refine bw_new rfl (Nat.le_of_ble_eq_true rfl) (Nat.le_of_ble_eq_true rfl) (by show 558 + 1 < 1000000; decide) ?_
  first | refine bw_dup rfl ?_ | refine bw_dupi rfl ?_
  refine bw_callIN (e := 12) (mc := 8) (ms := 588) (as := []) rfl rfl rfl rfl (Nat.le_of_ble_eq_true rfl) (Nat.le_of_ble_eq_true rfl) (Nat.le_of_ble_eq_true rfl) (Nat.le_of_ble_eq_true rfl) rfl (ct_68_558 (g := (rr r0 20)) (h := (up (fun _ => none) 0 (some 549))) (q := q) (aF A 0 558) (wF (IQ q) (FF (rr r0 20) (up (fun _ => none) 0 (some 549))) M 0 558 _ _) rfl) (fun v A2 M2 hq => ?_)
  obtain ⟨rfl, rfl, rfl⟩ := hq
  rw [aF_aF (by decide) (by decide), wF_g (by decide) (by decide)]
  show abW _ _ _ _ _ _ (566, 80441) (aF A 0 567) (wF (IQ q) (FF (rr r0 20) (up (fun _ => none) 0 (some 549))) M 0 567 _ _) _
  refine kw_a201 (x := 558) rfl (by decide) (by decide) (by decide) (by decide) ⟨by decide, by decide⟩ rfl ?_
  refine bw_iinc (ls2 := [some (vr (some 0)), some (vi 2)]) rfl rfl rfl ⟨by decide, by decide⟩ rfl ?_
  refine bw_goto rfl ?_
  refine bw_iload rfl rfl ?_
  refine bw_push rfl ?_
  refine bw_icge rfl (fun _ => ?_) (fun c => absurd (by decide) c)
  refine bw_return (st := []) rfl (Nat.le_of_ble_eq_true rfl) (Nat.le_of_ble_eq_true rfl) rfl ⟨rfl, rfl, ?_⟩
  rw [show (up (up (fun _ => none) 0 (some 549)) 1 (some 558)) = rr r0 201 from (rr_ext (o := 201) (by decide) (fun k => match k with
    | 0 => rfl
    | 1 => rfl
    | k + 2 => by rw [up_ne (by omega), up_ne (by omega)]; rfl) (fun j hj => by rw [up_ne (by omega), up_ne (by omega)])).symm]
  exact wF_fin ((rr_ext (o := 0) (by decide) (fun k => match k with
      | 0 => rfl
      | 1 => rfl
      | 2 => rfl
      | 3 => rfl
      | 4 => rfl
      | 5 => rfl
      | 6 => rfl
      | 7 => rfl
      | 8 => rfl
      | 9 => rfl
      | 10 => rfl
      | 11 => rfl
      | 12 => rfl
      | k + 13 => by rw [up_ne (by omega), up_ne (by omega), up_ne (by omega), up_ne (by omega), up_ne (by omega), up_ne (by omega), up_ne (by omega), up_ne (by omega), up_ne (by omega), up_ne (by omega), up_ne (by omega), up_ne (by omega), up_ne (by omega)]; rfl) (fun j hj => by rw [up_ne (by omega), up_ne (by omega), up_ne (by omega), up_ne (by omega), up_ne (by omega), up_ne (by omega), up_ne (by omega), up_ne (by omega), up_ne (by omega), up_ne (by omega), up_ne (by omega), up_ne (by omega), up_ne (by omega)])).symm.trans (FF_o (by decide) (by decide)).symm) (IQ_z (by decide) (by decide) (by decide)).symm
set_option maxRecDepth 20000 in
set_option maxHeartbeats 4000000 in
theorem ct_140_567 (A : abAl) (M : abMem) (hA : A.1 = 567) : abW 13 (14, 47921) 140 0 (abEnt (abL 140) [vr (some 567)]) [] (0, 0) (kN A 10 33) (zM M 567 (567 + 1)) (fun v A2 M2 => v = none ∧ A2 = aF A 567 582 ∧ M2 = gF (IQ (oF 94)) (FF (rr r0 20) (rr r0 201)) M 567 582) := by
  rw [aF_1 (o := 567) (show kT 567 = (10, 33) from rfl) hA, wF_new (I := IQ (oF 0)) (F := FF (rr r0 20) (rr r0 201))]
  show abW 13 (14, 47921) 140 0 [some (vr (some 567))] [] (0, 0) (aF A 567 568) (wF (IQ (oF 0)) (FF (rr r0 20) (rr r0 201)) M 567 568 (fun _ => none) (fun _ => 0)) _
  refine bw_aload rfl rfl ?_
  refine kw_objinit rfl (by decide) (by decide) (by decide) (Nat.le_of_ble_eq_true rfl) ?_
  refine bw_aload rfl rfl ?_
  refine bw_push rfl ?_
  refine kw_newarr rfl rfl (by decide) (by decide) (Nat.le_of_ble_eq_true rfl) (Nat.le_of_ble_eq_true rfl) (by decide) (by decide) ((FF_o (by decide) (by decide)).trans (rr_no (by decide) (fun _ => rfl))) (IQ_z (by decide) (by decide) (by decide)) ?_
  show abW _ _ _ _ _ _ (1, 2012) (aF A 567 569) (wF (IQ (oF 0)) (FF (rr r0 20) (rr r0 201)) M 567 569 _ _) _
  refine kw_putR rfl rfl (by decide) ?_
  refine bw_aload rfl rfl ?_
  refine bw_push rfl ?_
  refine kw_newarr rfl rfl (by decide) (by decide) (Nat.le_of_ble_eq_true rfl) (Nat.le_of_ble_eq_true rfl) (by decide) (by decide) ((FF_o (by decide) (by decide)).trans (rr_no (by decide) (fun _ => rfl))) (IQ_z (by decide) (by decide) (by decide)) ?_
  show abW _ _ _ _ _ _ (2, 15980) (aF A 567 570) (wF (IQ (oF 0)) (FF (rr r0 20) (rr r0 201)) M 567 570 _ _) _
  refine kw_putR rfl rfl (by decide) ?_
  refine bw_aload rfl rfl ?_
  refine bw_push rfl ?_
  refine kw_newarr rfl rfl (by decide) (by decide) (Nat.le_of_ble_eq_true rfl) (Nat.le_of_ble_eq_true rfl) (by decide) (by decide) ((FF_o (by decide) (by decide)).trans (rr_no (by decide) (fun _ => rfl))) (IQ_z (by decide) (by decide) (by decide)) ?_
  show abW _ _ _ _ _ _ (3, 15982) (aF A 567 571) (wF (IQ (oF 0)) (FF (rr r0 20) (rr r0 201)) M 567 571 _ _) _
  refine kw_putR rfl rfl (by decide) ?_
  refine bw_aload rfl rfl ?_
  refine bw_push rfl ?_
  refine kw_put0 rfl rfl (by decide) rfl ?_
  refine bw_aload rfl rfl ?_
  refine bw_push rfl ?_
  refine kw_newarr rfl rfl (by decide) (by decide) (Nat.le_of_ble_eq_true rfl) (Nat.le_of_ble_eq_true rfl) (by decide) (by decide) ((FF_o (by decide) (by decide)).trans (rr_no (by decide) (fun _ => rfl))) (IQ_z (by decide) (by decide) (by decide)) ?_
  show abW _ _ _ _ _ _ (4, 17182) (aF A 567 572) (wF (IQ (oF 0)) (FF (rr r0 20) (rr r0 201)) M 567 572 _ _) _
  refine kw_putR rfl rfl (by decide) ?_
  refine bw_aload rfl rfl ?_
  refine bw_push rfl ?_
  refine kw_put0 rfl rfl (by decide) rfl ?_
  refine bw_aload rfl rfl ?_
  refine bw_push rfl ?_
  refine kw_put0 rfl rfl (by decide) rfl ?_
  refine bw_aload rfl rfl ?_
  refine bw_push rfl ?_
  refine kw_putI rfl rfl (by decide) ?_
  refine bw_aload rfl rfl ?_
  refine bw_push rfl ?_
  refine kw_put0 rfl rfl (by decide) rfl ?_
  refine bw_aload rfl rfl ?_
  refine bw_push rfl ?_
  refine kw_put0 rfl rfl (by decide) rfl ?_
  refine bw_aload rfl rfl ?_
  refine bw_push rfl ?_
  refine kw_put0 rfl rfl (by decide) rfl ?_
  refine bw_aload rfl rfl ?_
  refine bw_push rfl ?_
  refine kw_put0 rfl rfl (by decide) rfl ?_
  refine bw_aload rfl rfl ?_
  refine bw_push rfl ?_
  refine kw_putI rfl rfl (by decide) ?_
  refine bw_aload rfl rfl ?_
  refine bw_push rfl ?_
  refine kw_newarr rfl rfl (by decide) (by decide) (Nat.le_of_ble_eq_true rfl) (Nat.le_of_ble_eq_true rfl) (by decide) (by decide) ((FF_o (by decide) (by decide)).trans (rr_no (by decide) (fun _ => rfl))) oF_0 ?_
  show abW _ _ _ _ _ _ (5, 17276) (aF A 567 573) (wF (IQ (oF 0)) (FF (rr r0 20) (rr r0 201)) M 567 573 _ _) _
  first | refine bw_dup rfl ?_ | refine bw_dupi rfl ?_
  refine bw_push rfl ?_
  refine bw_push rfl ?_
  refine kw_572 (m := 1) rfl (by decide) (by decide) (by decide) (by decide) (by decide) rfl ?_
  first | refine bw_dup rfl ?_ | refine bw_dupi rfl ?_
  refine bw_push rfl ?_
  refine bw_push rfl ?_
  refine kw_572 (m := 2) rfl (by decide) (by decide) (by decide) (by decide) (by decide) rfl ?_
  first | refine bw_dup rfl ?_ | refine bw_dupi rfl ?_
  refine bw_push rfl ?_
  refine bw_push rfl ?_
  refine kw_572 (m := 3) rfl (by decide) (by decide) (by decide) (by decide) (by decide) rfl ?_
  first | refine bw_dup rfl ?_ | refine bw_dupi rfl ?_
  refine bw_push rfl ?_
  refine bw_push rfl ?_
  refine kw_572 (m := 4) rfl (by decide) (by decide) (by decide) (by decide) (by decide) rfl ?_
  first | refine bw_dup rfl ?_ | refine bw_dupi rfl ?_
  refine bw_push rfl ?_
  refine bw_push rfl ?_
  refine kw_572 (m := 5) rfl (by decide) (by decide) (by decide) (by decide) (by decide) rfl ?_
  first | refine bw_dup rfl ?_ | refine bw_dupi rfl ?_
  refine bw_push rfl ?_
  refine bw_push rfl ?_
  refine kw_572 (m := 6) rfl (by decide) (by decide) (by decide) (by decide) (by decide) rfl ?_
  first | refine bw_dup rfl ?_ | refine bw_dupi rfl ?_
  refine bw_push rfl ?_
  refine bw_push rfl ?_
  refine kw_572 (m := 7) rfl (by decide) (by decide) (by decide) (by decide) (by decide) rfl ?_
  first | refine bw_dup rfl ?_ | refine bw_dupi rfl ?_
  refine bw_push rfl ?_
  refine bw_push rfl ?_
  refine kw_572 (m := 8) rfl (by decide) (by decide) (by decide) (by decide) (by decide) rfl ?_
  first | refine bw_dup rfl ?_ | refine bw_dupi rfl ?_
  refine bw_push rfl ?_
  refine bw_push rfl ?_
  refine kw_572 (m := 9) rfl (by decide) (by decide) (by decide) (by decide) (by decide) rfl ?_
  first | refine bw_dup rfl ?_ | refine bw_dupi rfl ?_
  refine bw_push rfl ?_
  refine bw_push rfl ?_
  refine kw_572 (m := 10) rfl (by decide) (by decide) (by decide) (by decide) (by decide) rfl ?_
  first | refine bw_dup rfl ?_ | refine bw_dupi rfl ?_
  refine bw_push rfl ?_
  refine bw_push rfl ?_
  refine kw_572 (m := 11) rfl (by decide) (by decide) (by decide) (by decide) (by decide) rfl ?_
  first | refine bw_dup rfl ?_ | refine bw_dupi rfl ?_
  refine bw_push rfl ?_
  refine bw_push rfl ?_
  refine kw_572 (m := 12) rfl (by decide) (by decide) (by decide) (by decide) (by decide) rfl ?_
  first | refine bw_dup rfl ?_ | refine bw_dupi rfl ?_
  refine bw_push rfl ?_
  refine bw_push rfl ?_
  refine kw_572 (m := 13) rfl (by decide) (by decide) (by decide) (by decide) (by decide) rfl ?_
  first | refine bw_dup rfl ?_ | refine bw_dupi rfl ?_
  refine bw_push rfl ?_
  refine bw_push rfl ?_
  refine kw_572 (m := 14) rfl (by decide) (by decide) (by decide) (by decide) (by decide) rfl ?_
  first | refine bw_dup rfl ?_ | refine bw_dupi rfl ?_
  refine bw_push rfl ?_
  refine bw_push rfl ?_
  refine kw_572 (m := 15) rfl (by decide) (by decide) (by decide) (by decide) (by decide) rfl ?_
  first | refine bw_dup rfl ?_ | refine bw_dupi rfl ?_
  refine bw_push rfl ?_
  refine bw_push rfl ?_
  refine kw_572 (m := 16) rfl (by decide) (by decide) (by decide) (by decide) (by decide) rfl ?_
  first | refine bw_dup rfl ?_ | refine bw_dupi rfl ?_
  refine bw_push rfl ?_
  refine bw_push rfl ?_
  refine kw_572 (m := 17) rfl (by decide) (by decide) (by decide) (by decide) (by decide) rfl ?_
  first | refine bw_dup rfl ?_ | refine bw_dupi rfl ?_
  refine bw_push rfl ?_
  refine bw_push rfl ?_
  refine kw_572 (m := 18) rfl (by decide) (by decide) (by decide) (by decide) (by decide) rfl ?_
  first | refine bw_dup rfl ?_ | refine bw_dupi rfl ?_
  refine bw_push rfl ?_
  refine bw_push rfl ?_
  refine kw_572 (m := 19) rfl (by decide) (by decide) (by decide) (by decide) (by decide) rfl ?_
  first | refine bw_dup rfl ?_ | refine bw_dupi rfl ?_
  refine bw_push rfl ?_
  refine bw_push rfl ?_
  refine kw_572 (m := 20) rfl (by decide) (by decide) (by decide) (by decide) (by decide) rfl ?_
  first | refine bw_dup rfl ?_ | refine bw_dupi rfl ?_
  refine bw_push rfl ?_
  refine bw_push rfl ?_
  refine kw_572 (m := 21) rfl (by decide) (by decide) (by decide) (by decide) (by decide) rfl ?_
  first | refine bw_dup rfl ?_ | refine bw_dupi rfl ?_
  refine bw_push rfl ?_
  refine bw_push rfl ?_
  refine kw_572 (m := 22) rfl (by decide) (by decide) (by decide) (by decide) (by decide) rfl ?_
  first | refine bw_dup rfl ?_ | refine bw_dupi rfl ?_
  refine bw_push rfl ?_
  refine bw_push rfl ?_
  refine kw_572 (m := 23) rfl (by decide) (by decide) (by decide) (by decide) (by decide) rfl ?_
  first | refine bw_dup rfl ?_ | refine bw_dupi rfl ?_
  refine bw_push rfl ?_
  refine bw_push rfl ?_
  refine kw_572 (m := 24) rfl (by decide) (by decide) (by decide) (by decide) (by decide) rfl ?_
  first | refine bw_dup rfl ?_ | refine bw_dupi rfl ?_
  refine bw_push rfl ?_
  refine bw_push rfl ?_
  refine kw_572 (m := 25) rfl (by decide) (by decide) (by decide) (by decide) (by decide) rfl ?_
  first | refine bw_dup rfl ?_ | refine bw_dupi rfl ?_
  refine bw_push rfl ?_
  refine bw_push rfl ?_
  refine kw_572 (m := 26) rfl (by decide) (by decide) (by decide) (by decide) (by decide) rfl ?_
  first | refine bw_dup rfl ?_ | refine bw_dupi rfl ?_
  refine bw_push rfl ?_
  refine bw_push rfl ?_
  refine kw_572 (m := 27) rfl (by decide) (by decide) (by decide) (by decide) (by decide) rfl ?_
  first | refine bw_dup rfl ?_ | refine bw_dupi rfl ?_
  refine bw_push rfl ?_
  refine bw_push rfl ?_
  refine kw_572 (m := 28) rfl (by decide) (by decide) (by decide) (by decide) (by decide) rfl ?_
  first | refine bw_dup rfl ?_ | refine bw_dupi rfl ?_
  refine bw_push rfl ?_
  refine bw_push rfl ?_
  refine kw_572 (m := 29) rfl (by decide) (by decide) (by decide) (by decide) (by decide) rfl ?_
  first | refine bw_dup rfl ?_ | refine bw_dupi rfl ?_
  refine bw_push rfl ?_
  refine bw_push rfl ?_
  refine kw_572 (m := 30) rfl (by decide) (by decide) (by decide) (by decide) (by decide) rfl ?_
  first | refine bw_dup rfl ?_ | refine bw_dupi rfl ?_
  refine bw_push rfl ?_
  refine bw_push rfl ?_
  refine kw_572 (m := 31) rfl (by decide) (by decide) (by decide) (by decide) (by decide) rfl ?_
  first | refine bw_dup rfl ?_ | refine bw_dupi rfl ?_
  refine bw_push rfl ?_
  refine bw_push rfl ?_
  refine kw_572 (m := 32) rfl (by decide) (by decide) (by decide) (by decide) (by decide) rfl ?_
  first | refine bw_dup rfl ?_ | refine bw_dupi rfl ?_
  refine bw_push rfl ?_
  refine bw_push rfl ?_
  refine kw_572 (m := 33) rfl (by decide) (by decide) (by decide) (by decide) (by decide) rfl ?_
  first | refine bw_dup rfl ?_ | refine bw_dupi rfl ?_
  refine bw_push rfl ?_
  refine bw_push rfl ?_
  refine kw_572 (m := 34) rfl (by decide) (by decide) (by decide) (by decide) (by decide) rfl ?_
  first | refine bw_dup rfl ?_ | refine bw_dupi rfl ?_
  refine bw_push rfl ?_
  refine bw_push rfl ?_
  refine kw_572 (m := 35) rfl (by decide) (by decide) (by decide) (by decide) (by decide) rfl ?_
  first | refine bw_dup rfl ?_ | refine bw_dupi rfl ?_
  refine bw_push rfl ?_
  refine bw_push rfl ?_
  refine kw_572 (m := 36) rfl (by decide) (by decide) (by decide) (by decide) (by decide) rfl ?_
  first | refine bw_dup rfl ?_ | refine bw_dupi rfl ?_
  refine bw_push rfl ?_
  refine bw_push rfl ?_
  refine kw_572 (m := 37) rfl (by decide) (by decide) (by decide) (by decide) (by decide) rfl ?_
  first | refine bw_dup rfl ?_ | refine bw_dupi rfl ?_
  refine bw_push rfl ?_
  refine bw_push rfl ?_
  refine kw_572 (m := 38) rfl (by decide) (by decide) (by decide) (by decide) (by decide) rfl ?_
  first | refine bw_dup rfl ?_ | refine bw_dupi rfl ?_
  refine bw_push rfl ?_
  refine bw_push rfl ?_
  refine kw_572 (m := 39) rfl (by decide) (by decide) (by decide) (by decide) (by decide) rfl ?_
  first | refine bw_dup rfl ?_ | refine bw_dupi rfl ?_
  refine bw_push rfl ?_
  refine bw_push rfl ?_
  refine kw_572 (m := 40) rfl (by decide) (by decide) (by decide) (by decide) (by decide) rfl ?_
  first | refine bw_dup rfl ?_ | refine bw_dupi rfl ?_
  refine bw_push rfl ?_
  refine bw_push rfl ?_
  refine kw_572 (m := 41) rfl (by decide) (by decide) (by decide) (by decide) (by decide) rfl ?_
  first | refine bw_dup rfl ?_ | refine bw_dupi rfl ?_
  refine bw_push rfl ?_
  refine bw_push rfl ?_
  refine kw_572 (m := 42) rfl (by decide) (by decide) (by decide) (by decide) (by decide) rfl ?_
  first | refine bw_dup rfl ?_ | refine bw_dupi rfl ?_
  refine bw_push rfl ?_
  refine bw_push rfl ?_
  refine kw_572 (m := 43) rfl (by decide) (by decide) (by decide) (by decide) (by decide) rfl ?_
  first | refine bw_dup rfl ?_ | refine bw_dupi rfl ?_
  refine bw_push rfl ?_
  refine bw_push rfl ?_
  refine kw_572 (m := 44) rfl (by decide) (by decide) (by decide) (by decide) (by decide) rfl ?_
  first | refine bw_dup rfl ?_ | refine bw_dupi rfl ?_
  refine bw_push rfl ?_
  refine bw_push rfl ?_
  refine kw_572 (m := 45) rfl (by decide) (by decide) (by decide) (by decide) (by decide) rfl ?_
  first | refine bw_dup rfl ?_ | refine bw_dupi rfl ?_
  refine bw_push rfl ?_
  refine bw_push rfl ?_
  refine kw_572 (m := 46) rfl (by decide) (by decide) (by decide) (by decide) (by decide) rfl ?_
  first | refine bw_dup rfl ?_ | refine bw_dupi rfl ?_
  refine bw_push rfl ?_
  refine bw_push rfl ?_
  refine kw_572 (m := 47) rfl (by decide) (by decide) (by decide) (by decide) (by decide) rfl ?_
  first | refine bw_dup rfl ?_ | refine bw_dupi rfl ?_
  refine bw_push rfl ?_
  refine bw_push rfl ?_
  refine kw_572 (m := 48) rfl (by decide) (by decide) (by decide) (by decide) (by decide) rfl ?_
  first | refine bw_dup rfl ?_ | refine bw_dupi rfl ?_
  refine bw_push rfl ?_
  refine bw_push rfl ?_
  refine kw_572 (m := 49) rfl (by decide) (by decide) (by decide) (by decide) (by decide) rfl ?_
  first | refine bw_dup rfl ?_ | refine bw_dupi rfl ?_
  refine bw_push rfl ?_
  refine bw_push rfl ?_
  refine kw_572 (m := 50) rfl (by decide) (by decide) (by decide) (by decide) (by decide) rfl ?_
  first | refine bw_dup rfl ?_ | refine bw_dupi rfl ?_
  refine bw_push rfl ?_
  refine bw_push rfl ?_
  refine kw_572 (m := 51) rfl (by decide) (by decide) (by decide) (by decide) (by decide) rfl ?_
  first | refine bw_dup rfl ?_ | refine bw_dupi rfl ?_
  refine bw_push rfl ?_
  refine bw_push rfl ?_
  refine kw_572 (m := 52) rfl (by decide) (by decide) (by decide) (by decide) (by decide) rfl ?_
  first | refine bw_dup rfl ?_ | refine bw_dupi rfl ?_
  refine bw_push rfl ?_
  refine bw_push rfl ?_
  refine kw_572 (m := 53) rfl (by decide) (by decide) (by decide) (by decide) (by decide) rfl ?_
  first | refine bw_dup rfl ?_ | refine bw_dupi rfl ?_
  refine bw_push rfl ?_
  refine bw_push rfl ?_
  refine kw_572 (m := 54) rfl (by decide) (by decide) (by decide) (by decide) (by decide) rfl ?_
  first | refine bw_dup rfl ?_ | refine bw_dupi rfl ?_
  refine bw_push rfl ?_
  refine bw_push rfl ?_
  refine kw_572 (m := 55) rfl (by decide) (by decide) (by decide) (by decide) (by decide) rfl ?_
  first | refine bw_dup rfl ?_ | refine bw_dupi rfl ?_
  refine bw_push rfl ?_
  refine bw_push rfl ?_
  refine kw_572 (m := 56) rfl (by decide) (by decide) (by decide) (by decide) (by decide) rfl ?_
  first | refine bw_dup rfl ?_ | refine bw_dupi rfl ?_
  refine bw_push rfl ?_
  refine bw_push rfl ?_
  refine kw_572 (m := 57) rfl (by decide) (by decide) (by decide) (by decide) (by decide) rfl ?_
  first | refine bw_dup rfl ?_ | refine bw_dupi rfl ?_
  refine bw_push rfl ?_
  refine bw_push rfl ?_
  refine kw_572 (m := 58) rfl (by decide) (by decide) (by decide) (by decide) (by decide) rfl ?_
  first | refine bw_dup rfl ?_ | refine bw_dupi rfl ?_
  refine bw_push rfl ?_
  refine bw_push rfl ?_
  refine kw_572 (m := 59) rfl (by decide) (by decide) (by decide) (by decide) (by decide) rfl ?_
  first | refine bw_dup rfl ?_ | refine bw_dupi rfl ?_
  refine bw_push rfl ?_
  refine bw_push rfl ?_
  refine kw_572 (m := 60) rfl (by decide) (by decide) (by decide) (by decide) (by decide) rfl ?_
  first | refine bw_dup rfl ?_ | refine bw_dupi rfl ?_
  refine bw_push rfl ?_
  refine bw_push rfl ?_
  refine kw_572 (m := 61) rfl (by decide) (by decide) (by decide) (by decide) (by decide) rfl ?_
  first | refine bw_dup rfl ?_ | refine bw_dupi rfl ?_
  refine bw_push rfl ?_
  refine bw_push rfl ?_
  refine kw_572 (m := 62) rfl (by decide) (by decide) (by decide) (by decide) (by decide) rfl ?_
  first | refine bw_dup rfl ?_ | refine bw_dupi rfl ?_
  refine bw_push rfl ?_
  refine bw_push rfl ?_
  refine kw_572 (m := 63) rfl (by decide) (by decide) (by decide) (by decide) (by decide) rfl ?_
  first | refine bw_dup rfl ?_ | refine bw_dupi rfl ?_
  refine bw_push rfl ?_
  refine bw_push rfl ?_
  refine kw_572 (m := 64) rfl (by decide) (by decide) (by decide) (by decide) (by decide) rfl ?_
  first | refine bw_dup rfl ?_ | refine bw_dupi rfl ?_
  refine bw_push rfl ?_
  refine bw_push rfl ?_
  refine kw_572 (m := 65) rfl (by decide) (by decide) (by decide) (by decide) (by decide) rfl ?_
  first | refine bw_dup rfl ?_ | refine bw_dupi rfl ?_
  refine bw_push rfl ?_
  refine bw_push rfl ?_
  refine kw_572 (m := 66) rfl (by decide) (by decide) (by decide) (by decide) (by decide) rfl ?_
  first | refine bw_dup rfl ?_ | refine bw_dupi rfl ?_
  refine bw_push rfl ?_
  refine bw_push rfl ?_
  refine kw_572 (m := 67) rfl (by decide) (by decide) (by decide) (by decide) (by decide) rfl ?_
  first | refine bw_dup rfl ?_ | refine bw_dupi rfl ?_
  refine bw_push rfl ?_
  refine bw_push rfl ?_
  refine kw_572 (m := 68) rfl (by decide) (by decide) (by decide) (by decide) (by decide) rfl ?_
  first | refine bw_dup rfl ?_ | refine bw_dupi rfl ?_
  refine bw_push rfl ?_
  refine bw_push rfl ?_
  refine kw_572 (m := 69) rfl (by decide) (by decide) (by decide) (by decide) (by decide) rfl ?_
  first | refine bw_dup rfl ?_ | refine bw_dupi rfl ?_
  refine bw_push rfl ?_
  refine bw_push rfl ?_
  refine kw_572 (m := 70) rfl (by decide) (by decide) (by decide) (by decide) (by decide) rfl ?_
  first | refine bw_dup rfl ?_ | refine bw_dupi rfl ?_
  refine bw_push rfl ?_
  refine bw_push rfl ?_
  refine kw_572 (m := 71) rfl (by decide) (by decide) (by decide) (by decide) (by decide) rfl ?_
  first | refine bw_dup rfl ?_ | refine bw_dupi rfl ?_
  refine bw_push rfl ?_
  refine bw_push rfl ?_
  refine kw_572 (m := 72) rfl (by decide) (by decide) (by decide) (by decide) (by decide) rfl ?_
  first | refine bw_dup rfl ?_ | refine bw_dupi rfl ?_
  refine bw_push rfl ?_
  refine bw_push rfl ?_
  refine kw_572 (m := 73) rfl (by decide) (by decide) (by decide) (by decide) (by decide) rfl ?_
  first | refine bw_dup rfl ?_ | refine bw_dupi rfl ?_
  refine bw_push rfl ?_
  refine bw_push rfl ?_
  refine kw_572 (m := 74) rfl (by decide) (by decide) (by decide) (by decide) (by decide) rfl ?_
  first | refine bw_dup rfl ?_ | refine bw_dupi rfl ?_
  refine bw_push rfl ?_
  refine bw_push rfl ?_
  refine kw_572 (m := 75) rfl (by decide) (by decide) (by decide) (by decide) (by decide) rfl ?_
  first | refine bw_dup rfl ?_ | refine bw_dupi rfl ?_
  refine bw_push rfl ?_
  refine bw_push rfl ?_
  refine kw_572 (m := 76) rfl (by decide) (by decide) (by decide) (by decide) (by decide) rfl ?_
  first | refine bw_dup rfl ?_ | refine bw_dupi rfl ?_
  refine bw_push rfl ?_
  refine bw_push rfl ?_
  refine kw_572 (m := 77) rfl (by decide) (by decide) (by decide) (by decide) (by decide) rfl ?_
  first | refine bw_dup rfl ?_ | refine bw_dupi rfl ?_
  refine bw_push rfl ?_
  refine bw_push rfl ?_
  refine kw_572 (m := 78) rfl (by decide) (by decide) (by decide) (by decide) (by decide) rfl ?_
  first | refine bw_dup rfl ?_ | refine bw_dupi rfl ?_
  refine bw_push rfl ?_
  refine bw_push rfl ?_
  refine kw_572 (m := 79) rfl (by decide) (by decide) (by decide) (by decide) (by decide) rfl ?_
  first | refine bw_dup rfl ?_ | refine bw_dupi rfl ?_
  refine bw_push rfl ?_
  refine bw_push rfl ?_
  refine kw_572 (m := 80) rfl (by decide) (by decide) (by decide) (by decide) (by decide) rfl ?_
  first | refine bw_dup rfl ?_ | refine bw_dupi rfl ?_
  refine bw_push rfl ?_
  refine bw_push rfl ?_
  refine kw_572 (m := 81) rfl (by decide) (by decide) (by decide) (by decide) (by decide) rfl ?_
  first | refine bw_dup rfl ?_ | refine bw_dupi rfl ?_
  refine bw_push rfl ?_
  refine bw_push rfl ?_
  refine kw_572 (m := 82) rfl (by decide) (by decide) (by decide) (by decide) (by decide) rfl ?_
  first | refine bw_dup rfl ?_ | refine bw_dupi rfl ?_
  refine bw_push rfl ?_
  refine bw_push rfl ?_
  refine kw_572 (m := 83) rfl (by decide) (by decide) (by decide) (by decide) (by decide) rfl ?_
  first | refine bw_dup rfl ?_ | refine bw_dupi rfl ?_
  refine bw_push rfl ?_
  refine bw_push rfl ?_
  refine kw_572 (m := 84) rfl (by decide) (by decide) (by decide) (by decide) (by decide) rfl ?_
  first | refine bw_dup rfl ?_ | refine bw_dupi rfl ?_
  refine bw_push rfl ?_
  refine bw_push rfl ?_
  refine kw_572 (m := 85) rfl (by decide) (by decide) (by decide) (by decide) (by decide) rfl ?_
  first | refine bw_dup rfl ?_ | refine bw_dupi rfl ?_
  refine bw_push rfl ?_
  refine bw_push rfl ?_
  refine kw_572 (m := 86) rfl (by decide) (by decide) (by decide) (by decide) (by decide) rfl ?_
  first | refine bw_dup rfl ?_ | refine bw_dupi rfl ?_
  refine bw_push rfl ?_
  refine bw_push rfl ?_
  refine kw_572 (m := 87) rfl (by decide) (by decide) (by decide) (by decide) (by decide) rfl ?_
  first | refine bw_dup rfl ?_ | refine bw_dupi rfl ?_
  refine bw_push rfl ?_
  refine bw_push rfl ?_
  refine kw_572 (m := 88) rfl (by decide) (by decide) (by decide) (by decide) (by decide) rfl ?_
  first | refine bw_dup rfl ?_ | refine bw_dupi rfl ?_
  refine bw_push rfl ?_
  refine bw_push rfl ?_
  refine kw_572 (m := 89) rfl (by decide) (by decide) (by decide) (by decide) (by decide) rfl ?_
  first | refine bw_dup rfl ?_ | refine bw_dupi rfl ?_
  refine bw_push rfl ?_
  refine bw_push rfl ?_
  refine kw_572 (m := 90) rfl (by decide) (by decide) (by decide) (by decide) (by decide) rfl ?_
  first | refine bw_dup rfl ?_ | refine bw_dupi rfl ?_
  refine bw_push rfl ?_
  refine bw_push rfl ?_
  refine kw_572 (m := 91) rfl (by decide) (by decide) (by decide) (by decide) (by decide) rfl ?_
  first | refine bw_dup rfl ?_ | refine bw_dupi rfl ?_
  refine bw_push rfl ?_
  refine bw_push rfl ?_
  refine kw_572 (m := 92) rfl (by decide) (by decide) (by decide) (by decide) (by decide) rfl ?_
  first | refine bw_dup rfl ?_ | refine bw_dupi rfl ?_
  refine bw_push rfl ?_
  refine bw_push rfl ?_
  refine kw_572 (m := 93) rfl (by decide) (by decide) (by decide) (by decide) (by decide) rfl ?_
  first | refine bw_dup rfl ?_ | refine bw_dupi rfl ?_
  refine bw_push rfl ?_
  refine bw_push rfl ?_
  refine kw_572 (m := 94) rfl (by decide) (by decide) (by decide) (by decide) (by decide) rfl ?_
  refine kw_putR rfl rfl (by decide) ?_
  refine bw_aload rfl rfl ?_
  refine bw_push rfl ?_
  refine kw_newarr rfl rfl (by decide) (by decide) (Nat.le_of_ble_eq_true rfl) (Nat.le_of_ble_eq_true rfl) (by decide) (by decide) ((FF_o (by decide) (by decide)).trans (rr_no (by decide) (fun _ => rfl))) (IQ_z (by decide) (by decide) (by decide)) ?_
  show abW _ _ _ _ _ _ (6, 18576) (aF A 567 574) (wF (IQ (oF 94)) (FF (rr r0 20) (rr r0 201)) M 567 574 _ _) _
  refine kw_putR rfl rfl (by decide) ?_
  refine bw_aload rfl rfl ?_
  refine bw_push rfl ?_
  refine kw_newarr rfl rfl (by decide) (by decide) (Nat.le_of_ble_eq_true rfl) (Nat.le_of_ble_eq_true rfl) (by decide) (by decide) ((FF_o (by decide) (by decide)).trans (rr_no (by decide) (fun _ => rfl))) (IQ_z (by decide) (by decide) (by decide)) ?_
  show abW _ _ _ _ _ _ (7, 19876) (aF A 567 575) (wF (IQ (oF 94)) (FF (rr r0 20) (rr r0 201)) M 567 575 _ _) _
  refine kw_putR rfl rfl (by decide) ?_
  refine bw_aload rfl rfl ?_
  refine bw_push rfl ?_
  refine kw_put0 rfl rfl (by decide) rfl ?_
  refine bw_aload rfl rfl ?_
  refine bw_push rfl ?_
  refine kw_newarr rfl rfl (by decide) (by decide) (Nat.le_of_ble_eq_true rfl) (Nat.le_of_ble_eq_true rfl) (by decide) (by decide) ((FF_o (by decide) (by decide)).trans (rr_no (by decide) (fun _ => rfl))) (IQ_z (by decide) (by decide) (by decide)) ?_
  show abW _ _ _ _ _ _ (8, 19882) (aF A 567 576) (wF (IQ (oF 94)) (FF (rr r0 20) (rr r0 201)) M 567 576 _ _) _
  refine kw_putR rfl rfl (by decide) ?_
  refine bw_aload rfl rfl ?_
  refine bw_push rfl ?_
  refine kw_newarr rfl rfl (by decide) (by decide) (Nat.le_of_ble_eq_true rfl) (Nat.le_of_ble_eq_true rfl) (by decide) (by decide) ((FF_o (by decide) (by decide)).trans (rr_no (by decide) (fun _ => rfl))) (IQ_z (by decide) (by decide) (by decide)) ?_
  show abW _ _ _ _ _ _ (9, 19888) (aF A 567 577) (wF (IQ (oF 94)) (FF (rr r0 20) (rr r0 201)) M 567 577 _ _) _
  refine kw_putR rfl rfl (by decide) ?_
  refine bw_aload rfl rfl ?_
  refine bw_push rfl ?_
  refine kw_put0 rfl rfl (by decide) rfl ?_
  refine bw_aload rfl rfl ?_
  refine bw_push rfl ?_
  refine kw_put0 rfl rfl (by decide) rfl ?_
  refine bw_aload rfl rfl ?_
  refine bw_push rfl ?_
  refine kw_putI rfl rfl (by decide) ?_
  refine bw_aload rfl rfl ?_
  refine bw_push rfl ?_
  refine kw_put0 rfl rfl (by decide) rfl ?_
  refine bw_aload rfl rfl ?_
  refine bw_push rfl ?_
  refine kw_newarr rfl rfl (by decide) (by decide) (Nat.le_of_ble_eq_true rfl) (Nat.le_of_ble_eq_true rfl) (by decide) (by decide) ((FF_o (by decide) (by decide)).trans (rr_no (by decide) (fun _ => rfl))) (IQ_z (by decide) (by decide) (by decide)) ?_
  show abW _ _ _ _ _ _ (10, 19984) (aF A 567 578) (wF (IQ (oF 94)) (FF (rr r0 20) (rr r0 201)) M 567 578 _ _) _
  refine kw_putR rfl rfl (by decide) ?_
  refine bw_aload rfl rfl ?_
  refine bw_push rfl ?_
  refine kw_newarr rfl rfl (by decide) (by decide) (Nat.le_of_ble_eq_true rfl) (Nat.le_of_ble_eq_true rfl) (by decide) (by decide) ((FF_o (by decide) (by decide)).trans (rr_no (by decide) (fun _ => rfl))) (IQ_z (by decide) (by decide) (by decide)) ?_
  show abW _ _ _ _ _ _ (11, 20080) (aF A 567 579) (wF (IQ (oF 94)) (FF (rr r0 20) (rr r0 201)) M 567 579 _ _) _
  refine kw_putR rfl rfl (by decide) ?_
  refine bw_aload rfl rfl ?_
  refine bw_push rfl ?_
  refine kw_put0 rfl rfl (by decide) rfl ?_
  refine bw_aload rfl rfl ?_
  refine bw_push rfl ?_
  refine kw_newarr rfl rfl (by decide) (by decide) (Nat.le_of_ble_eq_true rfl) (Nat.le_of_ble_eq_true rfl) (by decide) (by decide) ((FF_o (by decide) (by decide)).trans (rr_no (by decide) (fun _ => rfl))) (IQ_z (by decide) (by decide) (by decide)) ?_
  show abW _ _ _ _ _ _ (12, 29489) (aF A 567 580) (wF (IQ (oF 94)) (FF (rr r0 20) (rr r0 201)) M 567 580 _ _) _
  refine kw_putR rfl rfl (by decide) ?_
  refine bw_aload rfl rfl ?_
  refine bw_push rfl ?_
  refine kw_newarr rfl rfl (by decide) (by decide) (Nat.le_of_ble_eq_true rfl) (Nat.le_of_ble_eq_true rfl) (by decide) (by decide) ((FF_o (by decide) (by decide)).trans (rr_no (by decide) (fun _ => rfl))) (IQ_z (by decide) (by decide) (by decide)) ?_
  show abW _ _ _ _ _ _ (13, 38705) (aF A 567 581) (wF (IQ (oF 94)) (FF (rr r0 20) (rr r0 201)) M 567 581 _ _) _
  refine kw_putR rfl rfl (by decide) ?_
  refine bw_aload rfl rfl ?_
  refine bw_push rfl ?_
  refine kw_newarr rfl rfl (by decide) (by decide) (Nat.le_of_ble_eq_true rfl) (Nat.le_of_ble_eq_true rfl) (by decide) (by decide) ((FF_o (by decide) (by decide)).trans (rr_no (by decide) (fun _ => rfl))) (IQ_z (by decide) (by decide) (by decide)) ?_
  show abW _ _ _ _ _ _ (14, 47921) (aF A 567 582) (wF (IQ (oF 94)) (FF (rr r0 20) (rr r0 201)) M 567 582 _ _) _
  refine kw_putR rfl rfl (by decide) ?_
  refine bw_aload rfl rfl ?_
  refine bw_push rfl ?_
  refine kw_put0 rfl rfl (by decide) rfl ?_
  refine bw_aload rfl rfl ?_
  refine bw_push rfl ?_
  refine kw_put0 rfl rfl (by decide) rfl ?_
  refine bw_aload rfl rfl ?_
  refine bw_push rfl ?_
  refine kw_put0 rfl rfl (by decide) rfl ?_
  refine bw_aload rfl rfl ?_
  refine bw_push rfl ?_
  refine kw_put0 rfl rfl (by decide) rfl ?_
  refine bw_return (st := []) rfl (Nat.le_of_ble_eq_true rfl) (Nat.le_of_ble_eq_true rfl) rfl ⟨rfl, rfl, ?_⟩
  exact wF_fin ((rr_ext (o := 567) (by decide) (fun k => match k with
      | 0 => rfl
      | 1 => rfl
      | 2 => rfl
      | 3 => rfl
      | 4 => rfl
      | 5 => rfl
      | 6 => rfl
      | 7 => rfl
      | 8 => rfl
      | 9 => rfl
      | 10 => rfl
      | 11 => rfl
      | 12 => rfl
      | 13 => rfl
      | 14 => rfl
      | 15 => rfl
      | 16 => rfl
      | 17 => rfl
      | 18 => rfl
      | 19 => rfl
      | 20 => rfl
      | 21 => rfl
      | 22 => rfl
      | 23 => rfl
      | 24 => rfl
      | 25 => rfl
      | 26 => rfl
      | 27 => rfl
      | 28 => rfl
      | k + 29 => by rw [up_ne (by omega), up_ne (by omega), up_ne (by omega), up_ne (by omega), up_ne (by omega), up_ne (by omega), up_ne (by omega), up_ne (by omega), up_ne (by omega), up_ne (by omega), up_ne (by omega), up_ne (by omega), up_ne (by omega), up_ne (by omega)]; rfl) (fun j hj => by rw [up_ne (by omega), up_ne (by omega), up_ne (by omega), up_ne (by omega), up_ne (by omega), up_ne (by omega), up_ne (by omega), up_ne (by omega), up_ne (by omega), up_ne (by omega), up_ne (by omega), up_ne (by omega), up_ne (by omega), up_ne (by omega)])).symm.trans (FF_o (by decide) (by decide)).symm) (by
    funext j
    show up (up (up (fun _ => 0) 7 (-1)) 12 (-1)) 21 (-1) j = (if 567 = 3 ∧ j = 6 then -1 else if 567 = 567 ∧ (j = 7 ∨ j = 12 ∨ j = 21) then -1 else 0)
    rw [if_neg (fun k => absurd k.1 (by decide))]
    by_cases z : j = 21
    · rw [up_eq z, if_pos ⟨rfl, Or.inr (Or.inr z)⟩]
    · rw [up_ne z]
      by_cases y : j = 12
      · rw [up_eq y, if_pos ⟨rfl, Or.inr (Or.inl y)⟩]
      · rw [up_ne y]
        by_cases x : j = 7
        · rw [up_eq x, if_pos ⟨rfl, Or.inl x⟩]
        · rw [up_ne x, if_neg (fun k => by omega)])
