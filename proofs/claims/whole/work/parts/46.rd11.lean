theorem LR.f5 {q : Int → Prop} {M N : abMem} {s : LnS} (H : LR M s) (u : s5 pNo q M N) (h1 : ¬ q 16) (h2 : ¬ q 19) (h3 : ¬ q 20) : LR N s := ⟨LQ.f5 H.1 u h1 h2, by rw [u.sl 20 h3]; exact H.2⟩
theorem LR.q9 {M N : abMem} {s : LnS} (H : LR M s) (u : s5 pNo q9 M N) : LR N s := LR.f5 H u (fun k => by have : (16 : Int) = 9 := k; omega) (fun k => by have : (19 : Int) = 9 := k; omega) (fun k => by have : (20 : Int) = 9 := k; omega)
/-- where the line's reading ends -/
def lnE (a : Int → Int) (n on : Int) (s : LnS) (N : abMem) : Prop := (∃ e : Int × Int, isLr a n on s (.inl e) ∧ rs N a n (.inl e)) ∨ (∃ t : LnS, isLr a n on s (.inr t) ∧ rs N a n (.inr (lsP t)) ∧ HR N (lsH t) ∧ LV a n t ∧ 1 ≤ (lsH t).1)
theorem rs_p9 {M N : abMem} {a : Int → Int} {n p : Int} (hP : PS M a n) (h : rs M a n (.inr p)) (u : s5 pNo q9 M N) (e : gI N 567 9 = p) : rs N a n (.inr p) := ⟨(s59_11 u).1.trans h.1, by rw [e, ← h.2]; exact sk_sk hP.ok hP.he⟩
theorem qRr {j : Int} (h : j = 16 ∨ j = 19 ∨ j = 20) : qR j := by rcases h with h | h | h <;> (show _ ∨ _) <;> simp [h]
theorem ls0_LV {a : Int → Int} {n p : Int} (hp : 0 ≤ p ∧ p ≤ n ∧ sk a n p = p) : LV a n (ls0 p) := ⟨hp, ⟨Int.le_refl _, fun j h1 h2 => by have h2 : j < 0 := h2; omega⟩, ⟨Int.le_refl _, by show (0 : Int) ≤ 5; decide⟩, fun j h1 h2 => by have h2 : j < 0 := h2; omega, ⟨Int.le_refl _, by show (0 : Int) ≤ 40; decide⟩, Or.inl rfl⟩
set_option maxRecDepth 20000 in
set_option maxHeartbeats 4000000 in
theorem m_readsLine {d L : Nat} {M : abMem} {r : abRf} (hR : RF r M) {a : Int → Int} {n p : Int} (hP : PS M a n) (hz : rs M a n (.inr p)) {on : Int} (ho : 1 ≤ on ∧ on ≤ 96) (hd : 8 ≤ d) : abW d (0, 0) 174 0 (abEnt (abL 174) [vr (some 567), vi on]) [] (0, 0) (A0 L) M (qV (A0 L) (fun N => s5 pL qR M N ∧ PS N a n ∧ lnE a n on (ls0 p) N)) := by
  have p1 := hP.sz
  have p2 := hP.ok.1
  have p3 := hP.he
  have hRM := hR
  have hp0 : 0 ≤ p ∧ p ≤ n ∧ sk a n p = p := by
    have s := skM_in hP
    rw [show skM M a n = p from hz.2] at s
    exact ⟨s.1, s.2.1, by rw [← hz.2]; exact sk_sk hP.ok hP.he⟩
  have L17 : ∀ (kf : Nat) (N : abMem) (s : LnS) (m : Int), (s5 pL qR M N) → (PS N a n ∧ rs N a n (.inr (lsP s)) ∧ LR N s) → (LV a n s ∧ lsO s) → ((m = 1 ∧ goP a n s) ∨ (m = 0 ∧ ¬ prP a n (lsP s) ∧ lsK s = 0 ∧ lsB s = 1)) → (∀ x, isLr a n on s x → isLr a n on (ls0 p) x) → ((n - lsP s).toNat) < kf → abW d (0, 0) 174 17 [some (vr (some 567)), some (vi on), some (vi m), none, none] [] (0, 0) (A0 L) (N) (qV (A0 L) (fun N => s5 pL qR M N ∧ PS N a n ∧ lnE a n on (ls0 p) N)) := by
    intro kf
    induction kf with
    | zero => intro N  s  m  g1 g2 g3 g4 g5 hm9; exact absurd hm9 (Nat.not_lt_zero _)
    | succ kf ih17 =>
      intro N  s  m  g1 g2 g3 g4 g5 hm17
      have ih := ih17
      have hR := g1.RF hR
      have z17 := g2.2.1.1
      have q17 := g3.1.1
      have L34 : ∀ (kf : Nat) (K : abMem) (t : LnS) (w : Int), (s5 pL qR M K) → (PS K a n) → ((∃ e : Int × Int, isLr a n on (ls0 p) (.inl e) ∧ rs K a n (.inl e)) ∨ (rs K a n (.inr (lsP t)) ∧ LR K t ∧ (LV a n t ∧ lsO t) ∧ w = lsB t ∧ (∀ x, isLr a n on t x → isLr a n on (ls0 p) x) ∧ lsP s < lsP t)) → ((n - lsP t).toNat) < kf → abW d (0, 0) 174 34 [some (vr (some 567)), some (vi on), some (vi m), some (vi w), none] [] (0, 0) (A0 L) (K) (qV (A0 L) (fun N => s5 pL qR M N ∧ PS N a n ∧ lnE a n on (ls0 p) N)) := by
        intro kf
        induction kf with
        | zero => intro K  t  w  k1 k2 k3 hm9; exact absurd hm9 (Nat.not_lt_zero _)
        | succ kf ih34 =>
          intro K  t  w  k1 k2 k3 hm34
          have ih := ih34
          have hR := k1.RF hRM
          rcases k3 with ⟨e, k3, k4⟩ | ⟨k3, k4, k5, k6, k7, k8⟩
          · have kw : gI K 567 11 ≠ 0 := fun h => k4.2.2 (k4.1.symm.trans h)
            refine bw_aload rfl rfl ?_
            refine bw_callVj (e := d - 1) (as := []) rfl (by omega) rfl rfl (Nat.le_of_ble_eq_true rfl) (Nat.le_of_ble_eq_true rfl) rfl (m_goesWell hR) (fun r35 hr35 => ?_)
            refine bw_ifeq rfl (fun c38 => ?_) (fun c38 => ?_)
            · first
              | (exfalso; omega)
              | (refine bw_aload rfl rfl ?_
                 refine bw_callVj (e := d - 1) (as := []) rfl (by omega) rfl rfl (Nat.le_of_ble_eq_true rfl) (Nat.le_of_ble_eq_true rfl) rfl (m_goesWell hR) (fun r124 hr124 => ?_)
                 refine bw_ifne rfl (fun c127 => ?_) (fun c127 => ?_)
                 · first
                   | (exfalso; omega)
                   | (refine bw_iload rfl rfl ?_
                      refine bw_ifeq rfl (fun c132 => ?_) (fun c132 => ?_)
                      · first
                        | (exfalso; omega)
                        | (refine bw_push rfl ?_
                           refine bw_goto rfl ?_
                           refine bw_istore (ls2 := [_, _, _, _, _]) rfl rfl (Nat.le_of_ble_eq_true rfl) rfl ?_
                           refine bw_goto rfl ?_
                           refine bw_forget (ls2 := [some (vr (some 567)), some (vi on), some (vi _), none, none]) ⟨rfl, rfl, rfl, trivial⟩ ?_
                           first
                           | exact ih17 K t 1 k1 ⟨k2, k3, k4⟩ k5 (Or.inl ⟨rfl, Or.inr ⟨by omega, by omega⟩⟩) k7 (by omega)
                           | exact ih17 M53 t 1 (k1.trans u53.toP.toL) ⟨hP53, rs_p9 k2 k3 u53 v53, k4.q9 u53⟩ k5 (Or.inl ⟨rfl, Or.inr ⟨by omega, by omega⟩⟩) k7 (by omega)
                           | exact ih17 M143 t 1 (k1.trans u143.toP.toL) ⟨hP143, rs_p9 k2 k3 u143 v143, k4.q9 u143⟩ k5 (Or.inl ⟨rfl, Or.inl (w143.elim (fun q => q.1) (fun q => absurd q.2 (by omega)))⟩) k7 (by omega)
                           | exact ih17 M143 t 0 (k1.trans u143.toP.toL) ⟨hP143, rs_p9 k2 k3 u143 v143, k4.q9 u143⟩ k5 (Or.inr ⟨rfl, w143.elim (fun q => absurd q.2 (by omega)) (fun q => q.1), by omega, by omega⟩) k7 (by omega))
                      · first
                        | (exfalso; omega)
                        | (refine bw_aload rfl rfl ?_
                           refine bw_getI rfl rfl ?_
                           refine bw_ifgt rfl (fun c139 => ?_) (fun c139 => ?_)
                           · first
                             | (exfalso; omega)
                             | (refine bw_push rfl ?_
                                refine bw_goto rfl ?_
                                refine bw_istore (ls2 := [_, _, _, _, _]) rfl rfl (Nat.le_of_ble_eq_true rfl) rfl ?_
                                refine bw_goto rfl ?_
                                refine bw_forget (ls2 := [some (vr (some 567)), some (vi on), some (vi _), none, none]) ⟨rfl, rfl, rfl, trivial⟩ ?_
                                first
                                | exact ih17 K t 1 k1 ⟨k2, k3, k4⟩ k5 (Or.inl ⟨rfl, Or.inr ⟨by omega, by omega⟩⟩) k7 (by omega)
                                | exact ih17 M53 t 1 (k1.trans u53.toP.toL) ⟨hP53, rs_p9 k2 k3 u53 v53, k4.q9 u53⟩ k5 (Or.inl ⟨rfl, Or.inr ⟨by omega, by omega⟩⟩) k7 (by omega)
                                | exact ih17 M143 t 1 (k1.trans u143.toP.toL) ⟨hP143, rs_p9 k2 k3 u143 v143, k4.q9 u143⟩ k5 (Or.inl ⟨rfl, Or.inl (w143.elim (fun q => q.1) (fun q => absurd q.2 (by omega)))⟩) k7 (by omega)
                                | exact ih17 M143 t 0 (k1.trans u143.toP.toL) ⟨hP143, rs_p9 k2 k3 u143 v143, k4.q9 u143⟩ k5 (Or.inr ⟨rfl, w143.elim (fun q => absurd q.2 (by omega)) (fun q => q.1), by omega, by omega⟩) k7 (by omega))
                           · first
                             | (exfalso; omega)
                             | (refine bw_aload rfl rfl ?_
                                refine bw_callVi (e := d - 1) (as := []) rfl (by omega) rfl rfl (Nat.le_of_ble_eq_true rfl) (Nat.le_of_ble_eq_true rfl) rfl (m_isPart hR k2 (by omega)) (fun r143 M143 hM143 => ?_)
                                obtain ⟨u143, v143, w143⟩ := hM143
                                rw [show skM K a n = lsP t from k3.2] at v143 w143
                                have hP143 := k2.to9 u143 (by omega)
                                refine bw_ifeq rfl (fun c146 => ?_) (fun c146 => ?_)
                                · skip
                                  refine bw_push rfl ?_
                                  refine bw_istore (ls2 := [_, _, _, _, _]) rfl rfl (Nat.le_of_ble_eq_true rfl) rfl ?_
                                  refine bw_goto rfl ?_
                                  refine bw_forget (ls2 := [some (vr (some 567)), some (vi on), some (vi _), none, none]) ⟨rfl, rfl, rfl, trivial⟩ ?_
                                  first
                                  | exact ih17 K t 1 k1 ⟨k2, k3, k4⟩ k5 (Or.inl ⟨rfl, Or.inr ⟨by omega, by omega⟩⟩) k7 (by omega)
                                  | exact ih17 M53 t 1 (k1.trans u53.toP.toL) ⟨hP53, rs_p9 k2 k3 u53 v53, k4.q9 u53⟩ k5 (Or.inl ⟨rfl, Or.inr ⟨by omega, by omega⟩⟩) k7 (by omega)
                                  | exact ih17 M143 t 1 (k1.trans u143.toP.toL) ⟨hP143, rs_p9 k2 k3 u143 v143, k4.q9 u143⟩ k5 (Or.inl ⟨rfl, Or.inl (w143.elim (fun q => q.1) (fun q => absurd q.2 (by omega)))⟩) k7 (by omega)
                                  | exact ih17 M143 t 0 (k1.trans u143.toP.toL) ⟨hP143, rs_p9 k2 k3 u143 v143, k4.q9 u143⟩ k5 (Or.inr ⟨rfl, w143.elim (fun q => absurd q.2 (by omega)) (fun q => q.1), by omega, by omega⟩) k7 (by omega)
                                · skip
                                  refine bw_push rfl ?_
                                  refine bw_goto rfl ?_
                                  refine bw_istore (ls2 := [_, _, _, _, _]) rfl rfl (Nat.le_of_ble_eq_true rfl) rfl ?_
                                  refine bw_goto rfl ?_
                                  refine bw_forget (ls2 := [some (vr (some 567)), some (vi on), some (vi _), none, none]) ⟨rfl, rfl, rfl, trivial⟩ ?_
                                  first
                                  | exact ih17 K t 1 k1 ⟨k2, k3, k4⟩ k5 (Or.inl ⟨rfl, Or.inr ⟨by omega, by omega⟩⟩) k7 (by omega)
                                  | exact ih17 M53 t 1 (k1.trans u53.toP.toL) ⟨hP53, rs_p9 k2 k3 u53 v53, k4.q9 u53⟩ k5 (Or.inl ⟨rfl, Or.inr ⟨by omega, by omega⟩⟩) k7 (by omega)
                                  | exact ih17 M143 t 1 (k1.trans u143.toP.toL) ⟨hP143, rs_p9 k2 k3 u143 v143, k4.q9 u143⟩ k5 (Or.inl ⟨rfl, Or.inl (w143.elim (fun q => q.1) (fun q => absurd q.2 (by omega)))⟩) k7 (by omega)
                                  | exact ih17 M143 t 0 (k1.trans u143.toP.toL) ⟨hP143, rs_p9 k2 k3 u143 v143, k4.q9 u143⟩ k5 (Or.inr ⟨rfl, w143.elim (fun q => absurd q.2 (by omega)) (fun q => q.1), by omega, by omega⟩) k7 (by omega))))
                 · first
                   | (exfalso; omega)
                   | (refine bw_retv rfl rfl ?_
                      first
                      | exact ⟨rfl, rfl, k1, k2, Or.inl ⟨e, k3, k4⟩⟩
                      | (exfalso; omega)))
            · first
              | (exfalso; omega)
              | (refine bw_iload rfl rfl ?_
                 refine bw_ifeq rfl (fun c42 => ?_) (fun c42 => ?_)
                 · skip
                   refine bw_aload rfl rfl ?_
                   refine bw_callVj (e := d - 1) (as := []) rfl (by omega) rfl rfl (Nat.le_of_ble_eq_true rfl) (Nat.le_of_ble_eq_true rfl) rfl (m_goesWell hR) (fun r124 hr124 => ?_)
                   refine bw_ifne rfl (fun c127 => ?_) (fun c127 => ?_)
                   · first
                     | (exfalso; omega)
                     | (refine bw_iload rfl rfl ?_
                        refine bw_ifeq rfl (fun c132 => ?_) (fun c132 => ?_)
                        · first
                          | (exfalso; omega)
                          | (refine bw_push rfl ?_
                             refine bw_goto rfl ?_
                             refine bw_istore (ls2 := [_, _, _, _, _]) rfl rfl (Nat.le_of_ble_eq_true rfl) rfl ?_
                             refine bw_goto rfl ?_
                             refine bw_forget (ls2 := [some (vr (some 567)), some (vi on), some (vi _), none, none]) ⟨rfl, rfl, rfl, trivial⟩ ?_
                             first
                             | exact ih17 K t 1 k1 ⟨k2, k3, k4⟩ k5 (Or.inl ⟨rfl, Or.inr ⟨by omega, by omega⟩⟩) k7 (by omega)
                             | exact ih17 M53 t 1 (k1.trans u53.toP.toL) ⟨hP53, rs_p9 k2 k3 u53 v53, k4.q9 u53⟩ k5 (Or.inl ⟨rfl, Or.inr ⟨by omega, by omega⟩⟩) k7 (by omega)
                             | exact ih17 M143 t 1 (k1.trans u143.toP.toL) ⟨hP143, rs_p9 k2 k3 u143 v143, k4.q9 u143⟩ k5 (Or.inl ⟨rfl, Or.inl (w143.elim (fun q => q.1) (fun q => absurd q.2 (by omega)))⟩) k7 (by omega)
                             | exact ih17 M143 t 0 (k1.trans u143.toP.toL) ⟨hP143, rs_p9 k2 k3 u143 v143, k4.q9 u143⟩ k5 (Or.inr ⟨rfl, w143.elim (fun q => absurd q.2 (by omega)) (fun q => q.1), by omega, by omega⟩) k7 (by omega))
                        · first
                          | (exfalso; omega)
                          | (refine bw_aload rfl rfl ?_
                             refine bw_getI rfl rfl ?_
                             refine bw_ifgt rfl (fun c139 => ?_) (fun c139 => ?_)
                             · first
                               | (exfalso; omega)
                               | (refine bw_push rfl ?_
                                  refine bw_goto rfl ?_
                                  refine bw_istore (ls2 := [_, _, _, _, _]) rfl rfl (Nat.le_of_ble_eq_true rfl) rfl ?_
                                  refine bw_goto rfl ?_
                                  refine bw_forget (ls2 := [some (vr (some 567)), some (vi on), some (vi _), none, none]) ⟨rfl, rfl, rfl, trivial⟩ ?_
                                  first
                                  | exact ih17 K t 1 k1 ⟨k2, k3, k4⟩ k5 (Or.inl ⟨rfl, Or.inr ⟨by omega, by omega⟩⟩) k7 (by omega)
                                  | exact ih17 M53 t 1 (k1.trans u53.toP.toL) ⟨hP53, rs_p9 k2 k3 u53 v53, k4.q9 u53⟩ k5 (Or.inl ⟨rfl, Or.inr ⟨by omega, by omega⟩⟩) k7 (by omega)
                                  | exact ih17 M143 t 1 (k1.trans u143.toP.toL) ⟨hP143, rs_p9 k2 k3 u143 v143, k4.q9 u143⟩ k5 (Or.inl ⟨rfl, Or.inl (w143.elim (fun q => q.1) (fun q => absurd q.2 (by omega)))⟩) k7 (by omega)
                                  | exact ih17 M143 t 0 (k1.trans u143.toP.toL) ⟨hP143, rs_p9 k2 k3 u143 v143, k4.q9 u143⟩ k5 (Or.inr ⟨rfl, w143.elim (fun q => absurd q.2 (by omega)) (fun q => q.1), by omega, by omega⟩) k7 (by omega))
                             · first
                               | (exfalso; omega)
                               | (refine bw_aload rfl rfl ?_
                                  refine bw_callVi (e := d - 1) (as := []) rfl (by omega) rfl rfl (Nat.le_of_ble_eq_true rfl) (Nat.le_of_ble_eq_true rfl) rfl (m_isPart hR k2 (by omega)) (fun r143 M143 hM143 => ?_)
                                  obtain ⟨u143, v143, w143⟩ := hM143
                                  rw [show skM K a n = lsP t from k3.2] at v143 w143
                                  have hP143 := k2.to9 u143 (by omega)
                                  refine bw_ifeq rfl (fun c146 => ?_) (fun c146 => ?_)
                                  · skip
                                    refine bw_push rfl ?_
                                    refine bw_istore (ls2 := [_, _, _, _, _]) rfl rfl (Nat.le_of_ble_eq_true rfl) rfl ?_
                                    refine bw_goto rfl ?_
                                    refine bw_forget (ls2 := [some (vr (some 567)), some (vi on), some (vi _), none, none]) ⟨rfl, rfl, rfl, trivial⟩ ?_
                                    first
                                    | exact ih17 K t 1 k1 ⟨k2, k3, k4⟩ k5 (Or.inl ⟨rfl, Or.inr ⟨by omega, by omega⟩⟩) k7 (by omega)
                                    | exact ih17 M53 t 1 (k1.trans u53.toP.toL) ⟨hP53, rs_p9 k2 k3 u53 v53, k4.q9 u53⟩ k5 (Or.inl ⟨rfl, Or.inr ⟨by omega, by omega⟩⟩) k7 (by omega)
                                    | exact ih17 M143 t 1 (k1.trans u143.toP.toL) ⟨hP143, rs_p9 k2 k3 u143 v143, k4.q9 u143⟩ k5 (Or.inl ⟨rfl, Or.inl (w143.elim (fun q => q.1) (fun q => absurd q.2 (by omega)))⟩) k7 (by omega)
                                    | exact ih17 M143 t 0 (k1.trans u143.toP.toL) ⟨hP143, rs_p9 k2 k3 u143 v143, k4.q9 u143⟩ k5 (Or.inr ⟨rfl, w143.elim (fun q => absurd q.2 (by omega)) (fun q => q.1), by omega, by omega⟩) k7 (by omega)
                                  · skip
                                    refine bw_push rfl ?_
                                    refine bw_goto rfl ?_
                                    refine bw_istore (ls2 := [_, _, _, _, _]) rfl rfl (Nat.le_of_ble_eq_true rfl) rfl ?_
                                    refine bw_goto rfl ?_
                                    refine bw_forget (ls2 := [some (vr (some 567)), some (vi on), some (vi _), none, none]) ⟨rfl, rfl, rfl, trivial⟩ ?_
                                    first
                                    | exact ih17 K t 1 k1 ⟨k2, k3, k4⟩ k5 (Or.inl ⟨rfl, Or.inr ⟨by omega, by omega⟩⟩) k7 (by omega)
                                    | exact ih17 M53 t 1 (k1.trans u53.toP.toL) ⟨hP53, rs_p9 k2 k3 u53 v53, k4.q9 u53⟩ k5 (Or.inl ⟨rfl, Or.inr ⟨by omega, by omega⟩⟩) k7 (by omega)
                                    | exact ih17 M143 t 1 (k1.trans u143.toP.toL) ⟨hP143, rs_p9 k2 k3 u143 v143, k4.q9 u143⟩ k5 (Or.inl ⟨rfl, Or.inl (w143.elim (fun q => q.1) (fun q => absurd q.2 (by omega)))⟩) k7 (by omega)
                                    | exact ih17 M143 t 0 (k1.trans u143.toP.toL) ⟨hP143, rs_p9 k2 k3 u143 v143, k4.q9 u143⟩ k5 (Or.inr ⟨rfl, w143.elim (fun q => absurd q.2 (by omega)) (fun q => q.1), by omega, by omega⟩) k7 (by omega))))
                   · first
                     | (exfalso; omega)
                     | (refine bw_retv rfl rfl ?_
                        first
                        | exact ⟨rfl, rfl, k1, k2, Or.inl ⟨e, k3, k4⟩⟩
                        | (exfalso; omega))
                 · skip
                   refine bw_aload rfl rfl ?_
                   refine bw_getI rfl rfl ?_
                   refine bw_ifle rfl (fun c49 => ?_) (fun c49 => ?_)
                   · skip
                     refine bw_aload rfl rfl ?_
                     refine bw_callVj (e := d - 1) (as := []) rfl (by omega) rfl rfl (Nat.le_of_ble_eq_true rfl) (Nat.le_of_ble_eq_true rfl) rfl (m_goesWell hR) (fun r124 hr124 => ?_)
                     refine bw_ifne rfl (fun c127 => ?_) (fun c127 => ?_)
                     · first
                       | (exfalso; omega)
                       | (refine bw_iload rfl rfl ?_
                          refine bw_ifeq rfl (fun c132 => ?_) (fun c132 => ?_)
                          · first
                            | (exfalso; omega)
                            | (refine bw_push rfl ?_
                               refine bw_goto rfl ?_
                               refine bw_istore (ls2 := [_, _, _, _, _]) rfl rfl (Nat.le_of_ble_eq_true rfl) rfl ?_
                               refine bw_goto rfl ?_
                               refine bw_forget (ls2 := [some (vr (some 567)), some (vi on), some (vi _), none, none]) ⟨rfl, rfl, rfl, trivial⟩ ?_
                               first
                               | exact ih17 K t 1 k1 ⟨k2, k3, k4⟩ k5 (Or.inl ⟨rfl, Or.inr ⟨by omega, by omega⟩⟩) k7 (by omega)
                               | exact ih17 M53 t 1 (k1.trans u53.toP.toL) ⟨hP53, rs_p9 k2 k3 u53 v53, k4.q9 u53⟩ k5 (Or.inl ⟨rfl, Or.inr ⟨by omega, by omega⟩⟩) k7 (by omega)
                               | exact ih17 M143 t 1 (k1.trans u143.toP.toL) ⟨hP143, rs_p9 k2 k3 u143 v143, k4.q9 u143⟩ k5 (Or.inl ⟨rfl, Or.inl (w143.elim (fun q => q.1) (fun q => absurd q.2 (by omega)))⟩) k7 (by omega)
                               | exact ih17 M143 t 0 (k1.trans u143.toP.toL) ⟨hP143, rs_p9 k2 k3 u143 v143, k4.q9 u143⟩ k5 (Or.inr ⟨rfl, w143.elim (fun q => absurd q.2 (by omega)) (fun q => q.1), by omega, by omega⟩) k7 (by omega))
                          · first
                            | (exfalso; omega)
                            | (refine bw_aload rfl rfl ?_
                               refine bw_getI rfl rfl ?_
                               refine bw_ifgt rfl (fun c139 => ?_) (fun c139 => ?_)
                               · first
                                 | (exfalso; omega)
                                 | (refine bw_push rfl ?_
                                    refine bw_goto rfl ?_
                                    refine bw_istore (ls2 := [_, _, _, _, _]) rfl rfl (Nat.le_of_ble_eq_true rfl) rfl ?_
                                    refine bw_goto rfl ?_
                                    refine bw_forget (ls2 := [some (vr (some 567)), some (vi on), some (vi _), none, none]) ⟨rfl, rfl, rfl, trivial⟩ ?_
                                    first
                                    | exact ih17 K t 1 k1 ⟨k2, k3, k4⟩ k5 (Or.inl ⟨rfl, Or.inr ⟨by omega, by omega⟩⟩) k7 (by omega)
                                    | exact ih17 M53 t 1 (k1.trans u53.toP.toL) ⟨hP53, rs_p9 k2 k3 u53 v53, k4.q9 u53⟩ k5 (Or.inl ⟨rfl, Or.inr ⟨by omega, by omega⟩⟩) k7 (by omega)
                                    | exact ih17 M143 t 1 (k1.trans u143.toP.toL) ⟨hP143, rs_p9 k2 k3 u143 v143, k4.q9 u143⟩ k5 (Or.inl ⟨rfl, Or.inl (w143.elim (fun q => q.1) (fun q => absurd q.2 (by omega)))⟩) k7 (by omega)
                                    | exact ih17 M143 t 0 (k1.trans u143.toP.toL) ⟨hP143, rs_p9 k2 k3 u143 v143, k4.q9 u143⟩ k5 (Or.inr ⟨rfl, w143.elim (fun q => absurd q.2 (by omega)) (fun q => q.1), by omega, by omega⟩) k7 (by omega))
                               · first
                                 | (exfalso; omega)
                                 | (refine bw_aload rfl rfl ?_
                                    refine bw_callVi (e := d - 1) (as := []) rfl (by omega) rfl rfl (Nat.le_of_ble_eq_true rfl) (Nat.le_of_ble_eq_true rfl) rfl (m_isPart hR k2 (by omega)) (fun r143 M143 hM143 => ?_)
                                    obtain ⟨u143, v143, w143⟩ := hM143
                                    rw [show skM K a n = lsP t from k3.2] at v143 w143
                                    have hP143 := k2.to9 u143 (by omega)
                                    refine bw_ifeq rfl (fun c146 => ?_) (fun c146 => ?_)
                                    · skip
                                      refine bw_push rfl ?_
                                      refine bw_istore (ls2 := [_, _, _, _, _]) rfl rfl (Nat.le_of_ble_eq_true rfl) rfl ?_
                                      refine bw_goto rfl ?_
                                      refine bw_forget (ls2 := [some (vr (some 567)), some (vi on), some (vi _), none, none]) ⟨rfl, rfl, rfl, trivial⟩ ?_
                                      first
                                      | exact ih17 K t 1 k1 ⟨k2, k3, k4⟩ k5 (Or.inl ⟨rfl, Or.inr ⟨by omega, by omega⟩⟩) k7 (by omega)
                                      | exact ih17 M53 t 1 (k1.trans u53.toP.toL) ⟨hP53, rs_p9 k2 k3 u53 v53, k4.q9 u53⟩ k5 (Or.inl ⟨rfl, Or.inr ⟨by omega, by omega⟩⟩) k7 (by omega)
                                      | exact ih17 M143 t 1 (k1.trans u143.toP.toL) ⟨hP143, rs_p9 k2 k3 u143 v143, k4.q9 u143⟩ k5 (Or.inl ⟨rfl, Or.inl (w143.elim (fun q => q.1) (fun q => absurd q.2 (by omega)))⟩) k7 (by omega)
                                      | exact ih17 M143 t 0 (k1.trans u143.toP.toL) ⟨hP143, rs_p9 k2 k3 u143 v143, k4.q9 u143⟩ k5 (Or.inr ⟨rfl, w143.elim (fun q => absurd q.2 (by omega)) (fun q => q.1), by omega, by omega⟩) k7 (by omega)
                                    · skip
                                      refine bw_push rfl ?_
                                      refine bw_goto rfl ?_
                                      refine bw_istore (ls2 := [_, _, _, _, _]) rfl rfl (Nat.le_of_ble_eq_true rfl) rfl ?_
                                      refine bw_goto rfl ?_
                                      refine bw_forget (ls2 := [some (vr (some 567)), some (vi on), some (vi _), none, none]) ⟨rfl, rfl, rfl, trivial⟩ ?_
                                      first
                                      | exact ih17 K t 1 k1 ⟨k2, k3, k4⟩ k5 (Or.inl ⟨rfl, Or.inr ⟨by omega, by omega⟩⟩) k7 (by omega)
                                      | exact ih17 M53 t 1 (k1.trans u53.toP.toL) ⟨hP53, rs_p9 k2 k3 u53 v53, k4.q9 u53⟩ k5 (Or.inl ⟨rfl, Or.inr ⟨by omega, by omega⟩⟩) k7 (by omega)
                                      | exact ih17 M143 t 1 (k1.trans u143.toP.toL) ⟨hP143, rs_p9 k2 k3 u143 v143, k4.q9 u143⟩ k5 (Or.inl ⟨rfl, Or.inl (w143.elim (fun q => q.1) (fun q => absurd q.2 (by omega)))⟩) k7 (by omega)
                                      | exact ih17 M143 t 0 (k1.trans u143.toP.toL) ⟨hP143, rs_p9 k2 k3 u143 v143, k4.q9 u143⟩ k5 (Or.inr ⟨rfl, w143.elim (fun q => absurd q.2 (by omega)) (fun q => q.1), by omega, by omega⟩) k7 (by omega))))
                     · first
                       | (exfalso; omega)
                       | (refine bw_retv rfl rfl ?_
                          first
                          | exact ⟨rfl, rfl, k1, k2, Or.inl ⟨e, k3, k4⟩⟩
                          | (exfalso; omega))
                   · skip
                     refine bw_aload rfl rfl ?_
                     refine bw_callVi (e := d - 1) (as := []) rfl (by omega) rfl rfl (Nat.le_of_ble_eq_true rfl) (Nat.le_of_ble_eq_true rfl) rfl (m_sees hR k2 (by omega)) (fun r53 M53 hM53 => ?_)
                     obtain ⟨u53, v53, w53⟩ := hM53
                     have hR := u53.RF hR
                     rw [k3.2] at v53 w53
                     have hP53 := k2.to9 u53 (by omega)
                     have kw := (s59_11 u53).1.trans kw
                     have kb : gI M53 567 19 = lsK t := (u53.sl 19 (fun k => by have : (19 : Int) = 9 := k; omega)).trans kb
                     refine bw_push rfl ?_
                     refine bw_icne rfl (fun c58 => ?_) (fun c58 => ?_)
                     · skip
                       refine bw_aload rfl rfl ?_
                       refine bw_callVj (e := d - 1) (as := []) rfl (by omega) rfl rfl (Nat.le_of_ble_eq_true rfl) (Nat.le_of_ble_eq_true rfl) rfl (m_goesWell hR) (fun r124 hr124 => ?_)
                       refine bw_ifne rfl (fun c127 => ?_) (fun c127 => ?_)
                       · first
                         | (exfalso; omega)
                         | (refine bw_iload rfl rfl ?_
                            refine bw_ifeq rfl (fun c132 => ?_) (fun c132 => ?_)
                            · first
                              | (exfalso; omega)
                              | (refine bw_push rfl ?_
                                 refine bw_goto rfl ?_
                                 refine bw_istore (ls2 := [_, _, _, _, _]) rfl rfl (Nat.le_of_ble_eq_true rfl) rfl ?_
                                 refine bw_goto rfl ?_
                                 refine bw_forget (ls2 := [some (vr (some 567)), some (vi on), some (vi _), none, none]) ⟨rfl, rfl, rfl, trivial⟩ ?_
                                 first
                                 | exact ih17 K t 1 k1 ⟨k2, k3, k4⟩ k5 (Or.inl ⟨rfl, Or.inr ⟨by omega, by omega⟩⟩) k7 (by omega)
                                 | exact ih17 M53 t 1 (k1.trans u53.toP.toL) ⟨hP53, rs_p9 k2 k3 u53 v53, k4.q9 u53⟩ k5 (Or.inl ⟨rfl, Or.inr ⟨by omega, by omega⟩⟩) k7 (by omega)
                                 | exact ih17 M143 t 1 (k1.trans u143.toP.toL) ⟨hP143, rs_p9 k2 k3 u143 v143, k4.q9 u143⟩ k5 (Or.inl ⟨rfl, Or.inl (w143.elim (fun q => q.1) (fun q => absurd q.2 (by omega)))⟩) k7 (by omega)
                                 | exact ih17 M143 t 0 (k1.trans u143.toP.toL) ⟨hP143, rs_p9 k2 k3 u143 v143, k4.q9 u143⟩ k5 (Or.inr ⟨rfl, w143.elim (fun q => absurd q.2 (by omega)) (fun q => q.1), by omega, by omega⟩) k7 (by omega))
                            · first
                              | (exfalso; omega)
                              | (refine bw_aload rfl rfl ?_
                                 refine bw_getI rfl rfl ?_
                                 refine bw_ifgt rfl (fun c139 => ?_) (fun c139 => ?_)
                                 · first
                                   | (exfalso; omega)
                                   | (refine bw_push rfl ?_
                                      refine bw_goto rfl ?_
                                      refine bw_istore (ls2 := [_, _, _, _, _]) rfl rfl (Nat.le_of_ble_eq_true rfl) rfl ?_
                                      refine bw_goto rfl ?_
                                      refine bw_forget (ls2 := [some (vr (some 567)), some (vi on), some (vi _), none, none]) ⟨rfl, rfl, rfl, trivial⟩ ?_
                                      first
                                      | exact ih17 K t 1 k1 ⟨k2, k3, k4⟩ k5 (Or.inl ⟨rfl, Or.inr ⟨by omega, by omega⟩⟩) k7 (by omega)
                                      | exact ih17 M53 t 1 (k1.trans u53.toP.toL) ⟨hP53, rs_p9 k2 k3 u53 v53, k4.q9 u53⟩ k5 (Or.inl ⟨rfl, Or.inr ⟨by omega, by omega⟩⟩) k7 (by omega)
                                      | exact ih17 M143 t 1 (k1.trans u143.toP.toL) ⟨hP143, rs_p9 k2 k3 u143 v143, k4.q9 u143⟩ k5 (Or.inl ⟨rfl, Or.inl (w143.elim (fun q => q.1) (fun q => absurd q.2 (by omega)))⟩) k7 (by omega)
                                      | exact ih17 M143 t 0 (k1.trans u143.toP.toL) ⟨hP143, rs_p9 k2 k3 u143 v143, k4.q9 u143⟩ k5 (Or.inr ⟨rfl, w143.elim (fun q => absurd q.2 (by omega)) (fun q => q.1), by omega, by omega⟩) k7 (by omega))
                                 · first
                                   | (exfalso; omega)
                                   | (refine bw_aload rfl rfl ?_
                                      refine bw_callVi (e := d - 1) (as := []) rfl (by omega) rfl rfl (Nat.le_of_ble_eq_true rfl) (Nat.le_of_ble_eq_true rfl) rfl (m_isPart hR k2 (by omega)) (fun r143 M143 hM143 => ?_)
                                      obtain ⟨u143, v143, w143⟩ := hM143
                                      rw [show skM K a n = lsP t from k3.2] at v143 w143
                                      have hP143 := k2.to9 u143 (by omega)
                                      refine bw_ifeq rfl (fun c146 => ?_) (fun c146 => ?_)
                                      · skip
                                        refine bw_push rfl ?_
                                        refine bw_istore (ls2 := [_, _, _, _, _]) rfl rfl (Nat.le_of_ble_eq_true rfl) rfl ?_
                                        refine bw_goto rfl ?_
                                        refine bw_forget (ls2 := [some (vr (some 567)), some (vi on), some (vi _), none, none]) ⟨rfl, rfl, rfl, trivial⟩ ?_
                                        first
                                        | exact ih17 K t 1 k1 ⟨k2, k3, k4⟩ k5 (Or.inl ⟨rfl, Or.inr ⟨by omega, by omega⟩⟩) k7 (by omega)
                                        | exact ih17 M53 t 1 (k1.trans u53.toP.toL) ⟨hP53, rs_p9 k2 k3 u53 v53, k4.q9 u53⟩ k5 (Or.inl ⟨rfl, Or.inr ⟨by omega, by omega⟩⟩) k7 (by omega)
                                        | exact ih17 M143 t 1 (k1.trans u143.toP.toL) ⟨hP143, rs_p9 k2 k3 u143 v143, k4.q9 u143⟩ k5 (Or.inl ⟨rfl, Or.inl (w143.elim (fun q => q.1) (fun q => absurd q.2 (by omega)))⟩) k7 (by omega)
                                        | exact ih17 M143 t 0 (k1.trans u143.toP.toL) ⟨hP143, rs_p9 k2 k3 u143 v143, k4.q9 u143⟩ k5 (Or.inr ⟨rfl, w143.elim (fun q => absurd q.2 (by omega)) (fun q => q.1), by omega, by omega⟩) k7 (by omega)
                                      · skip
                                        refine bw_push rfl ?_
                                        refine bw_goto rfl ?_
                                        refine bw_istore (ls2 := [_, _, _, _, _]) rfl rfl (Nat.le_of_ble_eq_true rfl) rfl ?_
                                        refine bw_goto rfl ?_
                                        refine bw_forget (ls2 := [some (vr (some 567)), some (vi on), some (vi _), none, none]) ⟨rfl, rfl, rfl, trivial⟩ ?_
                                        first
                                        | exact ih17 K t 1 k1 ⟨k2, k3, k4⟩ k5 (Or.inl ⟨rfl, Or.inr ⟨by omega, by omega⟩⟩) k7 (by omega)
                                        | exact ih17 M53 t 1 (k1.trans u53.toP.toL) ⟨hP53, rs_p9 k2 k3 u53 v53, k4.q9 u53⟩ k5 (Or.inl ⟨rfl, Or.inr ⟨by omega, by omega⟩⟩) k7 (by omega)
                                        | exact ih17 M143 t 1 (k1.trans u143.toP.toL) ⟨hP143, rs_p9 k2 k3 u143 v143, k4.q9 u143⟩ k5 (Or.inl ⟨rfl, Or.inl (w143.elim (fun q => q.1) (fun q => absurd q.2 (by omega)))⟩) k7 (by omega)
                                        | exact ih17 M143 t 0 (k1.trans u143.toP.toL) ⟨hP143, rs_p9 k2 k3 u143 v143, k4.q9 u143⟩ k5 (Or.inr ⟨rfl, w143.elim (fun q => absurd q.2 (by omega)) (fun q => q.1), by omega, by omega⟩) k7 (by omega))))
                       · first
                         | (exfalso; omega)
                         | (refine bw_retv rfl rfl ?_
                            first
                            | exact ⟨rfl, rfl, k1, k2, Or.inl ⟨e, k3, k4⟩⟩
                            | (exfalso; omega))
                     · skip
                       refine bw_aload rfl rfl ?_
                       first | refine bw_dup rfl ?_ | refine bw_dupi rfl ?_
                       refine bw_getI rfl rfl ?_
                       refine bw_push rfl ?_
                       refine bw_iadd rfl ⟨by omega, by omega⟩ ?_
                       have i68 := in_of hP53.ok (k := lsP t) (by omega)
                       refine bw_putI rfl rfl ?_
                       generalize hG68 : sI M53 567 9 (gI M53 567 9 + 1) = G68
                       have hR68 : RF r G68 := by rw [← hG68]; exact hR
                       have u68 : s5 pNo q9 M53 G68 := by rw [← hG68]; exact (s5_refl _ _ _).sI7 9 _ rfl
                       have e68 : gI G68 567 9 = lsP t + 1 := by rw [← hG68, gI_sI_eq, v53]
                       have hP68 := hP53.to9 u68 (by omega)
                       have hz68 : rs G68 a n (.inr (sk a n (lsP t + 1))) := ⟨by rw [(s59_11 u68).1]; exact kw, by rw [e68]⟩
                       have H68 := (k4.q9 u53).q9 u68
                       refine bw_aload rfl rfl ?_
                       refine bw_push rfl ?_
                       refine bw_callVi (e := d - 1) (as := [_]) rfl (by omega) rfl rfl (Nat.le_of_ble_eq_true rfl) (Nat.le_of_ble_eq_true rfl) rfl (m_times hR68 hP68 hz68 (by omega)) (fun r73 M73 hM73 => ?_)
                       obtain ⟨u73, v73, w73⟩ := hM73
                       have hR := u73.RF hR68
                       have H73 : LR M73 t := LR.f5 H68 u73 (qP_no (by omega)) (qP_no (by omega)) (qP_no (by omega))
                       have m73 : 1 ≤ r73 ∧ r73 ≤ 96 := by rw [w73]; exact tmS_in (by decide)
                       have hl := ln_cs (a := a) (n := n) (on := on) (s := t) (by omega) (by omega) (by omega)
                       refine bw_istore (ls2 := [_, _, _, _, _]) rfl rfl (Nat.le_of_ble_eq_true rfl) rfl ?_
                       refine bw_aload rfl rfl ?_
                       refine bw_callVj (e := d - 1) (as := []) rfl (by omega) rfl rfl (Nat.le_of_ble_eq_true rfl) (Nat.le_of_ble_eq_true rfl) rfl (m_goesWell hR) (fun r79 hr79 => ?_)
                       refine bw_ifne rfl (fun c82 => ?_) (fun c82 => ?_)
                       · skip
                         refine bw_aload rfl rfl ?_
                         first | refine bw_dup rfl ?_ | refine bw_dupi rfl ?_
                         refine bw_getI rfl rfl ?_
                         rw [show gI M73 567 19 = lsK t from H73.1.2.1]
                         refine bw_push rfl ?_
                         refine bw_isub rfl ⟨by omega, by omega⟩ ?_
                         refine bw_putI rfl rfl ?_
                         refine bw_aload rfl rfl ?_
                         refine bw_aload rfl rfl ?_
                         refine bw_getr rfl rfl (hR _ _) ?_
                         refine bw_aload rfl rfl ?_
                         refine bw_getI rfl rfl ?_
                         rw [gI_sI_eq]
                         refine bw_aldi rfl (by first | rfl | assumption) (by omega) (by omega) ?_
                         rw [gI_sI_ne (show 575 ≠ 567 by decide), (H73.1.2.2 (lsK t - 1) (by omega) (by omega)).1]
                         refine bw_aload rfl rfl ?_
                         refine bw_getr rfl rfl (hR _ _) ?_
                         refine bw_aload rfl rfl ?_
                         refine bw_getI rfl rfl ?_
                         rw [gI_sI_eq]
                         refine bw_aldb rfl (by first | rfl | assumption) (by decide) (by omega) (by omega) ?_
                         rw [gI_sI_ne (show 576 ≠ 567 by decide), (H73.1.2.2 (lsK t - 1) (by omega) (by omega)).2]
                         refine bw_iload rfl rfl ?_
                         refine bw_callVv (e := d - 1) (as := [_, _, _]) rfl (by omega) rfl rfl (Nat.le_of_ble_eq_true rfl) (Nat.le_of_ble_eq_true rfl) rfl (m_closes (h := lsH t) (f := lsF t (lsK t - 1)) (M := sI M73 567 19 (lsK t - 1)) (by exact hR) ⟨by rw [gI_sI_nj (by decide)]; exact H73.1.1.1, H73.1.1.2.1, by rw [gI_sI_ne (by decide), gI_sI_ne (by decide)]; exact H73.1.1.2.2⟩ (by have := (k5.1.2.2.2.1 (lsK t - 1) (by omega) (by omega)).1; omega) m73 (by omega)) (fun M117 hM117 => ?_)
                         refine bw_goto rfl ?_
                         refine bw_forget (ls2 := [some (vr (some 567)), some (vi on), some (vi m), some (vi _), none]) ⟨rfl, rfl, rfl, rfl, trivial⟩ ?_
                         obtain ⟨q, hq⟩ := (rs_0 v73.2).mp (by omega)
                         have hs := cs_step hP.ok k5.1 (by omega) (by omega) hq
                         have u19 : s5 pL qR M73 (sI M73 567 19 (lsK t - 1)) := (s5_refl _ _ _).sI7 19 _ (qRr (by omega))
                         have uu := u19.trans hM117.1.HtoL
                         have hv := v73.2
                         rw [hq] at hv
                         subst w73
                         refine ih M117 (lsM q (hClose (lsH t) (lsF t (lsK t - 1)) (lsW t (lsK t - 1)) (tmS a n 1 (.inr (sk a n (lsP t + 1)))).2) (lsK t - 1) (lsF t) (lsW t) (lsN t) 1) w (((k1.trans u53.toP.toL).trans (u68.toP.trans u73).toL).trans uu) ?_ (Or.inr ⟨?_, ?_, ⟨hs.1, fun _ => ?_⟩, by show w = 1; omega, fun x h => k7 x (isLr_s (hl.trans (cs_g hq)) (by decide) h), ?_⟩) ?_
                         · exact (v73.1.fr5 (p := pL) (q := qR) u19 (pL_no (by decide)) (pL_no (by decide)) (qR_no (by omega)) (by rw [gI_sI_nj (by decide)]; exact v73.1.he)).toH hM117.1
                         · exact rs_H ⟨by rw [gI_sI_nj (by decide)]; exact hv.1, by rw [gI_sI_nj (by decide)]; exact hv.2⟩ hM117.1
                         · refine ⟨⟨hM117.2, ?_, fun j j1 j2 => ?_⟩, ?_⟩
                           · rw [hM117.1.sl 19 (fun k => by have : (19 : Int) = 16 := k; omega), gI_sI_eq]
                           · have j2 : j < lsK t - 1 := j2
                             rw [hM117.1.at 575 (pH_no (by decide)) (by decide), hM117.1.at 576 (pH_no (by decide)) (by decide), gI_sI_ne (by decide), gI_sI_ne (by decide)]
                             exact H73.1.2.2 j j1 (by omega)
                           · rw [hM117.1.sl 20 (fun k => by have : (20 : Int) = 16 := k; omega), gI_sI_nj (by decide)]
                             exact H73.2
                         · have := k5.2 (by omega)
                           have := hs.2.2
                           show 1 ≤ (hClose _ _ _ _).1
                           omega
                         · have := hs.2.1
                           show lsP s < q
                           omega
                         · have := hs.2.1
                           show (n - q).toNat < kf
                           omega
                       · skip
                         refine bw_retv rfl rfl ?_
                         obtain ⟨e, he, h5⟩ := rs_l v73.2 (by omega)
                         exact ⟨rfl, rfl, (k1.trans u53.toP.toL).trans (u68.toP.trans u73).toL, v73.1, Or.inl ⟨e, k7 _ (isLr_f (hl.trans (cs_f he))), h5⟩⟩)
          · have kw : gI K 567 11 = 0 := k3.1
            have kb : gI K 567 19 = lsK t := k4.1.2.1
            have kv := k5.1.2.2.2.2.2
            have kk := k5.1.2.2.1
            have kp := k5.1.1
            refine bw_aload rfl rfl ?_
            refine bw_callVj (e := d - 1) (as := []) rfl (by omega) rfl rfl (Nat.le_of_ble_eq_true rfl) (Nat.le_of_ble_eq_true rfl) rfl (m_goesWell hR) (fun r35 hr35 => ?_)
            refine bw_ifeq rfl (fun c38 => ?_) (fun c38 => ?_)
            · first
              | (exfalso; omega)
              | (refine bw_aload rfl rfl ?_
                 refine bw_callVj (e := d - 1) (as := []) rfl (by omega) rfl rfl (Nat.le_of_ble_eq_true rfl) (Nat.le_of_ble_eq_true rfl) rfl (m_goesWell hR) (fun r124 hr124 => ?_)
                 refine bw_ifne rfl (fun c127 => ?_) (fun c127 => ?_)
                 · first
                   | (exfalso; omega)
                   | (refine bw_iload rfl rfl ?_
                      refine bw_ifeq rfl (fun c132 => ?_) (fun c132 => ?_)
                      · first
                        | (exfalso; omega)
                        | (refine bw_push rfl ?_
                           refine bw_goto rfl ?_
                           refine bw_istore (ls2 := [_, _, _, _, _]) rfl rfl (Nat.le_of_ble_eq_true rfl) rfl ?_
                           refine bw_goto rfl ?_
                           refine bw_forget (ls2 := [some (vr (some 567)), some (vi on), some (vi _), none, none]) ⟨rfl, rfl, rfl, trivial⟩ ?_
                           first
                           | exact ih17 K t 1 k1 ⟨k2, k3, k4⟩ k5 (Or.inl ⟨rfl, Or.inr ⟨by omega, by omega⟩⟩) k7 (by omega)
                           | exact ih17 M53 t 1 (k1.trans u53.toP.toL) ⟨hP53, rs_p9 k2 k3 u53 v53, k4.q9 u53⟩ k5 (Or.inl ⟨rfl, Or.inr ⟨by omega, by omega⟩⟩) k7 (by omega)
                           | exact ih17 M143 t 1 (k1.trans u143.toP.toL) ⟨hP143, rs_p9 k2 k3 u143 v143, k4.q9 u143⟩ k5 (Or.inl ⟨rfl, Or.inl (w143.elim (fun q => q.1) (fun q => absurd q.2 (by omega)))⟩) k7 (by omega)
                           | exact ih17 M143 t 0 (k1.trans u143.toP.toL) ⟨hP143, rs_p9 k2 k3 u143 v143, k4.q9 u143⟩ k5 (Or.inr ⟨rfl, w143.elim (fun q => absurd q.2 (by omega)) (fun q => q.1), by omega, by omega⟩) k7 (by omega))
                      · first
                        | (exfalso; omega)
                        | (refine bw_aload rfl rfl ?_
                           refine bw_getI rfl rfl ?_
                           refine bw_ifgt rfl (fun c139 => ?_) (fun c139 => ?_)
                           · first
                             | (exfalso; omega)
                             | (refine bw_push rfl ?_
                                refine bw_goto rfl ?_
                                refine bw_istore (ls2 := [_, _, _, _, _]) rfl rfl (Nat.le_of_ble_eq_true rfl) rfl ?_
                                refine bw_goto rfl ?_
                                refine bw_forget (ls2 := [some (vr (some 567)), some (vi on), some (vi _), none, none]) ⟨rfl, rfl, rfl, trivial⟩ ?_
                                first
                                | exact ih17 K t 1 k1 ⟨k2, k3, k4⟩ k5 (Or.inl ⟨rfl, Or.inr ⟨by omega, by omega⟩⟩) k7 (by omega)
                                | exact ih17 M53 t 1 (k1.trans u53.toP.toL) ⟨hP53, rs_p9 k2 k3 u53 v53, k4.q9 u53⟩ k5 (Or.inl ⟨rfl, Or.inr ⟨by omega, by omega⟩⟩) k7 (by omega)
                                | exact ih17 M143 t 1 (k1.trans u143.toP.toL) ⟨hP143, rs_p9 k2 k3 u143 v143, k4.q9 u143⟩ k5 (Or.inl ⟨rfl, Or.inl (w143.elim (fun q => q.1) (fun q => absurd q.2 (by omega)))⟩) k7 (by omega)
                                | exact ih17 M143 t 0 (k1.trans u143.toP.toL) ⟨hP143, rs_p9 k2 k3 u143 v143, k4.q9 u143⟩ k5 (Or.inr ⟨rfl, w143.elim (fun q => absurd q.2 (by omega)) (fun q => q.1), by omega, by omega⟩) k7 (by omega))
                           · first
                             | (exfalso; omega)
                             | (refine bw_aload rfl rfl ?_
                                refine bw_callVi (e := d - 1) (as := []) rfl (by omega) rfl rfl (Nat.le_of_ble_eq_true rfl) (Nat.le_of_ble_eq_true rfl) rfl (m_isPart hR k2 (by omega)) (fun r143 M143 hM143 => ?_)
                                obtain ⟨u143, v143, w143⟩ := hM143
                                rw [show skM K a n = lsP t from k3.2] at v143 w143
                                have hP143 := k2.to9 u143 (by omega)
                                refine bw_ifeq rfl (fun c146 => ?_) (fun c146 => ?_)
                                · skip
                                  refine bw_push rfl ?_
                                  refine bw_istore (ls2 := [_, _, _, _, _]) rfl rfl (Nat.le_of_ble_eq_true rfl) rfl ?_
                                  refine bw_goto rfl ?_
                                  refine bw_forget (ls2 := [some (vr (some 567)), some (vi on), some (vi _), none, none]) ⟨rfl, rfl, rfl, trivial⟩ ?_
                                  first
                                  | exact ih17 K t 1 k1 ⟨k2, k3, k4⟩ k5 (Or.inl ⟨rfl, Or.inr ⟨by omega, by omega⟩⟩) k7 (by omega)
                                  | exact ih17 M53 t 1 (k1.trans u53.toP.toL) ⟨hP53, rs_p9 k2 k3 u53 v53, k4.q9 u53⟩ k5 (Or.inl ⟨rfl, Or.inr ⟨by omega, by omega⟩⟩) k7 (by omega)
                                  | exact ih17 M143 t 1 (k1.trans u143.toP.toL) ⟨hP143, rs_p9 k2 k3 u143 v143, k4.q9 u143⟩ k5 (Or.inl ⟨rfl, Or.inl (w143.elim (fun q => q.1) (fun q => absurd q.2 (by omega)))⟩) k7 (by omega)
                                  | exact ih17 M143 t 0 (k1.trans u143.toP.toL) ⟨hP143, rs_p9 k2 k3 u143 v143, k4.q9 u143⟩ k5 (Or.inr ⟨rfl, w143.elim (fun q => absurd q.2 (by omega)) (fun q => q.1), by omega, by omega⟩) k7 (by omega)
                                · skip
                                  refine bw_push rfl ?_
                                  refine bw_goto rfl ?_
                                  refine bw_istore (ls2 := [_, _, _, _, _]) rfl rfl (Nat.le_of_ble_eq_true rfl) rfl ?_
                                  refine bw_goto rfl ?_
                                  refine bw_forget (ls2 := [some (vr (some 567)), some (vi on), some (vi _), none, none]) ⟨rfl, rfl, rfl, trivial⟩ ?_
                                  first
                                  | exact ih17 K t 1 k1 ⟨k2, k3, k4⟩ k5 (Or.inl ⟨rfl, Or.inr ⟨by omega, by omega⟩⟩) k7 (by omega)
                                  | exact ih17 M53 t 1 (k1.trans u53.toP.toL) ⟨hP53, rs_p9 k2 k3 u53 v53, k4.q9 u53⟩ k5 (Or.inl ⟨rfl, Or.inr ⟨by omega, by omega⟩⟩) k7 (by omega)
                                  | exact ih17 M143 t 1 (k1.trans u143.toP.toL) ⟨hP143, rs_p9 k2 k3 u143 v143, k4.q9 u143⟩ k5 (Or.inl ⟨rfl, Or.inl (w143.elim (fun q => q.1) (fun q => absurd q.2 (by omega)))⟩) k7 (by omega)
                                  | exact ih17 M143 t 0 (k1.trans u143.toP.toL) ⟨hP143, rs_p9 k2 k3 u143 v143, k4.q9 u143⟩ k5 (Or.inr ⟨rfl, w143.elim (fun q => absurd q.2 (by omega)) (fun q => q.1), by omega, by omega⟩) k7 (by omega))))
                 · first
                   | (exfalso; omega)
                   | (refine bw_retv rfl rfl ?_
                      first
                      | exact ⟨rfl, rfl, k1, k2, Or.inl ⟨e, k3, k4⟩⟩
                      | (exfalso; omega)))
            · first
              | (exfalso; omega)
              | (refine bw_iload rfl rfl ?_
                 refine bw_ifeq rfl (fun c42 => ?_) (fun c42 => ?_)
                 · skip
                   refine bw_aload rfl rfl ?_
                   refine bw_callVj (e := d - 1) (as := []) rfl (by omega) rfl rfl (Nat.le_of_ble_eq_true rfl) (Nat.le_of_ble_eq_true rfl) rfl (m_goesWell hR) (fun r124 hr124 => ?_)
                   refine bw_ifne rfl (fun c127 => ?_) (fun c127 => ?_)
                   · first
                     | (exfalso; omega)
                     | (refine bw_iload rfl rfl ?_
                        refine bw_ifeq rfl (fun c132 => ?_) (fun c132 => ?_)
                        · first
                          | (exfalso; omega)
                          | (refine bw_push rfl ?_
                             refine bw_goto rfl ?_
                             refine bw_istore (ls2 := [_, _, _, _, _]) rfl rfl (Nat.le_of_ble_eq_true rfl) rfl ?_
                             refine bw_goto rfl ?_
                             refine bw_forget (ls2 := [some (vr (some 567)), some (vi on), some (vi _), none, none]) ⟨rfl, rfl, rfl, trivial⟩ ?_
                             first
                             | exact ih17 K t 1 k1 ⟨k2, k3, k4⟩ k5 (Or.inl ⟨rfl, Or.inr ⟨by omega, by omega⟩⟩) k7 (by omega)
                             | exact ih17 M53 t 1 (k1.trans u53.toP.toL) ⟨hP53, rs_p9 k2 k3 u53 v53, k4.q9 u53⟩ k5 (Or.inl ⟨rfl, Or.inr ⟨by omega, by omega⟩⟩) k7 (by omega)
                             | exact ih17 M143 t 1 (k1.trans u143.toP.toL) ⟨hP143, rs_p9 k2 k3 u143 v143, k4.q9 u143⟩ k5 (Or.inl ⟨rfl, Or.inl (w143.elim (fun q => q.1) (fun q => absurd q.2 (by omega)))⟩) k7 (by omega)
                             | exact ih17 M143 t 0 (k1.trans u143.toP.toL) ⟨hP143, rs_p9 k2 k3 u143 v143, k4.q9 u143⟩ k5 (Or.inr ⟨rfl, w143.elim (fun q => absurd q.2 (by omega)) (fun q => q.1), by omega, by omega⟩) k7 (by omega))
                        · first
                          | (exfalso; omega)
                          | (refine bw_aload rfl rfl ?_
                             refine bw_getI rfl rfl ?_
                             refine bw_ifgt rfl (fun c139 => ?_) (fun c139 => ?_)
                             · first
                               | (exfalso; omega)
                               | (refine bw_push rfl ?_
                                  refine bw_goto rfl ?_
                                  refine bw_istore (ls2 := [_, _, _, _, _]) rfl rfl (Nat.le_of_ble_eq_true rfl) rfl ?_
                                  refine bw_goto rfl ?_
                                  refine bw_forget (ls2 := [some (vr (some 567)), some (vi on), some (vi _), none, none]) ⟨rfl, rfl, rfl, trivial⟩ ?_
                                  first
                                  | exact ih17 K t 1 k1 ⟨k2, k3, k4⟩ k5 (Or.inl ⟨rfl, Or.inr ⟨by omega, by omega⟩⟩) k7 (by omega)
                                  | exact ih17 M53 t 1 (k1.trans u53.toP.toL) ⟨hP53, rs_p9 k2 k3 u53 v53, k4.q9 u53⟩ k5 (Or.inl ⟨rfl, Or.inr ⟨by omega, by omega⟩⟩) k7 (by omega)
                                  | exact ih17 M143 t 1 (k1.trans u143.toP.toL) ⟨hP143, rs_p9 k2 k3 u143 v143, k4.q9 u143⟩ k5 (Or.inl ⟨rfl, Or.inl (w143.elim (fun q => q.1) (fun q => absurd q.2 (by omega)))⟩) k7 (by omega)
                                  | exact ih17 M143 t 0 (k1.trans u143.toP.toL) ⟨hP143, rs_p9 k2 k3 u143 v143, k4.q9 u143⟩ k5 (Or.inr ⟨rfl, w143.elim (fun q => absurd q.2 (by omega)) (fun q => q.1), by omega, by omega⟩) k7 (by omega))
                             · first
                               | (exfalso; omega)
                               | (refine bw_aload rfl rfl ?_
                                  refine bw_callVi (e := d - 1) (as := []) rfl (by omega) rfl rfl (Nat.le_of_ble_eq_true rfl) (Nat.le_of_ble_eq_true rfl) rfl (m_isPart hR k2 (by omega)) (fun r143 M143 hM143 => ?_)
                                  obtain ⟨u143, v143, w143⟩ := hM143
                                  rw [show skM K a n = lsP t from k3.2] at v143 w143
                                  have hP143 := k2.to9 u143 (by omega)
                                  refine bw_ifeq rfl (fun c146 => ?_) (fun c146 => ?_)
                                  · skip
                                    refine bw_push rfl ?_
                                    refine bw_istore (ls2 := [_, _, _, _, _]) rfl rfl (Nat.le_of_ble_eq_true rfl) rfl ?_
                                    refine bw_goto rfl ?_
                                    refine bw_forget (ls2 := [some (vr (some 567)), some (vi on), some (vi _), none, none]) ⟨rfl, rfl, rfl, trivial⟩ ?_
                                    first
                                    | exact ih17 K t 1 k1 ⟨k2, k3, k4⟩ k5 (Or.inl ⟨rfl, Or.inr ⟨by omega, by omega⟩⟩) k7 (by omega)
                                    | exact ih17 M53 t 1 (k1.trans u53.toP.toL) ⟨hP53, rs_p9 k2 k3 u53 v53, k4.q9 u53⟩ k5 (Or.inl ⟨rfl, Or.inr ⟨by omega, by omega⟩⟩) k7 (by omega)
                                    | exact ih17 M143 t 1 (k1.trans u143.toP.toL) ⟨hP143, rs_p9 k2 k3 u143 v143, k4.q9 u143⟩ k5 (Or.inl ⟨rfl, Or.inl (w143.elim (fun q => q.1) (fun q => absurd q.2 (by omega)))⟩) k7 (by omega)
                                    | exact ih17 M143 t 0 (k1.trans u143.toP.toL) ⟨hP143, rs_p9 k2 k3 u143 v143, k4.q9 u143⟩ k5 (Or.inr ⟨rfl, w143.elim (fun q => absurd q.2 (by omega)) (fun q => q.1), by omega, by omega⟩) k7 (by omega)
                                  · skip
                                    refine bw_push rfl ?_
                                    refine bw_goto rfl ?_
                                    refine bw_istore (ls2 := [_, _, _, _, _]) rfl rfl (Nat.le_of_ble_eq_true rfl) rfl ?_
                                    refine bw_goto rfl ?_
                                    refine bw_forget (ls2 := [some (vr (some 567)), some (vi on), some (vi _), none, none]) ⟨rfl, rfl, rfl, trivial⟩ ?_
                                    first
                                    | exact ih17 K t 1 k1 ⟨k2, k3, k4⟩ k5 (Or.inl ⟨rfl, Or.inr ⟨by omega, by omega⟩⟩) k7 (by omega)
                                    | exact ih17 M53 t 1 (k1.trans u53.toP.toL) ⟨hP53, rs_p9 k2 k3 u53 v53, k4.q9 u53⟩ k5 (Or.inl ⟨rfl, Or.inr ⟨by omega, by omega⟩⟩) k7 (by omega)
                                    | exact ih17 M143 t 1 (k1.trans u143.toP.toL) ⟨hP143, rs_p9 k2 k3 u143 v143, k4.q9 u143⟩ k5 (Or.inl ⟨rfl, Or.inl (w143.elim (fun q => q.1) (fun q => absurd q.2 (by omega)))⟩) k7 (by omega)
                                    | exact ih17 M143 t 0 (k1.trans u143.toP.toL) ⟨hP143, rs_p9 k2 k3 u143 v143, k4.q9 u143⟩ k5 (Or.inr ⟨rfl, w143.elim (fun q => absurd q.2 (by omega)) (fun q => q.1), by omega, by omega⟩) k7 (by omega))))
                   · first
                     | (exfalso; omega)
                     | (refine bw_retv rfl rfl ?_
                        first
                        | exact ⟨rfl, rfl, k1, k2, Or.inl ⟨e, k3, k4⟩⟩
                        | (exfalso; omega))
                 · skip
                   refine bw_aload rfl rfl ?_
                   refine bw_getI rfl rfl ?_
                   refine bw_ifle rfl (fun c49 => ?_) (fun c49 => ?_)
                   · skip
                     refine bw_aload rfl rfl ?_
                     refine bw_callVj (e := d - 1) (as := []) rfl (by omega) rfl rfl (Nat.le_of_ble_eq_true rfl) (Nat.le_of_ble_eq_true rfl) rfl (m_goesWell hR) (fun r124 hr124 => ?_)
                     refine bw_ifne rfl (fun c127 => ?_) (fun c127 => ?_)
                     · first
                       | (exfalso; omega)
                       | (refine bw_iload rfl rfl ?_
                          refine bw_ifeq rfl (fun c132 => ?_) (fun c132 => ?_)
                          · first
                            | (exfalso; omega)
                            | (refine bw_push rfl ?_
                               refine bw_goto rfl ?_
                               refine bw_istore (ls2 := [_, _, _, _, _]) rfl rfl (Nat.le_of_ble_eq_true rfl) rfl ?_
                               refine bw_goto rfl ?_
                               refine bw_forget (ls2 := [some (vr (some 567)), some (vi on), some (vi _), none, none]) ⟨rfl, rfl, rfl, trivial⟩ ?_
                               first
                               | exact ih17 K t 1 k1 ⟨k2, k3, k4⟩ k5 (Or.inl ⟨rfl, Or.inr ⟨by omega, by omega⟩⟩) k7 (by omega)
                               | exact ih17 M53 t 1 (k1.trans u53.toP.toL) ⟨hP53, rs_p9 k2 k3 u53 v53, k4.q9 u53⟩ k5 (Or.inl ⟨rfl, Or.inr ⟨by omega, by omega⟩⟩) k7 (by omega)
                               | exact ih17 M143 t 1 (k1.trans u143.toP.toL) ⟨hP143, rs_p9 k2 k3 u143 v143, k4.q9 u143⟩ k5 (Or.inl ⟨rfl, Or.inl (w143.elim (fun q => q.1) (fun q => absurd q.2 (by omega)))⟩) k7 (by omega)
                               | exact ih17 M143 t 0 (k1.trans u143.toP.toL) ⟨hP143, rs_p9 k2 k3 u143 v143, k4.q9 u143⟩ k5 (Or.inr ⟨rfl, w143.elim (fun q => absurd q.2 (by omega)) (fun q => q.1), by omega, by omega⟩) k7 (by omega))
                          · first
                            | (exfalso; omega)
                            | (refine bw_aload rfl rfl ?_
                               refine bw_getI rfl rfl ?_
                               refine bw_ifgt rfl (fun c139 => ?_) (fun c139 => ?_)
                               · first
                                 | (exfalso; omega)
                                 | (refine bw_push rfl ?_
                                    refine bw_goto rfl ?_
                                    refine bw_istore (ls2 := [_, _, _, _, _]) rfl rfl (Nat.le_of_ble_eq_true rfl) rfl ?_
                                    refine bw_goto rfl ?_
                                    refine bw_forget (ls2 := [some (vr (some 567)), some (vi on), some (vi _), none, none]) ⟨rfl, rfl, rfl, trivial⟩ ?_
                                    first
                                    | exact ih17 K t 1 k1 ⟨k2, k3, k4⟩ k5 (Or.inl ⟨rfl, Or.inr ⟨by omega, by omega⟩⟩) k7 (by omega)
                                    | exact ih17 M53 t 1 (k1.trans u53.toP.toL) ⟨hP53, rs_p9 k2 k3 u53 v53, k4.q9 u53⟩ k5 (Or.inl ⟨rfl, Or.inr ⟨by omega, by omega⟩⟩) k7 (by omega)
                                    | exact ih17 M143 t 1 (k1.trans u143.toP.toL) ⟨hP143, rs_p9 k2 k3 u143 v143, k4.q9 u143⟩ k5 (Or.inl ⟨rfl, Or.inl (w143.elim (fun q => q.1) (fun q => absurd q.2 (by omega)))⟩) k7 (by omega)
                                    | exact ih17 M143 t 0 (k1.trans u143.toP.toL) ⟨hP143, rs_p9 k2 k3 u143 v143, k4.q9 u143⟩ k5 (Or.inr ⟨rfl, w143.elim (fun q => absurd q.2 (by omega)) (fun q => q.1), by omega, by omega⟩) k7 (by omega))
                               · first
                                 | (exfalso; omega)
                                 | (refine bw_aload rfl rfl ?_
                                    refine bw_callVi (e := d - 1) (as := []) rfl (by omega) rfl rfl (Nat.le_of_ble_eq_true rfl) (Nat.le_of_ble_eq_true rfl) rfl (m_isPart hR k2 (by omega)) (fun r143 M143 hM143 => ?_)
                                    obtain ⟨u143, v143, w143⟩ := hM143
                                    rw [show skM K a n = lsP t from k3.2] at v143 w143
                                    have hP143 := k2.to9 u143 (by omega)
                                    refine bw_ifeq rfl (fun c146 => ?_) (fun c146 => ?_)
                                    · skip
                                      refine bw_push rfl ?_
                                      refine bw_istore (ls2 := [_, _, _, _, _]) rfl rfl (Nat.le_of_ble_eq_true rfl) rfl ?_
                                      refine bw_goto rfl ?_
                                      refine bw_forget (ls2 := [some (vr (some 567)), some (vi on), some (vi _), none, none]) ⟨rfl, rfl, rfl, trivial⟩ ?_
                                      first
                                      | exact ih17 K t 1 k1 ⟨k2, k3, k4⟩ k5 (Or.inl ⟨rfl, Or.inr ⟨by omega, by omega⟩⟩) k7 (by omega)
                                      | exact ih17 M53 t 1 (k1.trans u53.toP.toL) ⟨hP53, rs_p9 k2 k3 u53 v53, k4.q9 u53⟩ k5 (Or.inl ⟨rfl, Or.inr ⟨by omega, by omega⟩⟩) k7 (by omega)
                                      | exact ih17 M143 t 1 (k1.trans u143.toP.toL) ⟨hP143, rs_p9 k2 k3 u143 v143, k4.q9 u143⟩ k5 (Or.inl ⟨rfl, Or.inl (w143.elim (fun q => q.1) (fun q => absurd q.2 (by omega)))⟩) k7 (by omega)
                                      | exact ih17 M143 t 0 (k1.trans u143.toP.toL) ⟨hP143, rs_p9 k2 k3 u143 v143, k4.q9 u143⟩ k5 (Or.inr ⟨rfl, w143.elim (fun q => absurd q.2 (by omega)) (fun q => q.1), by omega, by omega⟩) k7 (by omega)
                                    · skip
                                      refine bw_push rfl ?_
                                      refine bw_goto rfl ?_
                                      refine bw_istore (ls2 := [_, _, _, _, _]) rfl rfl (Nat.le_of_ble_eq_true rfl) rfl ?_
                                      refine bw_goto rfl ?_
                                      refine bw_forget (ls2 := [some (vr (some 567)), some (vi on), some (vi _), none, none]) ⟨rfl, rfl, rfl, trivial⟩ ?_
                                      first
                                      | exact ih17 K t 1 k1 ⟨k2, k3, k4⟩ k5 (Or.inl ⟨rfl, Or.inr ⟨by omega, by omega⟩⟩) k7 (by omega)
                                      | exact ih17 M53 t 1 (k1.trans u53.toP.toL) ⟨hP53, rs_p9 k2 k3 u53 v53, k4.q9 u53⟩ k5 (Or.inl ⟨rfl, Or.inr ⟨by omega, by omega⟩⟩) k7 (by omega)
                                      | exact ih17 M143 t 1 (k1.trans u143.toP.toL) ⟨hP143, rs_p9 k2 k3 u143 v143, k4.q9 u143⟩ k5 (Or.inl ⟨rfl, Or.inl (w143.elim (fun q => q.1) (fun q => absurd q.2 (by omega)))⟩) k7 (by omega)
                                      | exact ih17 M143 t 0 (k1.trans u143.toP.toL) ⟨hP143, rs_p9 k2 k3 u143 v143, k4.q9 u143⟩ k5 (Or.inr ⟨rfl, w143.elim (fun q => absurd q.2 (by omega)) (fun q => q.1), by omega, by omega⟩) k7 (by omega))))
                     · first
                       | (exfalso; omega)
                       | (refine bw_retv rfl rfl ?_
                          first
                          | exact ⟨rfl, rfl, k1, k2, Or.inl ⟨e, k3, k4⟩⟩
                          | (exfalso; omega))
                   · skip
                     refine bw_aload rfl rfl ?_
                     refine bw_callVi (e := d - 1) (as := []) rfl (by omega) rfl rfl (Nat.le_of_ble_eq_true rfl) (Nat.le_of_ble_eq_true rfl) rfl (m_sees hR k2 (by omega)) (fun r53 M53 hM53 => ?_)
                     obtain ⟨u53, v53, w53⟩ := hM53
                     have hR := u53.RF hR
                     rw [k3.2] at v53 w53
                     have hP53 := k2.to9 u53 (by omega)
                     have kw := (s59_11 u53).1.trans kw
                     have kb : gI M53 567 19 = lsK t := (u53.sl 19 (fun k => by have : (19 : Int) = 9 := k; omega)).trans kb
                     refine bw_push rfl ?_
                     refine bw_icne rfl (fun c58 => ?_) (fun c58 => ?_)
                     · skip
                       refine bw_aload rfl rfl ?_
                       refine bw_callVj (e := d - 1) (as := []) rfl (by omega) rfl rfl (Nat.le_of_ble_eq_true rfl) (Nat.le_of_ble_eq_true rfl) rfl (m_goesWell hR) (fun r124 hr124 => ?_)
                       refine bw_ifne rfl (fun c127 => ?_) (fun c127 => ?_)
                       · first
                         | (exfalso; omega)
                         | (refine bw_iload rfl rfl ?_
                            refine bw_ifeq rfl (fun c132 => ?_) (fun c132 => ?_)
                            · first
                              | (exfalso; omega)
                              | (refine bw_push rfl ?_
                                 refine bw_goto rfl ?_
                                 refine bw_istore (ls2 := [_, _, _, _, _]) rfl rfl (Nat.le_of_ble_eq_true rfl) rfl ?_
                                 refine bw_goto rfl ?_
                                 refine bw_forget (ls2 := [some (vr (some 567)), some (vi on), some (vi _), none, none]) ⟨rfl, rfl, rfl, trivial⟩ ?_
                                 first
                                 | exact ih17 K t 1 k1 ⟨k2, k3, k4⟩ k5 (Or.inl ⟨rfl, Or.inr ⟨by omega, by omega⟩⟩) k7 (by omega)
                                 | exact ih17 M53 t 1 (k1.trans u53.toP.toL) ⟨hP53, rs_p9 k2 k3 u53 v53, k4.q9 u53⟩ k5 (Or.inl ⟨rfl, Or.inr ⟨by omega, by omega⟩⟩) k7 (by omega)
                                 | exact ih17 M143 t 1 (k1.trans u143.toP.toL) ⟨hP143, rs_p9 k2 k3 u143 v143, k4.q9 u143⟩ k5 (Or.inl ⟨rfl, Or.inl (w143.elim (fun q => q.1) (fun q => absurd q.2 (by omega)))⟩) k7 (by omega)
                                 | exact ih17 M143 t 0 (k1.trans u143.toP.toL) ⟨hP143, rs_p9 k2 k3 u143 v143, k4.q9 u143⟩ k5 (Or.inr ⟨rfl, w143.elim (fun q => absurd q.2 (by omega)) (fun q => q.1), by omega, by omega⟩) k7 (by omega))
                            · first
                              | (exfalso; omega)
                              | (refine bw_aload rfl rfl ?_
                                 refine bw_getI rfl rfl ?_
                                 refine bw_ifgt rfl (fun c139 => ?_) (fun c139 => ?_)
                                 · first
                                   | (exfalso; omega)
                                   | (refine bw_push rfl ?_
                                      refine bw_goto rfl ?_
                                      refine bw_istore (ls2 := [_, _, _, _, _]) rfl rfl (Nat.le_of_ble_eq_true rfl) rfl ?_
                                      refine bw_goto rfl ?_
                                      refine bw_forget (ls2 := [some (vr (some 567)), some (vi on), some (vi _), none, none]) ⟨rfl, rfl, rfl, trivial⟩ ?_
                                      first
                                      | exact ih17 K t 1 k1 ⟨k2, k3, k4⟩ k5 (Or.inl ⟨rfl, Or.inr ⟨by omega, by omega⟩⟩) k7 (by omega)
                                      | exact ih17 M53 t 1 (k1.trans u53.toP.toL) ⟨hP53, rs_p9 k2 k3 u53 v53, k4.q9 u53⟩ k5 (Or.inl ⟨rfl, Or.inr ⟨by omega, by omega⟩⟩) k7 (by omega)
                                      | exact ih17 M143 t 1 (k1.trans u143.toP.toL) ⟨hP143, rs_p9 k2 k3 u143 v143, k4.q9 u143⟩ k5 (Or.inl ⟨rfl, Or.inl (w143.elim (fun q => q.1) (fun q => absurd q.2 (by omega)))⟩) k7 (by omega)
                                      | exact ih17 M143 t 0 (k1.trans u143.toP.toL) ⟨hP143, rs_p9 k2 k3 u143 v143, k4.q9 u143⟩ k5 (Or.inr ⟨rfl, w143.elim (fun q => absurd q.2 (by omega)) (fun q => q.1), by omega, by omega⟩) k7 (by omega))
                                 · first
                                   | (exfalso; omega)
                                   | (refine bw_aload rfl rfl ?_
                                      refine bw_callVi (e := d - 1) (as := []) rfl (by omega) rfl rfl (Nat.le_of_ble_eq_true rfl) (Nat.le_of_ble_eq_true rfl) rfl (m_isPart hR k2 (by omega)) (fun r143 M143 hM143 => ?_)
                                      obtain ⟨u143, v143, w143⟩ := hM143
                                      rw [show skM K a n = lsP t from k3.2] at v143 w143
                                      have hP143 := k2.to9 u143 (by omega)
                                      refine bw_ifeq rfl (fun c146 => ?_) (fun c146 => ?_)
                                      · skip
                                        refine bw_push rfl ?_
                                        refine bw_istore (ls2 := [_, _, _, _, _]) rfl rfl (Nat.le_of_ble_eq_true rfl) rfl ?_
                                        refine bw_goto rfl ?_
                                        refine bw_forget (ls2 := [some (vr (some 567)), some (vi on), some (vi _), none, none]) ⟨rfl, rfl, rfl, trivial⟩ ?_
                                        first
                                        | exact ih17 K t 1 k1 ⟨k2, k3, k4⟩ k5 (Or.inl ⟨rfl, Or.inr ⟨by omega, by omega⟩⟩) k7 (by omega)
                                        | exact ih17 M53 t 1 (k1.trans u53.toP.toL) ⟨hP53, rs_p9 k2 k3 u53 v53, k4.q9 u53⟩ k5 (Or.inl ⟨rfl, Or.inr ⟨by omega, by omega⟩⟩) k7 (by omega)
                                        | exact ih17 M143 t 1 (k1.trans u143.toP.toL) ⟨hP143, rs_p9 k2 k3 u143 v143, k4.q9 u143⟩ k5 (Or.inl ⟨rfl, Or.inl (w143.elim (fun q => q.1) (fun q => absurd q.2 (by omega)))⟩) k7 (by omega)
                                        | exact ih17 M143 t 0 (k1.trans u143.toP.toL) ⟨hP143, rs_p9 k2 k3 u143 v143, k4.q9 u143⟩ k5 (Or.inr ⟨rfl, w143.elim (fun q => absurd q.2 (by omega)) (fun q => q.1), by omega, by omega⟩) k7 (by omega)
                                      · skip
                                        refine bw_push rfl ?_
                                        refine bw_goto rfl ?_
                                        refine bw_istore (ls2 := [_, _, _, _, _]) rfl rfl (Nat.le_of_ble_eq_true rfl) rfl ?_
                                        refine bw_goto rfl ?_
                                        refine bw_forget (ls2 := [some (vr (some 567)), some (vi on), some (vi _), none, none]) ⟨rfl, rfl, rfl, trivial⟩ ?_
                                        first
                                        | exact ih17 K t 1 k1 ⟨k2, k3, k4⟩ k5 (Or.inl ⟨rfl, Or.inr ⟨by omega, by omega⟩⟩) k7 (by omega)
                                        | exact ih17 M53 t 1 (k1.trans u53.toP.toL) ⟨hP53, rs_p9 k2 k3 u53 v53, k4.q9 u53⟩ k5 (Or.inl ⟨rfl, Or.inr ⟨by omega, by omega⟩⟩) k7 (by omega)
                                        | exact ih17 M143 t 1 (k1.trans u143.toP.toL) ⟨hP143, rs_p9 k2 k3 u143 v143, k4.q9 u143⟩ k5 (Or.inl ⟨rfl, Or.inl (w143.elim (fun q => q.1) (fun q => absurd q.2 (by omega)))⟩) k7 (by omega)
                                        | exact ih17 M143 t 0 (k1.trans u143.toP.toL) ⟨hP143, rs_p9 k2 k3 u143 v143, k4.q9 u143⟩ k5 (Or.inr ⟨rfl, w143.elim (fun q => absurd q.2 (by omega)) (fun q => q.1), by omega, by omega⟩) k7 (by omega))))
                       · first
                         | (exfalso; omega)
                         | (refine bw_retv rfl rfl ?_
                            first
                            | exact ⟨rfl, rfl, k1, k2, Or.inl ⟨e, k3, k4⟩⟩
                            | (exfalso; omega))
                     · skip
                       refine bw_aload rfl rfl ?_
                       first | refine bw_dup rfl ?_ | refine bw_dupi rfl ?_
                       refine bw_getI rfl rfl ?_
                       refine bw_push rfl ?_
                       refine bw_iadd rfl ⟨by omega, by omega⟩ ?_
                       have i68 := in_of hP53.ok (k := lsP t) (by omega)
                       refine bw_putI rfl rfl ?_
                       generalize hG68 : sI M53 567 9 (gI M53 567 9 + 1) = G68
                       have hR68 : RF r G68 := by rw [← hG68]; exact hR
                       have u68 : s5 pNo q9 M53 G68 := by rw [← hG68]; exact (s5_refl _ _ _).sI7 9 _ rfl
                       have e68 : gI G68 567 9 = lsP t + 1 := by rw [← hG68, gI_sI_eq, v53]
                       have hP68 := hP53.to9 u68 (by omega)
                       have hz68 : rs G68 a n (.inr (sk a n (lsP t + 1))) := ⟨by rw [(s59_11 u68).1]; exact kw, by rw [e68]⟩
                       have H68 := (k4.q9 u53).q9 u68
                       refine bw_aload rfl rfl ?_
                       refine bw_push rfl ?_
                       refine bw_callVi (e := d - 1) (as := [_]) rfl (by omega) rfl rfl (Nat.le_of_ble_eq_true rfl) (Nat.le_of_ble_eq_true rfl) rfl (m_times hR68 hP68 hz68 (by omega)) (fun r73 M73 hM73 => ?_)
                       obtain ⟨u73, v73, w73⟩ := hM73
                       have hR := u73.RF hR68
                       have H73 : LR M73 t := LR.f5 H68 u73 (qP_no (by omega)) (qP_no (by omega)) (qP_no (by omega))
                       have m73 : 1 ≤ r73 ∧ r73 ≤ 96 := by rw [w73]; exact tmS_in (by decide)
                       have hl := ln_cs (a := a) (n := n) (on := on) (s := t) (by omega) (by omega) (by omega)
                       refine bw_istore (ls2 := [_, _, _, _, _]) rfl rfl (Nat.le_of_ble_eq_true rfl) rfl ?_
                       refine bw_aload rfl rfl ?_
                       refine bw_callVj (e := d - 1) (as := []) rfl (by omega) rfl rfl (Nat.le_of_ble_eq_true rfl) (Nat.le_of_ble_eq_true rfl) rfl (m_goesWell hR) (fun r79 hr79 => ?_)
                       refine bw_ifne rfl (fun c82 => ?_) (fun c82 => ?_)
                       · skip
                         refine bw_aload rfl rfl ?_
                         first | refine bw_dup rfl ?_ | refine bw_dupi rfl ?_
                         refine bw_getI rfl rfl ?_
                         rw [show gI M73 567 19 = lsK t from H73.1.2.1]
                         refine bw_push rfl ?_
                         refine bw_isub rfl ⟨by omega, by omega⟩ ?_
                         refine bw_putI rfl rfl ?_
                         refine bw_aload rfl rfl ?_
                         refine bw_aload rfl rfl ?_
                         refine bw_getr rfl rfl (hR _ _) ?_
                         refine bw_aload rfl rfl ?_
                         refine bw_getI rfl rfl ?_
                         rw [gI_sI_eq]
                         refine bw_aldi rfl (by first | rfl | assumption) (by omega) (by omega) ?_
                         rw [gI_sI_ne (show 575 ≠ 567 by decide), (H73.1.2.2 (lsK t - 1) (by omega) (by omega)).1]
                         refine bw_aload rfl rfl ?_
                         refine bw_getr rfl rfl (hR _ _) ?_
                         refine bw_aload rfl rfl ?_
                         refine bw_getI rfl rfl ?_
                         rw [gI_sI_eq]
                         refine bw_aldb rfl (by first | rfl | assumption) (by decide) (by omega) (by omega) ?_
                         rw [gI_sI_ne (show 576 ≠ 567 by decide), (H73.1.2.2 (lsK t - 1) (by omega) (by omega)).2]
                         refine bw_iload rfl rfl ?_
                         refine bw_callVv (e := d - 1) (as := [_, _, _]) rfl (by omega) rfl rfl (Nat.le_of_ble_eq_true rfl) (Nat.le_of_ble_eq_true rfl) rfl (m_closes (h := lsH t) (f := lsF t (lsK t - 1)) (M := sI M73 567 19 (lsK t - 1)) (by exact hR) ⟨by rw [gI_sI_nj (by decide)]; exact H73.1.1.1, H73.1.1.2.1, by rw [gI_sI_ne (by decide), gI_sI_ne (by decide)]; exact H73.1.1.2.2⟩ (by have := (k5.1.2.2.2.1 (lsK t - 1) (by omega) (by omega)).1; omega) m73 (by omega)) (fun M117 hM117 => ?_)
                         refine bw_goto rfl ?_
                         refine bw_forget (ls2 := [some (vr (some 567)), some (vi on), some (vi m), some (vi _), none]) ⟨rfl, rfl, rfl, rfl, trivial⟩ ?_
                         obtain ⟨q, hq⟩ := (rs_0 v73.2).mp (by omega)
                         have hs := cs_step hP.ok k5.1 (by omega) (by omega) hq
                         have u19 : s5 pL qR M73 (sI M73 567 19 (lsK t - 1)) := (s5_refl _ _ _).sI7 19 _ (qRr (by omega))
                         have uu := u19.trans hM117.1.HtoL
                         have hv := v73.2
                         rw [hq] at hv
                         subst w73
                         refine ih M117 (lsM q (hClose (lsH t) (lsF t (lsK t - 1)) (lsW t (lsK t - 1)) (tmS a n 1 (.inr (sk a n (lsP t + 1)))).2) (lsK t - 1) (lsF t) (lsW t) (lsN t) 1) w (((k1.trans u53.toP.toL).trans (u68.toP.trans u73).toL).trans uu) ?_ (Or.inr ⟨?_, ?_, ⟨hs.1, fun _ => ?_⟩, by show w = 1; omega, fun x h => k7 x (isLr_s (hl.trans (cs_g hq)) (by decide) h), ?_⟩) ?_
                         · exact (v73.1.fr5 (p := pL) (q := qR) u19 (pL_no (by decide)) (pL_no (by decide)) (qR_no (by omega)) (by rw [gI_sI_nj (by decide)]; exact v73.1.he)).toH hM117.1
                         · exact rs_H ⟨by rw [gI_sI_nj (by decide)]; exact hv.1, by rw [gI_sI_nj (by decide)]; exact hv.2⟩ hM117.1
                         · refine ⟨⟨hM117.2, ?_, fun j j1 j2 => ?_⟩, ?_⟩
                           · rw [hM117.1.sl 19 (fun k => by have : (19 : Int) = 16 := k; omega), gI_sI_eq]
                           · have j2 : j < lsK t - 1 := j2
                             rw [hM117.1.at 575 (pH_no (by decide)) (by decide), hM117.1.at 576 (pH_no (by decide)) (by decide), gI_sI_ne (by decide), gI_sI_ne (by decide)]
                             exact H73.1.2.2 j j1 (by omega)
                           · rw [hM117.1.sl 20 (fun k => by have : (20 : Int) = 16 := k; omega), gI_sI_nj (by decide)]
                             exact H73.2
                         · have := k5.2 (by omega)
                           have := hs.2.2
                           show 1 ≤ (hClose _ _ _ _).1
                           omega
                         · have := hs.2.1
                           show lsP s < q
                           omega
                         · have := hs.2.1
                           show (n - q).toNat < kf
                           omega
                       · skip
                         refine bw_retv rfl rfl ?_
                         obtain ⟨e, he, h5⟩ := rs_l v73.2 (by omega)
                         exact ⟨rfl, rfl, (k1.trans u53.toP.toL).trans (u68.toP.trans u73).toL, v73.1, Or.inl ⟨e, k7 _ (isLr_f (hl.trans (cs_f he))), h5⟩⟩)
      refine bw_iload rfl rfl ?_
      refine bw_ifeq rfl (fun c18 => ?_) (fun c18 => ?_)
      · skip
        refine bw_retv rfl rfl ?_
        first
        | (rcases g4 with ⟨h1, _⟩ | ⟨_, h2, h3, h4⟩
           · exfalso; omega
           · exact ⟨rfl, rfl, g1, g2.1, Or.inr ⟨s, g5 _ (isLr_d (ln_d h2 h3 h4)), g2.2.1, g2.2.2.1.1, g3.1, g3.2 h4⟩⟩)
        | (exfalso; omega)
      · skip
        refine bw_aload rfl rfl ?_
        refine bw_callVj (e := d - 1) (as := []) rfl (by omega) rfl rfl (Nat.le_of_ble_eq_true rfl) (Nat.le_of_ble_eq_true rfl) rfl (m_goesWell hR) (fun r22 hr22 => ?_)
        refine bw_ifeq rfl (fun c25 => ?_) (fun c25 => ?_)
        · first
          | (exfalso; omega)
          | (refine bw_retv rfl rfl ?_
             first
             | (rcases g4 with ⟨h1, _⟩ | ⟨_, h2, h3, h4⟩
                · exfalso; omega
                · exact ⟨rfl, rfl, g1, g2.1, Or.inr ⟨s, g5 _ (isLr_d (ln_d h2 h3 h4)), g2.2.1, g2.2.2.1.1, g3.1, g3.2 h4⟩⟩)
             | (exfalso; omega))
        · first
          | (exfalso; omega)
          | (refine bw_aload rfl rfl ?_
             refine bw_iload rfl rfl ?_
             refine bw_callVi (e := d - 1) (as := [_]) rfl (by omega) rfl rfl (Nat.le_of_ble_eq_true rfl) (Nat.le_of_ble_eq_true rfl) rfl (m_readsPart hR g2.1 g2.2.1 g2.2.2 ⟨g3.1.2.2.2.2.1, g3.1.2.2.1⟩ ho (by omega)) (fun r30 M30 hM30 => ?_)
             refine bw_istore (ls2 := [_, _, _, _, _]) rfl rfl (Nat.le_of_ble_eq_true rfl) rfl ?_
             refine bw_forget (ls2 := [some (vr (some 567)), some (vi on), some (vi m), some (vi _), none]) ⟨rfl, rfl, rfl, rfl, trivial⟩ ?_
             obtain ⟨u30, x30, hP30, a30, b30⟩ := hM30
             have hl := ln_pt (on := on) (g4.elim (fun k => k.2) (fun k => by have := k.1; omega))
             rcases hx : ptS a n on s with e | ⟨t, w⟩
             · exact L34 ((n - lsP s).toNat + 1) _ s _ (g1.trans u30) hP30 (Or.inl ⟨e, g5 _ (isLr_f (hl.trans hx)), a30 e hx⟩) (by omega)
             · obtain ⟨c1, c2, c3⟩ := b30 t w hx
               obtain ⟨d1, d2, d3, d4⟩ := pt_step hP30.ok ho g3.1 hx
               have dB := d1.2.2.2.2.2
               exact L34 ((n - lsP t).toNat + 1) _ t _ (g1.trans u30) hP30 (Or.inr ⟨c1, c2, ⟨d1, d4⟩, c3.trans d3, fun x h => g5 x (isLr_s (hl.trans hx) (by omega) h), d2⟩) (by omega))
  show abW d (0, 0) 174 0 [some (vr (some 567)), some (vi on), none, none, none] [] (0, 0) (A0 L) M (qV (A0 L) (fun N => s5 pL qR M N ∧ PS N a n ∧ lnE a n on (ls0 p) N))
  refine bw_aload rfl rfl ?_
  refine bw_push rfl ?_
  refine bw_putI rfl rfl ?_
  refine bw_aload rfl rfl ?_
  refine bw_push rfl ?_
  refine bw_putI rfl rfl ?_
  refine bw_aload rfl rfl ?_
  refine bw_push rfl ?_
  refine bw_putI rfl rfl ?_
  refine bw_push rfl ?_
  refine bw_istore (ls2 := [_, _, _, _, _]) rfl rfl (Nat.le_of_ble_eq_true rfl) rfl ?_
  refine L17 ((n - p).toNat + 1) _ (ls0 p) 1 ((((s5_refl _ _ _).sI7 16 0 (qRr (by omega))).sI7 19 0 (qRr (by omega))).sI7 20 0 (qRr (by omega))) ⟨?_, ⟨?_, ?_⟩, ?_⟩ ⟨ls0_LV hp0, fun k => by have : (0 : Int) = 1 := k; omega⟩ (Or.inl ⟨rfl, Or.inr ⟨fun k => by have : (0 : Int) < 0 := k.2.1; omega, fun k => by have : (0 : Int) = 1 := k.2; omega⟩⟩) (fun x h => h) (by show (n - p).toNat < _; omega)
  · exact hP.fr5 (p := pL) (q := qR) ((((s5_refl _ _ _).sI7 16 0 (qRr (by omega))).sI7 19 0 (qRr (by omega))).sI7 20 0 (qRr (by omega))) (pL_no (by decide)) (pL_no (by decide)) (qR_no (by omega)) (by rw [gI_sI_nj (by decide), gI_sI_nj (by decide), gI_sI_nj (by decide)]; exact hP.he)
  · rw [gI_sI_nj (by decide), gI_sI_nj (by decide), gI_sI_nj (by decide)]; exact hz.1
  · rw [gI_sI_nj (by decide), gI_sI_nj (by decide), gI_sI_nj (by decide)]; exact hz.2
  · refine ⟨⟨⟨?_, Int.le_refl _, fun j h1 h2 => by have h2 : j < 0 := h2; omega⟩, ?_, fun j h1 h2 => by have h2 : j < 0 := h2; omega⟩, ?_⟩
    · rw [gI_sI_nj (by decide), gI_sI_nj (by decide), gI_sI_eq]; rfl
    · rw [gI_sI_nj (by decide), gI_sI_eq]; rfl
    · rw [gI_sI_eq]; rfl
