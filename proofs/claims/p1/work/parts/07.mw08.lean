def P_M_expressions_6 (post : Int32 → MS → Prop) : Nat → Int32 → Int32 → MS → Prop
  | 0, _, _, _ => False
  | f + 1, x1, x2, u => ((x2 = 0 → (narrow .boolean (.int x2) = .int x2 ∧ post x2 u)) ∧ (¬ x2 = 0 → (qAt u (gI u 9) ∧ ((¬ (vAt u (gI u 9)) = 44 → (narrow .boolean (.int x2) = .int x2 ∧ post x2 u)) ∧ ((vAt u (gI u 9)) = 44 → (vp_in (gI u 10) 600 ∧ P_M_expression (fun r4 u3 => P_M_expressions_6 post f x1 r4 u3) x1 (sI (mPut u (44 : Int32)) 9 ((gI (mPut u (44 : Int32)) 9) + (1 : Int32)))))))))
set_option maxHeartbeats 600000 in
set_option maxRecDepth 100000 in
theorem w_M_expressions_6 (l : Launch) (D : va_G) (cs : Nat → ClassId) (Ev : (Nat → Prop) → State → Prop) (hE : xEok Ev) (o : Nat) (a : Nat → Nat) (d : Nat) (post : Int32 → MS → Prop) : ∀ (f : Nat) (x1 : Int32) (x2 : Int32) (u : MS), P_M_expressions_6 post  f x1 x2 u → RR l D clX (tysX cs) Ev "DeckFrontModel" b_M_expressions 3 w_M_expressions (rmD (d + 5)) (some .boolean) (wdM o a cs) (pI post) 0 0 0 0 6 [(0, .ref o), (1, .int x1), (2, .int x2)] [] u := by
  intro f
  induction f with
  | zero => intro x1 x2 u h; exact h.elim
  | succ f ih =>
    intro x1 x2 u h
    unfold P_M_expressions_6 at h
    refine x_iload_n (x := x2) d_M_expressions_6 rfl ?_
    refine x_if_eq (tgt := 48) d_M_expressions_7 rfl (fun hc => ?_) (fun hc => ?_)
    · have h := h.1 hc
      refine x_iload_n (x := x2) d_M_expressions_48 rfl ?_
      refine x_zret h.1 d_M_expressions_49 ⟨_, rfl, ?_⟩
      exact h.2
    · have h := h.2 hc
      refine x_aload_n (x := o) d_M_expressions_10 rfl ?_
      refine x_aload_n (x := o) d_M_expressions_11 rfl ?_
      refine x_get (v := .int (gI u 9)) f_M_126 (eM_o _ _ _ _) rfl d_M_expressions_12 ?_
      refine x_callV (st := []) k_M_129 rfl (eM_o _ _ _ _) x_id (cf_M_at l D cs Ev hE o a (d + 4) (gI u 9) u h.1) hE (rmD_ok (by omega) (by decide)) rfl (Nat.le_of_ble_eq_true rfl) rfl d_M_expressions_15 (x_rI (fun x u1 h9 => ?_))
      obtain ⟨rfl, rfl⟩ := h9
      have h := h.2
      refine x_bipush (v := 44) d_M_expressions_18 (by decide) ?_
      refine x_icmp_ne (tgt := 48) d_M_expressions_20 rfl (fun hc => ?_) (fun hc => ?_)
      · have h := h.1 hc
        refine x_iload_n (x := x2) d_M_expressions_48 rfl ?_
        refine x_zret h.1 d_M_expressions_49 ⟨_, rfl, ?_⟩
        exact h.2
      · have h := h.2 hc
        refine x_aload_n (x := o) d_M_expressions_23 rfl ?_
        refine x_bipush (v := 44) d_M_expressions_24 (by decide) ?_
        refine x_callV (st := []) k_M_122 rfl (eM_o _ _ _ _) x_id (cf_M_put l D cs Ev hE o a (d + 4) (44 : Int32) u h.1) hE (rmD_ok (by omega) (by decide)) rfl (Nat.le_of_ble_eq_true rfl) rfl d_M_expressions_26 (x_rV (fun u1 h9 => ?_))
        subst h9
        have h := h.2
        refine x_aload_n (x := o) d_M_expressions_29 rfl ?_
        refine x_dup d_M_expressions_30 rfl ?_
        refine x_get (v := .int (gI (mPut u (44 : Int32)) 9)) f_M_126 (eM_o _ _ _ _) rfl d_M_expressions_31 ?_
        refine x_iconst (v := 1) d_M_expressions_34 (by decide) ?_
        refine x_iadd d_M_expressions_35 ?_
        refine x_put f_M_126 fw_M_9 (eM_o _ _ _ _) rfl rfl (Nat.le_of_ble_eq_true rfl) (sM_9 _ _ _ _ _) d_M_expressions_36 ?_
        refine x_aload_n (x := o) d_M_expressions_39 rfl ?_
        refine x_iload_n (x := x1) d_M_expressions_40 rfl ?_
        refine x_callV (st := []) k_M_219 rfl (eM_o _ _ _ _) x_id (c_M_expression l D cs Ev hE o a (d + 0) _ x1 (sI (mPut u (44 : Int32)) 9 ((gI (mPut u (44 : Int32)) 9) + (1 : Int32))) h) hE (rmD_ok (by omega) (by decide)) rfl (Nat.le_of_ble_eq_true rfl) rfl d_M_expressions_41 (x_rI (fun r4 u3 h => ?_))
        refine x_istore_n (lv' := [(2, .int r4), (0, .ref o), (1, .int x1)]) d_M_expressions_44 (by decide) rfl ?_
        refine x_goto (tgt := 6) d_M_expressions_45 rfl ?_
        refine x_sub [1, 2, 0] rfl ?_
        exact ih x1 r4 u3 h
def P_M_expressions (post : Int32 → MS → Prop) (a0 : Int32) (u : MS) : Prop := P_M_expression (fun r2 u1 => (∃ g, P_M_expressions_6 post g a0 r2 u1)) a0 u
set_option maxHeartbeats 600000 in
set_option maxRecDepth 100000 in
theorem c_M_expressions (l : Launch) (D : va_G) (cs : Nat → ClassId) (Ev : (Nat → Prop) → State → Prop) (hE : xEok Ev) (o : Nat) (a : Nat → Nat) (d : Nat) (post : Int32 → MS → Prop) (a0 : Int32) (u : MS) (h : P_M_expressions post a0 u) : xC l D clX (tysX cs) Ev y_M_expressions w_M_expressions (rmD (d + 5)) (wdM o a cs) [.ref o, .int a0] u (pI post) 0 0 := by
  unfold P_M_expressions at h
  refine xC.of (cc := b_M_expressions) (nL := 3) (ret := (some .boolean)) (by decide) rfl (Nat.le_of_ble_eq_true rfl) ?_
  show RR l D clX (tysX cs) Ev "DeckFrontModel" b_M_expressions 3 w_M_expressions (rmD (d + 5)) (some .boolean) (wdM o a cs) (pI post) 0 0 0 0 0 [(0, .ref o), (1, .int a0)] [] u
  refine x_aload_n (x := o) d_M_expressions_0 rfl ?_
  refine x_iload_n (x := a0) d_M_expressions_1 rfl ?_
  refine x_callV (st := []) k_M_219 rfl (eM_o _ _ _ _) x_id (c_M_expression l D cs Ev hE o a (d + 0) _ a0 u h) hE (rmD_ok (by omega) (by decide)) rfl (Nat.le_of_ble_eq_true rfl) rfl d_M_expressions_2 (x_rI (fun r2 u1 h => ?_))
  refine x_istore_n (lv' := [(2, .int r2), (0, .ref o), (1, .int a0)]) d_M_expressions_5 (by decide) rfl ?_
  refine x_sub [1, 2, 0] rfl ?_
  obtain ⟨f9, h⟩ := h
  exact w_M_expressions_6 l D cs Ev hE o a d post  f9 a0 r2 u1 h
def P_M_nameWithList_37 (post : Int32 → MS → Prop) (x4 : Int32) (s0 : Int32) (u : MS) : Prop := P_M_name (fun r4 u3 => ((¬ r4 = 0 → ((x4 = 0 → post 1 u3) ∧ (¬ x4 = 0 → P_M_sign (fun r6 u5 => ((r6 = 0 → post 0 u5) ∧ (¬ r6 = 0 → P_M_expressions (fun r8 u7 => ((r8 = 0 → post 0 u7) ∧ (¬ r8 = 0 → P_M_sign (fun r10 u9 => ((r10 = 0 → post 0 u9) ∧ (¬ r10 = 0 → post 1 u9))) (41 : Int32) u7))) (1 : Int32) u5))) (40 : Int32) u3))) ∧ (r4 = 0 → post 0 u3))) s0 (0 : Int32) u
set_option maxHeartbeats 600000 in
set_option maxRecDepth 100000 in
theorem w_M_nameWithList_37 (l : Launch) (D : va_G) (cs : Nat → ClassId) (Ev : (Nat → Prop) → State → Prop) (hE : xEok Ev) (o : Nat) (a : Nat → Nat) (d : Nat) (post : Int32 → MS → Prop) (x4 : Int32) (s0 : Int32) (u : MS) (h : P_M_nameWithList_37 post  x4 s0 u) : RR l D clX (tysX cs) Ev "DeckFrontModel" b_M_nameWithList 5 w_M_nameWithList (rmD (d + 6)) (some .boolean) (wdM o a cs) (pI post) 0 0 0 0 37 [(0, .ref o), (4, .int x4)] [.int s0, .ref o] u := by
  unfold P_M_nameWithList_37 at h
  refine x_iconst (v := 0) d_M_nameWithList_37 (by decide) ?_
  refine x_callV (st := []) k_M_222 rfl (eM_o _ _ _ _) x_id (c_M_name l D cs Ev hE o a (d + 3) _ s0 (0 : Int32) u h) hE (rmD_ok (by omega) (by decide)) rfl (Nat.le_of_ble_eq_true rfl) rfl d_M_nameWithList_38 (x_rI (fun r4 u3 h => ?_))
  refine x_if_ne (tgt := 46) d_M_nameWithList_41 rfl (fun hc => ?_) (fun hc => ?_)
  · have h := h.1 hc
    refine x_iload (x := x4) d_M_nameWithList_46 rfl ?_
    refine x_if_eq (tgt := 77) d_M_nameWithList_48 rfl (fun hc => ?_) (fun hc => ?_)
    · have h := h.1 hc
      refine x_iconst (v := 1) d_M_nameWithList_77 (by decide) ?_
      refine x_goto (tgt := 82) d_M_nameWithList_78 rfl ?_
      refine x_zret rfl d_M_nameWithList_82 ⟨_, rfl, ?_⟩
      exact h
    · have h := h.2 hc
      refine x_aload_n (x := o) d_M_nameWithList_51 rfl ?_
      refine x_bipush (v := 40) d_M_nameWithList_52 (by decide) ?_
      refine x_callV (st := []) k_M_226 rfl (eM_o _ _ _ _) x_id (c_M_sign l D cs Ev hE o a (d + 4) _ (40 : Int32) u3 h) hE (rmD_ok (by omega) (by decide)) rfl (Nat.le_of_ble_eq_true rfl) rfl d_M_nameWithList_54 (x_rI (fun r6 u5 h => ?_))
      refine x_if_eq (tgt := 81) d_M_nameWithList_57 rfl (fun hc => ?_) (fun hc => ?_)
      · have h := h.1 hc
        refine x_iconst (v := 0) d_M_nameWithList_81 (by decide) ?_
        refine x_zret rfl d_M_nameWithList_82 ⟨_, rfl, ?_⟩
        exact h
      · have h := h.2 hc
        refine x_aload_n (x := o) d_M_nameWithList_60 rfl ?_
        refine x_iconst (v := 1) d_M_nameWithList_61 (by decide) ?_
        refine x_callV (st := []) k_M_229 rfl (eM_o _ _ _ _) x_id (c_M_expressions l D cs Ev hE o a (d + 0) _ (1 : Int32) u5 h) hE (rmD_ok (by omega) (by decide)) rfl (Nat.le_of_ble_eq_true rfl) rfl d_M_nameWithList_62 (x_rI (fun r8 u7 h => ?_))
        refine x_if_eq (tgt := 81) d_M_nameWithList_65 rfl (fun hc => ?_) (fun hc => ?_)
        · have h := h.1 hc
          refine x_iconst (v := 0) d_M_nameWithList_81 (by decide) ?_
          refine x_zret rfl d_M_nameWithList_82 ⟨_, rfl, ?_⟩
          exact h
        · have h := h.2 hc
          refine x_aload_n (x := o) d_M_nameWithList_68 rfl ?_
          refine x_bipush (v := 41) d_M_nameWithList_69 (by decide) ?_
          refine x_callV (st := []) k_M_226 rfl (eM_o _ _ _ _) x_id (c_M_sign l D cs Ev hE o a (d + 4) _ (41 : Int32) u7 h) hE (rmD_ok (by omega) (by decide)) rfl (Nat.le_of_ble_eq_true rfl) rfl d_M_nameWithList_71 (x_rI (fun r10 u9 h => ?_))
          refine x_if_eq (tgt := 81) d_M_nameWithList_74 rfl (fun hc => ?_) (fun hc => ?_)
          · have h := h.1 hc
            refine x_iconst (v := 0) d_M_nameWithList_81 (by decide) ?_
            refine x_zret rfl d_M_nameWithList_82 ⟨_, rfl, ?_⟩
            exact h
          · have h := h.2 hc
            refine x_iconst (v := 1) d_M_nameWithList_77 (by decide) ?_
            refine x_goto (tgt := 82) d_M_nameWithList_78 rfl ?_
            refine x_zret rfl d_M_nameWithList_82 ⟨_, rfl, ?_⟩
            exact h
  · have h := h.2 hc
    refine x_iconst (v := 0) d_M_nameWithList_44 (by decide) ?_
    refine x_zret rfl d_M_nameWithList_45 ⟨_, rfl, ?_⟩
    exact h
def P_M_nameWithList_24 (post : Int32 → MS → Prop) (x1 : Int32) (x2 : Int32) (s0 : Int32) (u : MS) : Prop := ((s0 = 0 → P_M_nameWithList_37 post s0 x1 u) ∧ (¬ s0 = 0 → P_M_nameWithList_37 post s0 x2 u))
set_option maxHeartbeats 600000 in
set_option maxRecDepth 100000 in
theorem w_M_nameWithList_24 (l : Launch) (D : va_G) (cs : Nat → ClassId) (Ev : (Nat → Prop) → State → Prop) (hE : xEok Ev) (o : Nat) (a : Nat → Nat) (d : Nat) (post : Int32 → MS → Prop) (x1 : Int32) (x2 : Int32) (s0 : Int32) (u : MS) (h : P_M_nameWithList_24 post  x1 x2 s0 u) : RR l D clX (tysX cs) Ev "DeckFrontModel" b_M_nameWithList 5 w_M_nameWithList (rmD (d + 6)) (some .boolean) (wdM o a cs) (pI post) 0 0 0 0 24 [(0, .ref o), (1, .int x1), (2, .int x2)] [.int s0] u := by
  unfold P_M_nameWithList_24 at h
  refine x_istore (lv' := [(4, .int s0), (0, .ref o), (1, .int x1), (2, .int x2)]) d_M_nameWithList_24 (by decide) rfl ?_
  refine x_aload_n (x := o) d_M_nameWithList_26 rfl ?_
  refine x_iload (x := s0) d_M_nameWithList_27 rfl ?_
  refine x_if_eq (tgt := 36) d_M_nameWithList_29 rfl (fun hc => ?_) (fun hc => ?_)
  · have h := h.1 hc
    refine x_iload_n (x := x1) d_M_nameWithList_36 rfl ?_
    refine x_sub [1, 0] rfl ?_
    exact w_M_nameWithList_37 l D cs Ev hE o a d post  s0 x1 u h
  · have h := h.2 hc
    refine x_iload_n (x := x2) d_M_nameWithList_32 rfl ?_
    refine x_goto (tgt := 37) d_M_nameWithList_33 rfl ?_
    refine x_sub [1, 0] rfl ?_
    exact w_M_nameWithList_37 l D cs Ev hE o a d post  s0 x2 u h
def P_M_nameWithList (post : Int32 → MS → Prop) (a0 : Int32) (a1 : Int32) (u : MS) : Prop := P_M_nameEnd (fun r2 u1 => (qAt u1 r2 ∧ ((¬ (vAt u1 r2) = 40 → P_M_nameWithList_24 post a0 a1 0 u1) ∧ ((vAt u1 r2) = 40 → P_M_nameWithList_24 post a0 a1 1 u1)))) (gI u 9) u
set_option maxHeartbeats 600000 in
set_option maxRecDepth 100000 in
theorem c_M_nameWithList (l : Launch) (D : va_G) (cs : Nat → ClassId) (Ev : (Nat → Prop) → State → Prop) (hE : xEok Ev) (o : Nat) (a : Nat → Nat) (d : Nat) (post : Int32 → MS → Prop) (a0 : Int32) (a1 : Int32) (u : MS) (h : P_M_nameWithList post a0 a1 u) : xC l D clX (tysX cs) Ev y_M_nameWithList w_M_nameWithList (rmD (d + 6)) (wdM o a cs) [.ref o, .int a0, .int a1] u (pI post) 0 0 := by
  unfold P_M_nameWithList at h
  refine xC.of (cc := b_M_nameWithList) (nL := 5) (ret := (some .boolean)) (by decide) rfl (Nat.le_of_ble_eq_true rfl) ?_
  show RR l D clX (tysX cs) Ev "DeckFrontModel" b_M_nameWithList 5 w_M_nameWithList (rmD (d + 6)) (some .boolean) (wdM o a cs) (pI post) 0 0 0 0 0 [(0, .ref o), (1, .int a0), (2, .int a1)] [] u
  refine x_aload_n (x := o) d_M_nameWithList_0 rfl ?_
  refine x_aload_n (x := o) d_M_nameWithList_1 rfl ?_
  refine x_get (v := .int (gI u 9)) f_M_126 (eM_o _ _ _ _) rfl d_M_nameWithList_2 ?_
  refine x_callV (st := []) k_M_141 rfl (eM_o _ _ _ _) x_id (c_M_nameEnd l D cs Ev hE o a (d + 4) _ (gI u 9) u h) hE (rmD_ok (by omega) (by decide)) rfl (Nat.le_of_ble_eq_true rfl) rfl d_M_nameWithList_5 (x_rI (fun r2 u1 h => ?_))
  refine x_istore_n (lv' := [(3, .int r2), (0, .ref o), (1, .int a0), (2, .int a1)]) d_M_nameWithList_8 (by decide) rfl ?_
  refine x_aload_n (x := o) d_M_nameWithList_9 rfl ?_
  refine x_iload_n (x := r2) d_M_nameWithList_10 rfl ?_
  refine x_callV (st := []) k_M_129 rfl (eM_o _ _ _ _) x_id (cf_M_at l D cs Ev hE o a (d + 5) r2 u1 h.1) hE (rmD_ok (by omega) (by decide)) rfl (Nat.le_of_ble_eq_true rfl) rfl d_M_nameWithList_11 (x_rI (fun x u1 h9 => ?_))
  obtain ⟨rfl, rfl⟩ := h9
  have h := h.2
  refine x_bipush (v := 40) d_M_nameWithList_14 (by decide) ?_
  refine x_icmp_ne (tgt := 23) d_M_nameWithList_16 rfl (fun hc => ?_) (fun hc => ?_)
  · have h := h.1 hc
    refine x_iconst (v := 0) d_M_nameWithList_23 (by decide) ?_
    refine x_sub [1, 2, 3] rfl ?_
    exact w_M_nameWithList_24 l D cs Ev hE o a d post  a0 a1 0 u1 h
  · have h := h.2 hc
    refine x_iconst (v := 1) d_M_nameWithList_19 (by decide) ?_
    refine x_goto (tgt := 24) d_M_nameWithList_20 rfl ?_
    refine x_sub [1, 2, 3] rfl ?_
    exact w_M_nameWithList_24 l D cs Ev hE o a d post  a0 a1 1 u1 h
def P_M_isDo_111 (post : Int32 → MS → Prop) (u : MS) : Prop := ((¬ (gI u 9) = (gI u 8) → post 0 u) ∧ ((gI u 9) = (gI u 8) → post 1 u))
set_option maxHeartbeats 600000 in
set_option maxRecDepth 100000 in
theorem w_M_isDo_111 (l : Launch) (D : va_G) (cs : Nat → ClassId) (Ev : (Nat → Prop) → State → Prop) (hE : xEok Ev) (o : Nat) (a : Nat → Nat) (d : Nat) (post : Int32 → MS → Prop) (u : MS) (h : P_M_isDo_111 post   u) : RR l D clX (tysX cs) Ev "DeckFrontModel" b_M_isDo 2 w_M_isDo (rmD (d + 5)) (some .boolean) (wdM o a cs) (pI post) 0 0 0 0 111 [(0, .ref o)] [] u := by
  unfold P_M_isDo_111 at h
  refine x_aload_n (x := o) d_M_isDo_111 rfl ?_
  refine x_get (v := .int (gI u 9)) f_M_126 (eM_o _ _ _ _) rfl d_M_isDo_112 ?_
  refine x_aload_n (x := o) d_M_isDo_115 rfl ?_
  refine x_get (v := .int (gI u 8)) f_M_116 (eM_o _ _ _ _) rfl d_M_isDo_116 ?_
  refine x_icmp_ne (tgt := 126) d_M_isDo_119 rfl (fun hc => ?_) (fun hc => ?_)
  · have h := h.1 hc
    refine x_iconst (v := 0) d_M_isDo_126 (by decide) ?_
    refine x_zret rfl d_M_isDo_127 ⟨_, rfl, ?_⟩
    exact h
  · have h := h.2 hc
    refine x_iconst (v := 1) d_M_isDo_122 (by decide) ?_
    refine x_goto (tgt := 127) d_M_isDo_123 rfl ?_
    refine x_zret rfl d_M_isDo_127 ⟨_, rfl, ?_⟩
    exact h
def P_M_isDo (post : Int32 → MS → Prop) (u : MS) : Prop := P_M_word (fun r2 u1 => ((¬ r2 = 0 → P_M_digits (fun r4 u3 => P_M_comma (fun u5 => (vp_in (0 : Int32) 90 ∧ ((r4 < 0 → post 0 (sI (sA u5 17 (0 : Int32).toNatClampNeg r4) 16 (1 : Int32))) ∧ (¬ r4 < 0 → P_M_name (fun r7 u6 => ((r7 = 0 → post 0 u6) ∧ (¬ r7 = 0 → P_M_sign (fun r9 u8 => ((r9 = 0 → post 0 u8) ∧ (¬ r9 = 0 → P_M_expression (fun r11 u10 => ((r11 = 0 → post 0 u10) ∧ (¬ r11 = 0 → P_M_sign (fun r13 u12 => ((r13 = 0 → post 0 u12) ∧ (¬ r13 = 0 → P_M_expression (fun r15 u14 => ((r15 = 0 → post 0 u14) ∧ (¬ r15 = 0 → (qAt u14 (gI u14 9) ∧ ((¬ (vAt u14 (gI u14 9)) = 44 → P_M_isDo_111 post u14) ∧ ((vAt u14 (gI u14 9)) = 44 → P_M_sign (fun r17 u16 => ((r17 = 0 → post 0 u16) ∧ (¬ r17 = 0 → P_M_expression (fun r19 u18 => ((r19 = 0 → post 0 u18) ∧ (¬ r19 = 0 → P_M_isDo_111 post u18))) (0 : Int32) u16))) (44 : Int32) u14)))))) (0 : Int32) u12))) (44 : Int32) u10))) (0 : Int32) u8))) (61 : Int32) u6))) (4 : Int32) (0 : Int32) (sI (sA u5 17 (0 : Int32).toNatClampNeg r4) 16 (1 : Int32)))))) u3) (5 : Int32) u1) ∧ (r2 = 0 → post 0 u1))) (17487 : Int64) u
set_option maxHeartbeats 600000 in
set_option maxRecDepth 100000 in
theorem c_M_isDo (l : Launch) (D : va_G) (cs : Nat → ClassId) (Ev : (Nat → Prop) → State → Prop) (hE : xEok Ev) (o : Nat) (a : Nat → Nat) (d : Nat) (post : Int32 → MS → Prop) (u : MS) (h : P_M_isDo post  u) : xC l D clX (tysX cs) Ev y_M_isDo w_M_isDo (rmD (d + 5)) (wdM o a cs) [.ref o] u (pI post) 0 0 := by
  unfold P_M_isDo at h
  refine xC.of (cc := b_M_isDo) (nL := 2) (ret := (some .boolean)) (by decide) rfl (Nat.le_of_ble_eq_true rfl) ?_
  show RR l D clX (tysX cs) Ev "DeckFrontModel" b_M_isDo 2 w_M_isDo (rmD (d + 5)) (some .boolean) (wdM o a cs) (pI post) 0 0 0 0 0 [(0, .ref o)] [] u
  refine x_aload_n (x := o) d_M_isDo_0 rfl ?_
  refine x_ldc2 (v := 17487) (cG tw_1026) d_M_isDo_1 ?_
  refine x_callV (st := []) k_M_234 rfl (eM_o _ _ _ _) x_id (c_M_word l D cs Ev hE o a (d + 2) _ (17487 : Int64) u h) hE (rmD_ok (by omega) (by decide)) rfl (Nat.le_of_ble_eq_true rfl) rfl d_M_isDo_4 (x_rI (fun r2 u1 h => ?_))
  refine x_if_ne (tgt := 12) d_M_isDo_7 rfl (fun hc => ?_) (fun hc => ?_)
  · have h := h.1 hc
    refine x_aload_n (x := o) d_M_isDo_12 rfl ?_
    refine x_iconst (v := 5) d_M_isDo_13 (by decide) ?_
    refine x_callV (st := []) k_M_238 rfl (eM_o _ _ _ _) x_id (c_M_digits l D cs Ev hE o a (d + 3) _ (5 : Int32) u1 h) hE (rmD_ok (by omega) (by decide)) rfl (Nat.le_of_ble_eq_true rfl) rfl d_M_isDo_14 (x_rI (fun r4 u3 h => ?_))
    refine x_istore_n (lv' := [(1, .int r4), (0, .ref o)]) d_M_isDo_17 (by decide) rfl ?_
    refine x_aload_n (x := o) d_M_isDo_18 rfl ?_
    refine x_callV (st := []) k_M_241 rfl (eM_o _ _ _ _) x_id (c_M_comma l D cs Ev hE o a (d + 3) _ u3 h) hE (rmD_ok (by omega) (by decide)) rfl (Nat.le_of_ble_eq_true rfl) rfl d_M_isDo_19 (x_rV (fun u5 h => ?_))
    refine x_aload_n (x := o) d_M_isDo_22 rfl ?_
    refine x_get (v := .ref (a 17)) f_M_36 (eM_o _ _ _ _) rfl d_M_isDo_23 ?_
    refine x_iconst (v := 0) d_M_isDo_26 (by decide) ?_
    refine x_iload_n (x := r4) d_M_isDo_27 rfl ?_
    refine x_iast (t0 := 0) (eM_17 _ _ _ _) rfl h.1 (sM_17 _ _ _ _ _ _) d_M_isDo_28 ?_
    have h := h.2
    refine x_aload_n (x := o) d_M_isDo_29 rfl ?_
    refine x_iconst (v := 1) d_M_isDo_30 (by decide) ?_
    refine x_put f_M_244 fw_M_16 (eM_o _ _ _ _) rfl rfl (Nat.le_of_ble_eq_true rfl) (sM_16 _ _ _ _ _) d_M_isDo_31 ?_
    refine x_iload_n (x := r4) d_M_isDo_34 rfl ?_
    refine x_if_lt (tgt := 126) d_M_isDo_35 rfl (fun hc => ?_) (fun hc => ?_)
    · have h := h.1 hc
      refine x_iconst (v := 0) d_M_isDo_126 (by decide) ?_
      refine x_zret rfl d_M_isDo_127 ⟨_, rfl, ?_⟩
      exact h
    · have h := h.2 hc
      refine x_aload_n (x := o) d_M_isDo_38 rfl ?_
      refine x_iconst (v := 4) d_M_isDo_39 (by decide) ?_
      refine x_iconst (v := 0) d_M_isDo_40 (by decide) ?_
      refine x_callV (st := []) k_M_222 rfl (eM_o _ _ _ _) x_id (c_M_name l D cs Ev hE o a (d + 2) _ (4 : Int32) (0 : Int32) (sI (sA u5 17 (0 : Int32).toNatClampNeg r4) 16 (1 : Int32)) h) hE (rmD_ok (by omega) (by decide)) rfl (Nat.le_of_ble_eq_true rfl) rfl d_M_isDo_41 (x_rI (fun r7 u6 h => ?_))
      refine x_if_eq (tgt := 126) d_M_isDo_44 rfl (fun hc => ?_) (fun hc => ?_)
      · have h := h.1 hc
        refine x_iconst (v := 0) d_M_isDo_126 (by decide) ?_
        refine x_zret rfl d_M_isDo_127 ⟨_, rfl, ?_⟩
        exact h
      · have h := h.2 hc
        refine x_aload_n (x := o) d_M_isDo_47 rfl ?_
        refine x_bipush (v := 61) d_M_isDo_48 (by decide) ?_
        refine x_callV (st := []) k_M_226 rfl (eM_o _ _ _ _) x_id (c_M_sign l D cs Ev hE o a (d + 3) _ (61 : Int32) u6 h) hE (rmD_ok (by omega) (by decide)) rfl (Nat.le_of_ble_eq_true rfl) rfl d_M_isDo_50 (x_rI (fun r9 u8 h => ?_))
        refine x_if_eq (tgt := 126) d_M_isDo_53 rfl (fun hc => ?_) (fun hc => ?_)
        · have h := h.1 hc
          refine x_iconst (v := 0) d_M_isDo_126 (by decide) ?_
          refine x_zret rfl d_M_isDo_127 ⟨_, rfl, ?_⟩
          exact h
        · have h := h.2 hc
          refine x_aload_n (x := o) d_M_isDo_56 rfl ?_
          refine x_iconst (v := 0) d_M_isDo_57 (by decide) ?_
          refine x_callV (st := []) k_M_219 rfl (eM_o _ _ _ _) x_id (c_M_expression l D cs Ev hE o a (d + 0) _ (0 : Int32) u8 h) hE (rmD_ok (by omega) (by decide)) rfl (Nat.le_of_ble_eq_true rfl) rfl d_M_isDo_58 (x_rI (fun r11 u10 h => ?_))
          refine x_if_eq (tgt := 126) d_M_isDo_61 rfl (fun hc => ?_) (fun hc => ?_)
          · have h := h.1 hc
            refine x_iconst (v := 0) d_M_isDo_126 (by decide) ?_
            refine x_zret rfl d_M_isDo_127 ⟨_, rfl, ?_⟩
            exact h
          · have h := h.2 hc
            refine x_aload_n (x := o) d_M_isDo_64 rfl ?_
            refine x_bipush (v := 44) d_M_isDo_65 (by decide) ?_
            refine x_callV (st := []) k_M_226 rfl (eM_o _ _ _ _) x_id (c_M_sign l D cs Ev hE o a (d + 3) _ (44 : Int32) u10 h) hE (rmD_ok (by omega) (by decide)) rfl (Nat.le_of_ble_eq_true rfl) rfl d_M_isDo_67 (x_rI (fun r13 u12 h => ?_))
            refine x_if_eq (tgt := 126) d_M_isDo_70 rfl (fun hc => ?_) (fun hc => ?_)
            · have h := h.1 hc
              refine x_iconst (v := 0) d_M_isDo_126 (by decide) ?_
              refine x_zret rfl d_M_isDo_127 ⟨_, rfl, ?_⟩
              exact h
            · have h := h.2 hc
              refine x_aload_n (x := o) d_M_isDo_73 rfl ?_
              refine x_iconst (v := 0) d_M_isDo_74 (by decide) ?_
              refine x_callV (st := []) k_M_219 rfl (eM_o _ _ _ _) x_id (c_M_expression l D cs Ev hE o a (d + 0) _ (0 : Int32) u12 h) hE (rmD_ok (by omega) (by decide)) rfl (Nat.le_of_ble_eq_true rfl) rfl d_M_isDo_75 (x_rI (fun r15 u14 h => ?_))
              refine x_if_eq (tgt := 126) d_M_isDo_78 rfl (fun hc => ?_) (fun hc => ?_)
              · have h := h.1 hc
                refine x_iconst (v := 0) d_M_isDo_126 (by decide) ?_
                refine x_zret rfl d_M_isDo_127 ⟨_, rfl, ?_⟩
                exact h
              · have h := h.2 hc
                refine x_aload_n (x := o) d_M_isDo_81 rfl ?_
                refine x_aload_n (x := o) d_M_isDo_82 rfl ?_
                refine x_get (v := .int (gI u14 9)) f_M_126 (eM_o _ _ _ _) rfl d_M_isDo_83 ?_
                refine x_callV (st := []) k_M_129 rfl (eM_o _ _ _ _) x_id (cf_M_at l D cs Ev hE o a (d + 4) (gI u14 9) u14 h.1) hE (rmD_ok (by omega) (by decide)) rfl (Nat.le_of_ble_eq_true rfl) rfl d_M_isDo_86 (x_rI (fun x u1 h9 => ?_))
                obtain ⟨rfl, rfl⟩ := h9
                have h := h.2
                refine x_bipush (v := 44) d_M_isDo_89 (by decide) ?_
                refine x_icmp_ne (tgt := 111) d_M_isDo_91 rfl (fun hc => ?_) (fun hc => ?_)
                · have h := h.1 hc
                  refine x_sub [1] rfl ?_
                  exact w_M_isDo_111 l D cs Ev hE o a d post  u14 h
                · have h := h.2 hc
                  refine x_aload_n (x := o) d_M_isDo_94 rfl ?_
                  refine x_bipush (v := 44) d_M_isDo_95 (by decide) ?_
                  refine x_callV (st := []) k_M_226 rfl (eM_o _ _ _ _) x_id (c_M_sign l D cs Ev hE o a (d + 3) _ (44 : Int32) u14 h) hE (rmD_ok (by omega) (by decide)) rfl (Nat.le_of_ble_eq_true rfl) rfl d_M_isDo_97 (x_rI (fun r17 u16 h => ?_))
                  refine x_if_eq (tgt := 126) d_M_isDo_100 rfl (fun hc => ?_) (fun hc => ?_)
                  · have h := h.1 hc
                    refine x_iconst (v := 0) d_M_isDo_126 (by decide) ?_
                    refine x_zret rfl d_M_isDo_127 ⟨_, rfl, ?_⟩
                    exact h
                  · have h := h.2 hc
                    refine x_aload_n (x := o) d_M_isDo_103 rfl ?_
                    refine x_iconst (v := 0) d_M_isDo_104 (by decide) ?_
                    refine x_callV (st := []) k_M_219 rfl (eM_o _ _ _ _) x_id (c_M_expression l D cs Ev hE o a (d + 0) _ (0 : Int32) u16 h) hE (rmD_ok (by omega) (by decide)) rfl (Nat.le_of_ble_eq_true rfl) rfl d_M_isDo_105 (x_rI (fun r19 u18 h => ?_))
                    refine x_if_eq (tgt := 126) d_M_isDo_108 rfl (fun hc => ?_) (fun hc => ?_)
                    · have h := h.1 hc
                      refine x_iconst (v := 0) d_M_isDo_126 (by decide) ?_
                      refine x_zret rfl d_M_isDo_127 ⟨_, rfl, ?_⟩
                      exact h
                    · have h := h.2 hc
                      refine x_sub [1] rfl ?_
                      exact w_M_isDo_111 l D cs Ev hE o a d post  u18 h
  · have h := h.2 hc
    refine x_iconst (v := 0) d_M_isDo_10 (by decide) ?_
    refine x_zret rfl d_M_isDo_11 ⟨_, rfl, ?_⟩
    exact h
def P_M_isAssignment (post : Int32 → MS → Prop) (u : MS) : Prop := P_M_nameWithList (fun r2 u1 => ((r2 = 0 → post 0 u1) ∧ (¬ r2 = 0 → P_M_sign (fun r4 u3 => ((r4 = 0 → post 0 u3) ∧ (¬ r4 = 0 → P_M_expression (fun r6 u5 => ((r6 = 0 → post 0 u5) ∧ (¬ r6 = 0 → ((¬ (gI u5 9) = (gI u5 8) → post 0 u5) ∧ ((gI u5 9) = (gI u5 8) → post 1 u5))))) (0 : Int32) u3))) (61 : Int32) u1))) (4 : Int32) (3 : Int32) u
set_option maxHeartbeats 600000 in
set_option maxRecDepth 100000 in
theorem c_M_isAssignment (l : Launch) (D : va_G) (cs : Nat → ClassId) (Ev : (Nat → Prop) → State → Prop) (hE : xEok Ev) (o : Nat) (a : Nat → Nat) (d : Nat) (post : Int32 → MS → Prop) (u : MS) (h : P_M_isAssignment post  u) : xC l D clX (tysX cs) Ev y_M_isAssignment w_M_isAssignment (rmD (d + 7)) (wdM o a cs) [.ref o] u (pI post) 0 0 := by
  unfold P_M_isAssignment at h
  refine xC.of (cc := b_M_isAssignment) (nL := 1) (ret := (some .boolean)) (by decide) rfl (Nat.le_of_ble_eq_true rfl) ?_
  show RR l D clX (tysX cs) Ev "DeckFrontModel" b_M_isAssignment 1 w_M_isAssignment (rmD (d + 7)) (some .boolean) (wdM o a cs) (pI post) 0 0 0 0 0 [(0, .ref o)] [] u
  refine x_aload_n (x := o) d_M_isAssignment_0 rfl ?_
  refine x_iconst (v := 4) d_M_isAssignment_1 (by decide) ?_
  refine x_iconst (v := 3) d_M_isAssignment_2 (by decide) ?_
  refine x_callV (st := []) k_M_247 rfl (eM_o _ _ _ _) x_id (c_M_nameWithList l D cs Ev hE o a (d + 0) _ (4 : Int32) (3 : Int32) u h) hE (rmD_ok (by omega) (by decide)) rfl (Nat.le_of_ble_eq_true rfl) rfl d_M_isAssignment_3 (x_rI (fun r2 u1 h => ?_))
  refine x_if_eq (tgt := 41) d_M_isAssignment_6 rfl (fun hc => ?_) (fun hc => ?_)
  · have h := h.1 hc
    refine x_iconst (v := 0) d_M_isAssignment_41 (by decide) ?_
    refine x_zret rfl d_M_isAssignment_42 ⟨_, rfl, ?_⟩
    exact h
  · have h := h.2 hc
    refine x_aload_n (x := o) d_M_isAssignment_9 rfl ?_
    refine x_bipush (v := 61) d_M_isAssignment_10 (by decide) ?_
    refine x_callV (st := []) k_M_226 rfl (eM_o _ _ _ _) x_id (c_M_sign l D cs Ev hE o a (d + 5) _ (61 : Int32) u1 h) hE (rmD_ok (by omega) (by decide)) rfl (Nat.le_of_ble_eq_true rfl) rfl d_M_isAssignment_12 (x_rI (fun r4 u3 h => ?_))
    refine x_if_eq (tgt := 41) d_M_isAssignment_15 rfl (fun hc => ?_) (fun hc => ?_)
    · have h := h.1 hc
      refine x_iconst (v := 0) d_M_isAssignment_41 (by decide) ?_
      refine x_zret rfl d_M_isAssignment_42 ⟨_, rfl, ?_⟩
      exact h
    · have h := h.2 hc
      refine x_aload_n (x := o) d_M_isAssignment_18 rfl ?_
      refine x_iconst (v := 0) d_M_isAssignment_19 (by decide) ?_
      refine x_callV (st := []) k_M_219 rfl (eM_o _ _ _ _) x_id (c_M_expression l D cs Ev hE o a (d + 2) _ (0 : Int32) u3 h) hE (rmD_ok (by omega) (by decide)) rfl (Nat.le_of_ble_eq_true rfl) rfl d_M_isAssignment_20 (x_rI (fun r6 u5 h => ?_))
      refine x_if_eq (tgt := 41) d_M_isAssignment_23 rfl (fun hc => ?_) (fun hc => ?_)
      · have h := h.1 hc
        refine x_iconst (v := 0) d_M_isAssignment_41 (by decide) ?_
        refine x_zret rfl d_M_isAssignment_42 ⟨_, rfl, ?_⟩
        exact h
      · have h := h.2 hc
        refine x_aload_n (x := o) d_M_isAssignment_26 rfl ?_
        refine x_get (v := .int (gI u5 9)) f_M_126 (eM_o _ _ _ _) rfl d_M_isAssignment_27 ?_
        refine x_aload_n (x := o) d_M_isAssignment_30 rfl ?_
        refine x_get (v := .int (gI u5 8)) f_M_116 (eM_o _ _ _ _) rfl d_M_isAssignment_31 ?_
        refine x_icmp_ne (tgt := 41) d_M_isAssignment_34 rfl (fun hc => ?_) (fun hc => ?_)
        · have h := h.1 hc
          refine x_iconst (v := 0) d_M_isAssignment_41 (by decide) ?_
          refine x_zret rfl d_M_isAssignment_42 ⟨_, rfl, ?_⟩
          exact h
        · have h := h.2 hc
          refine x_iconst (v := 1) d_M_isAssignment_37 (by decide) ?_
          refine x_goto (tgt := 42) d_M_isAssignment_38 rfl ?_
          refine x_zret rfl d_M_isAssignment_42 ⟨_, rfl, ?_⟩
          exact h
def P_M_isGoTo (post : Int32 → MS → Prop) (u : MS) : Prop := P_M_word (fun r2 u1 => ((¬ r2 = 0 → P_M_digits (fun r4 u3 => (vp_in (0 : Int32) 90 ∧ (vp_in (0 : Int32) 90 ∧ (((gA (sI (sA u3 17 (0 : Int32).toNatClampNeg r4) 16 (1 : Int32)) 17 (0 : Int32).toNatClampNeg) < 0 → post 0 (sI (sA u3 17 (0 : Int32).toNatClampNeg r4) 16 (1 : Int32))) ∧ (¬ (gA (sI (sA u3 17 (0 : Int32).toNatClampNeg r4) 16 (1 : Int32)) 17 (0 : Int32).toNatClampNeg) < 0 → ((¬ (gI u3 9) = (gI u3 8) → post 0 (sI (sA u3 17 (0 : Int32).toNatClampNeg r4) 16 (1 : Int32))) ∧ ((gI u3 9) = (gI u3 8) → post 1 (sI (sA u3 17 (0 : Int32).toNatClampNeg r4) 16 (1 : Int32))))))))) (5 : Int32) u1) ∧ (r2 = 0 → post 0 u1))) (1196381263 : Int64) u
set_option maxHeartbeats 600000 in
set_option maxRecDepth 100000 in
theorem c_M_isGoTo (l : Launch) (D : va_G) (cs : Nat → ClassId) (Ev : (Nat → Prop) → State → Prop) (hE : xEok Ev) (o : Nat) (a : Nat → Nat) (d : Nat) (post : Int32 → MS → Prop) (u : MS) (h : P_M_isGoTo post  u) : xC l D clX (tysX cs) Ev y_M_isGoTo w_M_isGoTo (rmD (d + 3)) (wdM o a cs) [.ref o] u (pI post) 0 0 := by
  unfold P_M_isGoTo at h
  refine xC.of (cc := b_M_isGoTo) (nL := 1) (ret := (some .boolean)) (by decide) rfl (Nat.le_of_ble_eq_true rfl) ?_
  show RR l D clX (tysX cs) Ev "DeckFrontModel" b_M_isGoTo 1 w_M_isGoTo (rmD (d + 3)) (some .boolean) (wdM o a cs) (pI post) 0 0 0 0 0 [(0, .ref o)] [] u
  refine x_aload_n (x := o) d_M_isGoTo_0 rfl ?_
  refine x_ldc2 (v := 1196381263) (cG tw_1068) d_M_isGoTo_1 ?_
  refine x_callV (st := []) k_M_234 rfl (eM_o _ _ _ _) x_id (c_M_word l D cs Ev hE o a (d + 0) _ (1196381263 : Int64) u h) hE (rmD_ok (by omega) (by decide)) rfl (Nat.le_of_ble_eq_true rfl) rfl d_M_isGoTo_4 (x_rI (fun r2 u1 h => ?_))
  refine x_if_ne (tgt := 12) d_M_isGoTo_7 rfl (fun hc => ?_) (fun hc => ?_)
  · have h := h.1 hc
    refine x_aload_n (x := o) d_M_isGoTo_12 rfl ?_
    refine x_get (v := .ref (a 17)) f_M_36 (eM_o _ _ _ _) rfl d_M_isGoTo_13 ?_
    refine x_iconst (v := 0) d_M_isGoTo_16 (by decide) ?_
    refine x_aload_n (x := o) d_M_isGoTo_17 rfl ?_
    refine x_iconst (v := 5) d_M_isGoTo_18 (by decide) ?_
    refine x_callV (st := [.int 0, .ref (a 17)]) k_M_238 rfl (eM_o _ _ _ _) x_id (c_M_digits l D cs Ev hE o a (d + 1) _ (5 : Int32) u1 h) hE (rmD_ok (by omega) (by decide)) rfl (Nat.le_of_ble_eq_true rfl) rfl d_M_isGoTo_19 (x_rI (fun r4 u3 h => ?_))
    refine x_iast (t0 := 0) (eM_17 _ _ _ _) rfl h.1 (sM_17 _ _ _ _ _ _) d_M_isGoTo_22 ?_
    have h := h.2
    refine x_aload_n (x := o) d_M_isGoTo_23 rfl ?_
    refine x_iconst (v := 1) d_M_isGoTo_24 (by decide) ?_
    refine x_put f_M_244 fw_M_16 (eM_o _ _ _ _) rfl rfl (Nat.le_of_ble_eq_true rfl) (sM_16 _ _ _ _ _) d_M_isGoTo_25 ?_
    refine x_aload_n (x := o) d_M_isGoTo_28 rfl ?_
    refine x_get (v := .ref (a 17)) f_M_36 (eM_o _ _ _ _) rfl d_M_isGoTo_29 ?_
    refine x_iconst (v := 0) d_M_isGoTo_32 (by decide) ?_
    refine x_iald (t0 := 0) (eM_17 _ _ _ _) rfl h.1 d_M_isGoTo_33 ?_
    have h := h.2
    refine x_if_lt (tgt := 52) d_M_isGoTo_34 rfl (fun hc => ?_) (fun hc => ?_)
    · have h := h.1 hc
      refine x_iconst (v := 0) d_M_isGoTo_52 (by decide) ?_
      refine x_zret rfl d_M_isGoTo_53 ⟨_, rfl, ?_⟩
      exact h
    · have h := h.2 hc
      refine x_aload_n (x := o) d_M_isGoTo_37 rfl ?_
      refine x_get (v := .int (gI u3 9)) f_M_126 (eM_o _ _ _ _) rfl d_M_isGoTo_38 ?_
      refine x_aload_n (x := o) d_M_isGoTo_41 rfl ?_
      refine x_get (v := .int (gI u3 8)) f_M_116 (eM_o _ _ _ _) rfl d_M_isGoTo_42 ?_
      refine x_icmp_ne (tgt := 52) d_M_isGoTo_45 rfl (fun hc => ?_) (fun hc => ?_)
      · have h := h.1 hc
        refine x_iconst (v := 0) d_M_isGoTo_52 (by decide) ?_
        refine x_zret rfl d_M_isGoTo_53 ⟨_, rfl, ?_⟩
        exact h
      · have h := h.2 hc
        refine x_iconst (v := 1) d_M_isGoTo_48 (by decide) ?_
        refine x_goto (tgt := 53) d_M_isGoTo_49 rfl ?_
        refine x_zret rfl d_M_isGoTo_53 ⟨_, rfl, ?_⟩
        exact h
  · have h := h.2 hc
    refine x_iconst (v := 0) d_M_isGoTo_10 (by decide) ?_
    refine x_zret rfl d_M_isGoTo_11 ⟨_, rfl, ?_⟩
    exact h
def P_M_isComputed_97 (post : Int32 → MS → Prop) (x1 : Int32) (u : MS) : Prop := ((x1 = 0 → post 0 u) ∧ (¬ x1 = 0 → P_M_sign (fun r6 u5 => ((¬ r6 = 0 → P_M_comma (fun u7 => P_M_expression (fun r9 u8 => ((r9 = 0 → post 0 u8) ∧ (¬ r9 = 0 → ((¬ (gI u8 9) = (gI u8 8) → post 0 u8) ∧ ((gI u8 9) = (gI u8 8) → post 1 u8))))) (0 : Int32) u7) u5) ∧ (r6 = 0 → post 0 u5))) (41 : Int32) u))
set_option maxHeartbeats 600000 in
set_option maxRecDepth 100000 in
theorem w_M_isComputed_97 (l : Launch) (D : va_G) (cs : Nat → ClassId) (Ev : (Nat → Prop) → State → Prop) (hE : xEok Ev) (o : Nat) (a : Nat → Nat) (d : Nat) (post : Int32 → MS → Prop) (x1 : Int32) (u : MS) (h : P_M_isComputed_97 post  x1 u) : RR l D clX (tysX cs) Ev "DeckFrontModel" b_M_isComputed 3 w_M_isComputed (rmD (d + 5)) (some .boolean) (wdM o a cs) (pI post) 0 0 0 0 97 [(0, .ref o), (1, .int x1)] [] u := by
  unfold P_M_isComputed_97 at h
  refine x_iload_n (x := x1) d_M_isComputed_97 rfl ?_
  refine x_if_eq (tgt := 110) d_M_isComputed_98 rfl (fun hc => ?_) (fun hc => ?_)
  · have h := h.1 hc
    refine x_iconst (v := 0) d_M_isComputed_110 (by decide) ?_
    refine x_zret rfl d_M_isComputed_111 ⟨_, rfl, ?_⟩
    exact h
  · have h := h.2 hc
    refine x_aload_n (x := o) d_M_isComputed_101 rfl ?_
    refine x_bipush (v := 41) d_M_isComputed_102 (by decide) ?_
    refine x_callV (st := []) k_M_226 rfl (eM_o _ _ _ _) x_id (c_M_sign l D cs Ev hE o a (d + 3) _ (41 : Int32) u h) hE (rmD_ok (by omega) (by decide)) rfl (Nat.le_of_ble_eq_true rfl) rfl d_M_isComputed_104 (x_rI (fun r6 u5 h => ?_))
    refine x_if_ne (tgt := 112) d_M_isComputed_107 rfl (fun hc => ?_) (fun hc => ?_)
    · have h := h.1 hc
      refine x_aload_n (x := o) d_M_isComputed_112 rfl ?_
      refine x_callV (st := []) k_M_241 rfl (eM_o _ _ _ _) x_id (c_M_comma l D cs Ev hE o a (d + 3) _ u5 h) hE (rmD_ok (by omega) (by decide)) rfl (Nat.le_of_ble_eq_true rfl) rfl d_M_isComputed_113 (x_rV (fun u7 h => ?_))
      refine x_aload_n (x := o) d_M_isComputed_116 rfl ?_
      refine x_iconst (v := 0) d_M_isComputed_117 (by decide) ?_
      refine x_callV (st := []) k_M_219 rfl (eM_o _ _ _ _) x_id (c_M_expression l D cs Ev hE o a (d + 0) _ (0 : Int32) u7 h) hE (rmD_ok (by omega) (by decide)) rfl (Nat.le_of_ble_eq_true rfl) rfl d_M_isComputed_118 (x_rI (fun r9 u8 h => ?_))
      refine x_if_eq (tgt := 139) d_M_isComputed_121 rfl (fun hc => ?_) (fun hc => ?_)
      · have h := h.1 hc
        refine x_iconst (v := 0) d_M_isComputed_139 (by decide) ?_
        refine x_zret rfl d_M_isComputed_140 ⟨_, rfl, ?_⟩
        exact h
      · have h := h.2 hc
        refine x_aload_n (x := o) d_M_isComputed_124 rfl ?_
        refine x_get (v := .int (gI u8 9)) f_M_126 (eM_o _ _ _ _) rfl d_M_isComputed_125 ?_
        refine x_aload_n (x := o) d_M_isComputed_128 rfl ?_
        refine x_get (v := .int (gI u8 8)) f_M_116 (eM_o _ _ _ _) rfl d_M_isComputed_129 ?_
        refine x_icmp_ne (tgt := 139) d_M_isComputed_132 rfl (fun hc => ?_) (fun hc => ?_)
        · have h := h.1 hc
          refine x_iconst (v := 0) d_M_isComputed_139 (by decide) ?_
          refine x_zret rfl d_M_isComputed_140 ⟨_, rfl, ?_⟩
          exact h
        · have h := h.2 hc
          refine x_iconst (v := 1) d_M_isComputed_135 (by decide) ?_
          refine x_goto (tgt := 140) d_M_isComputed_136 rfl ?_
          refine x_zret rfl d_M_isComputed_140 ⟨_, rfl, ?_⟩
          exact h
    · have h := h.2 hc
      refine x_iconst (v := 0) d_M_isComputed_110 (by decide) ?_
      refine x_zret rfl d_M_isComputed_111 ⟨_, rfl, ?_⟩
      exact h
def P_M_isComputed_93 (post : Int32 → MS → Prop) (K25 : Int32 → Int32 → MS → Prop) (x1 : Int32) (s0 : Int32) (u : MS) : Prop := K25 x1 s0 u
set_option maxHeartbeats 600000 in
set_option maxRecDepth 100000 in
theorem w_M_isComputed_93 (l : Launch) (D : va_G) (cs : Nat → ClassId) (Ev : (Nat → Prop) → State → Prop) (hE : xEok Ev) (o : Nat) (a : Nat → Nat) (d : Nat) (post : Int32 → MS → Prop) (K25 : Int32 → Int32 → MS → Prop) (hK25 : ∀ (x1 : Int32) (x2 : Int32) (u : MS), K25 x1 x2 u → RR l D clX (tysX cs) Ev "DeckFrontModel" b_M_isComputed 3 w_M_isComputed (rmD (d + 5)) (some .boolean) (wdM o a cs) (pI post) 0 0 0 0 25 [(0, .ref o), (1, .int x1), (2, .int x2)] [] u) (x1 : Int32) (s0 : Int32) (u : MS) (h : P_M_isComputed_93 post K25 x1 s0 u) : RR l D clX (tysX cs) Ev "DeckFrontModel" b_M_isComputed 3 w_M_isComputed (rmD (d + 5)) (some .boolean) (wdM o a cs) (pI post) 0 0 0 0 93 [(0, .ref o), (1, .int x1)] [.int s0] u := by
  unfold P_M_isComputed_93 at h
  refine x_istore_n (lv' := [(2, .int s0), (0, .ref o), (1, .int x1)]) d_M_isComputed_93 (by decide) rfl ?_
  refine x_goto (tgt := 25) d_M_isComputed_94 rfl ?_
  refine x_sub [1, 2, 0] rfl ?_
  exact hK25 x1 s0 u h
def P_M_isComputed_92 (post : Int32 → MS → Prop) (K25 : Int32 → Int32 → MS → Prop) (x1 : Int32) (u : MS) : Prop := P_M_isComputed_93 post K25 x1 0 u
set_option maxHeartbeats 600000 in
set_option maxRecDepth 100000 in
theorem w_M_isComputed_92 (l : Launch) (D : va_G) (cs : Nat → ClassId) (Ev : (Nat → Prop) → State → Prop) (hE : xEok Ev) (o : Nat) (a : Nat → Nat) (d : Nat) (post : Int32 → MS → Prop) (K25 : Int32 → Int32 → MS → Prop) (hK25 : ∀ (x1 : Int32) (x2 : Int32) (u : MS), K25 x1 x2 u → RR l D clX (tysX cs) Ev "DeckFrontModel" b_M_isComputed 3 w_M_isComputed (rmD (d + 5)) (some .boolean) (wdM o a cs) (pI post) 0 0 0 0 25 [(0, .ref o), (1, .int x1), (2, .int x2)] [] u) (x1 : Int32) (u : MS) (h : P_M_isComputed_92 post K25 x1 u) : RR l D clX (tysX cs) Ev "DeckFrontModel" b_M_isComputed 3 w_M_isComputed (rmD (d + 5)) (some .boolean) (wdM o a cs) (pI post) 0 0 0 0 92 [(0, .ref o), (1, .int x1)] [] u := by
  unfold P_M_isComputed_92 at h
  refine x_iconst (v := 0) d_M_isComputed_92 (by decide) ?_
  exact w_M_isComputed_93 l D cs Ev hE o a d post K25 hK25 x1 0 u h
def P_M_isComputed_64 (post : Int32 → MS → Prop) (K25 : Int32 → Int32 → MS → Prop) (s0 : Int32) (u : MS) : Prop := ((s0 = 0 → P_M_isComputed_92 post K25 s0 (sI u 16 ((gI u 16) + (1 : Int32)))) ∧ (¬ s0 = 0 → P_M_sign (fun r13 u12 => ((r13 = 0 → P_M_isComputed_92 post K25 s0 u12) ∧ (¬ r13 = 0 → P_M_isComputed_93 post K25 s0 1 u12))) (44 : Int32) (sI u 16 ((gI u 16) + (1 : Int32)))))
set_option maxHeartbeats 600000 in
set_option maxRecDepth 100000 in
theorem w_M_isComputed_64 (l : Launch) (D : va_G) (cs : Nat → ClassId) (Ev : (Nat → Prop) → State → Prop) (hE : xEok Ev) (o : Nat) (a : Nat → Nat) (d : Nat) (post : Int32 → MS → Prop) (K25 : Int32 → Int32 → MS → Prop) (hK25 : ∀ (x1 : Int32) (x2 : Int32) (u : MS), K25 x1 x2 u → RR l D clX (tysX cs) Ev "DeckFrontModel" b_M_isComputed 3 w_M_isComputed (rmD (d + 5)) (some .boolean) (wdM o a cs) (pI post) 0 0 0 0 25 [(0, .ref o), (1, .int x1), (2, .int x2)] [] u) (s0 : Int32) (u : MS) (h : P_M_isComputed_64 post K25 s0 u) : RR l D clX (tysX cs) Ev "DeckFrontModel" b_M_isComputed 3 w_M_isComputed (rmD (d + 5)) (some .boolean) (wdM o a cs) (pI post) 0 0 0 0 64 [(0, .ref o)] [.int s0] u := by
  unfold P_M_isComputed_64 at h
  refine x_istore_n (lv' := [(1, .int s0), (0, .ref o)]) d_M_isComputed_64 (by decide) rfl ?_
  refine x_aload_n (x := o) d_M_isComputed_65 rfl ?_
  refine x_dup d_M_isComputed_66 rfl ?_
  refine x_get (v := .int (gI u 16)) f_M_244 (eM_o _ _ _ _) rfl d_M_isComputed_67 ?_
  refine x_iconst (v := 1) d_M_isComputed_70 (by decide) ?_
  refine x_iadd d_M_isComputed_71 ?_
  refine x_put f_M_244 fw_M_16 (eM_o _ _ _ _) rfl rfl (Nat.le_of_ble_eq_true rfl) (sM_16 _ _ _ _ _) d_M_isComputed_72 ?_
  refine x_iload_n (x := s0) d_M_isComputed_75 rfl ?_
  refine x_if_eq (tgt := 92) d_M_isComputed_76 rfl (fun hc => ?_) (fun hc => ?_)
  · have h := h.1 hc
    refine x_sub [1, 0] rfl ?_
    exact w_M_isComputed_92 l D cs Ev hE o a d post K25 hK25 s0 (sI u 16 ((gI u 16) + (1 : Int32))) h
  · have h := h.2 hc
    refine x_aload_n (x := o) d_M_isComputed_79 rfl ?_
    refine x_bipush (v := 44) d_M_isComputed_80 (by decide) ?_
    refine x_callV (st := []) k_M_226 rfl (eM_o _ _ _ _) x_id (c_M_sign l D cs Ev hE o a (d + 3) _ (44 : Int32) (sI u 16 ((gI u 16) + (1 : Int32))) h) hE (rmD_ok (by omega) (by decide)) rfl (Nat.le_of_ble_eq_true rfl) rfl d_M_isComputed_82 (x_rI (fun r13 u12 h => ?_))
    refine x_if_eq (tgt := 92) d_M_isComputed_85 rfl (fun hc => ?_) (fun hc => ?_)
    · have h := h.1 hc
      refine x_sub [1, 0] rfl ?_
      exact w_M_isComputed_92 l D cs Ev hE o a d post K25 hK25 s0 u12 h
    · have h := h.2 hc
      refine x_iconst (v := 1) d_M_isComputed_88 (by decide) ?_
      refine x_goto (tgt := 93) d_M_isComputed_89 rfl ?_
      refine x_sub [1, 0] rfl ?_
      exact w_M_isComputed_93 l D cs Ev hE o a d post K25 hK25 s0 1 u12 h
def P_M_isComputed_25 (post : Int32 → MS → Prop) : Nat → Int32 → Int32 → MS → Prop
  | 0, _, _, _ => False
  | f + 1, x1, x2, u => ((x1 = 0 → P_M_isComputed_97 post x1 u) ∧ (¬ x1 = 0 → ((x2 = 0 → P_M_isComputed_97 post x1 u) ∧ (¬ x2 = 0 → P_M_digits (fun r11 u10 => (vp_in (gI u 16) 90 ∧ (vp_in (gI u10 16) 90 ∧ (((gA (sA u10 17 (gI u 16).toNatClampNeg r11) 17 (gI u10 16).toNatClampNeg) < 0 → P_M_isComputed_64 post (fun zx1 zx2 zu => P_M_isComputed_25 post f zx1 zx2 zu) 0 (sA u10 17 (gI u 16).toNatClampNeg r11)) ∧ (¬ (gA (sA u10 17 (gI u 16).toNatClampNeg r11) 17 (gI u10 16).toNatClampNeg) < 0 → P_M_isComputed_64 post (fun zx1 zx2 zu => P_M_isComputed_25 post f zx1 zx2 zu) 1 (sA u10 17 (gI u 16).toNatClampNeg r11)))))) (5 : Int32) u))))
set_option maxHeartbeats 600000 in
set_option maxRecDepth 100000 in
theorem w_M_isComputed_25 (l : Launch) (D : va_G) (cs : Nat → ClassId) (Ev : (Nat → Prop) → State → Prop) (hE : xEok Ev) (o : Nat) (a : Nat → Nat) (d : Nat) (post : Int32 → MS → Prop) : ∀ (f : Nat) (x1 : Int32) (x2 : Int32) (u : MS), P_M_isComputed_25 post  f x1 x2 u → RR l D clX (tysX cs) Ev "DeckFrontModel" b_M_isComputed 3 w_M_isComputed (rmD (d + 5)) (some .boolean) (wdM o a cs) (pI post) 0 0 0 0 25 [(0, .ref o), (1, .int x1), (2, .int x2)] [] u := by
  intro f
  induction f with
  | zero => intro x1 x2 u h; exact h.elim
  | succ f ih =>
    intro x1 x2 u h
    unfold P_M_isComputed_25 at h
    refine x_iload_n (x := x1) d_M_isComputed_25 rfl ?_
    refine x_if_eq (tgt := 97) d_M_isComputed_26 rfl (fun hc => ?_) (fun hc => ?_)
    · have h := h.1 hc
      refine x_sub [0, 1] rfl ?_
      exact w_M_isComputed_97 l D cs Ev hE o a d post  x1 u h
    · have h := h.2 hc
      refine x_iload_n (x := x2) d_M_isComputed_29 rfl ?_
      refine x_if_eq (tgt := 97) d_M_isComputed_30 rfl (fun hc => ?_) (fun hc => ?_)
      · have h := h.1 hc
        refine x_sub [0, 1] rfl ?_
        exact w_M_isComputed_97 l D cs Ev hE o a d post  x1 u h
      · have h := h.2 hc
        refine x_aload_n (x := o) d_M_isComputed_33 rfl ?_
        refine x_get (v := .ref (a 17)) f_M_36 (eM_o _ _ _ _) rfl d_M_isComputed_34 ?_
        refine x_aload_n (x := o) d_M_isComputed_37 rfl ?_
        refine x_get (v := .int (gI u 16)) f_M_244 (eM_o _ _ _ _) rfl d_M_isComputed_38 ?_
        refine x_aload_n (x := o) d_M_isComputed_41 rfl ?_
        refine x_iconst (v := 5) d_M_isComputed_42 (by decide) ?_
        refine x_callV (st := [.int (gI u 16), .ref (a 17)]) k_M_238 rfl (eM_o _ _ _ _) x_id (c_M_digits l D cs Ev hE o a (d + 3) _ (5 : Int32) u h) hE (rmD_ok (by omega) (by decide)) rfl (Nat.le_of_ble_eq_true rfl) rfl d_M_isComputed_43 (x_rI (fun r11 u10 h => ?_))
        refine x_iast (t0 := 0) (eM_17 _ _ _ _) rfl h.1 (sM_17 _ _ _ _ _ _) d_M_isComputed_46 ?_
        have h := h.2
        refine x_aload_n (x := o) d_M_isComputed_47 rfl ?_
        refine x_get (v := .ref (a 17)) f_M_36 (eM_o _ _ _ _) rfl d_M_isComputed_48 ?_
        refine x_aload_n (x := o) d_M_isComputed_51 rfl ?_
        refine x_get (v := .int (gI u10 16)) f_M_244 (eM_o _ _ _ _) rfl d_M_isComputed_52 ?_
        refine x_iald (t0 := 0) (eM_17 _ _ _ _) rfl h.1 d_M_isComputed_55 ?_
        have h := h.2
        refine x_if_lt (tgt := 63) d_M_isComputed_56 rfl (fun hc => ?_) (fun hc => ?_)
        · have h := h.1 hc
          refine x_iconst (v := 0) d_M_isComputed_63 (by decide) ?_
          refine x_sub [0] rfl ?_
          exact w_M_isComputed_64 l D cs Ev hE o a d post (fun zx1 zx2 zu => P_M_isComputed_25 post f zx1 zx2 zu) ih 0 (sA u10 17 (gI u 16).toNatClampNeg r11) h
        · have h := h.2 hc
          refine x_iconst (v := 1) d_M_isComputed_59 (by decide) ?_
          refine x_goto (tgt := 64) d_M_isComputed_60 rfl ?_
          refine x_sub [0] rfl ?_
          exact w_M_isComputed_64 l D cs Ev hE o a d post (fun zx1 zx2 zu => P_M_isComputed_25 post f zx1 zx2 zu) ih 1 (sA u10 17 (gI u 16).toNatClampNeg r11) h
def P_M_isComputed (post : Int32 → MS → Prop) (u : MS) : Prop := P_M_word (fun r2 u1 => ((r2 = 0 → post 0 u1) ∧ (¬ r2 = 0 → P_M_sign (fun r4 u3 => ((¬ r4 = 0 → (∃ g, P_M_isComputed_25 post g 1 1 u3)) ∧ (r4 = 0 → post 0 u3))) (40 : Int32) u1))) (1196381263 : Int64) u
set_option maxHeartbeats 600000 in
set_option maxRecDepth 100000 in
theorem c_M_isComputed (l : Launch) (D : va_G) (cs : Nat → ClassId) (Ev : (Nat → Prop) → State → Prop) (hE : xEok Ev) (o : Nat) (a : Nat → Nat) (d : Nat) (post : Int32 → MS → Prop) (u : MS) (h : P_M_isComputed post  u) : xC l D clX (tysX cs) Ev y_M_isComputed w_M_isComputed (rmD (d + 5)) (wdM o a cs) [.ref o] u (pI post) 0 0 := by
  unfold P_M_isComputed at h
  refine xC.of (cc := b_M_isComputed) (nL := 3) (ret := (some .boolean)) (by decide) rfl (Nat.le_of_ble_eq_true rfl) ?_
  show RR l D clX (tysX cs) Ev "DeckFrontModel" b_M_isComputed 3 w_M_isComputed (rmD (d + 5)) (some .boolean) (wdM o a cs) (pI post) 0 0 0 0 0 [(0, .ref o)] [] u
  refine x_aload_n (x := o) d_M_isComputed_0 rfl ?_
  refine x_ldc2 (v := 1196381263) (cG tw_1068) d_M_isComputed_1 ?_
  refine x_callV (st := []) k_M_234 rfl (eM_o _ _ _ _) x_id (c_M_word l D cs Ev hE o a (d + 2) _ (1196381263 : Int64) u h) hE (rmD_ok (by omega) (by decide)) rfl (Nat.le_of_ble_eq_true rfl) rfl d_M_isComputed_4 (x_rI (fun r2 u1 h => ?_))
  refine x_if_eq (tgt := 19) d_M_isComputed_7 rfl (fun hc => ?_) (fun hc => ?_)
  · have h := h.1 hc
    refine x_iconst (v := 0) d_M_isComputed_19 (by decide) ?_
    refine x_zret rfl d_M_isComputed_20 ⟨_, rfl, ?_⟩
    exact h
  · have h := h.2 hc
    refine x_aload_n (x := o) d_M_isComputed_10 rfl ?_
    refine x_bipush (v := 40) d_M_isComputed_11 (by decide) ?_
    refine x_callV (st := []) k_M_226 rfl (eM_o _ _ _ _) x_id (c_M_sign l D cs Ev hE o a (d + 3) _ (40 : Int32) u1 h) hE (rmD_ok (by omega) (by decide)) rfl (Nat.le_of_ble_eq_true rfl) rfl d_M_isComputed_13 (x_rI (fun r4 u3 h => ?_))
    refine x_if_ne (tgt := 21) d_M_isComputed_16 rfl (fun hc => ?_) (fun hc => ?_)
    · have h := h.1 hc
      refine x_iconst (v := 1) d_M_isComputed_21 (by decide) ?_
      refine x_istore_n (lv' := [(1, .int 1), (0, .ref o)]) d_M_isComputed_22 (by decide) rfl ?_
      refine x_iconst (v := 1) d_M_isComputed_23 (by decide) ?_
      refine x_istore_n (lv' := [(2, .int 1), (1, .int 1), (0, .ref o)]) d_M_isComputed_24 (by decide) rfl ?_
      refine x_sub [2, 1, 0] rfl ?_
      obtain ⟨f9, h⟩ := h
      exact w_M_isComputed_25 l D cs Ev hE o a d post  f9 1 1 u3 h
    · have h := h.2 hc
      refine x_iconst (v := 0) d_M_isComputed_19 (by decide) ?_
      refine x_zret rfl d_M_isComputed_20 ⟨_, rfl, ?_⟩
      exact h
def P_M_isCall (post : Int32 → MS → Prop) (u : MS) : Prop := P_M_word (fun r2 u1 => ((r2 = 0 → post 0 u1) ∧ (¬ r2 = 0 → P_M_nameWithList (fun r4 u3 => ((r4 = 0 → post 0 u3) ∧ (¬ r4 = 0 → ((¬ (gI u3 9) = (gI u3 8) → post 0 u3) ∧ ((gI u3 9) = (gI u3 8) → post 1 u3))))) (2 : Int32) (2 : Int32) u1))) (1128352844 : Int64) u
set_option maxHeartbeats 600000 in
set_option maxRecDepth 100000 in
theorem c_M_isCall (l : Launch) (D : va_G) (cs : Nat → ClassId) (Ev : (Nat → Prop) → State → Prop) (hE : xEok Ev) (o : Nat) (a : Nat → Nat) (d : Nat) (post : Int32 → MS → Prop) (u : MS) (h : P_M_isCall post  u) : xC l D clX (tysX cs) Ev y_M_isCall w_M_isCall (rmD (d + 7)) (wdM o a cs) [.ref o] u (pI post) 0 0 := by
  unfold P_M_isCall at h
  refine xC.of (cc := b_M_isCall) (nL := 1) (ret := (some .boolean)) (by decide) rfl (Nat.le_of_ble_eq_true rfl) ?_
  show RR l D clX (tysX cs) Ev "DeckFrontModel" b_M_isCall 1 w_M_isCall (rmD (d + 7)) (some .boolean) (wdM o a cs) (pI post) 0 0 0 0 0 [(0, .ref o)] [] u
  refine x_aload_n (x := o) d_M_isCall_0 rfl ?_
  refine x_ldc2 (v := 1128352844) (cG tw_1073) d_M_isCall_1 ?_
  refine x_callV (st := []) k_M_234 rfl (eM_o _ _ _ _) x_id (c_M_word l D cs Ev hE o a (d + 4) _ (1128352844 : Int64) u h) hE (rmD_ok (by omega) (by decide)) rfl (Nat.le_of_ble_eq_true rfl) rfl d_M_isCall_4 (x_rI (fun r2 u1 h => ?_))
  refine x_if_eq (tgt := 34) d_M_isCall_7 rfl (fun hc => ?_) (fun hc => ?_)
  · have h := h.1 hc
    refine x_iconst (v := 0) d_M_isCall_34 (by decide) ?_
    refine x_zret rfl d_M_isCall_35 ⟨_, rfl, ?_⟩
    exact h
  · have h := h.2 hc
    refine x_aload_n (x := o) d_M_isCall_10 rfl ?_
    refine x_iconst (v := 2) d_M_isCall_11 (by decide) ?_
    refine x_iconst (v := 2) d_M_isCall_12 (by decide) ?_
    refine x_callV (st := []) k_M_247 rfl (eM_o _ _ _ _) x_id (c_M_nameWithList l D cs Ev hE o a (d + 0) _ (2 : Int32) (2 : Int32) u1 h) hE (rmD_ok (by omega) (by decide)) rfl (Nat.le_of_ble_eq_true rfl) rfl d_M_isCall_13 (x_rI (fun r4 u3 h => ?_))
    refine x_if_eq (tgt := 34) d_M_isCall_16 rfl (fun hc => ?_) (fun hc => ?_)
    · have h := h.1 hc
      refine x_iconst (v := 0) d_M_isCall_34 (by decide) ?_
      refine x_zret rfl d_M_isCall_35 ⟨_, rfl, ?_⟩
      exact h
    · have h := h.2 hc
      refine x_aload_n (x := o) d_M_isCall_19 rfl ?_
      refine x_get (v := .int (gI u3 9)) f_M_126 (eM_o _ _ _ _) rfl d_M_isCall_20 ?_
      refine x_aload_n (x := o) d_M_isCall_23 rfl ?_
      refine x_get (v := .int (gI u3 8)) f_M_116 (eM_o _ _ _ _) rfl d_M_isCall_24 ?_
      refine x_icmp_ne (tgt := 34) d_M_isCall_27 rfl (fun hc => ?_) (fun hc => ?_)
      · have h := h.1 hc
        refine x_iconst (v := 0) d_M_isCall_34 (by decide) ?_
        refine x_zret rfl d_M_isCall_35 ⟨_, rfl, ?_⟩
        exact h
      · have h := h.2 hc
        refine x_iconst (v := 1) d_M_isCall_30 (by decide) ?_
        refine x_goto (tgt := 35) d_M_isCall_31 rfl ?_
        refine x_zret rfl d_M_isCall_35 ⟨_, rfl, ?_⟩
        exact h
