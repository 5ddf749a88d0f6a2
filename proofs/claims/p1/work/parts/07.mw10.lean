def P_M_behind_18 (post : Int32 → MS → Prop) : Nat → Int32 → Int32 → Int32 → Int32 → MS → Prop
  | 0, _, _, _, _, _ => False
  | f + 1, x1, x2, x3, x4, u => ((18 ≤ x4 → post 0 u) ∧ (¬ 18 ≤ x4 → P_M_simple (fun r5 u4 => ((r5 = 0 → P_M_behind_18 post f x1 x2 x3 (x4 + 1) u4) ∧ (¬ r5 = 0 → P_M_mayFollow (fun r7 u6 => ((r7 = 0 → post 0 u4) ∧ (¬ r7 = 0 → post x4 u4))) x4 ()))) x4 (sI (sI (sI (sI u 9 x1) 10 x2) 12 x3) 16 (0 : Int32))))
set_option maxHeartbeats 600000 in
set_option maxRecDepth 100000 in
theorem w_M_behind_18 (l : Launch) (D : va_G) (cs : Nat → ClassId) (Ev : (Nat → Prop) → State → Prop) (hE : xEok Ev) (o : Nat) (a : Nat → Nat) (d : Nat) (post : Int32 → MS → Prop) : ∀ (f : Nat) (x1 : Int32) (x2 : Int32) (x3 : Int32) (x4 : Int32) (u : MS), P_M_behind_18 post  f x1 x2 x3 x4 u → RR l D clX (tysX cs) Ev "DeckFrontModel" b_M_behind 5 w_M_behind (rmD (d + 9)) (some .int) (wdM o a cs) (pI post) 0 0 0 0 18 [(0, .ref o), (1, .int x1), (2, .int x2), (3, .int x3), (4, .int x4)] [] u := by
  intro f
  induction f with
  | zero => intro x1 x2 x3 x4 u h; exact h.elim
  | succ f ih =>
    intro x1 x2 x3 x4 u h
    unfold P_M_behind_18 at h
    refine x_iload (x := x4) d_M_behind_18 rfl ?_
    refine x_bipush (v := 18) d_M_behind_20 (by decide) ?_
    refine x_icmp_ge (tgt := 75) d_M_behind_22 rfl (fun hc => ?_) (fun hc => ?_)
    · have h := h.1 hc
      refine x_iconst (v := 0) d_M_behind_75 (by decide) ?_
      refine x_iret d_M_behind_76 ⟨_, rfl, ?_⟩
      exact h
    · have h := h.2 hc
      refine x_aload_n (x := o) d_M_behind_25 rfl ?_
      refine x_iload_n (x := x1) d_M_behind_26 rfl ?_
      refine x_put f_M_126 fw_M_9 (eM_o _ _ _ _) rfl rfl (Nat.le_of_ble_eq_true rfl) (sM_9 _ _ _ _ _) d_M_behind_27 ?_
      refine x_aload_n (x := o) d_M_behind_30 rfl ?_
      refine x_iload_n (x := x2) d_M_behind_31 rfl ?_
      refine x_put f_M_119 fw_M_10 (eM_o _ _ _ _) rfl rfl (Nat.le_of_ble_eq_true rfl) (sM_10 _ _ _ _ _) d_M_behind_32 ?_
      refine x_aload_n (x := o) d_M_behind_35 rfl ?_
      refine x_iload_n (x := x3) d_M_behind_36 rfl ?_
      refine x_put f_M_138 fw_M_12 (eM_o _ _ _ _) rfl rfl (Nat.le_of_ble_eq_true rfl) (sM_12 _ _ _ _ _) d_M_behind_37 ?_
      refine x_aload_n (x := o) d_M_behind_40 rfl ?_
      refine x_iconst (v := 0) d_M_behind_41 (by decide) ?_
      refine x_put f_M_244 fw_M_16 (eM_o _ _ _ _) rfl rfl (Nat.le_of_ble_eq_true rfl) (sM_16 _ _ _ _ _) d_M_behind_42 ?_
      refine x_aload_n (x := o) d_M_behind_45 rfl ?_
      refine x_iload (x := x4) d_M_behind_46 rfl ?_
      refine x_callV (st := []) k_M_310 rfl (eM_o _ _ _ _) x_id (c_M_simple l D cs Ev hE o a (d + 0) _ x4 (sI (sI (sI (sI u 9 x1) 10 x2) 12 x3) 16 (0 : Int32)) h) hE (rmD_ok (by omega) (by decide)) rfl (Nat.le_of_ble_eq_true rfl) rfl d_M_behind_48 (x_rI (fun r5 u4 h => ?_))
      refine x_if_eq (tgt := 69) d_M_behind_51 rfl (fun hc => ?_) (fun hc => ?_)
      · have h := h.1 hc
        refine x_iinc (v := x4 + 1) (lv' := [(4, .int (x4 + 1)), (0, .ref o), (1, .int x1), (2, .int x2), (3, .int x3)]) d_M_behind_69 rfl rfl (by decide) rfl ?_
        refine x_goto (tgt := 18) d_M_behind_72 rfl ?_
        refine x_sub [1, 2, 3, 4, 0] rfl ?_
        exact ih x1 x2 x3 (x4 + 1) u4 h
      · have h := h.2 hc
        refine x_iload (x := x4) d_M_behind_54 rfl ?_
        refine x_callS (st := []) k_M_313 x_none (c_M_mayFollow l D cs Ev hE (d + 8) _ x4 () h) hE (rmD_ok (by omega) (by decide)) rfl (Nat.le_of_ble_eq_true rfl) rfl d_M_behind_56 (x_rI (fun r7 u6 h => ?_))
        refine x_if_eq (tgt := 67) d_M_behind_59 rfl (fun hc => ?_) (fun hc => ?_)
        · have h := h.1 hc
          refine x_iconst (v := 0) d_M_behind_67 (by decide) ?_
          refine x_iret d_M_behind_68 ⟨_, rfl, ?_⟩
          exact h
        · have h := h.2 hc
          refine x_iload (x := x4) d_M_behind_62 rfl ?_
          refine x_goto (tgt := 68) d_M_behind_64 rfl ?_
          refine x_iret d_M_behind_68 ⟨_, rfl, ?_⟩
          exact h
def P_M_behind (post : Int32 → MS → Prop) (u : MS) : Prop := (∀ v1, v1 = (gI u 9) → (∀ v2, v2 = (gI u 10) → (∀ v3, v3 = (gI u 12) → (∃ g, P_M_behind_18 post g v1 v2 v3 1 u))))
set_option maxHeartbeats 600000 in
set_option maxRecDepth 100000 in
theorem c_M_behind (l : Launch) (D : va_G) (cs : Nat → ClassId) (Ev : (Nat → Prop) → State → Prop) (hE : xEok Ev) (o : Nat) (a : Nat → Nat) (d : Nat) (post : Int32 → MS → Prop) (u : MS) (h : P_M_behind post  u) : xC l D clX (tysX cs) Ev y_M_behind w_M_behind (rmD (d + 9)) (wdM o a cs) [.ref o] u (pI post) 0 0 := by
  unfold P_M_behind at h
  refine xC.of (cc := b_M_behind) (nL := 5) (ret := (some .int)) (by decide) rfl (Nat.le_of_ble_eq_true rfl) ?_
  show RR l D clX (tysX cs) Ev "DeckFrontModel" b_M_behind 5 w_M_behind (rmD (d + 9)) (some .int) (wdM o a cs) (pI post) 0 0 0 0 0 [(0, .ref o)] [] u
  refine x_aload_n (x := o) d_M_behind_0 rfl ?_
  refine x_get (v := .int (gI u 9)) f_M_126 (eM_o _ _ _ _) rfl d_M_behind_1 ?_
  refine x_topI (fun v1 ev1 => ?_)
  have h := h v1 ev1
  refine x_istore_n (lv' := [(1, .int v1), (0, .ref o)]) d_M_behind_4 (by decide) rfl ?_
  refine x_aload_n (x := o) d_M_behind_5 rfl ?_
  refine x_get (v := .int (gI u 10)) f_M_119 (eM_o _ _ _ _) rfl d_M_behind_6 ?_
  refine x_topI (fun v2 ev2 => ?_)
  have h := h v2 ev2
  refine x_istore_n (lv' := [(2, .int v2), (1, .int v1), (0, .ref o)]) d_M_behind_9 (by decide) rfl ?_
  refine x_aload_n (x := o) d_M_behind_10 rfl ?_
  refine x_get (v := .int (gI u 12)) f_M_138 (eM_o _ _ _ _) rfl d_M_behind_11 ?_
  refine x_topI (fun v3 ev3 => ?_)
  have h := h v3 ev3
  refine x_istore_n (lv' := [(3, .int v3), (2, .int v2), (1, .int v1), (0, .ref o)]) d_M_behind_14 (by decide) rfl ?_
  refine x_iconst (v := 1) d_M_behind_15 (by decide) ?_
  refine x_istore (lv' := [(4, .int 1), (3, .int v3), (2, .int v2), (1, .int v1), (0, .ref o)]) d_M_behind_16 (by decide) rfl ?_
  refine x_sub [4, 3, 2, 1, 0] rfl ?_
  obtain ⟨f9, h⟩ := h
  exact w_M_behind_18 l D cs Ev hE o a d post  f9 v1 v2 v3 1 u h
def P_M_isIf (post : Int32 → MS → Prop) (u : MS) : Prop := P_M_word (fun r2 u1 => ((r2 = 0 → post 0 u1) ∧ (¬ r2 = 0 → P_M_expression (fun r4 u3 => ((r4 = 0 → post 0 u3) ∧ (¬ r4 = 0 → P_M_sign (fun r6 u5 => ((r6 = 0 → post 0 u5) ∧ (¬ r6 = 0 → P_M_behind (fun r8 u7 => ((r8 ≤ 0 → post 0 u7) ∧ (¬ r8 ≤ 0 → post 1 u7))) u5))) (41 : Int32) u3))) (1 : Int32) u1))) (4802088 : Int64) u
set_option maxHeartbeats 600000 in
set_option maxRecDepth 100000 in
theorem c_M_isIf (l : Launch) (D : va_G) (cs : Nat → ClassId) (Ev : (Nat → Prop) → State → Prop) (hE : xEok Ev) (o : Nat) (a : Nat → Nat) (d : Nat) (post : Int32 → MS → Prop) (u : MS) (h : P_M_isIf post  u) : xC l D clX (tysX cs) Ev y_M_isIf w_M_isIf (rmD (d + 10)) (wdM o a cs) [.ref o] u (pI post) 0 0 := by
  unfold P_M_isIf at h
  refine xC.of (cc := b_M_isIf) (nL := 1) (ret := (some .boolean)) (by decide) rfl (Nat.le_of_ble_eq_true rfl) ?_
  show RR l D clX (tysX cs) Ev "DeckFrontModel" b_M_isIf 1 w_M_isIf (rmD (d + 10)) (some .boolean) (wdM o a cs) (pI post) 0 0 0 0 0 [(0, .ref o)] [] u
  refine x_aload_n (x := o) d_M_isIf_0 rfl ?_
  refine x_ldc2 (v := 4802088) (cG tw_921) d_M_isIf_1 ?_
  refine x_callV (st := []) k_M_234 rfl (eM_o _ _ _ _) x_id (c_M_word l D cs Ev hE o a (d + 7) _ (4802088 : Int64) u h) hE (rmD_ok (by omega) (by decide)) rfl (Nat.le_of_ble_eq_true rfl) rfl d_M_isIf_4 (x_rI (fun r2 u1 h => ?_))
  refine x_if_eq (tgt := 38) d_M_isIf_7 rfl (fun hc => ?_) (fun hc => ?_)
  · have h := h.1 hc
    refine x_iconst (v := 0) d_M_isIf_38 (by decide) ?_
    refine x_zret rfl d_M_isIf_39 ⟨_, rfl, ?_⟩
    exact h
  · have h := h.2 hc
    refine x_aload_n (x := o) d_M_isIf_10 rfl ?_
    refine x_iconst (v := 1) d_M_isIf_11 (by decide) ?_
    refine x_callV (st := []) k_M_219 rfl (eM_o _ _ _ _) x_id (c_M_expression l D cs Ev hE o a (d + 5) _ (1 : Int32) u1 h) hE (rmD_ok (by omega) (by decide)) rfl (Nat.le_of_ble_eq_true rfl) rfl d_M_isIf_12 (x_rI (fun r4 u3 h => ?_))
    refine x_if_eq (tgt := 38) d_M_isIf_15 rfl (fun hc => ?_) (fun hc => ?_)
    · have h := h.1 hc
      refine x_iconst (v := 0) d_M_isIf_38 (by decide) ?_
      refine x_zret rfl d_M_isIf_39 ⟨_, rfl, ?_⟩
      exact h
    · have h := h.2 hc
      refine x_aload_n (x := o) d_M_isIf_18 rfl ?_
      refine x_bipush (v := 41) d_M_isIf_19 (by decide) ?_
      refine x_callV (st := []) k_M_226 rfl (eM_o _ _ _ _) x_id (c_M_sign l D cs Ev hE o a (d + 8) _ (41 : Int32) u3 h) hE (rmD_ok (by omega) (by decide)) rfl (Nat.le_of_ble_eq_true rfl) rfl d_M_isIf_21 (x_rI (fun r6 u5 h => ?_))
      refine x_if_eq (tgt := 38) d_M_isIf_24 rfl (fun hc => ?_) (fun hc => ?_)
      · have h := h.1 hc
        refine x_iconst (v := 0) d_M_isIf_38 (by decide) ?_
        refine x_zret rfl d_M_isIf_39 ⟨_, rfl, ?_⟩
        exact h
      · have h := h.2 hc
        refine x_aload_n (x := o) d_M_isIf_27 rfl ?_
        refine x_callV (st := []) k_M_316 rfl (eM_o _ _ _ _) x_id (c_M_behind l D cs Ev hE o a (d + 0) _ u5 h) hE (rmD_ok (by omega) (by decide)) rfl (Nat.le_of_ble_eq_true rfl) rfl d_M_isIf_28 (x_rI (fun r8 u7 h => ?_))
        refine x_if_le (tgt := 38) d_M_isIf_31 rfl (fun hc => ?_) (fun hc => ?_)
        · have h := h.1 hc
          refine x_iconst (v := 0) d_M_isIf_38 (by decide) ?_
          refine x_zret rfl d_M_isIf_39 ⟨_, rfl, ?_⟩
          exact h
        · have h := h.2 hc
          refine x_iconst (v := 1) d_M_isIf_34 (by decide) ?_
          refine x_goto (tgt := 39) d_M_isIf_35 rfl ?_
          refine x_zret rfl d_M_isIf_39 ⟨_, rfl, ?_⟩
          exact h
def P_M_read_79 (post : Int32 → MS → Prop) (K25 : Int32 → MS → Prop) (x2 : Int32) (u : MS) : Prop := K25 (x2 + 1) u
set_option maxHeartbeats 600000 in
set_option maxRecDepth 100000 in
theorem w_M_read_79 (l : Launch) (D : va_G) (cs : Nat → ClassId) (Ev : (Nat → Prop) → State → Prop) (hE : xEok Ev) (o : Nat) (a : Nat → Nat) (d : Nat) (post : Int32 → MS → Prop) (K25 : Int32 → MS → Prop) (hK25 : ∀ (x2 : Int32) (u : MS), K25 x2 u → RR l D clX (tysX cs) Ev "DeckFrontModel" b_M_read 3 w_M_read (rmD (d + 11)) (some .int) (wdM o a cs) (pI post) 0 0 0 0 25 [(0, .ref o), (2, .int x2)] [] u) (x2 : Int32) (u : MS) (h : P_M_read_79 post K25 x2 u) : RR l D clX (tysX cs) Ev "DeckFrontModel" b_M_read 3 w_M_read (rmD (d + 11)) (some .int) (wdM o a cs) (pI post) 0 0 0 0 79 [(0, .ref o), (2, .int x2)] [] u := by
  unfold P_M_read_79 at h
  refine x_iinc (v := x2 + 1) (lv' := [(2, .int (x2 + 1)), (0, .ref o)]) d_M_read_79 rfl rfl (by decide) rfl ?_
  refine x_goto (tgt := 25) d_M_read_82 rfl ?_
  refine x_sub [1, 0] rfl ?_
  exact hK25 (x2 + 1) u h
def P_M_read_25 (post : Int32 → MS → Prop) : Nat → Int32 → MS → Prop
  | 0, _, _ => False
  | f + 1, x2, u => ((18 ≤ x2 → P_M_putPart (fun u1 => post 0 u1) (gI u 7) (gI u 8) (sI (sI (sI u 10 (0 : Int32)) 12 (0 : Int32)) 16 (0 : Int32))) ∧ (¬ 18 ≤ x2 → ((¬ x2 = 4 → P_M_simple (fun r3 u2 => ((r3 = 0 → P_M_read_79 post (fun zx2 zu => P_M_read_25 post f zx2 zu) x2 u2) ∧ (¬ r3 = 0 → post x2 u2))) x2 (sI (sI (sI (sI u 9 (gI u 7)) 10 (0 : Int32)) 12 (0 : Int32)) 16 (0 : Int32))) ∧ (x2 = 4 → P_M_isIf (fun r5 u4 => ((r5 = 0 → P_M_read_79 post (fun zx2 zu => P_M_read_25 post f zx2 zu) x2 u4) ∧ (¬ r5 = 0 → post x2 u4))) (sI (sI (sI (sI u 9 (gI u 7)) 10 (0 : Int32)) 12 (0 : Int32)) 16 (0 : Int32))))))
set_option maxHeartbeats 600000 in
set_option maxRecDepth 100000 in
theorem w_M_read_25 (l : Launch) (D : va_G) (cs : Nat → ClassId) (Ev : (Nat → Prop) → State → Prop) (hE : xEok Ev) (o : Nat) (a : Nat → Nat) (d : Nat) (post : Int32 → MS → Prop) : ∀ (f : Nat) (x2 : Int32) (u : MS), P_M_read_25 post  f x2 u → RR l D clX (tysX cs) Ev "DeckFrontModel" b_M_read 3 w_M_read (rmD (d + 11)) (some .int) (wdM o a cs) (pI post) 0 0 0 0 25 [(0, .ref o), (2, .int x2)] [] u := by
  intro f
  induction f with
  | zero => intro x2 u h; exact h.elim
  | succ f ih =>
    intro x2 u h
    unfold P_M_read_25 at h
    refine x_iload_n (x := x2) d_M_read_25 rfl ?_
    refine x_bipush (v := 18) d_M_read_26 (by decide) ?_
    refine x_icmp_ge (tgt := 85) d_M_read_28 rfl (fun hc => ?_) (fun hc => ?_)
    · have h := h.1 hc
      refine x_aload_n (x := o) d_M_read_85 rfl ?_
      refine x_iconst (v := 0) d_M_read_86 (by decide) ?_
      refine x_put f_M_119 fw_M_10 (eM_o _ _ _ _) rfl rfl (Nat.le_of_ble_eq_true rfl) (sM_10 _ _ _ _ _) d_M_read_87 ?_
      refine x_aload_n (x := o) d_M_read_90 rfl ?_
      refine x_iconst (v := 0) d_M_read_91 (by decide) ?_
      refine x_put f_M_138 fw_M_12 (eM_o _ _ _ _) rfl rfl (Nat.le_of_ble_eq_true rfl) (sM_12 _ _ _ _ _) d_M_read_92 ?_
      refine x_aload_n (x := o) d_M_read_95 rfl ?_
      refine x_iconst (v := 0) d_M_read_96 (by decide) ?_
      refine x_put f_M_244 fw_M_16 (eM_o _ _ _ _) rfl rfl (Nat.le_of_ble_eq_true rfl) (sM_16 _ _ _ _ _) d_M_read_97 ?_
      refine x_aload_n (x := o) d_M_read_100 rfl ?_
      refine x_aload_n (x := o) d_M_read_101 rfl ?_
      refine x_get (v := .int (gI u 7)) f_M_319 (eM_o _ _ _ _) rfl d_M_read_102 ?_
      refine x_aload_n (x := o) d_M_read_105 rfl ?_
      refine x_get (v := .int (gI u 8)) f_M_116 (eM_o _ _ _ _) rfl d_M_read_106 ?_
      refine x_callV (st := []) k_M_134 rfl (eM_o _ _ _ _) x_id (c_M_putPart l D cs Ev hE o a (d + 9) _ (gI u 7) (gI u 8) (sI (sI (sI u 10 (0 : Int32)) 12 (0 : Int32)) 16 (0 : Int32)) h) hE (rmD_ok (by omega) (by decide)) rfl (Nat.le_of_ble_eq_true rfl) rfl d_M_read_109 (x_rV (fun u1 h => ?_))
      refine x_iconst (v := 0) d_M_read_112 (by decide) ?_
      refine x_iret d_M_read_113 ⟨_, rfl, ?_⟩
      exact h
    · have h := h.2 hc
      refine x_aload_n (x := o) d_M_read_31 rfl ?_
      refine x_aload_n (x := o) d_M_read_32 rfl ?_
      refine x_get (v := .int (gI u 7)) f_M_319 (eM_o _ _ _ _) rfl d_M_read_33 ?_
      refine x_put f_M_126 fw_M_9 (eM_o _ _ _ _) rfl rfl (Nat.le_of_ble_eq_true rfl) (sM_9 _ _ _ _ _) d_M_read_36 ?_
      refine x_aload_n (x := o) d_M_read_39 rfl ?_
      refine x_iconst (v := 0) d_M_read_40 (by decide) ?_
      refine x_put f_M_119 fw_M_10 (eM_o _ _ _ _) rfl rfl (Nat.le_of_ble_eq_true rfl) (sM_10 _ _ _ _ _) d_M_read_41 ?_
      refine x_aload_n (x := o) d_M_read_44 rfl ?_
      refine x_iconst (v := 0) d_M_read_45 (by decide) ?_
      refine x_put f_M_138 fw_M_12 (eM_o _ _ _ _) rfl rfl (Nat.le_of_ble_eq_true rfl) (sM_12 _ _ _ _ _) d_M_read_46 ?_
      refine x_aload_n (x := o) d_M_read_49 rfl ?_
      refine x_iconst (v := 0) d_M_read_50 (by decide) ?_
      refine x_put f_M_244 fw_M_16 (eM_o _ _ _ _) rfl rfl (Nat.le_of_ble_eq_true rfl) (sM_16 _ _ _ _ _) d_M_read_51 ?_
      refine x_iload_n (x := x2) d_M_read_54 rfl ?_
      refine x_iconst (v := 4) d_M_read_55 (by decide) ?_
      refine x_icmp_ne (tgt := 69) d_M_read_56 rfl (fun hc => ?_) (fun hc => ?_)
      · have h := h.1 hc
        refine x_aload_n (x := o) d_M_read_69 rfl ?_
        refine x_iload_n (x := x2) d_M_read_70 rfl ?_
        refine x_callV (st := []) k_M_310 rfl (eM_o _ _ _ _) x_id (c_M_simple l D cs Ev hE o a (d + 2) _ x2 (sI (sI (sI (sI u 9 (gI u 7)) 10 (0 : Int32)) 12 (0 : Int32)) 16 (0 : Int32)) h) hE (rmD_ok (by omega) (by decide)) rfl (Nat.le_of_ble_eq_true rfl) rfl d_M_read_71 (x_rI (fun r3 u2 h => ?_))
        refine x_if_eq (tgt := 79) d_M_read_74 rfl (fun hc => ?_) (fun hc => ?_)
        · have h := h.1 hc
          exact w_M_read_79 l D cs Ev hE o a d post (fun zx2 zu => P_M_read_25 post f zx2 zu) ih x2 u2 h
        · have h := h.2 hc
          refine x_iload_n (x := x2) d_M_read_77 rfl ?_
          refine x_iret d_M_read_78 ⟨_, rfl, ?_⟩
          exact h
      · have h := h.2 hc
        refine x_aload_n (x := o) d_M_read_59 rfl ?_
        refine x_callV (st := []) k_M_322 rfl (eM_o _ _ _ _) x_id (c_M_isIf l D cs Ev hE o a (d + 0) _ (sI (sI (sI (sI u 9 (gI u 7)) 10 (0 : Int32)) 12 (0 : Int32)) 16 (0 : Int32)) h) hE (rmD_ok (by omega) (by decide)) rfl (Nat.le_of_ble_eq_true rfl) rfl d_M_read_60 (x_rI (fun r5 u4 h => ?_))
        refine x_if_eq (tgt := 79) d_M_read_63 rfl (fun hc => ?_) (fun hc => ?_)
        · have h := h.1 hc
          exact w_M_read_79 l D cs Ev hE o a d post (fun zx2 zu => P_M_read_25 post f zx2 zu) ih x2 u4 h
        · have h := h.2 hc
          refine x_goto (tgt := 77) d_M_read_66 rfl ?_
          refine x_iload_n (x := x2) d_M_read_77 rfl ?_
          refine x_iret d_M_read_78 ⟨_, rfl, ?_⟩
          exact h
def P_M_read (post : Int32 → MS → Prop) (a0 : Int32) (u : MS) : Prop := (vp_in a0 24 ∧ (∃ g, P_M_read_25 post g 1 (sI (sI u 7 ((80 : Int32) * a0)) 8 (((80 : Int32) * a0) + (gA (sI u 7 ((80 : Int32) * a0)) 5 a0.toNatClampNeg)))))
set_option maxHeartbeats 600000 in
set_option maxRecDepth 100000 in
theorem c_M_read (l : Launch) (D : va_G) (cs : Nat → ClassId) (Ev : (Nat → Prop) → State → Prop) (hE : xEok Ev) (o : Nat) (a : Nat → Nat) (d : Nat) (post : Int32 → MS → Prop) (a0 : Int32) (u : MS) (h : P_M_read post a0 u) : xC l D clX (tysX cs) Ev y_M_read w_M_read (rmD (d + 11)) (wdM o a cs) [.ref o, .int a0] u (pI post) 0 0 := by
  unfold P_M_read at h
  refine xC.of (cc := b_M_read) (nL := 3) (ret := (some .int)) (by decide) rfl (Nat.le_of_ble_eq_true rfl) ?_
  show RR l D clX (tysX cs) Ev "DeckFrontModel" b_M_read 3 w_M_read (rmD (d + 11)) (some .int) (wdM o a cs) (pI post) 0 0 0 0 0 [(0, .ref o), (1, .int a0)] [] u
  refine x_aload_n (x := o) d_M_read_0 rfl ?_
  refine x_bipush (v := 80) d_M_read_1 (by decide) ?_
  refine x_iload_n (x := a0) d_M_read_3 rfl ?_
  refine x_imul d_M_read_4 ?_
  refine x_put f_M_319 fw_M_7 (eM_o _ _ _ _) rfl rfl (Nat.le_of_ble_eq_true rfl) (sM_7 _ _ _ _ _) d_M_read_5 ?_
  refine x_aload_n (x := o) d_M_read_8 rfl ?_
  refine x_aload_n (x := o) d_M_read_9 rfl ?_
  refine x_get (v := .int ((80 : Int32) * a0)) f_M_319 (eM_o _ _ _ _) rfl d_M_read_10 ?_
  refine x_aload_n (x := o) d_M_read_13 rfl ?_
  refine x_get (v := .ref (a 5)) f_M_17 (eM_o _ _ _ _) rfl d_M_read_14 ?_
  refine x_iload_n (x := a0) d_M_read_17 rfl ?_
  refine x_iald (t0 := 0) (eM_5 _ _ _ _) rfl h.1 d_M_read_18 ?_
  have h := h.2
  refine x_iadd d_M_read_19 ?_
  refine x_put f_M_116 fw_M_8 (eM_o _ _ _ _) rfl rfl (Nat.le_of_ble_eq_true rfl) (sM_8 _ _ _ _ _) d_M_read_20 ?_
  refine x_iconst (v := 1) d_M_read_23 (by decide) ?_
  refine x_istore_n (lv' := [(2, .int 1), (0, .ref o), (1, .int a0)]) d_M_read_24 (by decide) rfl ?_
  refine x_sub [1, 0] rfl ?_
  obtain ⟨f9, h⟩ := h
  exact w_M_read_25 l D cs Ev hE o a d post  f9 1 (sI (sI u 7 ((80 : Int32) * a0)) 8 (((80 : Int32) * a0) + (gA (sI u 7 ((80 : Int32) * a0)) 5 a0.toNatClampNeg))) h
def P_M_what (post : Int32 → MS → Prop) (a0 : Int32) (u : MS) : Prop := P_M_there (fun r2 u1 => ((r2 = 0 → post (-1) u1) ∧ (¬ r2 = 0 → P_M_read (fun r4 u3 => post r4 u3) a0 u1))) a0 (sI u 0 (0 : Int32))
set_option maxHeartbeats 600000 in
set_option maxRecDepth 100000 in
theorem c_M_what (l : Launch) (D : va_G) (cs : Nat → ClassId) (Ev : (Nat → Prop) → State → Prop) (hE : xEok Ev) (o : Nat) (a : Nat → Nat) (d : Nat) (post : Int32 → MS → Prop) (a0 : Int32) (u : MS) (h : P_M_what post a0 u) : xC l D clX (tysX cs) Ev y_M_what w_M_what (rmD (d + 12)) (wdM o a cs) [.ref o, .int a0] u (pI post) 0 0 := by
  unfold P_M_what at h
  refine xC.of (cc := b_M_what) (nL := 2) (ret := (some .int)) (by decide) rfl (Nat.le_of_ble_eq_true rfl) ?_
  show RR l D clX (tysX cs) Ev "DeckFrontModel" b_M_what 2 w_M_what (rmD (d + 12)) (some .int) (wdM o a cs) (pI post) 0 0 0 0 0 [(0, .ref o), (1, .int a0)] [] u
  refine x_aload_n (x := o) d_M_what_0 rfl ?_
  refine x_iconst (v := 0) d_M_what_1 (by decide) ?_
  refine x_put f_M_82 fw_M_0 (eM_o _ _ _ _) rfl rfl (Nat.le_of_ble_eq_true rfl) (sM_0 _ _ _ _ _) d_M_what_2 ?_
  refine x_aload_n (x := o) d_M_what_5 rfl ?_
  refine x_iload_n (x := a0) d_M_what_6 rfl ?_
  refine x_callV (st := []) k_M_113 rfl (eM_o _ _ _ _) x_id (c_M_there l D cs Ev hE o a (d + 11) _ a0 (sI u 0 (0 : Int32)) h) hE (rmD_ok (by omega) (by decide)) rfl (Nat.le_of_ble_eq_true rfl) rfl d_M_what_7 (x_rI (fun r2 u1 h => ?_))
  refine x_if_eq (tgt := 21) d_M_what_10 rfl (fun hc => ?_) (fun hc => ?_)
  · have h := h.1 hc
    refine x_iconst (v := (-1)) d_M_what_21 (by decide) ?_
    refine x_iret d_M_what_22 ⟨_, rfl, ?_⟩
    exact h
  · have h := h.2 hc
    refine x_aload_n (x := o) d_M_what_13 rfl ?_
    refine x_iload_n (x := a0) d_M_what_14 rfl ?_
    refine x_callV (st := []) k_M_325 rfl (eM_o _ _ _ _) x_id (c_M_read l D cs Ev hE o a (d + 0) _ a0 u1 h) hE (rmD_ok (by omega) (by decide)) rfl (Nat.le_of_ble_eq_true rfl) rfl d_M_what_15 (x_rI (fun r4 u3 h => ?_))
    refine x_goto (tgt := 22) d_M_what_18 rfl ?_
    refine x_iret d_M_what_22 ⟨_, rfl, ?_⟩
    exact h
def P_M_shown (post : Int32 → MS → Prop) (a0 : Int32) (a1 : Int32) (u : MS) : Prop := P_M_there (fun r2 u1 => ((r2 = 0 → post (-1) u1) ∧ (¬ r2 = 0 → ((0 ≤ a1 → P_M_read (fun r4 u3 => (((gI u3 10) ≤ a1 → post (-1) u3) ∧ (¬ (gI u3 10) ≤ a1 → (vp_in a1 600 ∧ post (gA u3 11 a1.toNatClampNeg) u3)))) a0 u1) ∧ (¬ 0 ≤ a1 → post (-1) u1))))) a0 (sI u 0 (0 : Int32))
set_option maxHeartbeats 600000 in
set_option maxRecDepth 100000 in
theorem c_M_shown (l : Launch) (D : va_G) (cs : Nat → ClassId) (Ev : (Nat → Prop) → State → Prop) (hE : xEok Ev) (o : Nat) (a : Nat → Nat) (d : Nat) (post : Int32 → MS → Prop) (a0 : Int32) (a1 : Int32) (u : MS) (h : P_M_shown post a0 a1 u) : xC l D clX (tysX cs) Ev y_M_shown w_M_shown (rmD (d + 12)) (wdM o a cs) [.ref o, .int a0, .int a1] u (pI post) 0 0 := by
  unfold P_M_shown at h
  refine xC.of (cc := b_M_shown) (nL := 4) (ret := (some .int)) (by decide) rfl (Nat.le_of_ble_eq_true rfl) ?_
  show RR l D clX (tysX cs) Ev "DeckFrontModel" b_M_shown 4 w_M_shown (rmD (d + 12)) (some .int) (wdM o a cs) (pI post) 0 0 0 0 0 [(0, .ref o), (1, .int a0), (2, .int a1)] [] u
  refine x_aload_n (x := o) d_M_shown_0 rfl ?_
  refine x_iconst (v := 0) d_M_shown_1 (by decide) ?_
  refine x_put f_M_82 fw_M_0 (eM_o _ _ _ _) rfl rfl (Nat.le_of_ble_eq_true rfl) (sM_0 _ _ _ _ _) d_M_shown_2 ?_
  refine x_aload_n (x := o) d_M_shown_5 rfl ?_
  refine x_iload_n (x := a0) d_M_shown_6 rfl ?_
  refine x_callV (st := []) k_M_113 rfl (eM_o _ _ _ _) x_id (c_M_there l D cs Ev hE o a (d + 11) _ a0 (sI u 0 (0 : Int32)) h) hE (rmD_ok (by omega) (by decide)) rfl (Nat.le_of_ble_eq_true rfl) rfl d_M_shown_7 (x_rI (fun r2 u1 h => ?_))
  refine x_if_eq (tgt := 17) d_M_shown_10 rfl (fun hc => ?_) (fun hc => ?_)
  · have h := h.1 hc
    refine x_iconst (v := (-1)) d_M_shown_17 (by decide) ?_
    refine x_iret d_M_shown_18 ⟨_, rfl, ?_⟩
    exact h
  · have h := h.2 hc
    refine x_iload_n (x := a1) d_M_shown_13 rfl ?_
    refine x_if_ge (tgt := 19) d_M_shown_14 rfl (fun hc => ?_) (fun hc => ?_)
    · have h := h.1 hc
      refine x_aload_n (x := o) d_M_shown_19 rfl ?_
      refine x_iload_n (x := a0) d_M_shown_20 rfl ?_
      refine x_callV (st := []) k_M_325 rfl (eM_o _ _ _ _) x_id (c_M_read l D cs Ev hE o a (d + 0) _ a0 u1 h) hE (rmD_ok (by omega) (by decide)) rfl (Nat.le_of_ble_eq_true rfl) rfl d_M_shown_21 (x_rI (fun r4 u3 h => ?_))
      refine x_istore_n (lv' := [(3, .int r4), (0, .ref o), (1, .int a0), (2, .int a1)]) d_M_shown_24 (by decide) rfl ?_
      refine x_iload_n (x := a1) d_M_shown_25 rfl ?_
      refine x_aload_n (x := o) d_M_shown_26 rfl ?_
      refine x_get (v := .int (gI u3 10)) f_M_119 (eM_o _ _ _ _) rfl d_M_shown_27 ?_
      refine x_icmp_ge (tgt := 42) d_M_shown_30 rfl (fun hc => ?_) (fun hc => ?_)
      · have h := h.1 hc
        refine x_iconst (v := (-1)) d_M_shown_42 (by decide) ?_
        refine x_iret d_M_shown_43 ⟨_, rfl, ?_⟩
        exact h
      · have h := h.2 hc
        refine x_aload_n (x := o) d_M_shown_33 rfl ?_
        refine x_get (v := .ref (a 11)) f_M_23 (eM_o _ _ _ _) rfl d_M_shown_34 ?_
        refine x_iload_n (x := a1) d_M_shown_37 rfl ?_
        refine x_cald (t0 := 1) (eM_11 _ _ _ _) rfl h.1 d_M_shown_38 ?_
        have h := h.2
        refine x_goto (tgt := 43) d_M_shown_39 rfl ?_
        refine x_iret d_M_shown_43 ⟨_, rfl, ?_⟩
        exact h
    · have h := h.2 hc
      refine x_iconst (v := (-1)) d_M_shown_17 (by decide) ?_
      refine x_iret d_M_shown_18 ⟨_, rfl, ?_⟩
      exact h
def P_M_packed_75 (post : Int64 → Unit → Prop) (K9 : Int64 → Int64 → Int32 → Int32 → Unit → Prop) (x0 : Int64) (x2 : Int64) (x4 : Int32) (x5 : Int32) (u : Unit) : Prop := K9 x0 x2 x4 (x5 + (-1)) u
set_option maxHeartbeats 600000 in
set_option maxRecDepth 100000 in
theorem w_M_packed_75 (l : Launch) (D : va_G) (cs : Nat → ClassId) (Ev : (Nat → Prop) → State → Prop) (hE : xEok Ev) (d : Nat) (post : Int64 → Unit → Prop) (K9 : Int64 → Int64 → Int32 → Int32 → Unit → Prop) (hK9 : ∀ (x0 : Int64) (x2 : Int64) (x4 : Int32) (x5 : Int32) (u : Unit), K9 x0 x2 x4 x5 u → RR l D clX (tysX cs) Ev "DeckFrontModel" b_M_packed 7 w_M_packed (rmD (d + 1)) (some .long) wd0 (pJ post) 0 0 0 0 9 [(0, .long x0), (2, .long x2), (4, .int x4), (5, .int x5)] [] u) (x0 : Int64) (x2 : Int64) (x4 : Int32) (x5 : Int32) (u : Unit) (h : P_M_packed_75 post K9 x0 x2 x4 x5 u) : RR l D clX (tysX cs) Ev "DeckFrontModel" b_M_packed 7 w_M_packed (rmD (d + 1)) (some .long) wd0 (pJ post) 0 0 0 0 75 [(0, .long x0), (2, .long x2), (4, .int x4), (5, .int x5)] [] u := by
  unfold P_M_packed_75 at h
  refine x_iinc (v := x5 + (-1)) (lv' := [(5, .int (x5 + (-1))), (0, .long x0), (2, .long x2), (4, .int x4)]) d_M_packed_75 rfl rfl (by decide) rfl ?_
  refine x_goto (tgt := 9) d_M_packed_78 rfl ?_
  refine x_sub [1, 2, 3, 0] rfl ?_
  exact hK9 x0 x2 x4 (x5 + (-1)) u h
def P_M_packed_54 (post : Int64 → Unit → Prop) (K9 : Int64 → Int64 → Int32 → Int32 → Unit → Prop) (x0 : Int64) (x2 : Int64) (x4 : Int32) (x5 : Int32) (x6 : Int32) (u : Unit) : Prop := ((¬ x4 = 6 → (∀ v2, v2 = ((x2 <<< ((8 : Int32).toInt64 &&& 63)) ||| x6.toInt64) → P_M_packed_75 post K9 x0 v2 (x4 + 1) x5 u)) ∧ (x4 = 6 → post 0 u))
set_option maxHeartbeats 600000 in
set_option maxRecDepth 100000 in
theorem w_M_packed_54 (l : Launch) (D : va_G) (cs : Nat → ClassId) (Ev : (Nat → Prop) → State → Prop) (hE : xEok Ev) (d : Nat) (post : Int64 → Unit → Prop) (K9 : Int64 → Int64 → Int32 → Int32 → Unit → Prop) (hK9 : ∀ (x0 : Int64) (x2 : Int64) (x4 : Int32) (x5 : Int32) (u : Unit), K9 x0 x2 x4 x5 u → RR l D clX (tysX cs) Ev "DeckFrontModel" b_M_packed 7 w_M_packed (rmD (d + 1)) (some .long) wd0 (pJ post) 0 0 0 0 9 [(0, .long x0), (2, .long x2), (4, .int x4), (5, .int x5)] [] u) (x0 : Int64) (x2 : Int64) (x4 : Int32) (x5 : Int32) (x6 : Int32) (u : Unit) (h : P_M_packed_54 post K9 x0 x2 x4 x5 x6 u) : RR l D clX (tysX cs) Ev "DeckFrontModel" b_M_packed 7 w_M_packed (rmD (d + 1)) (some .long) wd0 (pJ post) 0 0 0 0 54 [(0, .long x0), (2, .long x2), (4, .int x4), (5, .int x5), (6, .int x6)] [] u := by
  unfold P_M_packed_54 at h
  refine x_iload (x := x4) d_M_packed_54 rfl ?_
  refine x_bipush (v := 6) d_M_packed_56 (by decide) ?_
  refine x_icmp_ne (tgt := 63) d_M_packed_58 rfl (fun hc => ?_) (fun hc => ?_)
  · have h := h.1 hc
    refine x_lload_n (x := x2) d_M_packed_63 rfl ?_
    refine x_bipush (v := 8) d_M_packed_64 (by decide) ?_
    refine x_lshl d_M_packed_66 ?_
    refine x_iload (x := x6) d_M_packed_67 rfl ?_
    refine x_i2l d_M_packed_69 ?_
    refine x_lor d_M_packed_70 ?_
    refine x_topJ (fun v2 ev2 => ?_)
    have h := h v2 ev2
    refine x_lstore_n (lv' := [(2, .long v2), (0, .long x0), (4, .int x4), (5, .int x5), (6, .int x6)]) d_M_packed_71 (by decide) rfl ?_
    refine x_iinc (v := x4 + 1) (lv' := [(4, .int (x4 + 1)), (2, .long v2), (0, .long x0), (5, .int x5), (6, .int x6)]) d_M_packed_72 rfl rfl (by decide) rfl ?_
    refine x_sub [2, 1, 0, 3] rfl ?_
    exact w_M_packed_75 l D cs Ev hE d post K9 hK9 x0 v2 (x4 + 1) x5 u h
  · have h := h.2 hc
    refine x_lconst (v := 0) d_M_packed_61 (by decide) ?_
    refine x_lret d_M_packed_62 ⟨_, rfl, ?_⟩
    exact h
def P_M_packed_9 (post : Int64 → Unit → Prop) : Nat → Int64 → Int64 → Int32 → Int32 → Unit → Prop
  | 0, _, _, _, _, _ => False
  | f + 1, x0, x2, x4, x5, u => ((x5 < 0 → post x2 u) ∧ (¬ x5 < 0 → (∀ v1, v1 = ((((x0.toUInt64 >>> (((8 : Int32) * x5).toInt64.toUInt64 &&& Int64.toUInt64 63)).toInt64).toInt32) &&& (255 : Int32)) → ((v1 = 0 → P_M_packed_75 post (fun zx0 zx2 zx4 zx5 zu => P_M_packed_9 post f zx0 zx2 zx4 zx5 zu) x0 x2 x4 x5 u) ∧ (¬ v1 = 0 → ((¬ (isLet v1) = 0 → P_M_packed_54 post (fun zx0 zx2 zx4 zx5 zu => P_M_packed_9 post f zx0 zx2 zx4 zx5 zu) x0 x2 x4 x5 v1 u) ∧ ((isLet v1) = 0 → ((x4 = 0 → post 0 u) ∧ (¬ x4 = 0 → (((isDig v1) = 0 → post 0 u) ∧ (¬ (isDig v1) = 0 → P_M_packed_54 post (fun zx0 zx2 zx4 zx5 zu => P_M_packed_9 post f zx0 zx2 zx4 zx5 zu) x0 x2 x4 x5 v1 u)))))))))))
set_option maxHeartbeats 600000 in
set_option maxRecDepth 100000 in
theorem w_M_packed_9 (l : Launch) (D : va_G) (cs : Nat → ClassId) (Ev : (Nat → Prop) → State → Prop) (hE : xEok Ev) (d : Nat) (post : Int64 → Unit → Prop) : ∀ (f : Nat) (x0 : Int64) (x2 : Int64) (x4 : Int32) (x5 : Int32) (u : Unit), P_M_packed_9 post  f x0 x2 x4 x5 u → RR l D clX (tysX cs) Ev "DeckFrontModel" b_M_packed 7 w_M_packed (rmD (d + 1)) (some .long) wd0 (pJ post) 0 0 0 0 9 [(0, .long x0), (2, .long x2), (4, .int x4), (5, .int x5)] [] u := by
  intro f
  induction f with
  | zero => intro x0 x2 x4 x5 u h; exact h.elim
  | succ f ih =>
    intro x0 x2 x4 x5 u h
    unfold P_M_packed_9 at h
    refine x_iload (x := x5) d_M_packed_9 rfl ?_
    refine x_if_lt (tgt := 81) d_M_packed_11 rfl (fun hc => ?_) (fun hc => ?_)
    · have h := h.1 hc
      refine x_lload_n (x := x2) d_M_packed_81 rfl ?_
      refine x_lret d_M_packed_82 ⟨_, rfl, ?_⟩
      exact h
    · have h := h.2 hc
      refine x_lload_n (x := x0) d_M_packed_14 rfl ?_
      refine x_bipush (v := 8) d_M_packed_15 (by decide) ?_
      refine x_iload (x := x5) d_M_packed_17 rfl ?_
      refine x_imul d_M_packed_19 ?_
      refine x_lushr d_M_packed_20 ?_
      refine x_l2i d_M_packed_21 ?_
      refine x_sipush (v := 255) d_M_packed_22 (by decide) ?_
      refine x_iand d_M_packed_25 ?_
      refine x_topI (fun v1 ev1 => ?_)
      have h := h v1 ev1
      refine x_istore (lv' := [(6, .int v1), (0, .long x0), (2, .long x2), (4, .int x4), (5, .int x5)]) d_M_packed_26 (by decide) rfl ?_
      refine x_iload (x := v1) d_M_packed_28 rfl ?_
      refine x_if_eq (tgt := 75) d_M_packed_30 rfl (fun hc => ?_) (fun hc => ?_)
      · have h := h.1 hc
        refine x_sub [1, 2, 3, 4] rfl ?_
        exact w_M_packed_75 l D cs Ev hE d post (fun zx0 zx2 zx4 zx5 zu => P_M_packed_9 post f zx0 zx2 zx4 zx5 zu) ih x0 x2 x4 x5 u h
      · have h := h.2 hc
        refine x_iload (x := v1) d_M_packed_33 rfl ?_
        refine x_callS (st := []) k_M_86 x_id (cf_M_isLetter l D cs Ev hE (d + 0) v1) hE (rmD_ok (by omega) (by decide)) rfl (Nat.le_of_ble_eq_true rfl) rfl d_M_packed_35 (x_rI (fun x u1 h9 => ?_))
        obtain ⟨rfl, rfl⟩ := h9
        refine x_if_ne (tgt := 54) d_M_packed_38 rfl (fun hc => ?_) (fun hc => ?_)
        · have h := h.1 hc
          refine x_sub [1, 2, 3, 4, 0] rfl ?_
          exact w_M_packed_54 l D cs Ev hE d post (fun zx0 zx2 zx4 zx5 zu => P_M_packed_9 post f zx0 zx2 zx4 zx5 zu) ih x0 x2 x4 x5 v1 u h
        · have h := h.2 hc
          refine x_iload (x := x4) d_M_packed_41 rfl ?_
          refine x_if_eq (tgt := 61) d_M_packed_43 rfl (fun hc => ?_) (fun hc => ?_)
          · have h := h.1 hc
            refine x_lconst (v := 0) d_M_packed_61 (by decide) ?_
            refine x_lret d_M_packed_62 ⟨_, rfl, ?_⟩
            exact h
          · have h := h.2 hc
            refine x_iload (x := v1) d_M_packed_46 rfl ?_
            refine x_callS (st := []) k_M_90 x_id (cf_M_isDigit l D cs Ev hE (d + 0) v1) hE (rmD_ok (by omega) (by decide)) rfl (Nat.le_of_ble_eq_true rfl) rfl d_M_packed_48 (x_rI (fun x u1 h9 => ?_))
            obtain ⟨rfl, rfl⟩ := h9
            refine x_if_eq (tgt := 61) d_M_packed_51 rfl (fun hc => ?_) (fun hc => ?_)
            · have h := h.1 hc
              refine x_lconst (v := 0) d_M_packed_61 (by decide) ?_
              refine x_lret d_M_packed_62 ⟨_, rfl, ?_⟩
              exact h
            · have h := h.2 hc
              refine x_sub [1, 2, 3, 4, 0] rfl ?_
              exact w_M_packed_54 l D cs Ev hE d post (fun zx0 zx2 zx4 zx5 zu => P_M_packed_9 post f zx0 zx2 zx4 zx5 zu) ih x0 x2 x4 x5 v1 u h
def P_M_packed (post : Int64 → Unit → Prop) (a0 : Int64) (u : Unit) : Prop := (∃ g, P_M_packed_9 post g a0 0 0 7 u)
set_option maxHeartbeats 600000 in
set_option maxRecDepth 100000 in
theorem c_M_packed (l : Launch) (D : va_G) (cs : Nat → ClassId) (Ev : (Nat → Prop) → State → Prop) (hE : xEok Ev) (d : Nat) (post : Int64 → Unit → Prop) (a0 : Int64) (u : Unit) (h : P_M_packed post a0 u) : xC l D clX (tysX cs) Ev y_M_packed w_M_packed (rmD (d + 1)) wd0 [.long a0] u (pJ post) 0 0 := by
  unfold P_M_packed at h
  refine xC.of (cc := b_M_packed) (nL := 7) (ret := (some .long)) (by decide) rfl (Nat.le_of_ble_eq_true rfl) ?_
  show RR l D clX (tysX cs) Ev "DeckFrontModel" b_M_packed 7 w_M_packed (rmD (d + 1)) (some .long) wd0 (pJ post) 0 0 0 0 0 [(0, .long a0)] [] u
  refine x_lconst (v := 0) d_M_packed_0 (by decide) ?_
  refine x_lstore_n (lv' := [(2, .long 0), (0, .long a0)]) d_M_packed_1 (by decide) rfl ?_
  refine x_iconst (v := 0) d_M_packed_2 (by decide) ?_
  refine x_istore (lv' := [(4, .int 0), (2, .long 0), (0, .long a0)]) d_M_packed_3 (by decide) rfl ?_
  refine x_bipush (v := 7) d_M_packed_5 (by decide) ?_
  refine x_istore (lv' := [(5, .int 7), (4, .int 0), (2, .long 0), (0, .long a0)]) d_M_packed_7 (by decide) rfl ?_
  refine x_sub [3, 2, 1, 0] rfl ?_
  obtain ⟨f9, h⟩ := h
  exact w_M_packed_9 l D cs Ev hE d post  f9 a0 0 0 7 u h
def P_M_kind_104 (post : Int32 → MS → Prop) (K16 : Int64 → Int32 → Int32 → MS → Prop) (K42 : Int64 → Int32 → Int32 → Int32 → MS → Prop) (x3 : Int64) (x6 : Int32) (x8 : Int32) (s0 : Int32) (u : MS) : Prop := K42 x3 s0 x6 (x8 + 1) u
set_option maxHeartbeats 600000 in
set_option maxRecDepth 100000 in
theorem w_M_kind_104 (l : Launch) (D : va_G) (cs : Nat → ClassId) (Ev : (Nat → Prop) → State → Prop) (hE : xEok Ev) (o : Nat) (a : Nat → Nat) (d : Nat) (post : Int32 → MS → Prop) (K16 : Int64 → Int32 → Int32 → MS → Prop) (K42 : Int64 → Int32 → Int32 → Int32 → MS → Prop) (hK16 : ∀ (x3 : Int64) (x5 : Int32) (x6 : Int32) (u : MS), K16 x3 x5 x6 u → RR l D clX (tysX cs) Ev "DeckFrontModel" b_M_kind 10 w_M_kind (rmD (d + 12)) (some .int) (wdM o a cs) (pI post) 0 0 0 0 16 [(0, .ref o), (3, .long x3), (5, .int x5), (6, .int x6)] [] u) (hK42 : ∀ (x3 : Int64) (x5 : Int32) (x6 : Int32) (x8 : Int32) (u : MS), K42 x3 x5 x6 x8 u → RR l D clX (tysX cs) Ev "DeckFrontModel" b_M_kind 10 w_M_kind (rmD (d + 12)) (some .int) (wdM o a cs) (pI post) 0 0 0 0 42 [(0, .ref o), (3, .long x3), (5, .int x5), (6, .int x6), (8, .int x8)] [] u) (x3 : Int64) (x6 : Int32) (x8 : Int32) (s0 : Int32) (u : MS) (h : P_M_kind_104 post K16 K42 x3 x6 x8 s0 u) : RR l D clX (tysX cs) Ev "DeckFrontModel" b_M_kind 10 w_M_kind (rmD (d + 12)) (some .int) (wdM o a cs) (pI post) 0 0 0 0 104 [(0, .ref o), (3, .long x3), (6, .int x6), (8, .int x8)] [.int s0] u := by
  unfold P_M_kind_104 at h
  refine x_istore (lv' := [(5, .int s0), (0, .ref o), (3, .long x3), (6, .int x6), (8, .int x8)]) d_M_kind_104 (by decide) rfl ?_
  refine x_iinc (v := x8 + 1) (lv' := [(8, .int (x8 + 1)), (5, .int s0), (0, .ref o), (3, .long x3), (6, .int x6)]) d_M_kind_106 rfl rfl (by decide) rfl ?_
  refine x_goto (tgt := 42) d_M_kind_109 rfl ?_
  refine x_sub [2, 3, 1, 4, 0] rfl ?_
  exact hK42 x3 s0 x6 (x8 + 1) u h
def P_M_kind_85 (post : Int32 → MS → Prop) (K16 : Int64 → Int32 → Int32 → MS → Prop) (K42 : Int64 → Int32 → Int32 → Int32 → MS → Prop) (x3 : Int64) (x5 : Int32) (x6 : Int32) (x8 : Int32) (s0 : Int32) (u : MS) : Prop := ((s0 = 0 → P_M_kind_104 post K16 K42 x3 x6 x8 x5 u) ∧ (¬ s0 = 0 → (vp_in x8 90 ∧ P_M_kind_104 post K16 K42 x3 x6 x8 (gA u 14 x8.toNatClampNeg) u)))
set_option maxHeartbeats 600000 in
set_option maxRecDepth 100000 in
theorem w_M_kind_85 (l : Launch) (D : va_G) (cs : Nat → ClassId) (Ev : (Nat → Prop) → State → Prop) (hE : xEok Ev) (o : Nat) (a : Nat → Nat) (d : Nat) (post : Int32 → MS → Prop) (K16 : Int64 → Int32 → Int32 → MS → Prop) (K42 : Int64 → Int32 → Int32 → Int32 → MS → Prop) (hK16 : ∀ (x3 : Int64) (x5 : Int32) (x6 : Int32) (u : MS), K16 x3 x5 x6 u → RR l D clX (tysX cs) Ev "DeckFrontModel" b_M_kind 10 w_M_kind (rmD (d + 12)) (some .int) (wdM o a cs) (pI post) 0 0 0 0 16 [(0, .ref o), (3, .long x3), (5, .int x5), (6, .int x6)] [] u) (hK42 : ∀ (x3 : Int64) (x5 : Int32) (x6 : Int32) (x8 : Int32) (u : MS), K42 x3 x5 x6 x8 u → RR l D clX (tysX cs) Ev "DeckFrontModel" b_M_kind 10 w_M_kind (rmD (d + 12)) (some .int) (wdM o a cs) (pI post) 0 0 0 0 42 [(0, .ref o), (3, .long x3), (5, .int x5), (6, .int x6), (8, .int x8)] [] u) (x3 : Int64) (x5 : Int32) (x6 : Int32) (x8 : Int32) (s0 : Int32) (u : MS) (h : P_M_kind_85 post K16 K42 x3 x5 x6 x8 s0 u) : RR l D clX (tysX cs) Ev "DeckFrontModel" b_M_kind 10 w_M_kind (rmD (d + 12)) (some .int) (wdM o a cs) (pI post) 0 0 0 0 85 [(0, .ref o), (3, .long x3), (5, .int x5), (6, .int x6), (8, .int x8)] [.int s0] u := by
  unfold P_M_kind_85 at h
  refine x_istore (lv' := [(9, .int s0), (0, .ref o), (3, .long x3), (5, .int x5), (6, .int x6), (8, .int x8)]) d_M_kind_85 (by decide) rfl ?_
  refine x_iload (x := s0) d_M_kind_87 rfl ?_
  refine x_if_eq (tgt := 102) d_M_kind_89 rfl (fun hc => ?_) (fun hc => ?_)
  · have h := h.1 hc
    refine x_iload (x := x5) d_M_kind_102 rfl ?_
    refine x_sub [1, 2, 4, 5] rfl ?_
    exact w_M_kind_104 l D cs Ev hE o a d post K16 K42 hK16 hK42 x3 x6 x8 x5 u h
  · have h := h.2 hc
    refine x_aload_n (x := o) d_M_kind_92 rfl ?_
    refine x_get (v := .ref (a 14)) f_M_30 (eM_o _ _ _ _) rfl d_M_kind_93 ?_
    refine x_iload (x := x8) d_M_kind_96 rfl ?_
    refine x_iald (t0 := 0) (eM_14 _ _ _ _) rfl h.1 d_M_kind_98 ?_
    have h := h.2
    refine x_goto (tgt := 104) d_M_kind_99 rfl ?_
    refine x_sub [1, 2, 4, 5] rfl ?_
    exact w_M_kind_104 l D cs Ev hE o a d post K16 K42 hK16 hK42 x3 x6 x8 (gA u 14 x8.toNatClampNeg) u h
def P_M_kind_84 (post : Int32 → MS → Prop) (K16 : Int64 → Int32 → Int32 → MS → Prop) (K42 : Int64 → Int32 → Int32 → Int32 → MS → Prop) (x3 : Int64) (x5 : Int32) (x6 : Int32) (x8 : Int32) (u : MS) : Prop := P_M_kind_85 post K16 K42 x3 x5 x6 x8 0 u
set_option maxHeartbeats 600000 in
set_option maxRecDepth 100000 in
theorem w_M_kind_84 (l : Launch) (D : va_G) (cs : Nat → ClassId) (Ev : (Nat → Prop) → State → Prop) (hE : xEok Ev) (o : Nat) (a : Nat → Nat) (d : Nat) (post : Int32 → MS → Prop) (K16 : Int64 → Int32 → Int32 → MS → Prop) (K42 : Int64 → Int32 → Int32 → Int32 → MS → Prop) (hK16 : ∀ (x3 : Int64) (x5 : Int32) (x6 : Int32) (u : MS), K16 x3 x5 x6 u → RR l D clX (tysX cs) Ev "DeckFrontModel" b_M_kind 10 w_M_kind (rmD (d + 12)) (some .int) (wdM o a cs) (pI post) 0 0 0 0 16 [(0, .ref o), (3, .long x3), (5, .int x5), (6, .int x6)] [] u) (hK42 : ∀ (x3 : Int64) (x5 : Int32) (x6 : Int32) (x8 : Int32) (u : MS), K42 x3 x5 x6 x8 u → RR l D clX (tysX cs) Ev "DeckFrontModel" b_M_kind 10 w_M_kind (rmD (d + 12)) (some .int) (wdM o a cs) (pI post) 0 0 0 0 42 [(0, .ref o), (3, .long x3), (5, .int x5), (6, .int x6), (8, .int x8)] [] u) (x3 : Int64) (x5 : Int32) (x6 : Int32) (x8 : Int32) (u : MS) (h : P_M_kind_84 post K16 K42 x3 x5 x6 x8 u) : RR l D clX (tysX cs) Ev "DeckFrontModel" b_M_kind 10 w_M_kind (rmD (d + 12)) (some .int) (wdM o a cs) (pI post) 0 0 0 0 84 [(0, .ref o), (3, .long x3), (5, .int x5), (6, .int x6), (8, .int x8)] [] u := by
  unfold P_M_kind_84 at h
  refine x_iconst (v := 0) d_M_kind_84 (by decide) ?_
  exact w_M_kind_85 l D cs Ev hE o a d post K16 K42 hK16 hK42 x3 x5 x6 x8 0 u h
def P_M_kind_80 (post : Int32 → MS → Prop) (K16 : Int64 → Int32 → Int32 → MS → Prop) (K42 : Int64 → Int32 → Int32 → Int32 → MS → Prop) (x3 : Int64) (x5 : Int32) (x6 : Int32) (x8 : Int32) (u : MS) : Prop := P_M_kind_85 post K16 K42 x3 x5 x6 x8 1 u
set_option maxHeartbeats 600000 in
set_option maxRecDepth 100000 in
theorem w_M_kind_80 (l : Launch) (D : va_G) (cs : Nat → ClassId) (Ev : (Nat → Prop) → State → Prop) (hE : xEok Ev) (o : Nat) (a : Nat → Nat) (d : Nat) (post : Int32 → MS → Prop) (K16 : Int64 → Int32 → Int32 → MS → Prop) (K42 : Int64 → Int32 → Int32 → Int32 → MS → Prop) (hK16 : ∀ (x3 : Int64) (x5 : Int32) (x6 : Int32) (u : MS), K16 x3 x5 x6 u → RR l D clX (tysX cs) Ev "DeckFrontModel" b_M_kind 10 w_M_kind (rmD (d + 12)) (some .int) (wdM o a cs) (pI post) 0 0 0 0 16 [(0, .ref o), (3, .long x3), (5, .int x5), (6, .int x6)] [] u) (hK42 : ∀ (x3 : Int64) (x5 : Int32) (x6 : Int32) (x8 : Int32) (u : MS), K42 x3 x5 x6 x8 u → RR l D clX (tysX cs) Ev "DeckFrontModel" b_M_kind 10 w_M_kind (rmD (d + 12)) (some .int) (wdM o a cs) (pI post) 0 0 0 0 42 [(0, .ref o), (3, .long x3), (5, .int x5), (6, .int x6), (8, .int x8)] [] u) (x3 : Int64) (x5 : Int32) (x6 : Int32) (x8 : Int32) (u : MS) (h : P_M_kind_80 post K16 K42 x3 x5 x6 x8 u) : RR l D clX (tysX cs) Ev "DeckFrontModel" b_M_kind 10 w_M_kind (rmD (d + 12)) (some .int) (wdM o a cs) (pI post) 0 0 0 0 80 [(0, .ref o), (3, .long x3), (5, .int x5), (6, .int x6), (8, .int x8)] [] u := by
  unfold P_M_kind_80 at h
  refine x_iconst (v := 1) d_M_kind_80 (by decide) ?_
  refine x_goto (tgt := 85) d_M_kind_81 rfl ?_
  exact w_M_kind_85 l D cs Ev hE o a d post K16 K42 hK16 hK42 x3 x5 x6 x8 1 u h
def P_M_kind_42 (post : Int32 → MS → Prop) (K16 : Int64 → Int32 → Int32 → MS → Prop) : Nat → Int64 → Int32 → Int32 → Int32 → MS → Prop
  | 0, _, _, _, _, _ => False
  | f + 1, x3, x5, x6, x8, u => (((gI u 12) ≤ x8 → K16 x3 x5 (x6 + 1) u) ∧ (¬ (gI u 12) ≤ x8 → (vp_in x8 90 ∧ ((¬ (lg_cmp (gL u x8.toNatClampNeg) x3) = 0 → P_M_kind_84 post K16 (fun zx3 zx5 zx6 zx8 zu => P_M_kind_42 post K16 f zx3 zx5 zx6 zx8 zu) x3 x5 x6 x8 u) ∧ ((lg_cmp (gL u x8.toNatClampNeg) x3) = 0 → ((x5 = 0 → P_M_kind_80 post K16 (fun zx3 zx5 zx6 zx8 zu => P_M_kind_42 post K16 f zx3 zx5 zx6 zx8 zu) x3 x5 x6 x8 u) ∧ (¬ x5 = 0 → (vp_in x8 90 ∧ ((x5 ≤ (gA u 14 x8.toNatClampNeg) → P_M_kind_84 post K16 (fun zx3 zx5 zx6 zx8 zu => P_M_kind_42 post K16 f zx3 zx5 zx6 zx8 zu) x3 x5 x6 x8 u) ∧ (¬ x5 ≤ (gA u 14 x8.toNatClampNeg) → P_M_kind_80 post K16 (fun zx3 zx5 zx6 zx8 zu => P_M_kind_42 post K16 f zx3 zx5 zx6 zx8 zu) x3 x5 x6 x8 u))))))))))
set_option maxHeartbeats 600000 in
set_option maxRecDepth 100000 in
theorem w_M_kind_42 (l : Launch) (D : va_G) (cs : Nat → ClassId) (Ev : (Nat → Prop) → State → Prop) (hE : xEok Ev) (o : Nat) (a : Nat → Nat) (d : Nat) (post : Int32 → MS → Prop) (K16 : Int64 → Int32 → Int32 → MS → Prop) (hK16 : ∀ (x3 : Int64) (x5 : Int32) (x6 : Int32) (u : MS), K16 x3 x5 x6 u → RR l D clX (tysX cs) Ev "DeckFrontModel" b_M_kind 10 w_M_kind (rmD (d + 12)) (some .int) (wdM o a cs) (pI post) 0 0 0 0 16 [(0, .ref o), (3, .long x3), (5, .int x5), (6, .int x6)] [] u) : ∀ (f : Nat) (x3 : Int64) (x5 : Int32) (x6 : Int32) (x8 : Int32) (u : MS), P_M_kind_42 post K16 f x3 x5 x6 x8 u → RR l D clX (tysX cs) Ev "DeckFrontModel" b_M_kind 10 w_M_kind (rmD (d + 12)) (some .int) (wdM o a cs) (pI post) 0 0 0 0 42 [(0, .ref o), (3, .long x3), (5, .int x5), (6, .int x6), (8, .int x8)] [] u := by
  intro f
  induction f with
  | zero => intro x3 x5 x6 x8 u h; exact h.elim
  | succ f ih =>
    intro x3 x5 x6 x8 u h
    unfold P_M_kind_42 at h
    refine x_iload (x := x8) d_M_kind_42 rfl ?_
    refine x_aload_n (x := o) d_M_kind_44 rfl ?_
    refine x_get (v := .int (gI u 12)) f_M_138 (eM_o _ _ _ _) rfl d_M_kind_45 ?_
    refine x_icmp_ge (tgt := 112) d_M_kind_48 rfl (fun hc => ?_) (fun hc => ?_)
    · have h := h.1 hc
      refine x_iinc (v := x6 + 1) (lv' := [(6, .int (x6 + 1)), (0, .ref o), (3, .long x3), (5, .int x5), (8, .int x8)]) d_M_kind_112 rfl rfl (by decide) rfl ?_
      refine x_goto (tgt := 16) d_M_kind_115 rfl ?_
      refine x_sub [1, 2, 3, 0] rfl ?_
      exact hK16 x3 x5 (x6 + 1) u h
    · have h := h.2 hc
      refine x_aload_n (x := o) d_M_kind_51 rfl ?_
      refine x_get (v := .ref (a 13)) f_M_26 (eM_o _ _ _ _) rfl d_M_kind_52 ?_
      refine x_iload (x := x8) d_M_kind_55 rfl ?_
      refine x_lald (t0 := 2) (eM_13 _ _ _ _) rfl h.1 d_M_kind_57 ?_
      have h := h.2
      refine x_lload_n (x := x3) d_M_kind_58 rfl ?_
      refine x_lcmp d_M_kind_59 ?_
      refine x_if_ne (tgt := 84) d_M_kind_60 rfl (fun hc => ?_) (fun hc => ?_)
      · have h := h.1 hc
        exact w_M_kind_84 l D cs Ev hE o a d post K16 (fun zx3 zx5 zx6 zx8 zu => P_M_kind_42 post K16 f zx3 zx5 zx6 zx8 zu) hK16 ih x3 x5 x6 x8 u h
      · have h := h.2 hc
        refine x_iload (x := x5) d_M_kind_63 rfl ?_
        refine x_if_eq (tgt := 80) d_M_kind_65 rfl (fun hc => ?_) (fun hc => ?_)
        · have h := h.1 hc
          exact w_M_kind_80 l D cs Ev hE o a d post K16 (fun zx3 zx5 zx6 zx8 zu => P_M_kind_42 post K16 f zx3 zx5 zx6 zx8 zu) hK16 ih x3 x5 x6 x8 u h
        · have h := h.2 hc
          refine x_aload_n (x := o) d_M_kind_68 rfl ?_
          refine x_get (v := .ref (a 14)) f_M_30 (eM_o _ _ _ _) rfl d_M_kind_69 ?_
          refine x_iload (x := x8) d_M_kind_72 rfl ?_
          refine x_iald (t0 := 0) (eM_14 _ _ _ _) rfl h.1 d_M_kind_74 ?_
          have h := h.2
          refine x_iload (x := x5) d_M_kind_75 rfl ?_
          refine x_icmp_ge (tgt := 84) d_M_kind_77 rfl (fun hc => ?_) (fun hc => ?_)
          · have h := h.1 hc
            exact w_M_kind_84 l D cs Ev hE o a d post K16 (fun zx3 zx5 zx6 zx8 zu => P_M_kind_42 post K16 f zx3 zx5 zx6 zx8 zu) hK16 ih x3 x5 x6 x8 u h
          · have h := h.2 hc
            exact w_M_kind_80 l D cs Ev hE o a d post K16 (fun zx3 zx5 zx6 zx8 zu => P_M_kind_42 post K16 f zx3 zx5 zx6 zx8 zu) hK16 ih x3 x5 x6 x8 u h
def P_M_kind_16 (post : Int32 → MS → Prop) : Nat → Int64 → Int32 → Int32 → MS → Prop
  | 0, _, _, _, _ => False
  | f + 1, x3, x5, x6, u => (((gI u 3) ≤ x6 → post x5 u) ∧ (¬ (gI u 3) ≤ x6 → (((lg_cmp x3 0) = 0 → post x5 u) ∧ (¬ (lg_cmp x3 0) = 0 → P_M_read (fun r4 u3 => (∃ g, P_M_kind_42 post (fun zx3 zx5 zx6 zu => P_M_kind_16 post f zx3 zx5 zx6 zu) g x3 x5 x6 0 u3)) x6 u))))
set_option maxHeartbeats 600000 in
set_option maxRecDepth 100000 in
theorem w_M_kind_16 (l : Launch) (D : va_G) (cs : Nat → ClassId) (Ev : (Nat → Prop) → State → Prop) (hE : xEok Ev) (o : Nat) (a : Nat → Nat) (d : Nat) (post : Int32 → MS → Prop) : ∀ (f : Nat) (x3 : Int64) (x5 : Int32) (x6 : Int32) (u : MS), P_M_kind_16 post  f x3 x5 x6 u → RR l D clX (tysX cs) Ev "DeckFrontModel" b_M_kind 10 w_M_kind (rmD (d + 12)) (some .int) (wdM o a cs) (pI post) 0 0 0 0 16 [(0, .ref o), (3, .long x3), (5, .int x5), (6, .int x6)] [] u := by
  intro f
  induction f with
  | zero => intro x3 x5 x6 u h; exact h.elim
  | succ f ih =>
    intro x3 x5 x6 u h
    unfold P_M_kind_16 at h
    refine x_iload (x := x6) d_M_kind_16 rfl ?_
    refine x_aload_n (x := o) d_M_kind_18 rfl ?_
    refine x_get (v := .int (gI u 3)) f_M_99 (eM_o _ _ _ _) rfl d_M_kind_19 ?_
    refine x_icmp_ge (tgt := 118) d_M_kind_22 rfl (fun hc => ?_) (fun hc => ?_)
    · have h := h.1 hc
      refine x_iload (x := x5) d_M_kind_118 rfl ?_
      refine x_iret d_M_kind_120 ⟨_, rfl, ?_⟩
      exact h
    · have h := h.2 hc
      refine x_lload_n (x := x3) d_M_kind_25 rfl ?_
      refine x_lconst (v := 0) d_M_kind_26 (by decide) ?_
      refine x_lcmp d_M_kind_27 ?_
      refine x_if_eq (tgt := 118) d_M_kind_28 rfl (fun hc => ?_) (fun hc => ?_)
      · have h := h.1 hc
        refine x_iload (x := x5) d_M_kind_118 rfl ?_
        refine x_iret d_M_kind_120 ⟨_, rfl, ?_⟩
        exact h
      · have h := h.2 hc
        refine x_aload_n (x := o) d_M_kind_31 rfl ?_
        refine x_iload (x := x6) d_M_kind_32 rfl ?_
        refine x_callV (st := []) k_M_325 rfl (eM_o _ _ _ _) x_id (c_M_read l D cs Ev hE o a (d + 0) _ x6 u h) hE (rmD_ok (by omega) (by decide)) rfl (Nat.le_of_ble_eq_true rfl) rfl d_M_kind_34 (x_rI (fun r4 u3 h => ?_))
        refine x_istore (lv' := [(7, .int r4), (0, .ref o), (3, .long x3), (5, .int x5), (6, .int x6)]) d_M_kind_37 (by decide) rfl ?_
        refine x_iconst (v := 0) d_M_kind_39 (by decide) ?_
        refine x_istore (lv' := [(8, .int 0), (7, .int r4), (0, .ref o), (3, .long x3), (5, .int x5), (6, .int x6)]) d_M_kind_40 (by decide) rfl ?_
        refine x_sub [2, 3, 4, 5, 0] rfl ?_
        obtain ⟨f9, h⟩ := h
        exact w_M_kind_42 l D cs Ev hE o a d post (fun zx3 zx5 zx6 zu => P_M_kind_16 post f zx3 zx5 zx6 zu) ih f9 x3 x5 x6 0 u3 h
def P_M_kind (post : Int32 → MS → Prop) (a0 : Int64) (u : MS) : Prop := P_M_packed (fun r2 u1 => (∃ g, P_M_kind_16 post g r2 0 0 (sI u 0 (0 : Int32)))) a0 ()
set_option maxHeartbeats 600000 in
set_option maxRecDepth 100000 in
theorem c_M_kind (l : Launch) (D : va_G) (cs : Nat → ClassId) (Ev : (Nat → Prop) → State → Prop) (hE : xEok Ev) (o : Nat) (a : Nat → Nat) (d : Nat) (post : Int32 → MS → Prop) (a0 : Int64) (u : MS) (h : P_M_kind post a0 u) : xC l D clX (tysX cs) Ev y_M_kind w_M_kind (rmD (d + 12)) (wdM o a cs) [.ref o, .long a0] u (pI post) 0 0 := by
  unfold P_M_kind at h
  refine xC.of (cc := b_M_kind) (nL := 10) (ret := (some .int)) (by decide) rfl (Nat.le_of_ble_eq_true rfl) ?_
  show RR l D clX (tysX cs) Ev "DeckFrontModel" b_M_kind 10 w_M_kind (rmD (d + 12)) (some .int) (wdM o a cs) (pI post) 0 0 0 0 0 [(0, .ref o), (1, .long a0)] [] u
  refine x_aload_n (x := o) d_M_kind_0 rfl ?_
  refine x_iconst (v := 0) d_M_kind_1 (by decide) ?_
  refine x_put f_M_82 fw_M_0 (eM_o _ _ _ _) rfl rfl (Nat.le_of_ble_eq_true rfl) (sM_0 _ _ _ _ _) d_M_kind_2 ?_
  refine x_lload_n (x := a0) d_M_kind_5 rfl ?_
  refine x_callS (st := []) k_M_328 x_none (c_M_packed l D cs Ev hE (d + 10) _ a0 () h) hE (rmD_ok (by omega) (by decide)) rfl (Nat.le_of_ble_eq_true rfl) rfl d_M_kind_6 (x_rJ (fun r2 u1 h => ?_))
  refine x_lstore_n (lv' := [(3, .long r2), (0, .ref o), (1, .long a0)]) d_M_kind_9 (by decide) rfl ?_
  refine x_iconst (v := 0) d_M_kind_10 (by decide) ?_
  refine x_istore (lv' := [(5, .int 0), (3, .long r2), (0, .ref o), (1, .long a0)]) d_M_kind_11 (by decide) rfl ?_
  refine x_iconst (v := 0) d_M_kind_13 (by decide) ?_
  refine x_istore (lv' := [(6, .int 0), (5, .int 0), (3, .long r2), (0, .ref o), (1, .long a0)]) d_M_kind_14 (by decide) rfl ?_
  refine x_sub [3, 2, 1, 0] rfl ?_
  obtain ⟨f9, h⟩ := h
  exact w_M_kind_16 l D cs Ev hE o a d post  f9 r2 0 0 (sI u 0 (0 : Int32)) h
