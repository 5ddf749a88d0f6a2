def P_M_type_95 (post : Int32 → MS → Prop) : Nat → Int64 → MS → Prop
  | 0, _, _ => False
  | f + 1, x5, u => (((lg_cmp x5 255) ≤ 0 → (((lg_cmp x5 73) < 0 → post 2 u) ∧ (¬ (lg_cmp x5 73) < 0 → ((0 < (lg_cmp x5 78) → post 2 u) ∧ (¬ 0 < (lg_cmp x5 78) → post 1 u))))) ∧ (¬ (lg_cmp x5 255) ≤ 0 → (∀ v3, v3 = (x5 >>> ((8 : Int32).toInt64 &&& 63)) → P_M_type_95 post f v3 u)))
set_option maxHeartbeats 600000 in
set_option maxRecDepth 100000 in
theorem w_M_type_95 (l : Launch) (D : va_G) (cs : Nat → ClassId) (Ev : (Nat → Prop) → State → Prop) (hE : xEok Ev) (o : Nat) (a : Nat → Nat) (d : Nat) (post : Int32 → MS → Prop) : ∀ (f : Nat) (x5 : Int64) (u : MS), P_M_type_95 post  f x5 u → RR l D clX (tysX cs) Ev "DeckFrontModel" b_M_type 8 w_M_type (rmD (d + 12)) (some .int) (wdM o a cs) (pI post) 0 0 0 0 95 [(5, .long x5)] [] u := by
  intro f
  induction f with
  | zero => intro x5 u h; exact h.elim
  | succ f ih =>
    intro x5 u h
    unfold P_M_type_95 at h
    refine x_lload (x := x5) d_M_type_95 rfl ?_
    refine x_ldc2 (v := 255) (cG tw_930) d_M_type_97 ?_
    refine x_lcmp d_M_type_100 ?_
    refine x_if_le (tgt := 114) d_M_type_101 rfl (fun hc => ?_) (fun hc => ?_)
    · have h := h.1 hc
      refine x_lload (x := x5) d_M_type_114 rfl ?_
      refine x_ldc2 (v := 73) (cG tw_1112) d_M_type_116 ?_
      refine x_lcmp d_M_type_119 ?_
      refine x_if_lt (tgt := 136) d_M_type_120 rfl (fun hc => ?_) (fun hc => ?_)
      · have h := h.1 hc
        refine x_iconst (v := 2) d_M_type_136 (by decide) ?_
        refine x_iret d_M_type_137 ⟨_, rfl, ?_⟩
        exact h
      · have h := h.2 hc
        refine x_lload (x := x5) d_M_type_123 rfl ?_
        refine x_ldc2 (v := 78) (cG tw_1113) d_M_type_125 ?_
        refine x_lcmp d_M_type_128 ?_
        refine x_if_gt (tgt := 136) d_M_type_129 rfl (fun hc => ?_) (fun hc => ?_)
        · have h := h.1 hc
          refine x_iconst (v := 2) d_M_type_136 (by decide) ?_
          refine x_iret d_M_type_137 ⟨_, rfl, ?_⟩
          exact h
        · have h := h.2 hc
          refine x_iconst (v := 1) d_M_type_132 (by decide) ?_
          refine x_goto (tgt := 137) d_M_type_133 rfl ?_
          refine x_iret d_M_type_137 ⟨_, rfl, ?_⟩
          exact h
    · have h := h.2 hc
      refine x_lload (x := x5) d_M_type_104 rfl ?_
      refine x_bipush (v := 8) d_M_type_106 (by decide) ?_
      refine x_lshr d_M_type_108 ?_
      refine x_topJ (fun v3 ev3 => ?_)
      have h := h v3 ev3
      refine x_lstore (lv' := [(5, .long v3)]) d_M_type_109 (by decide) rfl ?_
      refine x_goto (tgt := 95) d_M_type_111 rfl ?_
      exact ih v3 u h
def P_M_type_80 (post : Int32 → MS → Prop) (K21 : Int64 → Int32 → MS → Prop) (K41 : Int64 → Int32 → Int32 → MS → Prop) (x3 : Int64) (x5 : Int32) (x7 : Int32) (u : MS) : Prop := K41 x3 x5 (x7 + 1) u
set_option maxHeartbeats 600000 in
set_option maxRecDepth 100000 in
theorem w_M_type_80 (l : Launch) (D : va_G) (cs : Nat → ClassId) (Ev : (Nat → Prop) → State → Prop) (hE : xEok Ev) (o : Nat) (a : Nat → Nat) (d : Nat) (post : Int32 → MS → Prop) (K21 : Int64 → Int32 → MS → Prop) (K41 : Int64 → Int32 → Int32 → MS → Prop) (hK21 : ∀ (x3 : Int64) (x5 : Int32) (u : MS), K21 x3 x5 u → RR l D clX (tysX cs) Ev "DeckFrontModel" b_M_type 8 w_M_type (rmD (d + 12)) (some .int) (wdM o a cs) (pI post) 0 0 0 0 21 [(0, .ref o), (3, .long x3), (5, .int x5)] [] u) (hK41 : ∀ (x3 : Int64) (x5 : Int32) (x7 : Int32) (u : MS), K41 x3 x5 x7 u → RR l D clX (tysX cs) Ev "DeckFrontModel" b_M_type 8 w_M_type (rmD (d + 12)) (some .int) (wdM o a cs) (pI post) 0 0 0 0 41 [(0, .ref o), (3, .long x3), (5, .int x5), (7, .int x7)] [] u) (x3 : Int64) (x5 : Int32) (x7 : Int32) (u : MS) (h : P_M_type_80 post K21 K41 x3 x5 x7 u) : RR l D clX (tysX cs) Ev "DeckFrontModel" b_M_type 8 w_M_type (rmD (d + 12)) (some .int) (wdM o a cs) (pI post) 0 0 0 0 80 [(0, .ref o), (3, .long x3), (5, .int x5), (7, .int x7)] [] u := by
  unfold P_M_type_80 at h
  refine x_iinc (v := x7 + 1) (lv' := [(7, .int (x7 + 1)), (0, .ref o), (3, .long x3), (5, .int x5)]) d_M_type_80 rfl rfl (by decide) rfl ?_
  refine x_goto (tgt := 41) d_M_type_83 rfl ?_
  refine x_sub [1, 2, 3, 0] rfl ?_
  exact hK41 x3 x5 (x7 + 1) u h
def P_M_type_41 (post : Int32 → MS → Prop) (K21 : Int64 → Int32 → MS → Prop) : Nat → Int64 → Int32 → Int32 → MS → Prop
  | 0, _, _, _, _ => False
  | f + 1, x3, x5, x7, u => (((gI u 12) ≤ x7 → K21 x3 (x5 + 1) u) ∧ (¬ (gI u 12) ≤ x7 → (vp_in x7 90 ∧ ((¬ (lg_cmp (gL u x7.toNatClampNeg) x3) = 0 → P_M_type_80 post K21 (fun zx3 zx5 zx7 zu => P_M_type_41 post K21 f zx3 zx5 zx7 zu) x3 x5 x7 u) ∧ ((lg_cmp (gL u x7.toNatClampNeg) x3) = 0 → (vp_in x7 90 ∧ (((gA u 15 x7.toNatClampNeg) ≤ 0 → P_M_type_80 post K21 (fun zx3 zx5 zx7 zu => P_M_type_41 post K21 f zx3 zx5 zx7 zu) x3 x5 x7 u) ∧ (¬ (gA u 15 x7.toNatClampNeg) ≤ 0 → (vp_in x7 90 ∧ post (gA u 15 x7.toNatClampNeg) u)))))))))
set_option maxHeartbeats 600000 in
set_option maxRecDepth 100000 in
theorem w_M_type_41 (l : Launch) (D : va_G) (cs : Nat → ClassId) (Ev : (Nat → Prop) → State → Prop) (hE : xEok Ev) (o : Nat) (a : Nat → Nat) (d : Nat) (post : Int32 → MS → Prop) (K21 : Int64 → Int32 → MS → Prop) (hK21 : ∀ (x3 : Int64) (x5 : Int32) (u : MS), K21 x3 x5 u → RR l D clX (tysX cs) Ev "DeckFrontModel" b_M_type 8 w_M_type (rmD (d + 12)) (some .int) (wdM o a cs) (pI post) 0 0 0 0 21 [(0, .ref o), (3, .long x3), (5, .int x5)] [] u) : ∀ (f : Nat) (x3 : Int64) (x5 : Int32) (x7 : Int32) (u : MS), P_M_type_41 post K21 f x3 x5 x7 u → RR l D clX (tysX cs) Ev "DeckFrontModel" b_M_type 8 w_M_type (rmD (d + 12)) (some .int) (wdM o a cs) (pI post) 0 0 0 0 41 [(0, .ref o), (3, .long x3), (5, .int x5), (7, .int x7)] [] u := by
  intro f
  induction f with
  | zero => intro x3 x5 x7 u h; exact h.elim
  | succ f ih =>
    intro x3 x5 x7 u h
    unfold P_M_type_41 at h
    refine x_iload (x := x7) d_M_type_41 rfl ?_
    refine x_aload_n (x := o) d_M_type_43 rfl ?_
    refine x_get (v := .int (gI u 12)) f_M_138 (eM_o _ _ _ _) rfl d_M_type_44 ?_
    refine x_icmp_ge (tgt := 86) d_M_type_47 rfl (fun hc => ?_) (fun hc => ?_)
    · have h := h.1 hc
      refine x_iinc (v := x5 + 1) (lv' := [(5, .int (x5 + 1)), (0, .ref o), (3, .long x3), (7, .int x7)]) d_M_type_86 rfl rfl (by decide) rfl ?_
      refine x_goto (tgt := 21) d_M_type_89 rfl ?_
      refine x_sub [1, 2, 0] rfl ?_
      exact hK21 x3 (x5 + 1) u h
    · have h := h.2 hc
      refine x_aload_n (x := o) d_M_type_50 rfl ?_
      refine x_get (v := .ref (a 13)) f_M_26 (eM_o _ _ _ _) rfl d_M_type_51 ?_
      refine x_iload (x := x7) d_M_type_54 rfl ?_
      refine x_lald (t0 := 2) (eM_13 _ _ _ _) rfl h.1 d_M_type_56 ?_
      have h := h.2
      refine x_lload_n (x := x3) d_M_type_57 rfl ?_
      refine x_lcmp d_M_type_58 ?_
      refine x_if_ne (tgt := 80) d_M_type_59 rfl (fun hc => ?_) (fun hc => ?_)
      · have h := h.1 hc
        exact w_M_type_80 l D cs Ev hE o a d post K21 (fun zx3 zx5 zx7 zu => P_M_type_41 post K21 f zx3 zx5 zx7 zu) hK21 ih x3 x5 x7 u h
      · have h := h.2 hc
        refine x_aload_n (x := o) d_M_type_62 rfl ?_
        refine x_get (v := .ref (a 15)) f_M_33 (eM_o _ _ _ _) rfl d_M_type_63 ?_
        refine x_iload (x := x7) d_M_type_66 rfl ?_
        refine x_iald (t0 := 0) (eM_15 _ _ _ _) rfl h.1 d_M_type_68 ?_
        have h := h.2
        refine x_if_le (tgt := 80) d_M_type_69 rfl (fun hc => ?_) (fun hc => ?_)
        · have h := h.1 hc
          exact w_M_type_80 l D cs Ev hE o a d post K21 (fun zx3 zx5 zx7 zu => P_M_type_41 post K21 f zx3 zx5 zx7 zu) hK21 ih x3 x5 x7 u h
        · have h := h.2 hc
          refine x_aload_n (x := o) d_M_type_72 rfl ?_
          refine x_get (v := .ref (a 15)) f_M_33 (eM_o _ _ _ _) rfl d_M_type_73 ?_
          refine x_iload (x := x7) d_M_type_76 rfl ?_
          refine x_iald (t0 := 0) (eM_15 _ _ _ _) rfl h.1 d_M_type_78 ?_
          have h := h.2
          refine x_iret d_M_type_79 ⟨_, rfl, ?_⟩
          exact h
def P_M_type_21 (post : Int32 → MS → Prop) : Nat → Int64 → Int32 → MS → Prop
  | 0, _, _, _ => False
  | f + 1, x3, x5, u => (((gI u 3) ≤ x5 → (∃ g, P_M_type_95 post g x3 u)) ∧ (¬ (gI u 3) ≤ x5 → P_M_read (fun r5 u4 => (∃ g, P_M_type_41 post (fun zx3 zx5 zu => P_M_type_21 post f zx3 zx5 zu) g x3 x5 0 u4)) x5 u))
set_option maxHeartbeats 600000 in
set_option maxRecDepth 100000 in
theorem w_M_type_21 (l : Launch) (D : va_G) (cs : Nat → ClassId) (Ev : (Nat → Prop) → State → Prop) (hE : xEok Ev) (o : Nat) (a : Nat → Nat) (d : Nat) (post : Int32 → MS → Prop) : ∀ (f : Nat) (x3 : Int64) (x5 : Int32) (u : MS), P_M_type_21 post  f x3 x5 u → RR l D clX (tysX cs) Ev "DeckFrontModel" b_M_type 8 w_M_type (rmD (d + 12)) (some .int) (wdM o a cs) (pI post) 0 0 0 0 21 [(0, .ref o), (3, .long x3), (5, .int x5)] [] u := by
  intro f
  induction f with
  | zero => intro x3 x5 u h; exact h.elim
  | succ f ih =>
    intro x3 x5 u h
    unfold P_M_type_21 at h
    refine x_iload (x := x5) d_M_type_21 rfl ?_
    refine x_aload_n (x := o) d_M_type_23 rfl ?_
    refine x_get (v := .int (gI u 3)) f_M_99 (eM_o _ _ _ _) rfl d_M_type_24 ?_
    refine x_icmp_ge (tgt := 92) d_M_type_27 rfl (fun hc => ?_) (fun hc => ?_)
    · have h := h.1 hc
      refine x_lload_n (x := x3) d_M_type_92 rfl ?_
      refine x_lstore (lv' := [(5, .long x3), (0, .ref o), (3, .long x3)]) d_M_type_93 (by decide) rfl ?_
      refine x_sub [0] rfl ?_
      obtain ⟨f9, h⟩ := h
      exact w_M_type_95 l D cs Ev hE o a d post  f9 x3 u h
    · have h := h.2 hc
      refine x_aload_n (x := o) d_M_type_30 rfl ?_
      refine x_iload (x := x5) d_M_type_31 rfl ?_
      refine x_callV (st := []) k_M_325 rfl (eM_o _ _ _ _) x_id (c_M_read l D cs Ev hE o a (d + 0) _ x5 u h) hE (rmD_ok (by omega) (by decide)) rfl (Nat.le_of_ble_eq_true rfl) rfl d_M_type_33 (x_rI (fun r5 u4 h => ?_))
      refine x_istore (lv' := [(6, .int r5), (0, .ref o), (3, .long x3), (5, .int x5)]) d_M_type_36 (by decide) rfl ?_
      refine x_iconst (v := 0) d_M_type_38 (by decide) ?_
      refine x_istore (lv' := [(7, .int 0), (6, .int r5), (0, .ref o), (3, .long x3), (5, .int x5)]) d_M_type_39 (by decide) rfl ?_
      refine x_sub [2, 3, 4, 0] rfl ?_
      obtain ⟨f9, h⟩ := h
      exact w_M_type_41 l D cs Ev hE o a d post (fun zx3 zx5 zu => P_M_type_21 post f zx3 zx5 zu) ih f9 x3 x5 0 u4 h
def P_M_type (post : Int32 → MS → Prop) (a0 : Int64) (u : MS) : Prop := P_M_packed (fun r2 u1 => ((¬ (lg_cmp r2 0) = 0 → (∃ g, P_M_type_21 post g r2 0 (sI u 0 (0 : Int32)))) ∧ ((lg_cmp r2 0) = 0 → post 0 (sI u 0 (0 : Int32))))) a0 ()
set_option maxHeartbeats 600000 in
set_option maxRecDepth 100000 in
theorem c_M_type (l : Launch) (D : va_G) (cs : Nat → ClassId) (Ev : (Nat → Prop) → State → Prop) (hE : xEok Ev) (o : Nat) (a : Nat → Nat) (d : Nat) (post : Int32 → MS → Prop) (a0 : Int64) (u : MS) (h : P_M_type post a0 u) : xC l D clX (tysX cs) Ev y_M_type w_M_type (rmD (d + 12)) (wdM o a cs) [.ref o, .long a0] u (pI post) 0 0 := by
  unfold P_M_type at h
  refine xC.of (cc := b_M_type) (nL := 8) (ret := (some .int)) (by decide) rfl (Nat.le_of_ble_eq_true rfl) ?_
  show RR l D clX (tysX cs) Ev "DeckFrontModel" b_M_type 8 w_M_type (rmD (d + 12)) (some .int) (wdM o a cs) (pI post) 0 0 0 0 0 [(0, .ref o), (1, .long a0)] [] u
  refine x_aload_n (x := o) d_M_type_0 rfl ?_
  refine x_iconst (v := 0) d_M_type_1 (by decide) ?_
  refine x_put f_M_82 fw_M_0 (eM_o _ _ _ _) rfl rfl (Nat.le_of_ble_eq_true rfl) (sM_0 _ _ _ _ _) d_M_type_2 ?_
  refine x_lload_n (x := a0) d_M_type_5 rfl ?_
  refine x_callS (st := []) k_M_328 x_none (c_M_packed l D cs Ev hE (d + 10) _ a0 () h) hE (rmD_ok (by omega) (by decide)) rfl (Nat.le_of_ble_eq_true rfl) rfl d_M_type_6 (x_rJ (fun r2 u1 h => ?_))
  refine x_lstore_n (lv' := [(3, .long r2), (0, .ref o), (1, .long a0)]) d_M_type_9 (by decide) rfl ?_
  refine x_lload_n (x := r2) d_M_type_10 rfl ?_
  refine x_lconst (v := 0) d_M_type_11 (by decide) ?_
  refine x_lcmp d_M_type_12 ?_
  refine x_if_ne (tgt := 18) d_M_type_13 rfl (fun hc => ?_) (fun hc => ?_)
  · have h := h.1 hc
    refine x_iconst (v := 0) d_M_type_18 (by decide) ?_
    refine x_istore (lv' := [(5, .int 0), (3, .long r2), (0, .ref o), (1, .long a0)]) d_M_type_19 (by decide) rfl ?_
    refine x_sub [2, 1, 0] rfl ?_
    obtain ⟨f9, h⟩ := h
    exact w_M_type_21 l D cs Ev hE o a d post  f9 r2 0 (sI u 0 (0 : Int32)) h
  · have h := h.2 hc
    refine x_iconst (v := 0) d_M_type_16 (by decide) ?_
    refine x_iret d_M_type_17 ⟨_, rfl, ?_⟩
    exact h
def P_M_isLabel_38 (post : Int32 → MS → Prop) (K5 : Int32 → Int32 → Int32 → MS → Prop) (x1 : Int32) (x4 : Int32) (s0 : Int32) (u : MS) : Prop := K5 x1 s0 (x4 + 1) u
set_option maxHeartbeats 600000 in
set_option maxRecDepth 100000 in
theorem w_M_isLabel_38 (l : Launch) (D : va_G) (cs : Nat → ClassId) (Ev : (Nat → Prop) → State → Prop) (hE : xEok Ev) (o : Nat) (a : Nat → Nat) (d : Nat) (post : Int32 → MS → Prop) (K5 : Int32 → Int32 → Int32 → MS → Prop) (hK5 : ∀ (x1 : Int32) (x3 : Int32) (x4 : Int32) (u : MS), K5 x1 x3 x4 u → RR l D clX (tysX cs) Ev "DeckFrontModel" b_M_isLabel 5 w_M_isLabel (rmD (d + 0)) (some .boolean) (wdM o a cs) (pI post) 0 0 0 0 5 [(0, .ref o), (1, .int x1), (3, .int x3), (4, .int x4)] [] u) (x1 : Int32) (x4 : Int32) (s0 : Int32) (u : MS) (h : P_M_isLabel_38 post K5 x1 x4 s0 u) : RR l D clX (tysX cs) Ev "DeckFrontModel" b_M_isLabel 5 w_M_isLabel (rmD (d + 0)) (some .boolean) (wdM o a cs) (pI post) 0 0 0 0 38 [(0, .ref o), (1, .int x1), (4, .int x4)] [.int s0] u := by
  unfold P_M_isLabel_38 at h
  refine x_istore_n (lv' := [(3, .int s0), (0, .ref o), (1, .int x1), (4, .int x4)]) d_M_isLabel_38 (by decide) rfl ?_
  refine x_iinc (v := x4 + 1) (lv' := [(4, .int (x4 + 1)), (3, .int s0), (0, .ref o), (1, .int x1)]) d_M_isLabel_39 rfl rfl (by decide) rfl ?_
  refine x_goto (tgt := 5) d_M_isLabel_42 rfl ?_
  refine x_sub [2, 3, 1, 0] rfl ?_
  exact hK5 x1 s0 (x4 + 1) u h
def P_M_isLabel_33 (post : Int32 → MS → Prop) (K5 : Int32 → Int32 → Int32 → MS → Prop) (x1 : Int32) (x4 : Int32) (u : MS) : Prop := P_M_isLabel_38 post K5 x1 x4 1 u
set_option maxHeartbeats 600000 in
set_option maxRecDepth 100000 in
theorem w_M_isLabel_33 (l : Launch) (D : va_G) (cs : Nat → ClassId) (Ev : (Nat → Prop) → State → Prop) (hE : xEok Ev) (o : Nat) (a : Nat → Nat) (d : Nat) (post : Int32 → MS → Prop) (K5 : Int32 → Int32 → Int32 → MS → Prop) (hK5 : ∀ (x1 : Int32) (x3 : Int32) (x4 : Int32) (u : MS), K5 x1 x3 x4 u → RR l D clX (tysX cs) Ev "DeckFrontModel" b_M_isLabel 5 w_M_isLabel (rmD (d + 0)) (some .boolean) (wdM o a cs) (pI post) 0 0 0 0 5 [(0, .ref o), (1, .int x1), (3, .int x3), (4, .int x4)] [] u) (x1 : Int32) (x4 : Int32) (u : MS) (h : P_M_isLabel_33 post K5 x1 x4 u) : RR l D clX (tysX cs) Ev "DeckFrontModel" b_M_isLabel 5 w_M_isLabel (rmD (d + 0)) (some .boolean) (wdM o a cs) (pI post) 0 0 0 0 33 [(0, .ref o), (1, .int x1), (4, .int x4)] [] u := by
  unfold P_M_isLabel_33 at h
  refine x_iconst (v := 1) d_M_isLabel_33 (by decide) ?_
  refine x_goto (tgt := 38) d_M_isLabel_34 rfl ?_
  exact w_M_isLabel_38 l D cs Ev hE o a d post K5 hK5 x1 x4 1 u h
def P_M_isLabel_37 (post : Int32 → MS → Prop) (K5 : Int32 → Int32 → Int32 → MS → Prop) (x1 : Int32) (x4 : Int32) (u : MS) : Prop := P_M_isLabel_38 post K5 x1 x4 0 u
set_option maxHeartbeats 600000 in
set_option maxRecDepth 100000 in
theorem w_M_isLabel_37 (l : Launch) (D : va_G) (cs : Nat → ClassId) (Ev : (Nat → Prop) → State → Prop) (hE : xEok Ev) (o : Nat) (a : Nat → Nat) (d : Nat) (post : Int32 → MS → Prop) (K5 : Int32 → Int32 → Int32 → MS → Prop) (hK5 : ∀ (x1 : Int32) (x3 : Int32) (x4 : Int32) (u : MS), K5 x1 x3 x4 u → RR l D clX (tysX cs) Ev "DeckFrontModel" b_M_isLabel 5 w_M_isLabel (rmD (d + 0)) (some .boolean) (wdM o a cs) (pI post) 0 0 0 0 5 [(0, .ref o), (1, .int x1), (3, .int x3), (4, .int x4)] [] u) (x1 : Int32) (x4 : Int32) (u : MS) (h : P_M_isLabel_37 post K5 x1 x4 u) : RR l D clX (tysX cs) Ev "DeckFrontModel" b_M_isLabel 5 w_M_isLabel (rmD (d + 0)) (some .boolean) (wdM o a cs) (pI post) 0 0 0 0 37 [(0, .ref o), (1, .int x1), (4, .int x4)] [] u := by
  unfold P_M_isLabel_37 at h
  refine x_iconst (v := 0) d_M_isLabel_37 (by decide) ?_
  exact w_M_isLabel_38 l D cs Ev hE o a d post K5 hK5 x1 x4 0 u h
def P_M_isLabel_5 (post : Int32 → MS → Prop) : Nat → Int32 → Int32 → Int32 → MS → Prop
  | 0, _, _, _, _ => False
  | f + 1, x1, x3, x4, u => (((gI u 3) ≤ x4 → (narrow .boolean (.int x3) = .int x3 ∧ post x3 u)) ∧ (¬ (gI u 3) ≤ x4 → ((¬ x3 = 0 → P_M_isLabel_33 post (fun zx1 zx3 zx4 zu => P_M_isLabel_5 post f zx1 zx3 zx4 zu) x1 x4 u) ∧ (x3 = 0 → ((x1 ≤ 0 → P_M_isLabel_37 post (fun zx1 zx3 zx4 zu => P_M_isLabel_5 post f zx1 zx3 zx4 zu) x1 x4 u) ∧ (¬ x1 ≤ 0 → (vp_in x4 24 ∧ ((¬ (gA u 4 x4.toNatClampNeg) = x1 → P_M_isLabel_37 post (fun zx1 zx3 zx4 zu => P_M_isLabel_5 post f zx1 zx3 zx4 zu) x1 x4 u) ∧ ((gA u 4 x4.toNatClampNeg) = x1 → P_M_isLabel_33 post (fun zx1 zx3 zx4 zu => P_M_isLabel_5 post f zx1 zx3 zx4 zu) x1 x4 u)))))))))
set_option maxHeartbeats 600000 in
set_option maxRecDepth 100000 in
theorem w_M_isLabel_5 (l : Launch) (D : va_G) (cs : Nat → ClassId) (Ev : (Nat → Prop) → State → Prop) (hE : xEok Ev) (o : Nat) (a : Nat → Nat) (d : Nat) (post : Int32 → MS → Prop) : ∀ (f : Nat) (x1 : Int32) (x3 : Int32) (x4 : Int32) (u : MS), P_M_isLabel_5 post  f x1 x3 x4 u → RR l D clX (tysX cs) Ev "DeckFrontModel" b_M_isLabel 5 w_M_isLabel (rmD (d + 0)) (some .boolean) (wdM o a cs) (pI post) 0 0 0 0 5 [(0, .ref o), (1, .int x1), (3, .int x3), (4, .int x4)] [] u := by
  intro f
  induction f with
  | zero => intro x1 x3 x4 u h; exact h.elim
  | succ f ih =>
    intro x1 x3 x4 u h
    unfold P_M_isLabel_5 at h
    refine x_iload (x := x4) d_M_isLabel_5 rfl ?_
    refine x_aload_n (x := o) d_M_isLabel_7 rfl ?_
    refine x_get (v := .int (gI u 3)) f_M_99 (eM_o _ _ _ _) rfl d_M_isLabel_8 ?_
    refine x_icmp_ge (tgt := 45) d_M_isLabel_11 rfl (fun hc => ?_) (fun hc => ?_)
    · have h := h.1 hc
      refine x_iload_n (x := x3) d_M_isLabel_45 rfl ?_
      refine x_zret h.1 d_M_isLabel_46 ⟨_, rfl, ?_⟩
      exact h.2
    · have h := h.2 hc
      refine x_iload_n (x := x3) d_M_isLabel_14 rfl ?_
      refine x_if_ne (tgt := 33) d_M_isLabel_15 rfl (fun hc => ?_) (fun hc => ?_)
      · have h := h.1 hc
        refine x_sub [0, 1, 3] rfl ?_
        exact w_M_isLabel_33 l D cs Ev hE o a d post (fun zx1 zx3 zx4 zu => P_M_isLabel_5 post f zx1 zx3 zx4 zu) ih x1 x4 u h
      · have h := h.2 hc
        refine x_iload_n (x := x1) d_M_isLabel_18 rfl ?_
        refine x_if_le (tgt := 37) d_M_isLabel_19 rfl (fun hc => ?_) (fun hc => ?_)
        · have h := h.1 hc
          refine x_sub [0, 1, 3] rfl ?_
          exact w_M_isLabel_37 l D cs Ev hE o a d post (fun zx1 zx3 zx4 zu => P_M_isLabel_5 post f zx1 zx3 zx4 zu) ih x1 x4 u h
        · have h := h.2 hc
          refine x_aload_n (x := o) d_M_isLabel_22 rfl ?_
          refine x_get (v := .ref (a 4)) f_M_13 (eM_o _ _ _ _) rfl d_M_isLabel_23 ?_
          refine x_iload (x := x4) d_M_isLabel_26 rfl ?_
          refine x_iald (t0 := 0) (eM_4 _ _ _ _) rfl h.1 d_M_isLabel_28 ?_
          have h := h.2
          refine x_iload_n (x := x1) d_M_isLabel_29 rfl ?_
          refine x_icmp_ne (tgt := 37) d_M_isLabel_30 rfl (fun hc => ?_) (fun hc => ?_)
          · have h := h.1 hc
            refine x_sub [0, 1, 3] rfl ?_
            exact w_M_isLabel_37 l D cs Ev hE o a d post (fun zx1 zx3 zx4 zu => P_M_isLabel_5 post f zx1 zx3 zx4 zu) ih x1 x4 u h
          · have h := h.2 hc
            refine x_sub [0, 1, 3] rfl ?_
            exact w_M_isLabel_33 l D cs Ev hE o a d post (fun zx1 zx3 zx4 zu => P_M_isLabel_5 post f zx1 zx3 zx4 zu) ih x1 x4 u h
def P_M_isLabel (post : Int32 → MS → Prop) (a0 : Int32) (a1 : Int32) (u : MS) : Prop := (∃ g, P_M_isLabel_5 post g a0 0 a1 u)
set_option maxHeartbeats 600000 in
set_option maxRecDepth 100000 in
theorem c_M_isLabel (l : Launch) (D : va_G) (cs : Nat → ClassId) (Ev : (Nat → Prop) → State → Prop) (hE : xEok Ev) (o : Nat) (a : Nat → Nat) (d : Nat) (post : Int32 → MS → Prop) (a0 : Int32) (a1 : Int32) (u : MS) (h : P_M_isLabel post a0 a1 u) : xC l D clX (tysX cs) Ev y_M_isLabel w_M_isLabel (rmD (d + 0)) (wdM o a cs) [.ref o, .int a0, .int a1] u (pI post) 0 0 := by
  unfold P_M_isLabel at h
  refine xC.of (cc := b_M_isLabel) (nL := 5) (ret := (some .boolean)) (by decide) rfl (Nat.le_of_ble_eq_true rfl) ?_
  show RR l D clX (tysX cs) Ev "DeckFrontModel" b_M_isLabel 5 w_M_isLabel (rmD (d + 0)) (some .boolean) (wdM o a cs) (pI post) 0 0 0 0 0 [(0, .ref o), (1, .int a0), (2, .int a1)] [] u
  refine x_iconst (v := 0) d_M_isLabel_0 (by decide) ?_
  refine x_istore_n (lv' := [(3, .int 0), (0, .ref o), (1, .int a0), (2, .int a1)]) d_M_isLabel_1 (by decide) rfl ?_
  refine x_iload_n (x := a1) d_M_isLabel_2 rfl ?_
  refine x_istore (lv' := [(4, .int a1), (3, .int 0), (0, .ref o), (1, .int a0), (2, .int a1)]) d_M_isLabel_3 (by decide) rfl ?_
  refine x_sub [2, 3, 1, 0] rfl ?_
  obtain ⟨f9, h⟩ := h
  exact w_M_isLabel_5 l D cs Ev hE o a d post  f9 a0 0 a1 u h
def P_M_isOpen_35 (post : Int32 → MS → Prop) (K4 : Int32 → Int32 → Int32 → MS → Prop) (x1 : Int32) (x3 : Int32) (s0 : Int32) (u : MS) : Prop := K4 x1 s0 (x3 + 1) u
set_option maxHeartbeats 600000 in
set_option maxRecDepth 100000 in
theorem w_M_isOpen_35 (l : Launch) (D : va_G) (cs : Nat → ClassId) (Ev : (Nat → Prop) → State → Prop) (hE : xEok Ev) (o : Nat) (a : Nat → Nat) (d : Nat) (post : Int32 → MS → Prop) (K4 : Int32 → Int32 → Int32 → MS → Prop) (hK4 : ∀ (x1 : Int32) (x2 : Int32) (x3 : Int32) (u : MS), K4 x1 x2 x3 u → RR l D clX (tysX cs) Ev "DeckFrontModel" b_M_isOpen 4 w_M_isOpen (rmD (d + 0)) (some .boolean) (wdM o a cs) (pI post) 0 0 0 0 4 [(0, .ref o), (1, .int x1), (2, .int x2), (3, .int x3)] [] u) (x1 : Int32) (x3 : Int32) (s0 : Int32) (u : MS) (h : P_M_isOpen_35 post K4 x1 x3 s0 u) : RR l D clX (tysX cs) Ev "DeckFrontModel" b_M_isOpen 4 w_M_isOpen (rmD (d + 0)) (some .boolean) (wdM o a cs) (pI post) 0 0 0 0 35 [(0, .ref o), (1, .int x1), (3, .int x3)] [.int s0] u := by
  unfold P_M_isOpen_35 at h
  refine x_istore_n (lv' := [(2, .int s0), (0, .ref o), (1, .int x1), (3, .int x3)]) d_M_isOpen_35 (by decide) rfl ?_
  refine x_iinc (v := x3 + 1) (lv' := [(3, .int (x3 + 1)), (2, .int s0), (0, .ref o), (1, .int x1)]) d_M_isOpen_36 rfl rfl (by decide) rfl ?_
  refine x_goto (tgt := 4) d_M_isOpen_39 rfl ?_
  refine x_sub [2, 3, 1, 0] rfl ?_
  exact hK4 x1 s0 (x3 + 1) u h
def P_M_isOpen_30 (post : Int32 → MS → Prop) (K4 : Int32 → Int32 → Int32 → MS → Prop) (x1 : Int32) (x3 : Int32) (u : MS) : Prop := P_M_isOpen_35 post K4 x1 x3 1 u
set_option maxHeartbeats 600000 in
set_option maxRecDepth 100000 in
theorem w_M_isOpen_30 (l : Launch) (D : va_G) (cs : Nat → ClassId) (Ev : (Nat → Prop) → State → Prop) (hE : xEok Ev) (o : Nat) (a : Nat → Nat) (d : Nat) (post : Int32 → MS → Prop) (K4 : Int32 → Int32 → Int32 → MS → Prop) (hK4 : ∀ (x1 : Int32) (x2 : Int32) (x3 : Int32) (u : MS), K4 x1 x2 x3 u → RR l D clX (tysX cs) Ev "DeckFrontModel" b_M_isOpen 4 w_M_isOpen (rmD (d + 0)) (some .boolean) (wdM o a cs) (pI post) 0 0 0 0 4 [(0, .ref o), (1, .int x1), (2, .int x2), (3, .int x3)] [] u) (x1 : Int32) (x3 : Int32) (u : MS) (h : P_M_isOpen_30 post K4 x1 x3 u) : RR l D clX (tysX cs) Ev "DeckFrontModel" b_M_isOpen 4 w_M_isOpen (rmD (d + 0)) (some .boolean) (wdM o a cs) (pI post) 0 0 0 0 30 [(0, .ref o), (1, .int x1), (3, .int x3)] [] u := by
  unfold P_M_isOpen_30 at h
  refine x_iconst (v := 1) d_M_isOpen_30 (by decide) ?_
  refine x_goto (tgt := 35) d_M_isOpen_31 rfl ?_
  exact w_M_isOpen_35 l D cs Ev hE o a d post K4 hK4 x1 x3 1 u h
def P_M_isOpen_34 (post : Int32 → MS → Prop) (K4 : Int32 → Int32 → Int32 → MS → Prop) (x1 : Int32) (x3 : Int32) (u : MS) : Prop := P_M_isOpen_35 post K4 x1 x3 0 u
set_option maxHeartbeats 600000 in
set_option maxRecDepth 100000 in
theorem w_M_isOpen_34 (l : Launch) (D : va_G) (cs : Nat → ClassId) (Ev : (Nat → Prop) → State → Prop) (hE : xEok Ev) (o : Nat) (a : Nat → Nat) (d : Nat) (post : Int32 → MS → Prop) (K4 : Int32 → Int32 → Int32 → MS → Prop) (hK4 : ∀ (x1 : Int32) (x2 : Int32) (x3 : Int32) (u : MS), K4 x1 x2 x3 u → RR l D clX (tysX cs) Ev "DeckFrontModel" b_M_isOpen 4 w_M_isOpen (rmD (d + 0)) (some .boolean) (wdM o a cs) (pI post) 0 0 0 0 4 [(0, .ref o), (1, .int x1), (2, .int x2), (3, .int x3)] [] u) (x1 : Int32) (x3 : Int32) (u : MS) (h : P_M_isOpen_34 post K4 x1 x3 u) : RR l D clX (tysX cs) Ev "DeckFrontModel" b_M_isOpen 4 w_M_isOpen (rmD (d + 0)) (some .boolean) (wdM o a cs) (pI post) 0 0 0 0 34 [(0, .ref o), (1, .int x1), (3, .int x3)] [] u := by
  unfold P_M_isOpen_34 at h
  refine x_iconst (v := 0) d_M_isOpen_34 (by decide) ?_
  exact w_M_isOpen_35 l D cs Ev hE o a d post K4 hK4 x1 x3 0 u h
def P_M_isOpen_4 (post : Int32 → MS → Prop) : Nat → Int32 → Int32 → Int32 → MS → Prop
  | 0, _, _, _, _ => False
  | f + 1, x1, x2, x3, u => (((gI u 33) ≤ x3 → (narrow .boolean (.int x2) = .int x2 ∧ post x2 u)) ∧ (¬ (gI u 33) ≤ x3 → ((¬ x2 = 0 → P_M_isOpen_30 post (fun zx1 zx2 zx3 zu => P_M_isOpen_4 post f zx1 zx2 zx3 zu) x1 x3 u) ∧ (x2 = 0 → ((x1 ≤ 0 → P_M_isOpen_34 post (fun zx1 zx2 zx3 zu => P_M_isOpen_4 post f zx1 zx2 zx3 zu) x1 x3 u) ∧ (¬ x1 ≤ 0 → (vp_in x3 24 ∧ ((¬ (gA u 34 x3.toNatClampNeg) = x1 → P_M_isOpen_34 post (fun zx1 zx2 zx3 zu => P_M_isOpen_4 post f zx1 zx2 zx3 zu) x1 x3 u) ∧ ((gA u 34 x3.toNatClampNeg) = x1 → P_M_isOpen_30 post (fun zx1 zx2 zx3 zu => P_M_isOpen_4 post f zx1 zx2 zx3 zu) x1 x3 u)))))))))
set_option maxHeartbeats 600000 in
set_option maxRecDepth 100000 in
theorem w_M_isOpen_4 (l : Launch) (D : va_G) (cs : Nat → ClassId) (Ev : (Nat → Prop) → State → Prop) (hE : xEok Ev) (o : Nat) (a : Nat → Nat) (d : Nat) (post : Int32 → MS → Prop) : ∀ (f : Nat) (x1 : Int32) (x2 : Int32) (x3 : Int32) (u : MS), P_M_isOpen_4 post  f x1 x2 x3 u → RR l D clX (tysX cs) Ev "DeckFrontModel" b_M_isOpen 4 w_M_isOpen (rmD (d + 0)) (some .boolean) (wdM o a cs) (pI post) 0 0 0 0 4 [(0, .ref o), (1, .int x1), (2, .int x2), (3, .int x3)] [] u := by
  intro f
  induction f with
  | zero => intro x1 x2 x3 u h; exact h.elim
  | succ f ih =>
    intro x1 x2 x3 u h
    unfold P_M_isOpen_4 at h
    refine x_iload_n (x := x3) d_M_isOpen_4 rfl ?_
    refine x_aload_n (x := o) d_M_isOpen_5 rfl ?_
    refine x_get (v := .int (gI u 33)) f_M_336 (eM_o _ _ _ _) rfl d_M_isOpen_6 ?_
    refine x_icmp_ge (tgt := 42) d_M_isOpen_9 rfl (fun hc => ?_) (fun hc => ?_)
    · have h := h.1 hc
      refine x_iload_n (x := x2) d_M_isOpen_42 rfl ?_
      refine x_zret h.1 d_M_isOpen_43 ⟨_, rfl, ?_⟩
      exact h.2
    · have h := h.2 hc
      refine x_iload_n (x := x2) d_M_isOpen_12 rfl ?_
      refine x_if_ne (tgt := 30) d_M_isOpen_13 rfl (fun hc => ?_) (fun hc => ?_)
      · have h := h.1 hc
        refine x_sub [0, 1, 3] rfl ?_
        exact w_M_isOpen_30 l D cs Ev hE o a d post (fun zx1 zx2 zx3 zu => P_M_isOpen_4 post f zx1 zx2 zx3 zu) ih x1 x3 u h
      · have h := h.2 hc
        refine x_iload_n (x := x1) d_M_isOpen_16 rfl ?_
        refine x_if_le (tgt := 34) d_M_isOpen_17 rfl (fun hc => ?_) (fun hc => ?_)
        · have h := h.1 hc
          refine x_sub [0, 1, 3] rfl ?_
          exact w_M_isOpen_34 l D cs Ev hE o a d post (fun zx1 zx2 zx3 zu => P_M_isOpen_4 post f zx1 zx2 zx3 zu) ih x1 x3 u h
        · have h := h.2 hc
          refine x_aload_n (x := o) d_M_isOpen_20 rfl ?_
          refine x_get (v := .ref (a 34)) f_M_76 (eM_o _ _ _ _) rfl d_M_isOpen_21 ?_
          refine x_iload_n (x := x3) d_M_isOpen_24 rfl ?_
          refine x_iald (t0 := 0) (eM_34 _ _ _ _) rfl h.1 d_M_isOpen_25 ?_
          have h := h.2
          refine x_iload_n (x := x1) d_M_isOpen_26 rfl ?_
          refine x_icmp_ne (tgt := 34) d_M_isOpen_27 rfl (fun hc => ?_) (fun hc => ?_)
          · have h := h.1 hc
            refine x_sub [0, 1, 3] rfl ?_
            exact w_M_isOpen_34 l D cs Ev hE o a d post (fun zx1 zx2 zx3 zu => P_M_isOpen_4 post f zx1 zx2 zx3 zu) ih x1 x3 u h
          · have h := h.2 hc
            refine x_sub [0, 1, 3] rfl ?_
            exact w_M_isOpen_30 l D cs Ev hE o a d post (fun zx1 zx2 zx3 zu => P_M_isOpen_4 post f zx1 zx2 zx3 zu) ih x1 x3 u h
def P_M_isOpen (post : Int32 → MS → Prop) (a0 : Int32) (u : MS) : Prop := (∃ g, P_M_isOpen_4 post g a0 0 0 u)
set_option maxHeartbeats 600000 in
set_option maxRecDepth 100000 in
theorem c_M_isOpen (l : Launch) (D : va_G) (cs : Nat → ClassId) (Ev : (Nat → Prop) → State → Prop) (hE : xEok Ev) (o : Nat) (a : Nat → Nat) (d : Nat) (post : Int32 → MS → Prop) (a0 : Int32) (u : MS) (h : P_M_isOpen post a0 u) : xC l D clX (tysX cs) Ev y_M_isOpen w_M_isOpen (rmD (d + 0)) (wdM o a cs) [.ref o, .int a0] u (pI post) 0 0 := by
  unfold P_M_isOpen at h
  refine xC.of (cc := b_M_isOpen) (nL := 4) (ret := (some .boolean)) (by decide) rfl (Nat.le_of_ble_eq_true rfl) ?_
  show RR l D clX (tysX cs) Ev "DeckFrontModel" b_M_isOpen 4 w_M_isOpen (rmD (d + 0)) (some .boolean) (wdM o a cs) (pI post) 0 0 0 0 0 [(0, .ref o), (1, .int a0)] [] u
  refine x_iconst (v := 0) d_M_isOpen_0 (by decide) ?_
  refine x_istore_n (lv' := [(2, .int 0), (0, .ref o), (1, .int a0)]) d_M_isOpen_1 (by decide) rfl ?_
  refine x_iconst (v := 0) d_M_isOpen_2 (by decide) ?_
  refine x_istore_n (lv' := [(3, .int 0), (2, .int 0), (0, .ref o), (1, .int a0)]) d_M_isOpen_3 (by decide) rfl ?_
  refine x_sub [2, 3, 1, 0] rfl ?_
  obtain ⟨f9, h⟩ := h
  exact w_M_isOpen_4 l D cs Ev hE o a d post  f9 a0 0 0 u h
def P_M_early_276 (post : Int32 → MS → Prop) (x2 : Int32) (u : MS) : Prop := ((¬ x2 = 7 → post 0 (sI u 33 (gI u 33))) ∧ (x2 = 7 → post 0 (sI u 33 ((gI u 33) - (1 : Int32)))))
set_option maxHeartbeats 600000 in
set_option maxRecDepth 100000 in
theorem w_M_early_276 (l : Launch) (D : va_G) (cs : Nat → ClassId) (Ev : (Nat → Prop) → State → Prop) (hE : xEok Ev) (o : Nat) (a : Nat → Nat) (d : Nat) (post : Int32 → MS → Prop) (x2 : Int32) (u : MS) (h : P_M_early_276 post  x2 u) : RR l D clX (tysX cs) Ev "DeckFrontModel" b_M_early 7 w_M_early (rmD (d + 1)) (some .int) (wdM o a cs) (pI post) 0 0 0 0 276 [(0, .ref o), (2, .int x2)] [] u := by
  unfold P_M_early_276 at h
  refine x_aload_n (x := o) d_M_early_276 rfl ?_
  refine x_iload_n (x := x2) d_M_early_277 rfl ?_
  refine x_bipush (v := 7) d_M_early_278 (by decide) ?_
  refine x_icmp_ne (tgt := 292) d_M_early_280 rfl (fun hc => ?_) (fun hc => ?_)
  · have h := h.1 hc
    refine x_aload_n (x := o) d_M_early_292 rfl ?_
    refine x_get (v := .int (gI u 33)) f_M_336 (eM_o _ _ _ _) rfl d_M_early_293 ?_
    refine x_put f_M_336 fw_M_33 (eM_o _ _ _ _) rfl rfl (Nat.le_of_ble_eq_true rfl) (sM_33 _ _ _ _ _) d_M_early_296 ?_
    refine x_iconst (v := 0) d_M_early_299 (by decide) ?_
    refine x_iret d_M_early_300 ⟨_, rfl, ?_⟩
    exact h
  · have h := h.2 hc
    refine x_aload_n (x := o) d_M_early_283 rfl ?_
    refine x_get (v := .int (gI u 33)) f_M_336 (eM_o _ _ _ _) rfl d_M_early_284 ?_
    refine x_iconst (v := 1) d_M_early_287 (by decide) ?_
    refine x_isub d_M_early_288 ?_
    refine x_goto (tgt := 296) d_M_early_289 rfl ?_
    refine x_put f_M_336 fw_M_33 (eM_o _ _ _ _) rfl rfl (Nat.le_of_ble_eq_true rfl) (sM_33 _ _ _ _ _) d_M_early_296 ?_
    refine x_iconst (v := 0) d_M_early_299 (by decide) ?_
    refine x_iret d_M_early_300 ⟨_, rfl, ?_⟩
    exact h
def P_M_early_258 (post : Int32 → MS → Prop) (x2 : Int32) (u : MS) : Prop := ((¬ x2 = 6 → P_M_early_276 post x2 u) ∧ (x2 = 6 → (vp_in ((gI u 33) - (1 : Int32)) 24 ∧ P_M_early_276 post x2 (sA u 35 ((gI u 33) - (1 : Int32)).toNatClampNeg (vp_nar .boolean (1 : Int32))))))
set_option maxHeartbeats 600000 in
set_option maxRecDepth 100000 in
theorem w_M_early_258 (l : Launch) (D : va_G) (cs : Nat → ClassId) (Ev : (Nat → Prop) → State → Prop) (hE : xEok Ev) (o : Nat) (a : Nat → Nat) (d : Nat) (post : Int32 → MS → Prop) (x2 : Int32) (u : MS) (h : P_M_early_258 post  x2 u) : RR l D clX (tysX cs) Ev "DeckFrontModel" b_M_early 7 w_M_early (rmD (d + 1)) (some .int) (wdM o a cs) (pI post) 0 0 0 0 258 [(0, .ref o), (2, .int x2)] [] u := by
  unfold P_M_early_258 at h
  refine x_iload_n (x := x2) d_M_early_258 rfl ?_
  refine x_bipush (v := 6) d_M_early_259 (by decide) ?_
  refine x_icmp_ne (tgt := 276) d_M_early_261 rfl (fun hc => ?_) (fun hc => ?_)
  · have h := h.1 hc
    exact w_M_early_276 l D cs Ev hE o a d post  x2 u h
  · have h := h.2 hc
    refine x_aload_n (x := o) d_M_early_264 rfl ?_
    refine x_get (v := .ref (a 35)) f_M_79 (eM_o _ _ _ _) rfl d_M_early_265 ?_
    refine x_aload_n (x := o) d_M_early_268 rfl ?_
    refine x_get (v := .int (gI u 33)) f_M_336 (eM_o _ _ _ _) rfl d_M_early_269 ?_
    refine x_iconst (v := 1) d_M_early_272 (by decide) ?_
    refine x_isub d_M_early_273 ?_
    refine x_iconst (v := 1) d_M_early_274 (by decide) ?_
    refine x_zast (t0 := 3) (eM_35 _ _ _ _) rfl h.1 (sM_35 _ _ _ _ _ _) d_M_early_275 ?_
    have h := h.2
    exact w_M_early_276 l D cs Ev hE o a d post  x2 (sA u 35 ((gI u 33) - (1 : Int32)).toNatClampNeg (vp_nar .boolean (1 : Int32))) h
def P_M_early_222 (post : Int32 → MS → Prop) : Nat → Int32 → Int32 → MS → Prop
  | 0, _, _, _ => False
  | f + 1, x2, x4, u => (((gI u 33) ≤ 0 → P_M_early_258 post x2 u) ∧ (¬ (gI u 33) ≤ 0 → (vp_in ((gI u 33) - (1 : Int32)) 24 ∧ ((¬ (gA u 34 ((gI u 33) - (1 : Int32)).toNatClampNeg) = x4 → P_M_early_258 post x2 u) ∧ ((gA u 34 ((gI u 33) - (1 : Int32)).toNatClampNeg) = x4 → P_M_early_222 post f x2 x4 (sI u 33 ((gI u 33) - (1 : Int32))))))))
set_option maxHeartbeats 600000 in
set_option maxRecDepth 100000 in
theorem w_M_early_222 (l : Launch) (D : va_G) (cs : Nat → ClassId) (Ev : (Nat → Prop) → State → Prop) (hE : xEok Ev) (o : Nat) (a : Nat → Nat) (d : Nat) (post : Int32 → MS → Prop) : ∀ (f : Nat) (x2 : Int32) (x4 : Int32) (u : MS), P_M_early_222 post  f x2 x4 u → RR l D clX (tysX cs) Ev "DeckFrontModel" b_M_early 7 w_M_early (rmD (d + 1)) (some .int) (wdM o a cs) (pI post) 0 0 0 0 222 [(0, .ref o), (2, .int x2), (4, .int x4)] [] u := by
  intro f
  induction f with
  | zero => intro x2 x4 u h; exact h.elim
  | succ f ih =>
    intro x2 x4 u h
    unfold P_M_early_222 at h
    refine x_aload_n (x := o) d_M_early_222 rfl ?_
    refine x_get (v := .int (gI u 33)) f_M_336 (eM_o _ _ _ _) rfl d_M_early_223 ?_
    refine x_if_le (tgt := 258) d_M_early_226 rfl (fun hc => ?_) (fun hc => ?_)
    · have h := h.1 hc
      refine x_sub [0, 1] rfl ?_
      exact w_M_early_258 l D cs Ev hE o a d post  x2 u h
    · have h := h.2 hc
      refine x_aload_n (x := o) d_M_early_229 rfl ?_
      refine x_get (v := .ref (a 34)) f_M_76 (eM_o _ _ _ _) rfl d_M_early_230 ?_
      refine x_aload_n (x := o) d_M_early_233 rfl ?_
      refine x_get (v := .int (gI u 33)) f_M_336 (eM_o _ _ _ _) rfl d_M_early_234 ?_
      refine x_iconst (v := 1) d_M_early_237 (by decide) ?_
      refine x_isub d_M_early_238 ?_
      refine x_iald (t0 := 0) (eM_34 _ _ _ _) rfl h.1 d_M_early_239 ?_
      have h := h.2
      refine x_iload (x := x4) d_M_early_240 rfl ?_
      refine x_icmp_ne (tgt := 258) d_M_early_242 rfl (fun hc => ?_) (fun hc => ?_)
      · have h := h.1 hc
        refine x_sub [0, 1] rfl ?_
        exact w_M_early_258 l D cs Ev hE o a d post  x2 u h
      · have h := h.2 hc
        refine x_aload_n (x := o) d_M_early_245 rfl ?_
        refine x_dup d_M_early_246 rfl ?_
        refine x_get (v := .int (gI u 33)) f_M_336 (eM_o _ _ _ _) rfl d_M_early_247 ?_
        refine x_iconst (v := 1) d_M_early_250 (by decide) ?_
        refine x_isub d_M_early_251 ?_
        refine x_put f_M_336 fw_M_33 (eM_o _ _ _ _) rfl rfl (Nat.le_of_ble_eq_true rfl) (sM_33 _ _ _ _ _) d_M_early_252 ?_
        refine x_goto (tgt := 222) d_M_early_255 rfl ?_
        exact ih x2 x4 (sI u 33 ((gI u 33) - (1 : Int32))) h
def P_M_early_197 (post : Int32 → MS → Prop) (x2 : Int32) (x4 : Int32) (s0 : Int32) (u : MS) : Prop := (vp_in ((gI u 33) - (1 : Int32)) 24 ∧ ((¬ (gA u 34 ((gI u 33) - (1 : Int32)).toNatClampNeg) = x4 → post 5 u) ∧ ((gA u 34 ((gI u 33) - (1 : Int32)).toNatClampNeg) = x4 → ((s0 = 0 → (∃ g, P_M_early_222 post g x2 x4 u)) ∧ (¬ s0 = 0 → post 5 u)))))
set_option maxHeartbeats 600000 in
set_option maxRecDepth 100000 in
theorem w_M_early_197 (l : Launch) (D : va_G) (cs : Nat → ClassId) (Ev : (Nat → Prop) → State → Prop) (hE : xEok Ev) (o : Nat) (a : Nat → Nat) (d : Nat) (post : Int32 → MS → Prop) (x2 : Int32) (x4 : Int32) (s0 : Int32) (u : MS) (h : P_M_early_197 post  x2 x4 s0 u) : RR l D clX (tysX cs) Ev "DeckFrontModel" b_M_early 7 w_M_early (rmD (d + 1)) (some .int) (wdM o a cs) (pI post) 0 0 0 0 197 [(0, .ref o), (2, .int x2), (4, .int x4)] [.int s0] u := by
  unfold P_M_early_197 at h
  refine x_istore (lv' := [(6, .int s0), (0, .ref o), (2, .int x2), (4, .int x4)]) d_M_early_197 (by decide) rfl ?_
  refine x_aload_n (x := o) d_M_early_199 rfl ?_
  refine x_get (v := .ref (a 34)) f_M_76 (eM_o _ _ _ _) rfl d_M_early_200 ?_
  refine x_aload_n (x := o) d_M_early_203 rfl ?_
  refine x_get (v := .int (gI u 33)) f_M_336 (eM_o _ _ _ _) rfl d_M_early_204 ?_
  refine x_iconst (v := 1) d_M_early_207 (by decide) ?_
  refine x_isub d_M_early_208 ?_
  refine x_iald (t0 := 0) (eM_34 _ _ _ _) rfl h.1 d_M_early_209 ?_
  have h := h.2
  refine x_iload (x := x4) d_M_early_210 rfl ?_
  refine x_icmp_ne (tgt := 220) d_M_early_212 rfl (fun hc => ?_) (fun hc => ?_)
  · have h := h.1 hc
    refine x_iconst (v := 5) d_M_early_220 (by decide) ?_
    refine x_iret d_M_early_221 ⟨_, rfl, ?_⟩
    exact h
  · have h := h.2 hc
    refine x_iload (x := s0) d_M_early_215 rfl ?_
    refine x_if_eq (tgt := 222) d_M_early_217 rfl (fun hc => ?_) (fun hc => ?_)
    · have h := h.1 hc
      refine x_sub [1, 2, 3] rfl ?_
      obtain ⟨f9, h⟩ := h
      exact w_M_early_222 l D cs Ev hE o a d post  f9 x2 x4 u h
    · have h := h.2 hc
      refine x_iconst (v := 5) d_M_early_220 (by decide) ?_
      refine x_iret d_M_early_221 ⟨_, rfl, ?_⟩
      exact h
def P_M_early_192 (post : Int32 → MS → Prop) (x2 : Int32) (x4 : Int32) (u : MS) : Prop := P_M_early_197 post x2 x4 1 u
set_option maxHeartbeats 600000 in
set_option maxRecDepth 100000 in
theorem w_M_early_192 (l : Launch) (D : va_G) (cs : Nat → ClassId) (Ev : (Nat → Prop) → State → Prop) (hE : xEok Ev) (o : Nat) (a : Nat → Nat) (d : Nat) (post : Int32 → MS → Prop) (x2 : Int32) (x4 : Int32) (u : MS) (h : P_M_early_192 post  x2 x4 u) : RR l D clX (tysX cs) Ev "DeckFrontModel" b_M_early 7 w_M_early (rmD (d + 1)) (some .int) (wdM o a cs) (pI post) 0 0 0 0 192 [(0, .ref o), (2, .int x2), (4, .int x4)] [] u := by
  unfold P_M_early_192 at h
  refine x_iconst (v := 1) d_M_early_192 (by decide) ?_
  refine x_goto (tgt := 197) d_M_early_193 rfl ?_
  exact w_M_early_197 l D cs Ev hE o a d post  x2 x4 1 u h
def P_M_early_162 (post : Int32 → MS → Prop) (x2 : Int32) (x4 : Int32) (u : MS) : Prop := ((x2 = 9 → P_M_early_192 post x2 x4 u) ∧ (¬ x2 = 9 → ((x2 = 11 → P_M_early_192 post x2 x4 u) ∧ (¬ x2 = 11 → ((x2 = 12 → P_M_early_192 post x2 x4 u) ∧ (¬ x2 = 12 → ((x2 = 14 → P_M_early_192 post x2 x4 u) ∧ (¬ x2 = 14 → ((¬ x2 = 17 → P_M_early_197 post x2 x4 0 u) ∧ (x2 = 17 → P_M_early_192 post x2 x4 u))))))))))
set_option maxHeartbeats 600000 in
set_option maxRecDepth 100000 in
theorem w_M_early_162 (l : Launch) (D : va_G) (cs : Nat → ClassId) (Ev : (Nat → Prop) → State → Prop) (hE : xEok Ev) (o : Nat) (a : Nat → Nat) (d : Nat) (post : Int32 → MS → Prop) (x2 : Int32) (x4 : Int32) (u : MS) (h : P_M_early_162 post  x2 x4 u) : RR l D clX (tysX cs) Ev "DeckFrontModel" b_M_early 7 w_M_early (rmD (d + 1)) (some .int) (wdM o a cs) (pI post) 0 0 0 0 162 [(0, .ref o), (2, .int x2), (4, .int x4)] [] u := by
  unfold P_M_early_162 at h
  refine x_iload_n (x := x2) d_M_early_162 rfl ?_
  refine x_bipush (v := 9) d_M_early_163 (by decide) ?_
  refine x_icmp_eq (tgt := 192) d_M_early_165 rfl (fun hc => ?_) (fun hc => ?_)
  · have h := h.1 hc
    exact w_M_early_192 l D cs Ev hE o a d post  x2 x4 u h
  · have h := h.2 hc
    refine x_iload_n (x := x2) d_M_early_168 rfl ?_
    refine x_bipush (v := 11) d_M_early_169 (by decide) ?_
    refine x_icmp_eq (tgt := 192) d_M_early_171 rfl (fun hc => ?_) (fun hc => ?_)
    · have h := h.1 hc
      exact w_M_early_192 l D cs Ev hE o a d post  x2 x4 u h
    · have h := h.2 hc
      refine x_iload_n (x := x2) d_M_early_174 rfl ?_
      refine x_bipush (v := 12) d_M_early_175 (by decide) ?_
      refine x_icmp_eq (tgt := 192) d_M_early_177 rfl (fun hc => ?_) (fun hc => ?_)
      · have h := h.1 hc
        exact w_M_early_192 l D cs Ev hE o a d post  x2 x4 u h
      · have h := h.2 hc
        refine x_iload_n (x := x2) d_M_early_180 rfl ?_
        refine x_bipush (v := 14) d_M_early_181 (by decide) ?_
        refine x_icmp_eq (tgt := 192) d_M_early_183 rfl (fun hc => ?_) (fun hc => ?_)
        · have h := h.1 hc
          exact w_M_early_192 l D cs Ev hE o a d post  x2 x4 u h
        · have h := h.2 hc
          refine x_iload_n (x := x2) d_M_early_186 rfl ?_
          refine x_bipush (v := 17) d_M_early_187 (by decide) ?_
          refine x_icmp_ne (tgt := 196) d_M_early_189 rfl (fun hc => ?_) (fun hc => ?_)
          · have h := h.1 hc
            refine x_iconst (v := 0) d_M_early_196 (by decide) ?_
            exact w_M_early_197 l D cs Ev hE o a d post  x2 x4 0 u h
          · have h := h.2 hc
            exact w_M_early_192 l D cs Ev hE o a d post  x2 x4 u h
def P_M_early_132 (post : Int32 → MS → Prop) (x2 : Int32) (x4 : Int32) (u : MS) : Prop := P_M_isOpen (fun r3 u2 => ((r3 = 0 → P_M_early_258 post x2 u2) ∧ (¬ r3 = 0 → ((x2 = 1 → P_M_early_192 post x2 x4 u2) ∧ (¬ x2 = 1 → ((x2 = 3 → P_M_early_192 post x2 x4 u2) ∧ (¬ x2 = 3 → ((x2 ≤ 4 → P_M_early_162 post x2 x4 u2) ∧ (¬ x2 ≤ 4 → ((x2 < 8 → P_M_early_192 post x2 x4 u2) ∧ (¬ x2 < 8 → P_M_early_162 post x2 x4 u2))))))))))) x4 u
set_option maxHeartbeats 600000 in
set_option maxRecDepth 100000 in
theorem w_M_early_132 (l : Launch) (D : va_G) (cs : Nat → ClassId) (Ev : (Nat → Prop) → State → Prop) (hE : xEok Ev) (o : Nat) (a : Nat → Nat) (d : Nat) (post : Int32 → MS → Prop) (x2 : Int32) (x4 : Int32) (u : MS) (h : P_M_early_132 post  x2 x4 u) : RR l D clX (tysX cs) Ev "DeckFrontModel" b_M_early 7 w_M_early (rmD (d + 1)) (some .int) (wdM o a cs) (pI post) 0 0 0 0 132 [(0, .ref o), (2, .int x2), (4, .int x4)] [] u := by
  unfold P_M_early_132 at h
  refine x_aload_n (x := o) d_M_early_132 rfl ?_
  refine x_iload (x := x4) d_M_early_133 rfl ?_
  refine x_callV (st := []) k_M_339 rfl (eM_o _ _ _ _) x_id (c_M_isOpen l D cs Ev hE o a (d + 0) _ x4 u h) hE (rmD_ok (by omega) (by decide)) rfl (Nat.le_of_ble_eq_true rfl) rfl d_M_early_135 (x_rI (fun r3 u2 h => ?_))
  refine x_if_eq (tgt := 258) d_M_early_138 rfl (fun hc => ?_) (fun hc => ?_)
  · have h := h.1 hc
    refine x_sub [0, 1] rfl ?_
    exact w_M_early_258 l D cs Ev hE o a d post  x2 u2 h
  · have h := h.2 hc
    refine x_iload_n (x := x2) d_M_early_141 rfl ?_
    refine x_iconst (v := 1) d_M_early_142 (by decide) ?_
    refine x_icmp_eq (tgt := 192) d_M_early_143 rfl (fun hc => ?_) (fun hc => ?_)
    · have h := h.1 hc
      exact w_M_early_192 l D cs Ev hE o a d post  x2 x4 u2 h
    · have h := h.2 hc
      refine x_iload_n (x := x2) d_M_early_146 rfl ?_
      refine x_iconst (v := 3) d_M_early_147 (by decide) ?_
      refine x_icmp_eq (tgt := 192) d_M_early_148 rfl (fun hc => ?_) (fun hc => ?_)
      · have h := h.1 hc
        exact w_M_early_192 l D cs Ev hE o a d post  x2 x4 u2 h
      · have h := h.2 hc
        refine x_iload_n (x := x2) d_M_early_151 rfl ?_
        refine x_iconst (v := 4) d_M_early_152 (by decide) ?_
        refine x_icmp_le (tgt := 162) d_M_early_153 rfl (fun hc => ?_) (fun hc => ?_)
        · have h := h.1 hc
          exact w_M_early_162 l D cs Ev hE o a d post  x2 x4 u2 h
        · have h := h.2 hc
          refine x_iload_n (x := x2) d_M_early_156 rfl ?_
          refine x_bipush (v := 8) d_M_early_157 (by decide) ?_
          refine x_icmp_lt (tgt := 192) d_M_early_159 rfl (fun hc => ?_) (fun hc => ?_)
          · have h := h.1 hc
            exact w_M_early_192 l D cs Ev hE o a d post  x2 x4 u2 h
          · have h := h.2 hc
            exact w_M_early_162 l D cs Ev hE o a d post  x2 x4 u2 h
def P_M_early_92 (post : Int32 → MS → Prop) (x2 : Int32) (x4 : Int32) (s0 : Int32) (u : MS) : Prop := ((x2 ≤ 4 → P_M_early_132 post x2 x4 u) ∧ (¬ x2 ≤ 4 → ((8 ≤ x2 → P_M_early_132 post x2 x4 u) ∧ (¬ 8 ≤ x2 → ((s0 = 0 → post 4 u) ∧ (¬ s0 = 0 → ((7 ≤ x2 → P_M_early_132 post x2 x4 u) ∧ (¬ 7 ≤ x2 → (vp_in ((gI u 33) - (1 : Int32)) 24 ∧ (((gA u 35 ((gI u 33) - (1 : Int32)).toNatClampNeg) = 0 → P_M_early_132 post x2 x4 u) ∧ (¬ (gA u 35 ((gI u 33) - (1 : Int32)).toNatClampNeg) = 0 → post 4 u)))))))))))
set_option maxHeartbeats 600000 in
set_option maxRecDepth 100000 in
theorem w_M_early_92 (l : Launch) (D : va_G) (cs : Nat → ClassId) (Ev : (Nat → Prop) → State → Prop) (hE : xEok Ev) (o : Nat) (a : Nat → Nat) (d : Nat) (post : Int32 → MS → Prop) (x2 : Int32) (x4 : Int32) (s0 : Int32) (u : MS) (h : P_M_early_92 post  x2 x4 s0 u) : RR l D clX (tysX cs) Ev "DeckFrontModel" b_M_early 7 w_M_early (rmD (d + 1)) (some .int) (wdM o a cs) (pI post) 0 0 0 0 92 [(0, .ref o), (2, .int x2), (4, .int x4)] [.int s0] u := by
  unfold P_M_early_92 at h
  refine x_istore (lv' := [(5, .int s0), (0, .ref o), (2, .int x2), (4, .int x4)]) d_M_early_92 (by decide) rfl ?_
  refine x_iload_n (x := x2) d_M_early_94 rfl ?_
  refine x_iconst (v := 4) d_M_early_95 (by decide) ?_
  refine x_icmp_le (tgt := 132) d_M_early_96 rfl (fun hc => ?_) (fun hc => ?_)
  · have h := h.1 hc
    refine x_sub [1, 2, 3] rfl ?_
    exact w_M_early_132 l D cs Ev hE o a d post  x2 x4 u h
  · have h := h.2 hc
    refine x_iload_n (x := x2) d_M_early_99 rfl ?_
    refine x_bipush (v := 8) d_M_early_100 (by decide) ?_
    refine x_icmp_ge (tgt := 132) d_M_early_102 rfl (fun hc => ?_) (fun hc => ?_)
    · have h := h.1 hc
      refine x_sub [1, 2, 3] rfl ?_
      exact w_M_early_132 l D cs Ev hE o a d post  x2 x4 u h
    · have h := h.2 hc
      refine x_iload (x := s0) d_M_early_105 rfl ?_
      refine x_if_eq (tgt := 130) d_M_early_107 rfl (fun hc => ?_) (fun hc => ?_)
      · have h := h.1 hc
        refine x_iconst (v := 4) d_M_early_130 (by decide) ?_
        refine x_iret d_M_early_131 ⟨_, rfl, ?_⟩
        exact h
      · have h := h.2 hc
        refine x_iload_n (x := x2) d_M_early_110 rfl ?_
        refine x_bipush (v := 7) d_M_early_111 (by decide) ?_
        refine x_icmp_ge (tgt := 132) d_M_early_113 rfl (fun hc => ?_) (fun hc => ?_)
        · have h := h.1 hc
          refine x_sub [1, 2, 3] rfl ?_
          exact w_M_early_132 l D cs Ev hE o a d post  x2 x4 u h
        · have h := h.2 hc
          refine x_aload_n (x := o) d_M_early_116 rfl ?_
          refine x_get (v := .ref (a 35)) f_M_79 (eM_o _ _ _ _) rfl d_M_early_117 ?_
          refine x_aload_n (x := o) d_M_early_120 rfl ?_
          refine x_get (v := .int (gI u 33)) f_M_336 (eM_o _ _ _ _) rfl d_M_early_121 ?_
          refine x_iconst (v := 1) d_M_early_124 (by decide) ?_
          refine x_isub d_M_early_125 ?_
          refine x_zald (t0 := 3) (eM_35 _ _ _ _) rfl h.1 d_M_early_126 ?_
          have h := h.2
          refine x_if_eq (tgt := 132) d_M_early_127 rfl (fun hc => ?_) (fun hc => ?_)
          · have h := h.1 hc
            refine x_sub [1, 2, 3] rfl ?_
            exact w_M_early_132 l D cs Ev hE o a d post  x2 x4 u h
          · have h := h.2 hc
            refine x_iconst (v := 4) d_M_early_130 (by decide) ?_
            refine x_iret d_M_early_131 ⟨_, rfl, ?_⟩
            exact h
def P_M_early_91 (post : Int32 → MS → Prop) (x2 : Int32) (x4 : Int32) (u : MS) : Prop := P_M_early_92 post x2 x4 0 u
set_option maxHeartbeats 600000 in
set_option maxRecDepth 100000 in
theorem w_M_early_91 (l : Launch) (D : va_G) (cs : Nat → ClassId) (Ev : (Nat → Prop) → State → Prop) (hE : xEok Ev) (o : Nat) (a : Nat → Nat) (d : Nat) (post : Int32 → MS → Prop) (x2 : Int32) (x4 : Int32) (u : MS) (h : P_M_early_91 post  x2 x4 u) : RR l D clX (tysX cs) Ev "DeckFrontModel" b_M_early 7 w_M_early (rmD (d + 1)) (some .int) (wdM o a cs) (pI post) 0 0 0 0 91 [(0, .ref o), (2, .int x2), (4, .int x4)] [] u := by
  unfold P_M_early_91 at h
  refine x_iconst (v := 0) d_M_early_91 (by decide) ?_
  exact w_M_early_92 l D cs Ev hE o a d post  x2 x4 0 u h
def P_M_early_66 (post : Int32 → MS → Prop) (x2 : Int32) (x4 : Int32) (u : MS) : Prop := (((gI u 33) ≤ 0 → P_M_early_91 post x2 x4 u) ∧ (¬ (gI u 33) ≤ 0 → (vp_in ((gI u 33) - (1 : Int32)) 24 ∧ ((¬ (gA u 34 ((gI u 33) - (1 : Int32)).toNatClampNeg) = 0 → P_M_early_91 post x2 x4 u) ∧ ((gA u 34 ((gI u 33) - (1 : Int32)).toNatClampNeg) = 0 → P_M_early_92 post x2 x4 1 u)))))
set_option maxHeartbeats 600000 in
set_option maxRecDepth 100000 in
theorem w_M_early_66 (l : Launch) (D : va_G) (cs : Nat → ClassId) (Ev : (Nat → Prop) → State → Prop) (hE : xEok Ev) (o : Nat) (a : Nat → Nat) (d : Nat) (post : Int32 → MS → Prop) (x2 : Int32) (x4 : Int32) (u : MS) (h : P_M_early_66 post  x2 x4 u) : RR l D clX (tysX cs) Ev "DeckFrontModel" b_M_early 7 w_M_early (rmD (d + 1)) (some .int) (wdM o a cs) (pI post) 0 0 0 0 66 [(0, .ref o), (2, .int x2), (4, .int x4)] [] u := by
  unfold P_M_early_66 at h
  refine x_aload_n (x := o) d_M_early_66 rfl ?_
  refine x_get (v := .int (gI u 33)) f_M_336 (eM_o _ _ _ _) rfl d_M_early_67 ?_
  refine x_if_le (tgt := 91) d_M_early_70 rfl (fun hc => ?_) (fun hc => ?_)
  · have h := h.1 hc
    exact w_M_early_91 l D cs Ev hE o a d post  x2 x4 u h
  · have h := h.2 hc
    refine x_aload_n (x := o) d_M_early_73 rfl ?_
    refine x_get (v := .ref (a 34)) f_M_76 (eM_o _ _ _ _) rfl d_M_early_74 ?_
    refine x_aload_n (x := o) d_M_early_77 rfl ?_
    refine x_get (v := .int (gI u 33)) f_M_336 (eM_o _ _ _ _) rfl d_M_early_78 ?_
    refine x_iconst (v := 1) d_M_early_81 (by decide) ?_
    refine x_isub d_M_early_82 ?_
    refine x_iald (t0 := 0) (eM_34 _ _ _ _) rfl h.1 d_M_early_83 ?_
    have h := h.2
    refine x_if_ne (tgt := 91) d_M_early_84 rfl (fun hc => ?_) (fun hc => ?_)
    · have h := h.1 hc
      exact w_M_early_91 l D cs Ev hE o a d post  x2 x4 u h
    · have h := h.2 hc
      refine x_iconst (v := 1) d_M_early_87 (by decide) ?_
      refine x_goto (tgt := 92) d_M_early_88 rfl ?_
      exact w_M_early_92 l D cs Ev hE o a d post  x2 x4 1 u h
def P_M_early_60 (post : Int32 → MS → Prop) (x2 : Int32) (x3 : Int32) (x4 : Int32) (u : MS) : Prop := ((x3 = 0 → P_M_early_66 post x2 x4 u) ∧ (¬ x3 = 0 → post 3 u))
set_option maxHeartbeats 600000 in
set_option maxRecDepth 100000 in
theorem w_M_early_60 (l : Launch) (D : va_G) (cs : Nat → ClassId) (Ev : (Nat → Prop) → State → Prop) (hE : xEok Ev) (o : Nat) (a : Nat → Nat) (d : Nat) (post : Int32 → MS → Prop) (x2 : Int32) (x3 : Int32) (x4 : Int32) (u : MS) (h : P_M_early_60 post  x2 x3 x4 u) : RR l D clX (tysX cs) Ev "DeckFrontModel" b_M_early 7 w_M_early (rmD (d + 1)) (some .int) (wdM o a cs) (pI post) 0 0 0 0 60 [(0, .ref o), (2, .int x2), (3, .int x3), (4, .int x4)] [] u := by
  unfold P_M_early_60 at h
  refine x_iload_n (x := x3) d_M_early_60 rfl ?_
  refine x_if_eq (tgt := 66) d_M_early_61 rfl (fun hc => ?_) (fun hc => ?_)
  · have h := h.1 hc
    refine x_sub [0, 1, 3] rfl ?_
    exact w_M_early_66 l D cs Ev hE o a d post  x2 x4 u h
  · have h := h.2 hc
    refine x_iconst (v := 3) d_M_early_64 (by decide) ?_
    refine x_iret d_M_early_65 ⟨_, rfl, ?_⟩
    exact h
def P_M_early_42 (post : Int32 → MS → Prop) (K17 : Int32 → Int32 → Int32 → Int32 → Int32 → MS → Prop) (x1 : Int32) (x2 : Int32) (x3 : Int32) (x4 : Int32) (x5 : Int32) (u : MS) : Prop := K17 x1 x2 x3 x4 (x5 + 1) u
set_option maxHeartbeats 600000 in
set_option maxRecDepth 100000 in
theorem w_M_early_42 (l : Launch) (D : va_G) (cs : Nat → ClassId) (Ev : (Nat → Prop) → State → Prop) (hE : xEok Ev) (o : Nat) (a : Nat → Nat) (d : Nat) (post : Int32 → MS → Prop) (K17 : Int32 → Int32 → Int32 → Int32 → Int32 → MS → Prop) (hK17 : ∀ (x1 : Int32) (x2 : Int32) (x3 : Int32) (x4 : Int32) (x5 : Int32) (u : MS), K17 x1 x2 x3 x4 x5 u → RR l D clX (tysX cs) Ev "DeckFrontModel" b_M_early 7 w_M_early (rmD (d + 1)) (some .int) (wdM o a cs) (pI post) 0 0 0 0 17 [(0, .ref o), (1, .int x1), (2, .int x2), (3, .int x3), (4, .int x4), (5, .int x5)] [] u) (x1 : Int32) (x2 : Int32) (x3 : Int32) (x4 : Int32) (x5 : Int32) (u : MS) (h : P_M_early_42 post K17 x1 x2 x3 x4 x5 u) : RR l D clX (tysX cs) Ev "DeckFrontModel" b_M_early 7 w_M_early (rmD (d + 1)) (some .int) (wdM o a cs) (pI post) 0 0 0 0 42 [(0, .ref o), (1, .int x1), (2, .int x2), (3, .int x3), (4, .int x4), (5, .int x5)] [] u := by
  unfold P_M_early_42 at h
  refine x_iinc (v := x5 + 1) (lv' := [(5, .int (x5 + 1)), (0, .ref o), (1, .int x1), (2, .int x2), (3, .int x3), (4, .int x4)]) d_M_early_42 rfl rfl (by decide) rfl ?_
  refine x_goto (tgt := 17) d_M_early_45 rfl ?_
  refine x_sub [1, 2, 3, 4, 5, 0] rfl ?_
  exact hK17 x1 x2 x3 x4 (x5 + 1) u h
def P_M_early_17 (post : Int32 → MS → Prop) : Nat → Int32 → Int32 → Int32 → Int32 → Int32 → MS → Prop
  | 0, _, _, _, _, _, _ => False
  | f + 1, x1, x2, x3, x4, x5, u => ((x1 ≤ x5 → ((x2 = 15 → P_M_early_60 post x2 x3 x4 u) ∧ (¬ x2 = 15 → ((¬ x2 = 16 → P_M_early_66 post x2 x4 u) ∧ (x2 = 16 → P_M_early_60 post x2 x3 x4 u))))) ∧ (¬ x1 ≤ x5 → ((x4 ≤ 0 → P_M_early_42 post (fun zx1 zx2 zx3 zx4 zx5 zu => P_M_early_17 post f zx1 zx2 zx3 zx4 zx5 zu) x1 x2 x3 x4 x5 u) ∧ (¬ x4 ≤ 0 → (vp_in x5 24 ∧ ((¬ (gA u 4 x5.toNatClampNeg) = x4 → P_M_early_42 post (fun zx1 zx2 zx3 zx4 zx5 zu => P_M_early_17 post f zx1 zx2 zx3 zx4 zx5 zu) x1 x2 x3 x4 x5 u) ∧ ((gA u 4 x5.toNatClampNeg) = x4 → post 2 u)))))))
set_option maxHeartbeats 600000 in
set_option maxRecDepth 100000 in
theorem w_M_early_17 (l : Launch) (D : va_G) (cs : Nat → ClassId) (Ev : (Nat → Prop) → State → Prop) (hE : xEok Ev) (o : Nat) (a : Nat → Nat) (d : Nat) (post : Int32 → MS → Prop) : ∀ (f : Nat) (x1 : Int32) (x2 : Int32) (x3 : Int32) (x4 : Int32) (x5 : Int32) (u : MS), P_M_early_17 post  f x1 x2 x3 x4 x5 u → RR l D clX (tysX cs) Ev "DeckFrontModel" b_M_early 7 w_M_early (rmD (d + 1)) (some .int) (wdM o a cs) (pI post) 0 0 0 0 17 [(0, .ref o), (1, .int x1), (2, .int x2), (3, .int x3), (4, .int x4), (5, .int x5)] [] u := by
  intro f
  induction f with
  | zero => intro x1 x2 x3 x4 x5 u h; exact h.elim
  | succ f ih =>
    intro x1 x2 x3 x4 x5 u h
    unfold P_M_early_17 at h
    refine x_iload (x := x5) d_M_early_17 rfl ?_
    refine x_iload_n (x := x1) d_M_early_19 rfl ?_
    refine x_icmp_ge (tgt := 48) d_M_early_20 rfl (fun hc => ?_) (fun hc => ?_)
    · have h := h.1 hc
      refine x_iload_n (x := x2) d_M_early_48 rfl ?_
      refine x_bipush (v := 15) d_M_early_49 (by decide) ?_
      refine x_icmp_eq (tgt := 60) d_M_early_51 rfl (fun hc => ?_) (fun hc => ?_)
      · have h := h.1 hc
        refine x_sub [0, 2, 3, 4] rfl ?_
        exact w_M_early_60 l D cs Ev hE o a d post  x2 x3 x4 u h
      · have h := h.2 hc
        refine x_iload_n (x := x2) d_M_early_54 rfl ?_
        refine x_bipush (v := 16) d_M_early_55 (by decide) ?_
        refine x_icmp_ne (tgt := 66) d_M_early_57 rfl (fun hc => ?_) (fun hc => ?_)
        · have h := h.1 hc
          refine x_sub [0, 2, 4] rfl ?_
          exact w_M_early_66 l D cs Ev hE o a d post  x2 x4 u h
        · have h := h.2 hc
          refine x_sub [0, 2, 3, 4] rfl ?_
          exact w_M_early_60 l D cs Ev hE o a d post  x2 x3 x4 u h
    · have h := h.2 hc
      refine x_iload (x := x4) d_M_early_23 rfl ?_
      refine x_if_le (tgt := 42) d_M_early_25 rfl (fun hc => ?_) (fun hc => ?_)
      · have h := h.1 hc
        exact w_M_early_42 l D cs Ev hE o a d post (fun zx1 zx2 zx3 zx4 zx5 zu => P_M_early_17 post f zx1 zx2 zx3 zx4 zx5 zu) ih x1 x2 x3 x4 x5 u h
      · have h := h.2 hc
        refine x_aload_n (x := o) d_M_early_28 rfl ?_
        refine x_get (v := .ref (a 4)) f_M_13 (eM_o _ _ _ _) rfl d_M_early_29 ?_
        refine x_iload (x := x5) d_M_early_32 rfl ?_
        refine x_iald (t0 := 0) (eM_4 _ _ _ _) rfl h.1 d_M_early_34 ?_
        have h := h.2
        refine x_iload (x := x4) d_M_early_35 rfl ?_
        refine x_icmp_ne (tgt := 42) d_M_early_37 rfl (fun hc => ?_) (fun hc => ?_)
        · have h := h.1 hc
          exact w_M_early_42 l D cs Ev hE o a d post (fun zx1 zx2 zx3 zx4 zx5 zu => P_M_early_17 post f zx1 zx2 zx3 zx4 zx5 zu) ih x1 x2 x3 x4 x5 u h
        · have h := h.2 hc
          refine x_iconst (v := 2) d_M_early_40 (by decide) ?_
          refine x_iret d_M_early_41 ⟨_, rfl, ?_⟩
          exact h
def P_M_early (post : Int32 → MS → Prop) (a0 : Int32) (a1 : Int32) (a2 : Int32) (u : MS) : Prop := (vp_in a0 24 ∧ (∀ v1, v1 = (gA u 4 a0.toNatClampNeg) → ((¬ a1 = 0 → (∃ g, P_M_early_17 post g a0 a1 a2 v1 0 u)) ∧ (a1 = 0 → post 1 u))))
set_option maxHeartbeats 600000 in
set_option maxRecDepth 100000 in
theorem c_M_early (l : Launch) (D : va_G) (cs : Nat → ClassId) (Ev : (Nat → Prop) → State → Prop) (hE : xEok Ev) (o : Nat) (a : Nat → Nat) (d : Nat) (post : Int32 → MS → Prop) (a0 : Int32) (a1 : Int32) (a2 : Int32) (u : MS) (h : P_M_early post a0 a1 a2 u) : xC l D clX (tysX cs) Ev y_M_early w_M_early (rmD (d + 1)) (wdM o a cs) [.ref o, .int a0, .int a1, .int a2] u (pI post) 0 0 := by
  unfold P_M_early at h
  refine xC.of (cc := b_M_early) (nL := 7) (ret := (some .int)) (by decide) rfl (Nat.le_of_ble_eq_true rfl) ?_
  show RR l D clX (tysX cs) Ev "DeckFrontModel" b_M_early 7 w_M_early (rmD (d + 1)) (some .int) (wdM o a cs) (pI post) 0 0 0 0 0 [(0, .ref o), (1, .int a0), (2, .int a1), (3, .int a2)] [] u
  refine x_aload_n (x := o) d_M_early_0 rfl ?_
  refine x_get (v := .ref (a 4)) f_M_13 (eM_o _ _ _ _) rfl d_M_early_1 ?_
  refine x_iload_n (x := a0) d_M_early_4 rfl ?_
  refine x_iald (t0 := 0) (eM_4 _ _ _ _) rfl h.1 d_M_early_5 ?_
  have h := h.2
  refine x_topI (fun v1 ev1 => ?_)
  have h := h v1 ev1
  refine x_istore (lv' := [(4, .int v1), (0, .ref o), (1, .int a0), (2, .int a1), (3, .int a2)]) d_M_early_6 (by decide) rfl ?_
  refine x_iload_n (x := a1) d_M_early_8 rfl ?_
  refine x_if_ne (tgt := 14) d_M_early_9 rfl (fun hc => ?_) (fun hc => ?_)
  · have h := h.1 hc
    refine x_iconst (v := 0) d_M_early_14 (by decide) ?_
    refine x_istore (lv' := [(5, .int 0), (4, .int v1), (0, .ref o), (1, .int a0), (2, .int a1), (3, .int a2)]) d_M_early_15 (by decide) rfl ?_
    refine x_sub [2, 3, 4, 5, 1, 0] rfl ?_
    obtain ⟨f9, h⟩ := h
    exact w_M_early_17 l D cs Ev hE o a d post  f9 a0 a1 a2 v1 0 u h
  · have h := h.2 hc
    refine x_iconst (v := 1) d_M_early_12 (by decide) ?_
    refine x_iret d_M_early_13 ⟨_, rfl, ?_⟩
    exact h
