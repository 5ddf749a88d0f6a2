def P_M_later_70 (post : Int32 → MS → Prop) (x2 : Int32) (s0 : Int32) (s1 : Int32) (u : MS) : Prop := ((s1 = s0 → ((¬ x2 = 14 → post 0 u) ∧ (x2 = 14 → (((gI u 33) ≤ 0 → post 0 u) ∧ (¬ (gI u 33) ≤ 0 → post 8 u))))) ∧ (¬ s1 = s0 → post 7 u))
set_option maxHeartbeats 600000 in
set_option maxRecDepth 100000 in
theorem w_M_later_70 (l : Launch) (D : va_G) (cs : Nat → ClassId) (Ev : (Nat → Prop) → State → Prop) (hE : xEok Ev) (o : Nat) (a : Nat → Nat) (d : Nat) (post : Int32 → MS → Prop) (x2 : Int32) (s0 : Int32) (s1 : Int32) (u : MS) (h : P_M_later_70 post  x2 s0 s1 u) : RR l D clX (tysX cs) Ev "DeckFrontModel" b_M_later 4 w_M_later (rmD (d + 1)) (some .int) (wdM o a cs) (pI post) 0 0 0 0 70 [(0, .ref o), (2, .int x2)] [.int s0, .int s1] u := by
  unfold P_M_later_70 at h
  refine x_icmp_eq (tgt := 76) d_M_later_70 rfl (fun hc => ?_) (fun hc => ?_)
  · have h := h.1 hc
    refine x_iload_n (x := x2) d_M_later_76 rfl ?_
    refine x_bipush (v := 14) d_M_later_77 (by decide) ?_
    refine x_icmp_ne (tgt := 94) d_M_later_79 rfl (fun hc => ?_) (fun hc => ?_)
    · have h := h.1 hc
      refine x_iconst (v := 0) d_M_later_94 (by decide) ?_
      refine x_iret d_M_later_95 ⟨_, rfl, ?_⟩
      exact h
    · have h := h.2 hc
      refine x_aload_n (x := o) d_M_later_82 rfl ?_
      refine x_get (v := .int (gI u 33)) f_M_336 (eM_o _ _ _ _) rfl d_M_later_83 ?_
      refine x_if_le (tgt := 94) d_M_later_86 rfl (fun hc => ?_) (fun hc => ?_)
      · have h := h.1 hc
        refine x_iconst (v := 0) d_M_later_94 (by decide) ?_
        refine x_iret d_M_later_95 ⟨_, rfl, ?_⟩
        exact h
      · have h := h.2 hc
        refine x_bipush (v := 8) d_M_later_89 (by decide) ?_
        refine x_goto (tgt := 95) d_M_later_91 rfl ?_
        refine x_iret d_M_later_95 ⟨_, rfl, ?_⟩
        exact h
  · have h := h.2 hc
    refine x_bipush (v := 7) d_M_later_73 (by decide) ?_
    refine x_iret d_M_later_75 ⟨_, rfl, ?_⟩
    exact h
def P_M_later_55 (post : Int32 → MS → Prop) (x1 : Int32) (x2 : Int32) (s0 : Int32) (u : MS) : Prop := ((¬ x1 = ((gI u 3) - (1 : Int32)) → P_M_later_70 post x2 0 s0 u) ∧ (x1 = ((gI u 3) - (1 : Int32)) → P_M_later_70 post x2 1 s0 u))
set_option maxHeartbeats 600000 in
set_option maxRecDepth 100000 in
theorem w_M_later_55 (l : Launch) (D : va_G) (cs : Nat → ClassId) (Ev : (Nat → Prop) → State → Prop) (hE : xEok Ev) (o : Nat) (a : Nat → Nat) (d : Nat) (post : Int32 → MS → Prop) (x1 : Int32) (x2 : Int32) (s0 : Int32) (u : MS) (h : P_M_later_55 post  x1 x2 s0 u) : RR l D clX (tysX cs) Ev "DeckFrontModel" b_M_later 4 w_M_later (rmD (d + 1)) (some .int) (wdM o a cs) (pI post) 0 0 0 0 55 [(0, .ref o), (1, .int x1), (2, .int x2)] [.int s0] u := by
  unfold P_M_later_55 at h
  refine x_iload_n (x := x1) d_M_later_55 rfl ?_
  refine x_aload_n (x := o) d_M_later_56 rfl ?_
  refine x_get (v := .int (gI u 3)) f_M_99 (eM_o _ _ _ _) rfl d_M_later_57 ?_
  refine x_iconst (v := 1) d_M_later_60 (by decide) ?_
  refine x_isub d_M_later_61 ?_
  refine x_icmp_ne (tgt := 69) d_M_later_62 rfl (fun hc => ?_) (fun hc => ?_)
  · have h := h.1 hc
    refine x_iconst (v := 0) d_M_later_69 (by decide) ?_
    refine x_sub [0, 2] rfl ?_
    exact w_M_later_70 l D cs Ev hE o a d post  x2 0 s0 u h
  · have h := h.2 hc
    refine x_iconst (v := 1) d_M_later_65 (by decide) ?_
    refine x_goto (tgt := 70) d_M_later_66 rfl ?_
    refine x_sub [0, 2] rfl ?_
    exact w_M_later_70 l D cs Ev hE o a d post  x2 1 s0 u h
def P_M_later_29 (post : Int32 → MS → Prop) (K2 : Int32 → Int32 → Int32 → MS → Prop) (x1 : Int32) (x2 : Int32) (x3 : Int32) (s0 : Int32) (s1 : Int32) (u : MS) : Prop := P_M_isLabel (fun r2 u1 => ((¬ r2 = 0 → K2 x1 x2 (x3 + 1) u1) ∧ (r2 = 0 → post 6 u1))) s1 s0 u
set_option maxHeartbeats 600000 in
set_option maxRecDepth 100000 in
theorem w_M_later_29 (l : Launch) (D : va_G) (cs : Nat → ClassId) (Ev : (Nat → Prop) → State → Prop) (hE : xEok Ev) (o : Nat) (a : Nat → Nat) (d : Nat) (post : Int32 → MS → Prop) (K2 : Int32 → Int32 → Int32 → MS → Prop) (hK2 : ∀ (x1 : Int32) (x2 : Int32) (x3 : Int32) (u : MS), K2 x1 x2 x3 u → RR l D clX (tysX cs) Ev "DeckFrontModel" b_M_later 4 w_M_later (rmD (d + 1)) (some .int) (wdM o a cs) (pI post) 0 0 0 0 2 [(0, .ref o), (1, .int x1), (2, .int x2), (3, .int x3)] [] u) (x1 : Int32) (x2 : Int32) (x3 : Int32) (s0 : Int32) (s1 : Int32) (u : MS) (h : P_M_later_29 post K2 x1 x2 x3 s0 s1 u) : RR l D clX (tysX cs) Ev "DeckFrontModel" b_M_later 4 w_M_later (rmD (d + 1)) (some .int) (wdM o a cs) (pI post) 0 0 0 0 29 [(0, .ref o), (1, .int x1), (2, .int x2), (3, .int x3)] [.int s0, .int s1, .ref o] u := by
  unfold P_M_later_29 at h
  refine x_callV (st := []) k_M_342 rfl (eM_o _ _ _ _) x_id (c_M_isLabel l D cs Ev hE o a (d + 0) _ s1 s0 u h) hE (rmD_ok (by omega) (by decide)) rfl (Nat.le_of_ble_eq_true rfl) rfl d_M_later_29 (x_rI (fun r2 u1 h => ?_))
  refine x_if_ne (tgt := 38) d_M_later_32 rfl (fun hc => ?_) (fun hc => ?_)
  · have h := h.1 hc
    refine x_iinc (v := x3 + 1) (lv' := [(3, .int (x3 + 1)), (0, .ref o), (1, .int x1), (2, .int x2)]) d_M_later_38 rfl rfl (by decide) rfl ?_
    refine x_goto (tgt := 2) d_M_later_41 rfl ?_
    refine x_sub [1, 2, 3, 0] rfl ?_
    exact hK2 x1 x2 (x3 + 1) u1 h
  · have h := h.2 hc
    refine x_bipush (v := 6) d_M_later_35 (by decide) ?_
    refine x_iret d_M_later_37 ⟨_, rfl, ?_⟩
    exact h
def P_M_later_2 (post : Int32 → MS → Prop) : Nat → Int32 → Int32 → Int32 → MS → Prop
  | 0, _, _, _, _ => False
  | f + 1, x1, x2, x3, u => (((gI u 16) ≤ x3 → ((¬ x2 = 14 → P_M_later_55 post x1 x2 0 u) ∧ (x2 = 14 → P_M_later_55 post x1 x2 1 u))) ∧ (¬ (gI u 16) ≤ x3 → (vp_in x3 90 ∧ ((¬ x2 = 1 → P_M_later_29 post (fun zx1 zx2 zx3 zu => P_M_later_2 post f zx1 zx2 zx3 zu) x1 x2 x3 0 (gA u 17 x3.toNatClampNeg) u) ∧ (x2 = 1 → P_M_later_29 post (fun zx1 zx2 zx3 zu => P_M_later_2 post f zx1 zx2 zx3 zu) x1 x2 x3 (x1 + (1 : Int32)) (gA u 17 x3.toNatClampNeg) u)))))
set_option maxHeartbeats 600000 in
set_option maxRecDepth 100000 in
theorem w_M_later_2 (l : Launch) (D : va_G) (cs : Nat → ClassId) (Ev : (Nat → Prop) → State → Prop) (hE : xEok Ev) (o : Nat) (a : Nat → Nat) (d : Nat) (post : Int32 → MS → Prop) : ∀ (f : Nat) (x1 : Int32) (x2 : Int32) (x3 : Int32) (u : MS), P_M_later_2 post  f x1 x2 x3 u → RR l D clX (tysX cs) Ev "DeckFrontModel" b_M_later 4 w_M_later (rmD (d + 1)) (some .int) (wdM o a cs) (pI post) 0 0 0 0 2 [(0, .ref o), (1, .int x1), (2, .int x2), (3, .int x3)] [] u := by
  intro f
  induction f with
  | zero => intro x1 x2 x3 u h; exact h.elim
  | succ f ih =>
    intro x1 x2 x3 u h
    unfold P_M_later_2 at h
    refine x_iload_n (x := x3) d_M_later_2 rfl ?_
    refine x_aload_n (x := o) d_M_later_3 rfl ?_
    refine x_get (v := .int (gI u 16)) f_M_244 (eM_o _ _ _ _) rfl d_M_later_4 ?_
    refine x_icmp_ge (tgt := 44) d_M_later_7 rfl (fun hc => ?_) (fun hc => ?_)
    · have h := h.1 hc
      refine x_iload_n (x := x2) d_M_later_44 rfl ?_
      refine x_bipush (v := 14) d_M_later_45 (by decide) ?_
      refine x_icmp_ne (tgt := 54) d_M_later_47 rfl (fun hc => ?_) (fun hc => ?_)
      · have h := h.1 hc
        refine x_iconst (v := 0) d_M_later_54 (by decide) ?_
        refine x_sub [0, 1, 2] rfl ?_
        exact w_M_later_55 l D cs Ev hE o a d post  x1 x2 0 u h
      · have h := h.2 hc
        refine x_iconst (v := 1) d_M_later_50 (by decide) ?_
        refine x_goto (tgt := 55) d_M_later_51 rfl ?_
        refine x_sub [0, 1, 2] rfl ?_
        exact w_M_later_55 l D cs Ev hE o a d post  x1 x2 1 u h
    · have h := h.2 hc
      refine x_aload_n (x := o) d_M_later_10 rfl ?_
      refine x_aload_n (x := o) d_M_later_11 rfl ?_
      refine x_get (v := .ref (a 17)) f_M_36 (eM_o _ _ _ _) rfl d_M_later_12 ?_
      refine x_iload_n (x := x3) d_M_later_15 rfl ?_
      refine x_iald (t0 := 0) (eM_17 _ _ _ _) rfl h.1 d_M_later_16 ?_
      have h := h.2
      refine x_iload_n (x := x2) d_M_later_17 rfl ?_
      refine x_iconst (v := 1) d_M_later_18 (by decide) ?_
      refine x_icmp_ne (tgt := 28) d_M_later_19 rfl (fun hc => ?_) (fun hc => ?_)
      · have h := h.1 hc
        refine x_iconst (v := 0) d_M_later_28 (by decide) ?_
        exact w_M_later_29 l D cs Ev hE o a d post (fun zx1 zx2 zx3 zu => P_M_later_2 post f zx1 zx2 zx3 zu) ih x1 x2 x3 0 (gA u 17 x3.toNatClampNeg) u h
      · have h := h.2 hc
        refine x_iload_n (x := x1) d_M_later_22 rfl ?_
        refine x_iconst (v := 1) d_M_later_23 (by decide) ?_
        refine x_iadd d_M_later_24 ?_
        refine x_goto (tgt := 29) d_M_later_25 rfl ?_
        exact w_M_later_29 l D cs Ev hE o a d post (fun zx1 zx2 zx3 zu => P_M_later_2 post f zx1 zx2 zx3 zu) ih x1 x2 x3 (x1 + (1 : Int32)) (gA u 17 x3.toNatClampNeg) u h
def P_M_later (post : Int32 → MS → Prop) (a0 : Int32) (a1 : Int32) (u : MS) : Prop := (∃ g, P_M_later_2 post g a0 a1 0 u)
set_option maxHeartbeats 600000 in
set_option maxRecDepth 100000 in
theorem c_M_later (l : Launch) (D : va_G) (cs : Nat → ClassId) (Ev : (Nat → Prop) → State → Prop) (hE : xEok Ev) (o : Nat) (a : Nat → Nat) (d : Nat) (post : Int32 → MS → Prop) (a0 : Int32) (a1 : Int32) (u : MS) (h : P_M_later post a0 a1 u) : xC l D clX (tysX cs) Ev y_M_later w_M_later (rmD (d + 1)) (wdM o a cs) [.ref o, .int a0, .int a1] u (pI post) 0 0 := by
  unfold P_M_later at h
  refine xC.of (cc := b_M_later) (nL := 4) (ret := (some .int)) (by decide) rfl (Nat.le_of_ble_eq_true rfl) ?_
  show RR l D clX (tysX cs) Ev "DeckFrontModel" b_M_later 4 w_M_later (rmD (d + 1)) (some .int) (wdM o a cs) (pI post) 0 0 0 0 0 [(0, .ref o), (1, .int a0), (2, .int a1)] [] u
  refine x_iconst (v := 0) d_M_later_0 (by decide) ?_
  refine x_istore_n (lv' := [(3, .int 0), (0, .ref o), (1, .int a0), (2, .int a1)]) d_M_later_1 (by decide) rfl ?_
  refine x_sub [1, 2, 3, 0] rfl ?_
  obtain ⟨f9, h⟩ := h
  exact w_M_later_2 l D cs Ev hE o a d post  f9 a0 a1 0 u h
def P_M_firstFault_139 (post : Int32 → MS → Prop) (K9 : Int32 → Int32 → MS → Prop) (x1 : Int32) (x2 : Int32) (u : MS) : Prop := K9 x1 (x2 + 1) u
set_option maxHeartbeats 600000 in
set_option maxRecDepth 100000 in
theorem w_M_firstFault_139 (l : Launch) (D : va_G) (cs : Nat → ClassId) (Ev : (Nat → Prop) → State → Prop) (hE : xEok Ev) (o : Nat) (a : Nat → Nat) (d : Nat) (post : Int32 → MS → Prop) (K9 : Int32 → Int32 → MS → Prop) (hK9 : ∀ (x1 : Int32) (x2 : Int32) (u : MS), K9 x1 x2 u → RR l D clX (tysX cs) Ev "DeckFrontModel" b_M_firstFault 5 w_M_firstFault (rmD (d + 12)) (some .int) (wdM o a cs) (pI post) 0 0 0 0 9 [(0, .ref o), (1, .int x1), (2, .int x2)] [] u) (x1 : Int32) (x2 : Int32) (u : MS) (h : P_M_firstFault_139 post K9 x1 x2 u) : RR l D clX (tysX cs) Ev "DeckFrontModel" b_M_firstFault 5 w_M_firstFault (rmD (d + 12)) (some .int) (wdM o a cs) (pI post) 0 0 0 0 139 [(0, .ref o), (1, .int x1), (2, .int x2)] [] u := by
  unfold P_M_firstFault_139 at h
  refine x_iinc (v := x2 + 1) (lv' := [(2, .int (x2 + 1)), (0, .ref o), (1, .int x1)]) d_M_firstFault_139 rfl rfl (by decide) rfl ?_
  refine x_goto (tgt := 9) d_M_firstFault_142 rfl ?_
  refine x_sub [1, 2, 0] rfl ?_
  exact hK9 x1 (x2 + 1) u h
def P_M_firstFault_118 (post : Int32 → MS → Prop) (K9 : Int32 → Int32 → MS → Prop) (x1 : Int32) (x2 : Int32) (s0 : Int32) (s1 : Int32) (u : MS) : Prop := (vp_in s1 24 ∧ (vp_in (gI u 33) 24 ∧ P_M_firstFault_139 post K9 x1 x2 (sI (sA (sA u 34 s1.toNatClampNeg s0) 35 (gI u 33).toNatClampNeg (vp_nar .boolean (0 : Int32))) 33 ((gI u 33) + (1 : Int32)))))
set_option maxHeartbeats 600000 in
set_option maxRecDepth 100000 in
theorem w_M_firstFault_118 (l : Launch) (D : va_G) (cs : Nat → ClassId) (Ev : (Nat → Prop) → State → Prop) (hE : xEok Ev) (o : Nat) (a : Nat → Nat) (d : Nat) (post : Int32 → MS → Prop) (K9 : Int32 → Int32 → MS → Prop) (hK9 : ∀ (x1 : Int32) (x2 : Int32) (u : MS), K9 x1 x2 u → RR l D clX (tysX cs) Ev "DeckFrontModel" b_M_firstFault 5 w_M_firstFault (rmD (d + 12)) (some .int) (wdM o a cs) (pI post) 0 0 0 0 9 [(0, .ref o), (1, .int x1), (2, .int x2)] [] u) (x1 : Int32) (x2 : Int32) (s0 : Int32) (s1 : Int32) (u : MS) (h : P_M_firstFault_118 post K9 x1 x2 s0 s1 u) : RR l D clX (tysX cs) Ev "DeckFrontModel" b_M_firstFault 5 w_M_firstFault (rmD (d + 12)) (some .int) (wdM o a cs) (pI post) 0 0 0 0 118 [(0, .ref o), (1, .int x1), (2, .int x2)] [.int s0, .int s1, .ref (a 34)] u := by
  unfold P_M_firstFault_118 at h
  refine x_iast (t0 := 0) (eM_34 _ _ _ _) rfl h.1 (sM_34 _ _ _ _ _ _) d_M_firstFault_118 ?_
  have h := h.2
  refine x_aload_n (x := o) d_M_firstFault_119 rfl ?_
  refine x_get (v := .ref (a 35)) f_M_79 (eM_o _ _ _ _) rfl d_M_firstFault_120 ?_
  refine x_aload_n (x := o) d_M_firstFault_123 rfl ?_
  refine x_get (v := .int (gI u 33)) f_M_336 (eM_o _ _ _ _) rfl d_M_firstFault_124 ?_
  refine x_iconst (v := 0) d_M_firstFault_127 (by decide) ?_
  refine x_zast (t0 := 3) (eM_35 _ _ _ _) rfl h.1 (sM_35 _ _ _ _ _ _) d_M_firstFault_128 ?_
  have h := h.2
  refine x_aload_n (x := o) d_M_firstFault_129 rfl ?_
  refine x_dup d_M_firstFault_130 rfl ?_
  refine x_get (v := .int (gI u 33)) f_M_336 (eM_o _ _ _ _) rfl d_M_firstFault_131 ?_
  refine x_iconst (v := 1) d_M_firstFault_134 (by decide) ?_
  refine x_iadd d_M_firstFault_135 ?_
  refine x_put f_M_336 fw_M_33 (eM_o _ _ _ _) rfl rfl (Nat.le_of_ble_eq_true rfl) (sM_33 _ _ _ _ _) d_M_firstFault_136 ?_
  exact w_M_firstFault_139 l D cs Ev hE o a d post K9 hK9 x1 x2 (sI (sA (sA u 34 s1.toNatClampNeg s0) 35 (gI u 33).toNatClampNeg (vp_nar .boolean (0 : Int32))) 33 ((gI u 33) + (1 : Int32))) h
def P_M_firstFault_95 (post : Int32 → MS → Prop) (K9 : Int32 → Int32 → MS → Prop) (x1 : Int32) (x2 : Int32) (x3 : Int32) (u : MS) : Prop := ((¬ x3 = 1 → P_M_firstFault_118 post K9 x1 x2 0 (gI u 33) u) ∧ (x3 = 1 → (vp_in (0 : Int32) 90 ∧ P_M_firstFault_118 post K9 x1 x2 (gA u 17 (0 : Int32).toNatClampNeg) (gI u 33) u)))
set_option maxHeartbeats 600000 in
set_option maxRecDepth 100000 in
theorem w_M_firstFault_95 (l : Launch) (D : va_G) (cs : Nat → ClassId) (Ev : (Nat → Prop) → State → Prop) (hE : xEok Ev) (o : Nat) (a : Nat → Nat) (d : Nat) (post : Int32 → MS → Prop) (K9 : Int32 → Int32 → MS → Prop) (hK9 : ∀ (x1 : Int32) (x2 : Int32) (u : MS), K9 x1 x2 u → RR l D clX (tysX cs) Ev "DeckFrontModel" b_M_firstFault 5 w_M_firstFault (rmD (d + 12)) (some .int) (wdM o a cs) (pI post) 0 0 0 0 9 [(0, .ref o), (1, .int x1), (2, .int x2)] [] u) (x1 : Int32) (x2 : Int32) (x3 : Int32) (u : MS) (h : P_M_firstFault_95 post K9 x1 x2 x3 u) : RR l D clX (tysX cs) Ev "DeckFrontModel" b_M_firstFault 5 w_M_firstFault (rmD (d + 12)) (some .int) (wdM o a cs) (pI post) 0 0 0 0 95 [(0, .ref o), (1, .int x1), (2, .int x2), (3, .int x3)] [] u := by
  unfold P_M_firstFault_95 at h
  refine x_aload_n (x := o) d_M_firstFault_95 rfl ?_
  refine x_get (v := .ref (a 34)) f_M_76 (eM_o _ _ _ _) rfl d_M_firstFault_96 ?_
  refine x_aload_n (x := o) d_M_firstFault_99 rfl ?_
  refine x_get (v := .int (gI u 33)) f_M_336 (eM_o _ _ _ _) rfl d_M_firstFault_100 ?_
  refine x_iload_n (x := x3) d_M_firstFault_103 rfl ?_
  refine x_iconst (v := 1) d_M_firstFault_104 (by decide) ?_
  refine x_icmp_ne (tgt := 117) d_M_firstFault_105 rfl (fun hc => ?_) (fun hc => ?_)
  · have h := h.1 hc
    refine x_iconst (v := 0) d_M_firstFault_117 (by decide) ?_
    refine x_sub [0, 1, 2] rfl ?_
    exact w_M_firstFault_118 l D cs Ev hE o a d post K9 hK9 x1 x2 0 (gI u 33) u h
  · have h := h.2 hc
    refine x_aload_n (x := o) d_M_firstFault_108 rfl ?_
    refine x_get (v := .ref (a 17)) f_M_36 (eM_o _ _ _ _) rfl d_M_firstFault_109 ?_
    refine x_iconst (v := 0) d_M_firstFault_112 (by decide) ?_
    refine x_iald (t0 := 0) (eM_17 _ _ _ _) rfl h.1 d_M_firstFault_113 ?_
    have h := h.2
    refine x_goto (tgt := 118) d_M_firstFault_114 rfl ?_
    refine x_sub [0, 1, 2] rfl ?_
    exact w_M_firstFault_118 l D cs Ev hE o a d post K9 hK9 x1 x2 (gA u 17 (0 : Int32).toNatClampNeg) (gI u 33) u h
def P_M_firstFault_84 (post : Int32 → MS → Prop) (K9 : Int32 → Int32 → MS → Prop) (x2 : Int32) (x3 : Int32) (s0 : Int32) (u : MS) : Prop := ((x3 = 1 → P_M_firstFault_95 post K9 s0 x2 x3 u) ∧ (¬ x3 = 1 → ((¬ x3 = 3 → P_M_firstFault_139 post K9 s0 x2 u) ∧ (x3 = 3 → P_M_firstFault_95 post K9 s0 x2 x3 u))))
set_option maxHeartbeats 600000 in
set_option maxRecDepth 100000 in
theorem w_M_firstFault_84 (l : Launch) (D : va_G) (cs : Nat → ClassId) (Ev : (Nat → Prop) → State → Prop) (hE : xEok Ev) (o : Nat) (a : Nat → Nat) (d : Nat) (post : Int32 → MS → Prop) (K9 : Int32 → Int32 → MS → Prop) (hK9 : ∀ (x1 : Int32) (x2 : Int32) (u : MS), K9 x1 x2 u → RR l D clX (tysX cs) Ev "DeckFrontModel" b_M_firstFault 5 w_M_firstFault (rmD (d + 12)) (some .int) (wdM o a cs) (pI post) 0 0 0 0 9 [(0, .ref o), (1, .int x1), (2, .int x2)] [] u) (x2 : Int32) (x3 : Int32) (s0 : Int32) (u : MS) (h : P_M_firstFault_84 post K9 x2 x3 s0 u) : RR l D clX (tysX cs) Ev "DeckFrontModel" b_M_firstFault 5 w_M_firstFault (rmD (d + 12)) (some .int) (wdM o a cs) (pI post) 0 0 0 0 84 [(0, .ref o), (2, .int x2), (3, .int x3)] [.int s0] u := by
  unfold P_M_firstFault_84 at h
  refine x_istore_n (lv' := [(1, .int s0), (0, .ref o), (2, .int x2), (3, .int x3)]) d_M_firstFault_84 (by decide) rfl ?_
  refine x_iload_n (x := x3) d_M_firstFault_85 rfl ?_
  refine x_iconst (v := 1) d_M_firstFault_86 (by decide) ?_
  refine x_icmp_eq (tgt := 95) d_M_firstFault_87 rfl (fun hc => ?_) (fun hc => ?_)
  · have h := h.1 hc
    refine x_sub [1, 0, 2, 3] rfl ?_
    exact w_M_firstFault_95 l D cs Ev hE o a d post K9 hK9 s0 x2 x3 u h
  · have h := h.2 hc
    refine x_iload_n (x := x3) d_M_firstFault_90 rfl ?_
    refine x_iconst (v := 3) d_M_firstFault_91 (by decide) ?_
    refine x_icmp_ne (tgt := 139) d_M_firstFault_92 rfl (fun hc => ?_) (fun hc => ?_)
    · have h := h.1 hc
      refine x_sub [1, 0, 2] rfl ?_
      exact w_M_firstFault_139 l D cs Ev hE o a d post K9 hK9 s0 x2 u h
    · have h := h.2 hc
      refine x_sub [1, 0, 2, 3] rfl ?_
      exact w_M_firstFault_95 l D cs Ev hE o a d post K9 hK9 s0 x2 x3 u h
def P_M_firstFault_79 (post : Int32 → MS → Prop) (K9 : Int32 → Int32 → MS → Prop) (x2 : Int32) (x3 : Int32) (u : MS) : Prop := P_M_firstFault_84 post K9 x2 x3 1 u
set_option maxHeartbeats 600000 in
set_option maxRecDepth 100000 in
theorem w_M_firstFault_79 (l : Launch) (D : va_G) (cs : Nat → ClassId) (Ev : (Nat → Prop) → State → Prop) (hE : xEok Ev) (o : Nat) (a : Nat → Nat) (d : Nat) (post : Int32 → MS → Prop) (K9 : Int32 → Int32 → MS → Prop) (hK9 : ∀ (x1 : Int32) (x2 : Int32) (u : MS), K9 x1 x2 u → RR l D clX (tysX cs) Ev "DeckFrontModel" b_M_firstFault 5 w_M_firstFault (rmD (d + 12)) (some .int) (wdM o a cs) (pI post) 0 0 0 0 9 [(0, .ref o), (1, .int x1), (2, .int x2)] [] u) (x2 : Int32) (x3 : Int32) (u : MS) (h : P_M_firstFault_79 post K9 x2 x3 u) : RR l D clX (tysX cs) Ev "DeckFrontModel" b_M_firstFault 5 w_M_firstFault (rmD (d + 12)) (some .int) (wdM o a cs) (pI post) 0 0 0 0 79 [(0, .ref o), (2, .int x2), (3, .int x3)] [] u := by
  unfold P_M_firstFault_79 at h
  refine x_iconst (v := 1) d_M_firstFault_79 (by decide) ?_
  refine x_goto (tgt := 84) d_M_firstFault_80 rfl ?_
  exact w_M_firstFault_84 l D cs Ev hE o a d post K9 hK9 x2 x3 1 u h
def P_M_firstFault_83 (post : Int32 → MS → Prop) (K9 : Int32 → Int32 → MS → Prop) (x2 : Int32) (x3 : Int32) (u : MS) : Prop := P_M_firstFault_84 post K9 x2 x3 0 u
set_option maxHeartbeats 600000 in
set_option maxRecDepth 100000 in
theorem w_M_firstFault_83 (l : Launch) (D : va_G) (cs : Nat → ClassId) (Ev : (Nat → Prop) → State → Prop) (hE : xEok Ev) (o : Nat) (a : Nat → Nat) (d : Nat) (post : Int32 → MS → Prop) (K9 : Int32 → Int32 → MS → Prop) (hK9 : ∀ (x1 : Int32) (x2 : Int32) (u : MS), K9 x1 x2 u → RR l D clX (tysX cs) Ev "DeckFrontModel" b_M_firstFault 5 w_M_firstFault (rmD (d + 12)) (some .int) (wdM o a cs) (pI post) 0 0 0 0 9 [(0, .ref o), (1, .int x1), (2, .int x2)] [] u) (x2 : Int32) (x3 : Int32) (u : MS) (h : P_M_firstFault_83 post K9 x2 x3 u) : RR l D clX (tysX cs) Ev "DeckFrontModel" b_M_firstFault 5 w_M_firstFault (rmD (d + 12)) (some .int) (wdM o a cs) (pI post) 0 0 0 0 83 [(0, .ref o), (2, .int x2), (3, .int x3)] [] u := by
  unfold P_M_firstFault_83 at h
  refine x_iconst (v := 0) d_M_firstFault_83 (by decide) ?_
  exact w_M_firstFault_84 l D cs Ev hE o a d post K9 hK9 x2 x3 0 u h
def P_M_firstFault_48 (post : Int32 → MS → Prop) (K9 : Int32 → Int32 → MS → Prop) (x1 : Int32) (x2 : Int32) (x3 : Int32) (s0 : Int32) (u : MS) : Prop := ((s0 ≤ 0 → ((¬ x1 = 0 → P_M_firstFault_79 post K9 x2 x3 u) ∧ (x1 = 0 → ((x3 = 15 → P_M_firstFault_83 post K9 x2 x3 u) ∧ (¬ x3 = 15 → ((x3 = 16 → P_M_firstFault_83 post K9 x2 x3 u) ∧ (¬ x3 = 16 → P_M_firstFault_79 post K9 x2 x3 u))))))) ∧ (¬ s0 ≤ 0 → post (((32 : Int32) * s0) + x2) u))
set_option maxHeartbeats 600000 in
set_option maxRecDepth 100000 in
theorem w_M_firstFault_48 (l : Launch) (D : va_G) (cs : Nat → ClassId) (Ev : (Nat → Prop) → State → Prop) (hE : xEok Ev) (o : Nat) (a : Nat → Nat) (d : Nat) (post : Int32 → MS → Prop) (K9 : Int32 → Int32 → MS → Prop) (hK9 : ∀ (x1 : Int32) (x2 : Int32) (u : MS), K9 x1 x2 u → RR l D clX (tysX cs) Ev "DeckFrontModel" b_M_firstFault 5 w_M_firstFault (rmD (d + 12)) (some .int) (wdM o a cs) (pI post) 0 0 0 0 9 [(0, .ref o), (1, .int x1), (2, .int x2)] [] u) (x1 : Int32) (x2 : Int32) (x3 : Int32) (s0 : Int32) (u : MS) (h : P_M_firstFault_48 post K9 x1 x2 x3 s0 u) : RR l D clX (tysX cs) Ev "DeckFrontModel" b_M_firstFault 5 w_M_firstFault (rmD (d + 12)) (some .int) (wdM o a cs) (pI post) 0 0 0 0 48 [(0, .ref o), (1, .int x1), (2, .int x2), (3, .int x3)] [.int s0] u := by
  unfold P_M_firstFault_48 at h
  refine x_istore (lv' := [(4, .int s0), (0, .ref o), (1, .int x1), (2, .int x2), (3, .int x3)]) d_M_firstFault_48 (by decide) rfl ?_
  refine x_iload (x := s0) d_M_firstFault_50 rfl ?_
  refine x_if_le (tgt := 63) d_M_firstFault_52 rfl (fun hc => ?_) (fun hc => ?_)
  · have h := h.1 hc
    refine x_iload_n (x := x1) d_M_firstFault_63 rfl ?_
    refine x_if_ne (tgt := 79) d_M_firstFault_64 rfl (fun hc => ?_) (fun hc => ?_)
    · have h := h.1 hc
      refine x_sub [1, 3, 4] rfl ?_
      exact w_M_firstFault_79 l D cs Ev hE o a d post K9 hK9 x2 x3 u h
    · have h := h.2 hc
      refine x_iload_n (x := x3) d_M_firstFault_67 rfl ?_
      refine x_bipush (v := 15) d_M_firstFault_68 (by decide) ?_
      refine x_icmp_eq (tgt := 83) d_M_firstFault_70 rfl (fun hc => ?_) (fun hc => ?_)
      · have h := h.1 hc
        refine x_sub [1, 3, 4] rfl ?_
        exact w_M_firstFault_83 l D cs Ev hE o a d post K9 hK9 x2 x3 u h
      · have h := h.2 hc
        refine x_iload_n (x := x3) d_M_firstFault_73 rfl ?_
        refine x_bipush (v := 16) d_M_firstFault_74 (by decide) ?_
        refine x_icmp_eq (tgt := 83) d_M_firstFault_76 rfl (fun hc => ?_) (fun hc => ?_)
        · have h := h.1 hc
          refine x_sub [1, 3, 4] rfl ?_
          exact w_M_firstFault_83 l D cs Ev hE o a d post K9 hK9 x2 x3 u h
        · have h := h.2 hc
          refine x_sub [1, 3, 4] rfl ?_
          exact w_M_firstFault_79 l D cs Ev hE o a d post K9 hK9 x2 x3 u h
  · have h := h.2 hc
    refine x_bipush (v := 32) d_M_firstFault_55 (by decide) ?_
    refine x_iload (x := s0) d_M_firstFault_57 rfl ?_
    refine x_imul d_M_firstFault_59 ?_
    refine x_iload_n (x := x2) d_M_firstFault_60 rfl ?_
    refine x_iadd d_M_firstFault_61 ?_
    refine x_iret d_M_firstFault_62 ⟨_, rfl, ?_⟩
    exact h
def P_M_firstFault_9 (post : Int32 → MS → Prop) : Nat → Int32 → Int32 → MS → Prop
  | 0, _, _, _ => False
  | f + 1, x1, x2, u => (((gI u 3) ≤ x2 → post 0 u) ∧ (¬ (gI u 3) ≤ x2 → P_M_read (fun r2 u1 => P_M_early (fun r4 u3 => ((¬ r4 = 0 → P_M_firstFault_48 post (fun zx1 zx2 zu => P_M_firstFault_9 post f zx1 zx2 zu) x1 x2 r2 r4 u3) ∧ (r4 = 0 → P_M_later (fun r6 u5 => P_M_firstFault_48 post (fun zx1 zx2 zu => P_M_firstFault_9 post f zx1 zx2 zu) x1 x2 r2 r6 u5) x2 r2 u3))) x2 r2 x1 u1) x2 u))
set_option maxHeartbeats 600000 in
set_option maxRecDepth 100000 in
theorem w_M_firstFault_9 (l : Launch) (D : va_G) (cs : Nat → ClassId) (Ev : (Nat → Prop) → State → Prop) (hE : xEok Ev) (o : Nat) (a : Nat → Nat) (d : Nat) (post : Int32 → MS → Prop) : ∀ (f : Nat) (x1 : Int32) (x2 : Int32) (u : MS), P_M_firstFault_9 post  f x1 x2 u → RR l D clX (tysX cs) Ev "DeckFrontModel" b_M_firstFault 5 w_M_firstFault (rmD (d + 12)) (some .int) (wdM o a cs) (pI post) 0 0 0 0 9 [(0, .ref o), (1, .int x1), (2, .int x2)] [] u := by
  intro f
  induction f with
  | zero => intro x1 x2 u h; exact h.elim
  | succ f ih =>
    intro x1 x2 u h
    unfold P_M_firstFault_9 at h
    refine x_iload_n (x := x2) d_M_firstFault_9 rfl ?_
    refine x_aload_n (x := o) d_M_firstFault_10 rfl ?_
    refine x_get (v := .int (gI u 3)) f_M_99 (eM_o _ _ _ _) rfl d_M_firstFault_11 ?_
    refine x_icmp_ge (tgt := 145) d_M_firstFault_14 rfl (fun hc => ?_) (fun hc => ?_)
    · have h := h.1 hc
      refine x_iconst (v := 0) d_M_firstFault_145 (by decide) ?_
      refine x_iret d_M_firstFault_146 ⟨_, rfl, ?_⟩
      exact h
    · have h := h.2 hc
      refine x_aload_n (x := o) d_M_firstFault_17 rfl ?_
      refine x_iload_n (x := x2) d_M_firstFault_18 rfl ?_
      refine x_callV (st := []) k_M_325 rfl (eM_o _ _ _ _) x_id (c_M_read l D cs Ev hE o a (d + 0) _ x2 u h) hE (rmD_ok (by omega) (by decide)) rfl (Nat.le_of_ble_eq_true rfl) rfl d_M_firstFault_19 (x_rI (fun r2 u1 h => ?_))
      refine x_istore_n (lv' := [(3, .int r2), (0, .ref o), (1, .int x1), (2, .int x2)]) d_M_firstFault_22 (by decide) rfl ?_
      refine x_aload_n (x := o) d_M_firstFault_23 rfl ?_
      refine x_iload_n (x := x2) d_M_firstFault_24 rfl ?_
      refine x_iload_n (x := r2) d_M_firstFault_25 rfl ?_
      refine x_iload_n (x := x1) d_M_firstFault_26 rfl ?_
      refine x_callV (st := []) k_M_345 rfl (eM_o _ _ _ _) x_id (c_M_early l D cs Ev hE o a (d + 10) _ x2 r2 x1 u1 h) hE (rmD_ok (by omega) (by decide)) rfl (Nat.le_of_ble_eq_true rfl) rfl d_M_firstFault_27 (x_rI (fun r4 u3 h => ?_))
      refine x_istore (lv' := [(4, .int r4), (3, .int r2), (0, .ref o), (1, .int x1), (2, .int x2)]) d_M_firstFault_30 (by decide) rfl ?_
      refine x_iload (x := r4) d_M_firstFault_32 rfl ?_
      refine x_if_ne (tgt := 46) d_M_firstFault_34 rfl (fun hc => ?_) (fun hc => ?_)
      · have h := h.1 hc
        refine x_iload (x := r4) d_M_firstFault_46 rfl ?_
        refine x_sub [2, 3, 4, 1] rfl ?_
        exact w_M_firstFault_48 l D cs Ev hE o a d post (fun zx1 zx2 zu => P_M_firstFault_9 post f zx1 zx2 zu) ih x1 x2 r2 r4 u3 h
      · have h := h.2 hc
        refine x_aload_n (x := o) d_M_firstFault_37 rfl ?_
        refine x_iload_n (x := x2) d_M_firstFault_38 rfl ?_
        refine x_iload_n (x := r2) d_M_firstFault_39 rfl ?_
        refine x_callV (st := []) k_M_349 rfl (eM_o _ _ _ _) x_id (c_M_later l D cs Ev hE o a (d + 10) _ x2 r2 u3 h) hE (rmD_ok (by omega) (by decide)) rfl (Nat.le_of_ble_eq_true rfl) rfl d_M_firstFault_40 (x_rI (fun r6 u5 h => ?_))
        refine x_goto (tgt := 48) d_M_firstFault_43 rfl ?_
        refine x_sub [2, 3, 4, 1] rfl ?_
        exact w_M_firstFault_48 l D cs Ev hE o a d post (fun zx1 zx2 zu => P_M_firstFault_9 post f zx1 zx2 zu) ih x1 x2 r2 r6 u5 h
def P_M_firstFault (post : Int32 → MS → Prop) (u : MS) : Prop := (∃ g, P_M_firstFault_9 post g 0 0 (sI u 33 (0 : Int32)))
set_option maxHeartbeats 600000 in
set_option maxRecDepth 100000 in
theorem c_M_firstFault (l : Launch) (D : va_G) (cs : Nat → ClassId) (Ev : (Nat → Prop) → State → Prop) (hE : xEok Ev) (o : Nat) (a : Nat → Nat) (d : Nat) (post : Int32 → MS → Prop) (u : MS) (h : P_M_firstFault post  u) : xC l D clX (tysX cs) Ev y_M_firstFault w_M_firstFault (rmD (d + 12)) (wdM o a cs) [.ref o] u (pI post) 0 0 := by
  unfold P_M_firstFault at h
  refine xC.of (cc := b_M_firstFault) (nL := 5) (ret := (some .int)) (by decide) rfl (Nat.le_of_ble_eq_true rfl) ?_
  show RR l D clX (tysX cs) Ev "DeckFrontModel" b_M_firstFault 5 w_M_firstFault (rmD (d + 12)) (some .int) (wdM o a cs) (pI post) 0 0 0 0 0 [(0, .ref o)] [] u
  refine x_aload_n (x := o) d_M_firstFault_0 rfl ?_
  refine x_iconst (v := 0) d_M_firstFault_1 (by decide) ?_
  refine x_put f_M_336 fw_M_33 (eM_o _ _ _ _) rfl rfl (Nat.le_of_ble_eq_true rfl) (sM_33 _ _ _ _ _) d_M_firstFault_2 ?_
  refine x_iconst (v := 0) d_M_firstFault_5 (by decide) ?_
  refine x_istore_n (lv' := [(1, .int 0), (0, .ref o)]) d_M_firstFault_6 (by decide) rfl ?_
  refine x_iconst (v := 0) d_M_firstFault_7 (by decide) ?_
  refine x_istore_n (lv' := [(2, .int 0), (1, .int 0), (0, .ref o)]) d_M_firstFault_8 (by decide) rfl ?_
  refine x_sub [2, 1, 0] rfl ?_
  obtain ⟨f9, h⟩ := h
  exact w_M_firstFault_9 l D cs Ev hE o a d post  f9 0 0 (sI u 33 (0 : Int32)) h
def P_M_fault (post : Int32 → MS → Prop) (u : MS) : Prop := P_M_firstFault (fun r2 u1 => post (r2 / (32 : Int32)) u1) (sI u 0 (0 : Int32))
set_option maxHeartbeats 600000 in
set_option maxRecDepth 100000 in
theorem c_M_fault (l : Launch) (D : va_G) (cs : Nat → ClassId) (Ev : (Nat → Prop) → State → Prop) (hE : xEok Ev) (o : Nat) (a : Nat → Nat) (d : Nat) (post : Int32 → MS → Prop) (u : MS) (h : P_M_fault post  u) : xC l D clX (tysX cs) Ev y_M_fault w_M_fault (rmD (d + 13)) (wdM o a cs) [.ref o] u (pI post) 0 0 := by
  unfold P_M_fault at h
  refine xC.of (cc := b_M_fault) (nL := 1) (ret := (some .int)) (by decide) rfl (Nat.le_of_ble_eq_true rfl) ?_
  show RR l D clX (tysX cs) Ev "DeckFrontModel" b_M_fault 1 w_M_fault (rmD (d + 13)) (some .int) (wdM o a cs) (pI post) 0 0 0 0 0 [(0, .ref o)] [] u
  refine x_aload_n (x := o) d_M_fault_0 rfl ?_
  refine x_iconst (v := 0) d_M_fault_1 (by decide) ?_
  refine x_put f_M_82 fw_M_0 (eM_o _ _ _ _) rfl rfl (Nat.le_of_ble_eq_true rfl) (sM_0 _ _ _ _ _) d_M_fault_2 ?_
  refine x_aload_n (x := o) d_M_fault_5 rfl ?_
  refine x_callV (st := []) k_M_352 rfl (eM_o _ _ _ _) x_id (c_M_firstFault l D cs Ev hE o a (d + 0) _ (sI u 0 (0 : Int32)) h) hE (rmD_ok (by omega) (by decide)) rfl (Nat.le_of_ble_eq_true rfl) rfl d_M_fault_6 (x_rI (fun r2 u1 h => ?_))
  refine x_bipush (v := 32) d_M_fault_9 (by decide) ?_
  refine x_idiv d_M_fault_11 (by decide) ?_
  refine x_iret d_M_fault_12 ⟨_, rfl, ?_⟩
  exact h
def P_M_faultAt (post : Int32 → MS → Prop) (u : MS) : Prop := P_M_firstFault (fun r2 u1 => ((¬ r2 = 0 → post (r2 - r2 / (32 : Int32) * (32 : Int32)) u1) ∧ (r2 = 0 → post (-1) u1))) (sI u 0 (0 : Int32))
set_option maxHeartbeats 600000 in
set_option maxRecDepth 100000 in
theorem c_M_faultAt (l : Launch) (D : va_G) (cs : Nat → ClassId) (Ev : (Nat → Prop) → State → Prop) (hE : xEok Ev) (o : Nat) (a : Nat → Nat) (d : Nat) (post : Int32 → MS → Prop) (u : MS) (h : P_M_faultAt post  u) : xC l D clX (tysX cs) Ev y_M_faultAt w_M_faultAt (rmD (d + 13)) (wdM o a cs) [.ref o] u (pI post) 0 0 := by
  unfold P_M_faultAt at h
  refine xC.of (cc := b_M_faultAt) (nL := 2) (ret := (some .int)) (by decide) rfl (Nat.le_of_ble_eq_true rfl) ?_
  show RR l D clX (tysX cs) Ev "DeckFrontModel" b_M_faultAt 2 w_M_faultAt (rmD (d + 13)) (some .int) (wdM o a cs) (pI post) 0 0 0 0 0 [(0, .ref o)] [] u
  refine x_aload_n (x := o) d_M_faultAt_0 rfl ?_
  refine x_iconst (v := 0) d_M_faultAt_1 (by decide) ?_
  refine x_put f_M_82 fw_M_0 (eM_o _ _ _ _) rfl rfl (Nat.le_of_ble_eq_true rfl) (sM_0 _ _ _ _ _) d_M_faultAt_2 ?_
  refine x_aload_n (x := o) d_M_faultAt_5 rfl ?_
  refine x_callV (st := []) k_M_352 rfl (eM_o _ _ _ _) x_id (c_M_firstFault l D cs Ev hE o a (d + 0) _ (sI u 0 (0 : Int32)) h) hE (rmD_ok (by omega) (by decide)) rfl (Nat.le_of_ble_eq_true rfl) rfl d_M_faultAt_6 (x_rI (fun r2 u1 h => ?_))
  refine x_istore_n (lv' := [(1, .int r2), (0, .ref o)]) d_M_faultAt_9 (by decide) rfl ?_
  refine x_iload_n (x := r2) d_M_faultAt_10 rfl ?_
  refine x_if_ne (tgt := 18) d_M_faultAt_11 rfl (fun hc => ?_) (fun hc => ?_)
  · have h := h.1 hc
    refine x_iload_n (x := r2) d_M_faultAt_18 rfl ?_
    refine x_bipush (v := 32) d_M_faultAt_19 (by decide) ?_
    refine x_irem d_M_faultAt_21 (by decide) ?_
    refine x_iret d_M_faultAt_22 ⟨_, rfl, ?_⟩
    exact h
  · have h := h.2 hc
    refine x_iconst (v := (-1)) d_M_faultAt_14 (by decide) ?_
    refine x_goto (tgt := 22) d_M_faultAt_15 rfl ?_
    refine x_iret d_M_faultAt_22 ⟨_, rfl, ?_⟩
    exact h
