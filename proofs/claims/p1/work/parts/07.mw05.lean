def P_M_reduce_159 (post : MS → Prop) (K0 : Int32 → MS → Prop) (x1 : Int32) (u : MS) : Prop := K0 x1 u
set_option maxHeartbeats 600000 in
set_option maxRecDepth 100000 in
theorem w_M_reduce_159 (l : Launch) (D : va_G) (cs : Nat → ClassId) (Ev : (Nat → Prop) → State → Prop) (hE : xEok Ev) (o : Nat) (a : Nat → Nat) (d : Nat) (post : MS → Prop) (K0 : Int32 → MS → Prop) (hK0 : ∀ (x1 : Int32) (u : MS), K0 x1 u → RR l D clX (tysX cs) Ev "DeckFrontModel" b_M_reduce 3 w_M_reduce (rmD (d + 1)) none (wdM o a cs) (pV post) 0 0 0 0 0 [(0, .ref o), (1, .int x1)] [] u) (x1 : Int32) (u : MS) (h : P_M_reduce_159 post K0 x1 u) : RR l D clX (tysX cs) Ev "DeckFrontModel" b_M_reduce 3 w_M_reduce (rmD (d + 1)) none (wdM o a cs) (pV post) 0 0 0 0 159 [(0, .ref o), (1, .int x1)] [] u := by
  unfold P_M_reduce_159 at h
  refine x_goto (tgt := 0) d_M_reduce_159 rfl ?_
  exact hK0 x1 u h
def P_M_reduce_0 (post : MS → Prop) : Nat → Int32 → MS → Prop
  | 0, _, _ => False
  | f + 1, x1, u => (((gI u 27) ≤ 0 → post u) ∧ (¬ (gI u 27) ≤ 0 → (vp_in ((gI u 27) - (1 : Int32)) 100 ∧ ((8 ≤ (gA u 28 ((gI u 27) - (1 : Int32)).toNatClampNeg) → post u) ∧ (¬ 8 ≤ (gA u 28 ((gI u 27) - (1 : Int32)).toNatClampNeg) → (vp_in ((gI u 27) - (1 : Int32)) 100 ∧ (((gA u 28 ((gI u 27) - (1 : Int32)).toNatClampNeg) < x1 → post u) ∧ (¬ (gA u 28 ((gI u 27) - (1 : Int32)).toNatClampNeg) < x1 → (vp_in ((gI u 25) - (1 : Int32)) 100 ∧ (∀ v1, v1 = (gA (sI (sI u 27 ((gI u 27) - (1 : Int32))) 25 ((gI u 25) - (1 : Int32))) 26 ((gI u 25) - (1 : Int32)).toNatClampNeg) → (vp_in ((gI u 27) - (1 : Int32)) 100 ∧ (((gA (sI (sI u 27 ((gI u 27) - (1 : Int32))) 25 ((gI u 25) - (1 : Int32))) 31 ((gI u 27) - (1 : Int32)).toNatClampNeg) = 0 → (vp_in ((gI u 27) - (1 : Int32)) 100 ∧ (vp_in ((gI u 27) - (1 : Int32)) 100 ∧ (vp_in (((gI u 25) - (1 : Int32)) - (1 : Int32)) 100 ∧ P_M_part (fun r3 u2 => P_M_value (fun u4 => P_M_reduce_159 post (fun zx1 zu => P_M_reduce_0 post f zx1 zu) x1 u4) r3 u2) (1 : Int32) (gA (sI (sI (sI u 27 ((gI u 27) - (1 : Int32))) 25 ((gI u 25) - (1 : Int32))) 25 (((gI u 25) - (1 : Int32)) - (1 : Int32))) 29 ((gI u 27) - (1 : Int32)).toNatClampNeg) (gA (sI (sI (sI u 27 ((gI u 27) - (1 : Int32))) 25 ((gI u 25) - (1 : Int32))) 25 (((gI u 25) - (1 : Int32)) - (1 : Int32))) 30 ((gI u 27) - (1 : Int32)).toNatClampNeg) (gA (sI (sI (sI u 27 ((gI u 27) - (1 : Int32))) 25 ((gI u 25) - (1 : Int32))) 25 (((gI u 25) - (1 : Int32)) - (1 : Int32))) 26 (((gI u 25) - (1 : Int32)) - (1 : Int32)).toNatClampNeg) v1 (sI (sI (sI u 27 ((gI u 27) - (1 : Int32))) 25 ((gI u 25) - (1 : Int32))) 25 (((gI u 25) - (1 : Int32)) - (1 : Int32))))))) ∧ (¬ (gA (sI (sI u 27 ((gI u 27) - (1 : Int32))) 25 ((gI u 25) - (1 : Int32))) 31 ((gI u 27) - (1 : Int32)).toNatClampNeg) = 0 → (vp_in ((gI u 27) - (1 : Int32)) 100 ∧ (vp_in ((gI u 27) - (1 : Int32)) 100 ∧ P_M_part (fun r6 u5 => P_M_value (fun u7 => P_M_reduce_159 post (fun zx1 zu => P_M_reduce_0 post f zx1 zu) x1 u7) r6 u5) (2 : Int32) (gA (sI (sI u 27 ((gI u 27) - (1 : Int32))) 25 ((gI u 25) - (1 : Int32))) 29 ((gI u 27) - (1 : Int32)).toNatClampNeg) (gA (sI (sI u 27 ((gI u 27) - (1 : Int32))) 25 ((gI u 25) - (1 : Int32))) 30 ((gI u 27) - (1 : Int32)).toNatClampNeg) v1 (-1 : Int32) (sI (sI u 27 ((gI u 27) - (1 : Int32))) 25 ((gI u 25) - (1 : Int32))))))))))))))))))
set_option maxHeartbeats 600000 in
set_option maxRecDepth 100000 in
theorem w_M_reduce_0 (l : Launch) (D : va_G) (cs : Nat → ClassId) (Ev : (Nat → Prop) → State → Prop) (hE : xEok Ev) (o : Nat) (a : Nat → Nat) (d : Nat) (post : MS → Prop) : ∀ (f : Nat) (x1 : Int32) (u : MS), P_M_reduce_0 post  f x1 u → RR l D clX (tysX cs) Ev "DeckFrontModel" b_M_reduce 3 w_M_reduce (rmD (d + 1)) none (wdM o a cs) (pV post) 0 0 0 0 0 [(0, .ref o), (1, .int x1)] [] u := by
  intro f
  induction f with
  | zero => intro x1 u h; exact h.elim
  | succ f ih =>
    intro x1 u h
    unfold P_M_reduce_0 at h
    refine x_aload_n (x := o) d_M_reduce_0 rfl ?_
    refine x_get (v := .int (gI u 27)) f_M_179 (eM_o _ _ _ _) rfl d_M_reduce_1 ?_
    refine x_if_le (tgt := 162) d_M_reduce_4 rfl (fun hc => ?_) (fun hc => ?_)
    · have h := h.1 hc
      refine x_vret d_M_reduce_162 ⟨rfl, ?_⟩
      exact h
    · have h := h.2 hc
      refine x_aload_n (x := o) d_M_reduce_7 rfl ?_
      refine x_get (v := .ref (a 28)) f_M_60 (eM_o _ _ _ _) rfl d_M_reduce_8 ?_
      refine x_aload_n (x := o) d_M_reduce_11 rfl ?_
      refine x_get (v := .int (gI u 27)) f_M_179 (eM_o _ _ _ _) rfl d_M_reduce_12 ?_
      refine x_iconst (v := 1) d_M_reduce_15 (by decide) ?_
      refine x_isub d_M_reduce_16 ?_
      refine x_iald (t0 := 0) (eM_28 _ _ _ _) rfl h.1 d_M_reduce_17 ?_
      have h := h.2
      refine x_bipush (v := 8) d_M_reduce_18 (by decide) ?_
      refine x_icmp_ge (tgt := 162) d_M_reduce_20 rfl (fun hc => ?_) (fun hc => ?_)
      · have h := h.1 hc
        refine x_vret d_M_reduce_162 ⟨rfl, ?_⟩
        exact h
      · have h := h.2 hc
        refine x_aload_n (x := o) d_M_reduce_23 rfl ?_
        refine x_get (v := .ref (a 28)) f_M_60 (eM_o _ _ _ _) rfl d_M_reduce_24 ?_
        refine x_aload_n (x := o) d_M_reduce_27 rfl ?_
        refine x_get (v := .int (gI u 27)) f_M_179 (eM_o _ _ _ _) rfl d_M_reduce_28 ?_
        refine x_iconst (v := 1) d_M_reduce_31 (by decide) ?_
        refine x_isub d_M_reduce_32 ?_
        refine x_iald (t0 := 0) (eM_28 _ _ _ _) rfl h.1 d_M_reduce_33 ?_
        have h := h.2
        refine x_iload_n (x := x1) d_M_reduce_34 rfl ?_
        refine x_icmp_lt (tgt := 162) d_M_reduce_35 rfl (fun hc => ?_) (fun hc => ?_)
        · have h := h.1 hc
          refine x_vret d_M_reduce_162 ⟨rfl, ?_⟩
          exact h
        · have h := h.2 hc
          refine x_aload_n (x := o) d_M_reduce_38 rfl ?_
          refine x_dup d_M_reduce_39 rfl ?_
          refine x_get (v := .int (gI u 27)) f_M_179 (eM_o _ _ _ _) rfl d_M_reduce_40 ?_
          refine x_iconst (v := 1) d_M_reduce_43 (by decide) ?_
          refine x_isub d_M_reduce_44 ?_
          refine x_put f_M_179 fw_M_27 (eM_o _ _ _ _) rfl rfl (Nat.le_of_ble_eq_true rfl) (sM_27 _ _ _ _ _) d_M_reduce_45 ?_
          refine x_aload_n (x := o) d_M_reduce_48 rfl ?_
          refine x_dup d_M_reduce_49 rfl ?_
          refine x_get (v := .int (gI u 25)) f_M_176 (eM_o _ _ _ _) rfl d_M_reduce_50 ?_
          refine x_iconst (v := 1) d_M_reduce_53 (by decide) ?_
          refine x_isub d_M_reduce_54 ?_
          refine x_put f_M_176 fw_M_25 (eM_o _ _ _ _) rfl rfl (Nat.le_of_ble_eq_true rfl) (sM_25 _ _ _ _ _) d_M_reduce_55 ?_
          refine x_aload_n (x := o) d_M_reduce_58 rfl ?_
          refine x_get (v := .ref (a 26)) f_M_57 (eM_o _ _ _ _) rfl d_M_reduce_59 ?_
          refine x_aload_n (x := o) d_M_reduce_62 rfl ?_
          refine x_get (v := .int ((gI u 25) - (1 : Int32))) f_M_176 (eM_o _ _ _ _) rfl d_M_reduce_63 ?_
          refine x_iald (t0 := 0) (eM_26 _ _ _ _) rfl h.1 d_M_reduce_66 ?_
          have h := h.2
          refine x_topI (fun v1 ev1 => ?_)
          have h := h v1 ev1
          refine x_istore_n (lv' := [(2, .int v1), (0, .ref o), (1, .int x1)]) d_M_reduce_67 (by decide) rfl ?_
          refine x_aload_n (x := o) d_M_reduce_68 rfl ?_
          refine x_get (v := .ref (a 31)) f_M_69 (eM_o _ _ _ _) rfl d_M_reduce_69 ?_
          refine x_aload_n (x := o) d_M_reduce_72 rfl ?_
          refine x_get (v := .int ((gI u 27) - (1 : Int32))) f_M_179 (eM_o _ _ _ _) rfl d_M_reduce_73 ?_
          refine x_zald (t0 := 3) (eM_31 _ _ _ _) rfl h.1 d_M_reduce_76 ?_
          have h := h.2
          refine x_if_eq (tgt := 112) d_M_reduce_77 rfl (fun hc => ?_) (fun hc => ?_)
          · have h := h.1 hc
            refine x_aload_n (x := o) d_M_reduce_112 rfl ?_
            refine x_dup d_M_reduce_113 rfl ?_
            refine x_get (v := .int ((gI u 25) - (1 : Int32))) f_M_176 (eM_o _ _ _ _) rfl d_M_reduce_114 ?_
            refine x_iconst (v := 1) d_M_reduce_117 (by decide) ?_
            refine x_isub d_M_reduce_118 ?_
            refine x_put f_M_176 fw_M_25 (eM_o _ _ _ _) rfl rfl (Nat.le_of_ble_eq_true rfl) (sM_25 _ _ _ _ _) d_M_reduce_119 ?_
            refine x_aload_n (x := o) d_M_reduce_122 rfl ?_
            refine x_aload_n (x := o) d_M_reduce_123 rfl ?_
            refine x_iconst (v := 1) d_M_reduce_124 (by decide) ?_
            refine x_aload_n (x := o) d_M_reduce_125 rfl ?_
            refine x_get (v := .ref (a 29)) f_M_63 (eM_o _ _ _ _) rfl d_M_reduce_126 ?_
            refine x_aload_n (x := o) d_M_reduce_129 rfl ?_
            refine x_get (v := .int ((gI u 27) - (1 : Int32))) f_M_179 (eM_o _ _ _ _) rfl d_M_reduce_130 ?_
            refine x_iald (t0 := 0) (eM_29 _ _ _ _) rfl h.1 d_M_reduce_133 ?_
            have h := h.2
            refine x_aload_n (x := o) d_M_reduce_134 rfl ?_
            refine x_get (v := .ref (a 30)) f_M_66 (eM_o _ _ _ _) rfl d_M_reduce_135 ?_
            refine x_aload_n (x := o) d_M_reduce_138 rfl ?_
            refine x_get (v := .int ((gI u 27) - (1 : Int32))) f_M_179 (eM_o _ _ _ _) rfl d_M_reduce_139 ?_
            refine x_iald (t0 := 0) (eM_30 _ _ _ _) rfl h.1 d_M_reduce_142 ?_
            have h := h.2
            refine x_aload_n (x := o) d_M_reduce_143 rfl ?_
            refine x_get (v := .ref (a 26)) f_M_57 (eM_o _ _ _ _) rfl d_M_reduce_144 ?_
            refine x_aload_n (x := o) d_M_reduce_147 rfl ?_
            refine x_get (v := .int (((gI u 25) - (1 : Int32)) - (1 : Int32))) f_M_176 (eM_o _ _ _ _) rfl d_M_reduce_148 ?_
            refine x_iald (t0 := 0) (eM_26 _ _ _ _) rfl h.1 d_M_reduce_151 ?_
            have h := h.2
            refine x_iload_n (x := v1) d_M_reduce_152 rfl ?_
            refine x_callV (st := [.ref o]) k_M_182 rfl (eM_o _ _ _ _) x_id (c_M_part l D cs Ev hE o a (d + 0) _ (1 : Int32) (gA (sI (sI (sI u 27 ((gI u 27) - (1 : Int32))) 25 ((gI u 25) - (1 : Int32))) 25 (((gI u 25) - (1 : Int32)) - (1 : Int32))) 29 ((gI u 27) - (1 : Int32)).toNatClampNeg) (gA (sI (sI (sI u 27 ((gI u 27) - (1 : Int32))) 25 ((gI u 25) - (1 : Int32))) 25 (((gI u 25) - (1 : Int32)) - (1 : Int32))) 30 ((gI u 27) - (1 : Int32)).toNatClampNeg) (gA (sI (sI (sI u 27 ((gI u 27) - (1 : Int32))) 25 ((gI u 25) - (1 : Int32))) 25 (((gI u 25) - (1 : Int32)) - (1 : Int32))) 26 (((gI u 25) - (1 : Int32)) - (1 : Int32)).toNatClampNeg) v1 (sI (sI (sI u 27 ((gI u 27) - (1 : Int32))) 25 ((gI u 25) - (1 : Int32))) 25 (((gI u 25) - (1 : Int32)) - (1 : Int32))) h) hE (rmD_ok (by omega) (by decide)) rfl (Nat.le_of_ble_eq_true rfl) rfl d_M_reduce_153 (x_rI (fun r3 u2 h => ?_))
            refine x_callV (st := []) k_M_186 rfl (eM_o _ _ _ _) x_id (c_M_value l D cs Ev hE o a (d + 0) _ r3 u2 h) hE (rmD_ok (by omega) (by decide)) rfl (Nat.le_of_ble_eq_true rfl) rfl d_M_reduce_156 (x_rV (fun u4 h => ?_))
            refine x_sub [1, 2] rfl ?_
            exact w_M_reduce_159 l D cs Ev hE o a d post (fun zx1 zu => P_M_reduce_0 post f zx1 zu) ih x1 u4 h
          · have h := h.2 hc
            refine x_aload_n (x := o) d_M_reduce_80 rfl ?_
            refine x_aload_n (x := o) d_M_reduce_81 rfl ?_
            refine x_iconst (v := 2) d_M_reduce_82 (by decide) ?_
            refine x_aload_n (x := o) d_M_reduce_83 rfl ?_
            refine x_get (v := .ref (a 29)) f_M_63 (eM_o _ _ _ _) rfl d_M_reduce_84 ?_
            refine x_aload_n (x := o) d_M_reduce_87 rfl ?_
            refine x_get (v := .int ((gI u 27) - (1 : Int32))) f_M_179 (eM_o _ _ _ _) rfl d_M_reduce_88 ?_
            refine x_iald (t0 := 0) (eM_29 _ _ _ _) rfl h.1 d_M_reduce_91 ?_
            have h := h.2
            refine x_aload_n (x := o) d_M_reduce_92 rfl ?_
            refine x_get (v := .ref (a 30)) f_M_66 (eM_o _ _ _ _) rfl d_M_reduce_93 ?_
            refine x_aload_n (x := o) d_M_reduce_96 rfl ?_
            refine x_get (v := .int ((gI u 27) - (1 : Int32))) f_M_179 (eM_o _ _ _ _) rfl d_M_reduce_97 ?_
            refine x_iald (t0 := 0) (eM_30 _ _ _ _) rfl h.1 d_M_reduce_100 ?_
            have h := h.2
            refine x_iload_n (x := v1) d_M_reduce_101 rfl ?_
            refine x_iconst (v := (-1)) d_M_reduce_102 (by decide) ?_
            refine x_callV (st := [.ref o]) k_M_182 rfl (eM_o _ _ _ _) x_id (c_M_part l D cs Ev hE o a (d + 0) _ (2 : Int32) (gA (sI (sI u 27 ((gI u 27) - (1 : Int32))) 25 ((gI u 25) - (1 : Int32))) 29 ((gI u 27) - (1 : Int32)).toNatClampNeg) (gA (sI (sI u 27 ((gI u 27) - (1 : Int32))) 25 ((gI u 25) - (1 : Int32))) 30 ((gI u 27) - (1 : Int32)).toNatClampNeg) v1 (-1 : Int32) (sI (sI u 27 ((gI u 27) - (1 : Int32))) 25 ((gI u 25) - (1 : Int32))) h) hE (rmD_ok (by omega) (by decide)) rfl (Nat.le_of_ble_eq_true rfl) rfl d_M_reduce_103 (x_rI (fun r6 u5 h => ?_))
            refine x_callV (st := []) k_M_186 rfl (eM_o _ _ _ _) x_id (c_M_value l D cs Ev hE o a (d + 0) _ r6 u5 h) hE (rmD_ok (by omega) (by decide)) rfl (Nat.le_of_ble_eq_true rfl) rfl d_M_reduce_106 (x_rV (fun u7 h => ?_))
            refine x_goto (tgt := 159) d_M_reduce_109 rfl ?_
            refine x_sub [1, 2] rfl ?_
            exact w_M_reduce_159 l D cs Ev hE o a d post (fun zx1 zu => P_M_reduce_0 post f zx1 zu) ih x1 u7 h
def P_M_reduce (post : MS → Prop) (a0 : Int32) (u : MS) : Prop := (∃ g, P_M_reduce_0 post g a0 u)
set_option maxHeartbeats 600000 in
set_option maxRecDepth 100000 in
theorem c_M_reduce (l : Launch) (D : va_G) (cs : Nat → ClassId) (Ev : (Nat → Prop) → State → Prop) (hE : xEok Ev) (o : Nat) (a : Nat → Nat) (d : Nat) (post : MS → Prop) (a0 : Int32) (u : MS) (h : P_M_reduce post a0 u) : xC l D clX (tysX cs) Ev y_M_reduce w_M_reduce (rmD (d + 1)) (wdM o a cs) [.ref o, .int a0] u (pV post) 0 0 := by
  unfold P_M_reduce at h
  refine xC.of (cc := b_M_reduce) (nL := 3) (ret := none) (by decide) rfl (Nat.le_of_ble_eq_true rfl) ?_
  show RR l D clX (tysX cs) Ev "DeckFrontModel" b_M_reduce 3 w_M_reduce (rmD (d + 1)) none (wdM o a cs) (pV post) 0 0 0 0 0 [(0, .ref o), (1, .int a0)] [] u
  obtain ⟨f9, h⟩ := h
  exact w_M_reduce_0 l D cs Ev hE o a d post  f9 a0 u h
def P_M_joins_63 (post : MS → Prop) (x1 : Int32) (x2 : Int32) (u : MS) : Prop := (vp_in x2 100 ∧ post (sA u 22 x2.toNatClampNeg x1))
set_option maxHeartbeats 600000 in
set_option maxRecDepth 100000 in
theorem w_M_joins_63 (l : Launch) (D : va_G) (cs : Nat → ClassId) (Ev : (Nat → Prop) → State → Prop) (hE : xEok Ev) (o : Nat) (a : Nat → Nat) (d : Nat) (post : MS → Prop) (x1 : Int32) (x2 : Int32) (u : MS) (h : P_M_joins_63 post  x1 x2 u) : RR l D clX (tysX cs) Ev "DeckFrontModel" b_M_joins 3 w_M_joins (rmD (d + 0)) none (wdM o a cs) (pV post) 0 0 0 0 63 [(0, .ref o), (1, .int x1), (2, .int x2)] [] u := by
  unfold P_M_joins_63 at h
  refine x_aload_n (x := o) d_M_joins_63 rfl ?_
  refine x_get (v := .ref (a 22)) f_M_48 (eM_o _ _ _ _) rfl d_M_joins_64 ?_
  refine x_iload_n (x := x2) d_M_joins_67 rfl ?_
  refine x_iload_n (x := x1) d_M_joins_68 rfl ?_
  refine x_iast (t0 := 0) (eM_22 _ _ _ _) rfl h.1 (sM_22 _ _ _ _ _ _) d_M_joins_69 ?_
  have h := h.2
  refine x_vret d_M_joins_70 ⟨rfl, ?_⟩
  exact h
def P_M_joins (post : MS → Prop) (u : MS) : Prop := (vp_in ((gI u 25) - (1 : Int32)) 100 ∧ (∀ v1, v1 = (gA (sI u 25 ((gI u 25) - (1 : Int32))) 26 ((gI u 25) - (1 : Int32)).toNatClampNeg) → (vp_in (((gI u 25) - (1 : Int32)) - (1 : Int32)) 100 ∧ (∀ v2, v2 = (gA (sI u 25 ((gI u 25) - (1 : Int32))) 26 (((gI u 25) - (1 : Int32)) - (1 : Int32)).toNatClampNeg) → (vp_in v2 100 ∧ ((0 ≤ (gA (sI u 25 ((gI u 25) - (1 : Int32))) 21 v2.toNatClampNeg) → (vp_in v2 100 ∧ (vp_in (gA (sI u 25 ((gI u 25) - (1 : Int32))) 22 v2.toNatClampNeg) 100 ∧ P_M_joins_63 post v1 v2 (sA (sI u 25 ((gI u 25) - (1 : Int32))) 23 (gA (sI u 25 ((gI u 25) - (1 : Int32))) 22 v2.toNatClampNeg).toNatClampNeg v1)))) ∧ (¬ 0 ≤ (gA (sI u 25 ((gI u 25) - (1 : Int32))) 21 v2.toNatClampNeg) → (vp_in v2 100 ∧ P_M_joins_63 post v1 v2 (sA (sI u 25 ((gI u 25) - (1 : Int32))) 21 v2.toNatClampNeg v1)))))))))
set_option maxHeartbeats 600000 in
set_option maxRecDepth 100000 in
theorem c_M_joins (l : Launch) (D : va_G) (cs : Nat → ClassId) (Ev : (Nat → Prop) → State → Prop) (hE : xEok Ev) (o : Nat) (a : Nat → Nat) (d : Nat) (post : MS → Prop) (u : MS) (h : P_M_joins post  u) : xC l D clX (tysX cs) Ev y_M_joins w_M_joins (rmD (d + 0)) (wdM o a cs) [.ref o] u (pV post) 0 0 := by
  unfold P_M_joins at h
  refine xC.of (cc := b_M_joins) (nL := 3) (ret := none) (by decide) rfl (Nat.le_of_ble_eq_true rfl) ?_
  show RR l D clX (tysX cs) Ev "DeckFrontModel" b_M_joins 3 w_M_joins (rmD (d + 0)) none (wdM o a cs) (pV post) 0 0 0 0 0 [(0, .ref o)] [] u
  refine x_aload_n (x := o) d_M_joins_0 rfl ?_
  refine x_dup d_M_joins_1 rfl ?_
  refine x_get (v := .int (gI u 25)) f_M_176 (eM_o _ _ _ _) rfl d_M_joins_2 ?_
  refine x_iconst (v := 1) d_M_joins_5 (by decide) ?_
  refine x_isub d_M_joins_6 ?_
  refine x_put f_M_176 fw_M_25 (eM_o _ _ _ _) rfl rfl (Nat.le_of_ble_eq_true rfl) (sM_25 _ _ _ _ _) d_M_joins_7 ?_
  refine x_aload_n (x := o) d_M_joins_10 rfl ?_
  refine x_get (v := .ref (a 26)) f_M_57 (eM_o _ _ _ _) rfl d_M_joins_11 ?_
  refine x_aload_n (x := o) d_M_joins_14 rfl ?_
  refine x_get (v := .int ((gI u 25) - (1 : Int32))) f_M_176 (eM_o _ _ _ _) rfl d_M_joins_15 ?_
  refine x_iald (t0 := 0) (eM_26 _ _ _ _) rfl h.1 d_M_joins_18 ?_
  have h := h.2
  refine x_topI (fun v1 ev1 => ?_)
  have h := h v1 ev1
  refine x_istore_n (lv' := [(1, .int v1), (0, .ref o)]) d_M_joins_19 (by decide) rfl ?_
  refine x_aload_n (x := o) d_M_joins_20 rfl ?_
  refine x_get (v := .ref (a 26)) f_M_57 (eM_o _ _ _ _) rfl d_M_joins_21 ?_
  refine x_aload_n (x := o) d_M_joins_24 rfl ?_
  refine x_get (v := .int ((gI u 25) - (1 : Int32))) f_M_176 (eM_o _ _ _ _) rfl d_M_joins_25 ?_
  refine x_iconst (v := 1) d_M_joins_28 (by decide) ?_
  refine x_isub d_M_joins_29 ?_
  refine x_iald (t0 := 0) (eM_26 _ _ _ _) rfl h.1 d_M_joins_30 ?_
  have h := h.2
  refine x_topI (fun v2 ev2 => ?_)
  have h := h v2 ev2
  refine x_istore_n (lv' := [(2, .int v2), (1, .int v1), (0, .ref o)]) d_M_joins_31 (by decide) rfl ?_
  refine x_aload_n (x := o) d_M_joins_32 rfl ?_
  refine x_get (v := .ref (a 21)) f_M_45 (eM_o _ _ _ _) rfl d_M_joins_33 ?_
  refine x_iload_n (x := v2) d_M_joins_36 rfl ?_
  refine x_iald (t0 := 0) (eM_21 _ _ _ _) rfl h.1 d_M_joins_37 ?_
  have h := h.2
  refine x_if_ge (tgt := 51) d_M_joins_38 rfl (fun hc => ?_) (fun hc => ?_)
  · have h := h.1 hc
    refine x_aload_n (x := o) d_M_joins_51 rfl ?_
    refine x_get (v := .ref (a 23)) f_M_51 (eM_o _ _ _ _) rfl d_M_joins_52 ?_
    refine x_aload_n (x := o) d_M_joins_55 rfl ?_
    refine x_get (v := .ref (a 22)) f_M_48 (eM_o _ _ _ _) rfl d_M_joins_56 ?_
    refine x_iload_n (x := v2) d_M_joins_59 rfl ?_
    refine x_iald (t0 := 0) (eM_22 _ _ _ _) rfl h.1 d_M_joins_60 ?_
    have h := h.2
    refine x_iload_n (x := v1) d_M_joins_61 rfl ?_
    refine x_iast (t0 := 0) (eM_23 _ _ _ _) rfl h.1 (sM_23 _ _ _ _ _ _) d_M_joins_62 ?_
    have h := h.2
    refine x_sub [2, 1, 0] rfl ?_
    exact w_M_joins_63 l D cs Ev hE o a d post  v1 v2 (sA (sI u 25 ((gI u 25) - (1 : Int32))) 23 (gA (sI u 25 ((gI u 25) - (1 : Int32))) 22 v2.toNatClampNeg).toNatClampNeg v1) h
  · have h := h.2 hc
    refine x_aload_n (x := o) d_M_joins_41 rfl ?_
    refine x_get (v := .ref (a 21)) f_M_45 (eM_o _ _ _ _) rfl d_M_joins_42 ?_
    refine x_iload_n (x := v2) d_M_joins_45 rfl ?_
    refine x_iload_n (x := v1) d_M_joins_46 rfl ?_
    refine x_iast (t0 := 0) (eM_21 _ _ _ _) rfl h.1 (sM_21 _ _ _ _ _ _) d_M_joins_47 ?_
    have h := h.2
    refine x_goto (tgt := 63) d_M_joins_48 rfl ?_
    refine x_sub [2, 1, 0] rfl ?_
    exact w_M_joins_63 l D cs Ev hE o a d post  v1 v2 (sA (sI u 25 ((gI u 25) - (1 : Int32))) 21 v2.toNatClampNeg v1) h
def P_M_wanted_462 (post : Int32 → MS → Prop) (x8 : Int32) (s0 : Int32) (u : MS) : Prop := P_M_push (fun u8 => post 0 (sI u8 9 x8)) s0 (gI u 9) x8 (1 : Int32) u
set_option maxHeartbeats 600000 in
set_option maxRecDepth 100000 in
theorem w_M_wanted_462 (l : Launch) (D : va_G) (cs : Nat → ClassId) (Ev : (Nat → Prop) → State → Prop) (hE : xEok Ev) (o : Nat) (a : Nat → Nat) (d : Nat) (post : Int32 → MS → Prop) (x8 : Int32) (s0 : Int32) (u : MS) (h : P_M_wanted_462 post  x8 s0 u) : RR l D clX (tysX cs) Ev "DeckFrontModel" b_M_wanted 9 w_M_wanted (rmD (d + 3)) (some .int) (wdM o a cs) (pI post) 0 0 0 0 462 [(0, .ref o), (8, .int x8)] [.int s0, .ref o] u := by
  unfold P_M_wanted_462 at h
  refine x_aload_n (x := o) d_M_wanted_462 rfl ?_
  refine x_get (v := .int (gI u 9)) f_M_126 (eM_o _ _ _ _) rfl d_M_wanted_463 ?_
  refine x_iload (x := x8) d_M_wanted_466 rfl ?_
  refine x_iconst (v := 1) d_M_wanted_468 (by decide) ?_
  refine x_callV (st := []) k_M_192 rfl (eM_o _ _ _ _) x_id (c_M_push l D cs Ev hE o a (d + 2) _ s0 (gI u 9) x8 (1 : Int32) u h) hE (rmD_ok (by omega) (by decide)) rfl (Nat.le_of_ble_eq_true rfl) rfl d_M_wanted_469 (x_rV (fun u8 h => ?_))
  refine x_aload_n (x := o) d_M_wanted_472 rfl ?_
  refine x_iload (x := x8) d_M_wanted_473 rfl ?_
  refine x_put f_M_126 fw_M_9 (eM_o _ _ _ _) rfl rfl (Nat.le_of_ble_eq_true rfl) (sM_9 _ _ _ _ _) d_M_wanted_475 ?_
  refine x_iconst (v := 0) d_M_wanted_478 (by decide) ?_
  refine x_iret d_M_wanted_479 ⟨_, rfl, ?_⟩
  exact h
def P_M_wanted_448 (post : Int32 → MS → Prop) (x6 : Int32) (s0 : Int32) (u : MS) : Prop := ((¬ x6 = 3 → P_M_wanted_462 post s0 5 u) ∧ (x6 = 3 → P_M_wanted_462 post s0 3 u))
set_option maxHeartbeats 600000 in
set_option maxRecDepth 100000 in
theorem w_M_wanted_448 (l : Launch) (D : va_G) (cs : Nat → ClassId) (Ev : (Nat → Prop) → State → Prop) (hE : xEok Ev) (o : Nat) (a : Nat → Nat) (d : Nat) (post : Int32 → MS → Prop) (x6 : Int32) (s0 : Int32) (u : MS) (h : P_M_wanted_448 post  x6 s0 u) : RR l D clX (tysX cs) Ev "DeckFrontModel" b_M_wanted 9 w_M_wanted (rmD (d + 3)) (some .int) (wdM o a cs) (pI post) 0 0 0 0 448 [(0, .ref o), (6, .int x6)] [.int s0] u := by
  unfold P_M_wanted_448 at h
  refine x_istore (lv' := [(8, .int s0), (0, .ref o), (6, .int x6)]) d_M_wanted_448 (by decide) rfl ?_
  refine x_aload_n (x := o) d_M_wanted_450 rfl ?_
  refine x_iload (x := x6) d_M_wanted_451 rfl ?_
  refine x_iconst (v := 3) d_M_wanted_453 (by decide) ?_
  refine x_icmp_ne (tgt := 461) d_M_wanted_454 rfl (fun hc => ?_) (fun hc => ?_)
  · have h := h.1 hc
    refine x_iconst (v := 5) d_M_wanted_461 (by decide) ?_
    refine x_sub [1, 0] rfl ?_
    exact w_M_wanted_462 l D cs Ev hE o a d post  s0 5 u h
  · have h := h.2 hc
    refine x_iconst (v := 3) d_M_wanted_457 (by decide) ?_
    refine x_goto (tgt := 462) d_M_wanted_458 rfl ?_
    refine x_sub [1, 0] rfl ?_
    exact w_M_wanted_462 l D cs Ev hE o a d post  s0 3 u h
def P_M_wanted_416 (post : Int32 → MS → Prop) (x6 : Int32) (s0 : Int32) (u : MS) : Prop := ((¬ s0 = 0 → ((¬ x6 = 3 → P_M_wanted_448 post x6 ((gI u 9) + (1 : Int32)) u) ∧ (x6 = 3 → P_M_dotted (fun r10 u9 => P_M_wanted_448 post x6 r10 u9) (gI u 9) u))) ∧ (s0 = 0 → post (-1) u))
set_option maxHeartbeats 600000 in
set_option maxRecDepth 100000 in
theorem w_M_wanted_416 (l : Launch) (D : va_G) (cs : Nat → ClassId) (Ev : (Nat → Prop) → State → Prop) (hE : xEok Ev) (o : Nat) (a : Nat → Nat) (d : Nat) (post : Int32 → MS → Prop) (x6 : Int32) (s0 : Int32) (u : MS) (h : P_M_wanted_416 post  x6 s0 u) : RR l D clX (tysX cs) Ev "DeckFrontModel" b_M_wanted 9 w_M_wanted (rmD (d + 3)) (some .int) (wdM o a cs) (pI post) 0 0 0 0 416 [(0, .ref o), (6, .int x6)] [.int s0] u := by
  unfold P_M_wanted_416 at h
  refine x_istore (lv' := [(7, .int s0), (0, .ref o), (6, .int x6)]) d_M_wanted_416 (by decide) rfl ?_
  refine x_iload (x := s0) d_M_wanted_418 rfl ?_
  refine x_if_ne (tgt := 425) d_M_wanted_420 rfl (fun hc => ?_) (fun hc => ?_)
  · have h := h.1 hc
    refine x_iload (x := x6) d_M_wanted_425 rfl ?_
    refine x_iconst (v := 3) d_M_wanted_427 (by decide) ?_
    refine x_icmp_ne (tgt := 442) d_M_wanted_428 rfl (fun hc => ?_) (fun hc => ?_)
    · have h := h.1 hc
      refine x_aload_n (x := o) d_M_wanted_442 rfl ?_
      refine x_get (v := .int (gI u 9)) f_M_126 (eM_o _ _ _ _) rfl d_M_wanted_443 ?_
      refine x_iconst (v := 1) d_M_wanted_446 (by decide) ?_
      refine x_iadd d_M_wanted_447 ?_
      refine x_sub [1, 2] rfl ?_
      exact w_M_wanted_448 l D cs Ev hE o a d post  x6 ((gI u 9) + (1 : Int32)) u h
    · have h := h.2 hc
      refine x_aload_n (x := o) d_M_wanted_431 rfl ?_
      refine x_aload_n (x := o) d_M_wanted_432 rfl ?_
      refine x_get (v := .int (gI u 9)) f_M_126 (eM_o _ _ _ _) rfl d_M_wanted_433 ?_
      refine x_callV (st := []) k_M_196 rfl (eM_o _ _ _ _) x_id (c_M_dotted l D cs Ev hE o a (d + 1) _ (gI u 9) u h) hE (rmD_ok (by omega) (by decide)) rfl (Nat.le_of_ble_eq_true rfl) rfl d_M_wanted_436 (x_rI (fun r10 u9 h => ?_))
      refine x_goto (tgt := 448) d_M_wanted_439 rfl ?_
      refine x_sub [1, 2] rfl ?_
      exact w_M_wanted_448 l D cs Ev hE o a d post  x6 r10 u9 h
  · have h := h.2 hc
    refine x_iconst (v := (-1)) d_M_wanted_423 (by decide) ?_
    refine x_iret d_M_wanted_424 ⟨_, rfl, ?_⟩
    exact h
def P_M_wanted_415 (post : Int32 → MS → Prop) (x6 : Int32) (u : MS) : Prop := P_M_wanted_416 post x6 0 u
set_option maxHeartbeats 600000 in
set_option maxRecDepth 100000 in
theorem w_M_wanted_415 (l : Launch) (D : va_G) (cs : Nat → ClassId) (Ev : (Nat → Prop) → State → Prop) (hE : xEok Ev) (o : Nat) (a : Nat → Nat) (d : Nat) (post : Int32 → MS → Prop) (x6 : Int32) (u : MS) (h : P_M_wanted_415 post  x6 u) : RR l D clX (tysX cs) Ev "DeckFrontModel" b_M_wanted 9 w_M_wanted (rmD (d + 3)) (some .int) (wdM o a cs) (pI post) 0 0 0 0 415 [(0, .ref o), (6, .int x6)] [] u := by
  unfold P_M_wanted_415 at h
  refine x_iconst (v := 0) d_M_wanted_415 (by decide) ?_
  exact w_M_wanted_416 l D cs Ev hE o a d post  x6 0 u h
def P_M_wanted_407 (post : Int32 → MS → Prop) (x1 : Int32) (x6 : Int32) (u : MS) : Prop := ((x1 ≤ 0 → P_M_wanted_415 post x6 u) ∧ (¬ x1 ≤ 0 → P_M_wanted_416 post x6 1 u))
set_option maxHeartbeats 600000 in
set_option maxRecDepth 100000 in
theorem w_M_wanted_407 (l : Launch) (D : va_G) (cs : Nat → ClassId) (Ev : (Nat → Prop) → State → Prop) (hE : xEok Ev) (o : Nat) (a : Nat → Nat) (d : Nat) (post : Int32 → MS → Prop) (x1 : Int32) (x6 : Int32) (u : MS) (h : P_M_wanted_407 post  x1 x6 u) : RR l D clX (tysX cs) Ev "DeckFrontModel" b_M_wanted 9 w_M_wanted (rmD (d + 3)) (some .int) (wdM o a cs) (pI post) 0 0 0 0 407 [(0, .ref o), (1, .int x1), (6, .int x6)] [] u := by
  unfold P_M_wanted_407 at h
  refine x_iload_n (x := x1) d_M_wanted_407 rfl ?_
  refine x_if_le (tgt := 415) d_M_wanted_408 rfl (fun hc => ?_) (fun hc => ?_)
  · have h := h.1 hc
    refine x_sub [0, 2] rfl ?_
    exact w_M_wanted_415 l D cs Ev hE o a d post  x6 u h
  · have h := h.2 hc
    refine x_iconst (v := 1) d_M_wanted_411 (by decide) ?_
    refine x_goto (tgt := 416) d_M_wanted_412 rfl ?_
    refine x_sub [0, 2] rfl ?_
    exact w_M_wanted_416 l D cs Ev hE o a d post  x6 1 u h
def P_M_wanted_245 (post : Int32 → MS → Prop) (x6 : Int32) (u : MS) : Prop := ((¬ x6 = (gI u 8) → P_M_part (fun r21 u20 => P_M_value (fun u22 => post 1 (sI u22 9 (x6 + (1 : Int32)))) r21 u20) (0 : Int32) (gI u 9) (x6 + (1 : Int32)) (-1 : Int32) (-1 : Int32) u) ∧ (x6 = (gI u 8) → post (-1) u))
set_option maxHeartbeats 600000 in
set_option maxRecDepth 100000 in
theorem w_M_wanted_245 (l : Launch) (D : va_G) (cs : Nat → ClassId) (Ev : (Nat → Prop) → State → Prop) (hE : xEok Ev) (o : Nat) (a : Nat → Nat) (d : Nat) (post : Int32 → MS → Prop) (x6 : Int32) (u : MS) (h : P_M_wanted_245 post  x6 u) : RR l D clX (tysX cs) Ev "DeckFrontModel" b_M_wanted 9 w_M_wanted (rmD (d + 3)) (some .int) (wdM o a cs) (pI post) 0 0 0 0 245 [(0, .ref o), (6, .int x6)] [] u := by
  unfold P_M_wanted_245 at h
  refine x_iload (x := x6) d_M_wanted_245 rfl ?_
  refine x_aload_n (x := o) d_M_wanted_247 rfl ?_
  refine x_get (v := .int (gI u 8)) f_M_116 (eM_o _ _ _ _) rfl d_M_wanted_248 ?_
  refine x_icmp_ne (tgt := 256) d_M_wanted_251 rfl (fun hc => ?_) (fun hc => ?_)
  · have h := h.1 hc
    refine x_aload_n (x := o) d_M_wanted_256 rfl ?_
    refine x_aload_n (x := o) d_M_wanted_257 rfl ?_
    refine x_iconst (v := 0) d_M_wanted_258 (by decide) ?_
    refine x_aload_n (x := o) d_M_wanted_259 rfl ?_
    refine x_get (v := .int (gI u 9)) f_M_126 (eM_o _ _ _ _) rfl d_M_wanted_260 ?_
    refine x_iload (x := x6) d_M_wanted_263 rfl ?_
    refine x_iconst (v := 1) d_M_wanted_265 (by decide) ?_
    refine x_iadd d_M_wanted_266 ?_
    refine x_iconst (v := (-1)) d_M_wanted_267 (by decide) ?_
    refine x_iconst (v := (-1)) d_M_wanted_268 (by decide) ?_
    refine x_callV (st := [.ref o]) k_M_182 rfl (eM_o _ _ _ _) x_id (c_M_part l D cs Ev hE o a (d + 2) _ (0 : Int32) (gI u 9) (x6 + (1 : Int32)) (-1 : Int32) (-1 : Int32) u h) hE (rmD_ok (by omega) (by decide)) rfl (Nat.le_of_ble_eq_true rfl) rfl d_M_wanted_269 (x_rI (fun r21 u20 h => ?_))
    refine x_callV (st := []) k_M_186 rfl (eM_o _ _ _ _) x_id (c_M_value l D cs Ev hE o a (d + 2) _ r21 u20 h) hE (rmD_ok (by omega) (by decide)) rfl (Nat.le_of_ble_eq_true rfl) rfl d_M_wanted_272 (x_rV (fun u22 h => ?_))
    refine x_aload_n (x := o) d_M_wanted_275 rfl ?_
    refine x_iload (x := x6) d_M_wanted_276 rfl ?_
    refine x_iconst (v := 1) d_M_wanted_278 (by decide) ?_
    refine x_iadd d_M_wanted_279 ?_
    refine x_put f_M_126 fw_M_9 (eM_o _ _ _ _) rfl rfl (Nat.le_of_ble_eq_true rfl) (sM_9 _ _ _ _ _) d_M_wanted_280 ?_
    refine x_iconst (v := 1) d_M_wanted_283 (by decide) ?_
    refine x_iret d_M_wanted_284 ⟨_, rfl, ?_⟩
    exact h
  · have h := h.2 hc
    refine x_iconst (v := (-1)) d_M_wanted_254 (by decide) ?_
    refine x_iret d_M_wanted_255 ⟨_, rfl, ?_⟩
    exact h
def P_M_wanted_218 (post : Int32 → MS → Prop) : Nat → Int32 → MS → Prop
  | 0, _, _ => False
  | f + 1, x6, u => (((gI u 8) ≤ x6 → P_M_wanted_245 post x6 u) ∧ (¬ (gI u 8) ≤ x6 → (vp_in x6 1920 ∧ (((gA u 6 x6.toNatClampNeg) = 39 → P_M_wanted_245 post x6 u) ∧ (¬ (gA u 6 x6.toNatClampNeg) = 39 → P_M_wanted_218 post f (x6 + 1) u)))))
set_option maxHeartbeats 600000 in
set_option maxRecDepth 100000 in
theorem w_M_wanted_218 (l : Launch) (D : va_G) (cs : Nat → ClassId) (Ev : (Nat → Prop) → State → Prop) (hE : xEok Ev) (o : Nat) (a : Nat → Nat) (d : Nat) (post : Int32 → MS → Prop) : ∀ (f : Nat) (x6 : Int32) (u : MS), P_M_wanted_218 post  f x6 u → RR l D clX (tysX cs) Ev "DeckFrontModel" b_M_wanted 9 w_M_wanted (rmD (d + 3)) (some .int) (wdM o a cs) (pI post) 0 0 0 0 218 [(0, .ref o), (6, .int x6)] [] u := by
  intro f
  induction f with
  | zero => intro x6 u h; exact h.elim
  | succ f ih =>
    intro x6 u h
    unfold P_M_wanted_218 at h
    refine x_iload (x := x6) d_M_wanted_218 rfl ?_
    refine x_aload_n (x := o) d_M_wanted_220 rfl ?_
    refine x_get (v := .int (gI u 8)) f_M_116 (eM_o _ _ _ _) rfl d_M_wanted_221 ?_
    refine x_icmp_ge (tgt := 245) d_M_wanted_224 rfl (fun hc => ?_) (fun hc => ?_)
    · have h := h.1 hc
      exact w_M_wanted_245 l D cs Ev hE o a d post  x6 u h
    · have h := h.2 hc
      refine x_aload_n (x := o) d_M_wanted_227 rfl ?_
      refine x_get (v := .ref (a 6)) f_M_20 (eM_o _ _ _ _) rfl d_M_wanted_228 ?_
      refine x_iload (x := x6) d_M_wanted_231 rfl ?_
      refine x_cald (t0 := 1) (eM_6 _ _ _ _) rfl h.1 d_M_wanted_233 ?_
      have h := h.2
      refine x_bipush (v := 39) d_M_wanted_234 (by decide) ?_
      refine x_icmp_eq (tgt := 245) d_M_wanted_236 rfl (fun hc => ?_) (fun hc => ?_)
      · have h := h.1 hc
        exact w_M_wanted_245 l D cs Ev hE o a d post  x6 u h
      · have h := h.2 hc
        refine x_iinc (v := x6 + 1) (lv' := [(6, .int (x6 + 1)), (0, .ref o)]) d_M_wanted_239 rfl rfl (by decide) rfl ?_
        refine x_goto (tgt := 218) d_M_wanted_242 rfl ?_
        refine x_sub [1, 0] rfl ?_
        exact ih (x6 + 1) u h
def P_M_wanted_123 (post : Int32 → MS → Prop) (x2 : Int32) (x5 : Int32) (x6 : Int32) (s0 : Int32) (u : MS) : Prop := P_M_part (fun r25 u24 => P_M_value (fun u26 => ((¬ x6 = 0 → ((¬ x2 = 8 → (qAt (sI (sI u26 9 x5) 9 (x5 + (1 : Int32))) (x5 + (1 : Int32)) ∧ ((¬ (vAt (sI (sI u26 9 x5) 9 (x5 + (1 : Int32))) (x5 + (1 : Int32))) = 41 → P_M_push (fun u27 => post 0 u27) (9 : Int32) (0 : Int32) (0 : Int32) (0 : Int32) (sI (sI u26 9 x5) 9 (x5 + (1 : Int32)))) ∧ ((vAt (sI (sI u26 9 x5) 9 (x5 + (1 : Int32))) (x5 + (1 : Int32))) = 41 → post 1 (sI (sI (sI u26 9 x5) 9 (x5 + (1 : Int32))) 9 ((x5 + (1 : Int32)) + (1 : Int32))))))) ∧ (x2 = 8 → post (-1) (sI u26 9 x5)))) ∧ (x6 = 0 → post 1 (sI u26 9 x5)))) r25 u24) s0 (gI u 9) x5 (-1 : Int32) (-1 : Int32) u
set_option maxHeartbeats 600000 in
set_option maxRecDepth 100000 in
theorem w_M_wanted_123 (l : Launch) (D : va_G) (cs : Nat → ClassId) (Ev : (Nat → Prop) → State → Prop) (hE : xEok Ev) (o : Nat) (a : Nat → Nat) (d : Nat) (post : Int32 → MS → Prop) (x2 : Int32) (x5 : Int32) (x6 : Int32) (s0 : Int32) (u : MS) (h : P_M_wanted_123 post  x2 x5 x6 s0 u) : RR l D clX (tysX cs) Ev "DeckFrontModel" b_M_wanted 9 w_M_wanted (rmD (d + 3)) (some .int) (wdM o a cs) (pI post) 0 0 0 0 123 [(0, .ref o), (2, .int x2), (5, .int x5), (6, .int x6)] [.int s0, .ref o, .ref o] u := by
  unfold P_M_wanted_123 at h
  refine x_aload_n (x := o) d_M_wanted_123 rfl ?_
  refine x_get (v := .int (gI u 9)) f_M_126 (eM_o _ _ _ _) rfl d_M_wanted_124 ?_
  refine x_iload (x := x5) d_M_wanted_127 rfl ?_
  refine x_iconst (v := (-1)) d_M_wanted_129 (by decide) ?_
  refine x_iconst (v := (-1)) d_M_wanted_130 (by decide) ?_
  refine x_callV (st := [.ref o]) k_M_182 rfl (eM_o _ _ _ _) x_id (c_M_part l D cs Ev hE o a (d + 2) _ s0 (gI u 9) x5 (-1 : Int32) (-1 : Int32) u h) hE (rmD_ok (by omega) (by decide)) rfl (Nat.le_of_ble_eq_true rfl) rfl d_M_wanted_131 (x_rI (fun r25 u24 h => ?_))
  refine x_callV (st := []) k_M_186 rfl (eM_o _ _ _ _) x_id (c_M_value l D cs Ev hE o a (d + 2) _ r25 u24 h) hE (rmD_ok (by omega) (by decide)) rfl (Nat.le_of_ble_eq_true rfl) rfl d_M_wanted_134 (x_rV (fun u26 h => ?_))
  refine x_aload_n (x := o) d_M_wanted_137 rfl ?_
  refine x_iload (x := x5) d_M_wanted_138 rfl ?_
  refine x_put f_M_126 fw_M_9 (eM_o _ _ _ _) rfl rfl (Nat.le_of_ble_eq_true rfl) (sM_9 _ _ _ _ _) d_M_wanted_140 ?_
  refine x_iload (x := x6) d_M_wanted_143 rfl ?_
  refine x_if_ne (tgt := 150) d_M_wanted_145 rfl (fun hc => ?_) (fun hc => ?_)
  · have h := h.1 hc
    refine x_iload_n (x := x2) d_M_wanted_150 rfl ?_
    refine x_bipush (v := 8) d_M_wanted_151 (by decide) ?_
    refine x_icmp_ne (tgt := 158) d_M_wanted_153 rfl (fun hc => ?_) (fun hc => ?_)
    · have h := h.1 hc
      refine x_aload_n (x := o) d_M_wanted_158 rfl ?_
      refine x_dup d_M_wanted_159 rfl ?_
      refine x_get (v := .int x5) f_M_126 (eM_o _ _ _ _) rfl d_M_wanted_160 ?_
      refine x_iconst (v := 1) d_M_wanted_163 (by decide) ?_
      refine x_iadd d_M_wanted_164 ?_
      refine x_put f_M_126 fw_M_9 (eM_o _ _ _ _) rfl rfl (Nat.le_of_ble_eq_true rfl) (sM_9 _ _ _ _ _) d_M_wanted_165 ?_
      refine x_aload_n (x := o) d_M_wanted_168 rfl ?_
      refine x_aload_n (x := o) d_M_wanted_169 rfl ?_
      refine x_get (v := .int (x5 + (1 : Int32))) f_M_126 (eM_o _ _ _ _) rfl d_M_wanted_170 ?_
      refine x_callV (st := []) k_M_129 rfl (eM_o _ _ _ _) x_id (cf_M_at l D cs Ev hE o a (d + 2) (x5 + (1 : Int32)) (sI (sI u26 9 x5) 9 (x5 + (1 : Int32))) h.1) hE (rmD_ok (by omega) (by decide)) rfl (Nat.le_of_ble_eq_true rfl) rfl d_M_wanted_173 (x_rI (fun x u1 h9 => ?_))
      obtain ⟨rfl, rfl⟩ := h9
      have h := h.2
      refine x_bipush (v := 41) d_M_wanted_176 (by decide) ?_
      refine x_icmp_ne (tgt := 193) d_M_wanted_178 rfl (fun hc => ?_) (fun hc => ?_)
      · have h := h.1 hc
        refine x_aload_n (x := o) d_M_wanted_193 rfl ?_
        refine x_bipush (v := 9) d_M_wanted_194 (by decide) ?_
        refine x_iconst (v := 0) d_M_wanted_196 (by decide) ?_
        refine x_iconst (v := 0) d_M_wanted_197 (by decide) ?_
        refine x_iconst (v := 0) d_M_wanted_198 (by decide) ?_
        refine x_callV (st := []) k_M_192 rfl (eM_o _ _ _ _) x_id (c_M_push l D cs Ev hE o a (d + 2) _ (9 : Int32) (0 : Int32) (0 : Int32) (0 : Int32) (sI (sI u26 9 x5) 9 (x5 + (1 : Int32))) h) hE (rmD_ok (by omega) (by decide)) rfl (Nat.le_of_ble_eq_true rfl) rfl d_M_wanted_199 (x_rV (fun u27 h => ?_))
        refine x_iconst (v := 0) d_M_wanted_202 (by decide) ?_
        refine x_iret d_M_wanted_203 ⟨_, rfl, ?_⟩
        exact h
      · have h := h.2 hc
        refine x_aload_n (x := o) d_M_wanted_181 rfl ?_
        refine x_dup d_M_wanted_182 rfl ?_
        refine x_get (v := .int (x5 + (1 : Int32))) f_M_126 (eM_o _ _ _ _) rfl d_M_wanted_183 ?_
        refine x_iconst (v := 1) d_M_wanted_186 (by decide) ?_
        refine x_iadd d_M_wanted_187 ?_
        refine x_put f_M_126 fw_M_9 (eM_o _ _ _ _) rfl rfl (Nat.le_of_ble_eq_true rfl) (sM_9 _ _ _ _ _) d_M_wanted_188 ?_
        refine x_iconst (v := 1) d_M_wanted_191 (by decide) ?_
        refine x_iret d_M_wanted_192 ⟨_, rfl, ?_⟩
        exact h
    · have h := h.2 hc
      refine x_iconst (v := (-1)) d_M_wanted_156 (by decide) ?_
      refine x_iret d_M_wanted_157 ⟨_, rfl, ?_⟩
      exact h
  · have h := h.2 hc
    refine x_iconst (v := 1) d_M_wanted_148 (by decide) ?_
    refine x_iret d_M_wanted_149 ⟨_, rfl, ?_⟩
    exact h
def P_M_wanted_107 (post : Int32 → MS → Prop) (x2 : Int32) (x5 : Int32) (x6 : Int32) (s0 : Int32) (s1 : Int32) (s2 : Int32) (u : MS) : Prop := P_M_use (fun u23 => ((x6 = 0 → P_M_wanted_123 post x2 x5 x6 0 u23) ∧ (¬ x6 = 0 → P_M_wanted_123 post x2 x5 x6 3 u23))) s2 s1 s0 (0 : Int32) u
set_option maxHeartbeats 600000 in
set_option maxRecDepth 100000 in
theorem w_M_wanted_107 (l : Launch) (D : va_G) (cs : Nat → ClassId) (Ev : (Nat → Prop) → State → Prop) (hE : xEok Ev) (o : Nat) (a : Nat → Nat) (d : Nat) (post : Int32 → MS → Prop) (x2 : Int32) (x5 : Int32) (x6 : Int32) (s0 : Int32) (s1 : Int32) (s2 : Int32) (u : MS) (h : P_M_wanted_107 post  x2 x5 x6 s0 s1 s2 u) : RR l D clX (tysX cs) Ev "DeckFrontModel" b_M_wanted 9 w_M_wanted (rmD (d + 3)) (some .int) (wdM o a cs) (pI post) 0 0 0 0 107 [(0, .ref o), (2, .int x2), (5, .int x5), (6, .int x6)] [.int s0, .int s1, .int s2, .ref o] u := by
  unfold P_M_wanted_107 at h
  refine x_iconst (v := 0) d_M_wanted_107 (by decide) ?_
  refine x_callV (st := []) k_M_144 rfl (eM_o _ _ _ _) x_id (c_M_use l D cs Ev hE o a (d + 2) _ s2 s1 s0 (0 : Int32) u h) hE (rmD_ok (by omega) (by decide)) rfl (Nat.le_of_ble_eq_true rfl) rfl d_M_wanted_108 (x_rV (fun u23 h => ?_))
  refine x_aload_n (x := o) d_M_wanted_111 rfl ?_
  refine x_aload_n (x := o) d_M_wanted_112 rfl ?_
  refine x_iload (x := x6) d_M_wanted_113 rfl ?_
  refine x_if_eq (tgt := 122) d_M_wanted_115 rfl (fun hc => ?_) (fun hc => ?_)
  · have h := h.1 hc
    refine x_iconst (v := 0) d_M_wanted_122 (by decide) ?_
    exact w_M_wanted_123 l D cs Ev hE o a d post  x2 x5 x6 0 u23 h
  · have h := h.2 hc
    refine x_iconst (v := 3) d_M_wanted_118 (by decide) ?_
    refine x_goto (tgt := 123) d_M_wanted_119 rfl ?_
    exact w_M_wanted_123 l D cs Ev hE o a d post  x2 x5 x6 3 u23 h
def P_M_wanted_88 (post : Int32 → MS → Prop) (x2 : Int32) (x5 : Int32) (s0 : Int32) (u : MS) : Prop := ((s0 = 0 → P_M_wanted_107 post x2 x5 s0 4 x5 (gI u 9) u) ∧ (¬ s0 = 0 → P_M_wanted_107 post x2 x5 s0 3 x5 (gI u 9) u))
set_option maxHeartbeats 600000 in
set_option maxRecDepth 100000 in
theorem w_M_wanted_88 (l : Launch) (D : va_G) (cs : Nat → ClassId) (Ev : (Nat → Prop) → State → Prop) (hE : xEok Ev) (o : Nat) (a : Nat → Nat) (d : Nat) (post : Int32 → MS → Prop) (x2 : Int32) (x5 : Int32) (s0 : Int32) (u : MS) (h : P_M_wanted_88 post  x2 x5 s0 u) : RR l D clX (tysX cs) Ev "DeckFrontModel" b_M_wanted 9 w_M_wanted (rmD (d + 3)) (some .int) (wdM o a cs) (pI post) 0 0 0 0 88 [(0, .ref o), (2, .int x2), (5, .int x5)] [.int s0] u := by
  unfold P_M_wanted_88 at h
  refine x_istore (lv' := [(6, .int s0), (0, .ref o), (2, .int x2), (5, .int x5)]) d_M_wanted_88 (by decide) rfl ?_
  refine x_aload_n (x := o) d_M_wanted_90 rfl ?_
  refine x_aload_n (x := o) d_M_wanted_91 rfl ?_
  refine x_get (v := .int (gI u 9)) f_M_126 (eM_o _ _ _ _) rfl d_M_wanted_92 ?_
  refine x_iload (x := x5) d_M_wanted_95 rfl ?_
  refine x_iload (x := s0) d_M_wanted_97 rfl ?_
  refine x_if_eq (tgt := 106) d_M_wanted_99 rfl (fun hc => ?_) (fun hc => ?_)
  · have h := h.1 hc
    refine x_iconst (v := 4) d_M_wanted_106 (by decide) ?_
    refine x_sub [1, 2, 3, 0] rfl ?_
    exact w_M_wanted_107 l D cs Ev hE o a d post  x2 x5 s0 4 x5 (gI u 9) u h
  · have h := h.2 hc
    refine x_iconst (v := 3) d_M_wanted_102 (by decide) ?_
    refine x_goto (tgt := 107) d_M_wanted_103 rfl ?_
    refine x_sub [1, 2, 3, 0] rfl ?_
    exact w_M_wanted_107 l D cs Ev hE o a d post  x2 x5 s0 3 x5 (gI u 9) u h
def P_M_wanted (post : Int32 → MS → Prop) (a0 : Int32) (a1 : Int32) (u : MS) : Prop := (qAt u (gI u 9) ∧ (∀ v1, v1 = (vAt u (gI u 9)) → P_M_numberEnd (fun r3 u2 => P_M_nameEnd (fun r5 u4 => ((r3 ≤ (gI u4 9) → ((r5 ≤ (gI u4 9) → ((¬ v1 = 39 → ((¬ v1 = 40 → P_M_dots (fun r7 u6 => ((¬ r7 = 20 → ((¬ r7 = 3 → ((v1 = 43 → P_M_wanted_407 post a0 r7 u6) ∧ (¬ v1 = 43 → ((¬ v1 = 45 → P_M_wanted_415 post r7 u6) ∧ (v1 = 45 → P_M_wanted_407 post a0 r7 u6))))) ∧ (r7 = 3 → ((¬ a0 = 2 → P_M_wanted_416 post r7 0 u6) ∧ (a0 = 2 → P_M_wanted_416 post r7 1 u6))))) ∧ (r7 = 20 → P_M_dotted (fun r12 u11 => P_M_part (fun r14 u13 => P_M_value (fun u15 => P_M_dotted (fun r17 u16 => post 1 (sI u16 9 r17)) (gI u15 9) u15) r14 u13) (0 : Int32) (gI u6 9) r12 (-1 : Int32) (-1 : Int32) u11) (gI u6 9) u6))) (gI u4 9) u4) ∧ (v1 = 40 → P_M_push (fun u18 => ((¬ a1 = 8 → post 0 u18) ∧ (a1 = 8 → post (-1) u18))) (8 : Int32) (0 : Int32) (0 : Int32) (0 : Int32) (sI u4 9 ((gI u4 9) + (1 : Int32)))))) ∧ (v1 = 39 → (∀ v19, v19 = ((gI u4 9) + (1 : Int32)) → (∃ g, P_M_wanted_218 post g v19 u4))))) ∧ (¬ r5 ≤ (gI u4 9) → (qAt u4 r5 ∧ ((¬ (vAt u4 r5) = 40 → P_M_wanted_88 post a1 r5 0 u4) ∧ ((vAt u4 r5) = 40 → P_M_wanted_88 post a1 r5 1 u4)))))) ∧ (¬ r3 ≤ (gI u4 9) → P_M_part (fun r29 u28 => P_M_value (fun u30 => post 1 (sI u30 9 r3)) r29 u28) (0 : Int32) (gI u4 9) r3 (-1 : Int32) (-1 : Int32) u4))) (gI u2 9) u2) (gI u 9) u))
set_option maxHeartbeats 600000 in
set_option maxRecDepth 100000 in
theorem c_M_wanted (l : Launch) (D : va_G) (cs : Nat → ClassId) (Ev : (Nat → Prop) → State → Prop) (hE : xEok Ev) (o : Nat) (a : Nat → Nat) (d : Nat) (post : Int32 → MS → Prop) (a0 : Int32) (a1 : Int32) (u : MS) (h : P_M_wanted post a0 a1 u) : xC l D clX (tysX cs) Ev y_M_wanted w_M_wanted (rmD (d + 3)) (wdM o a cs) [.ref o, .int a0, .int a1] u (pI post) 0 0 := by
  unfold P_M_wanted at h
  refine xC.of (cc := b_M_wanted) (nL := 9) (ret := (some .int)) (by decide) rfl (Nat.le_of_ble_eq_true rfl) ?_
  show RR l D clX (tysX cs) Ev "DeckFrontModel" b_M_wanted 9 w_M_wanted (rmD (d + 3)) (some .int) (wdM o a cs) (pI post) 0 0 0 0 0 [(0, .ref o), (1, .int a0), (2, .int a1)] [] u
  refine x_aload_n (x := o) d_M_wanted_0 rfl ?_
  refine x_aload_n (x := o) d_M_wanted_1 rfl ?_
  refine x_get (v := .int (gI u 9)) f_M_126 (eM_o _ _ _ _) rfl d_M_wanted_2 ?_
  refine x_callV (st := []) k_M_129 rfl (eM_o _ _ _ _) x_id (cf_M_at l D cs Ev hE o a (d + 2) (gI u 9) u h.1) hE (rmD_ok (by omega) (by decide)) rfl (Nat.le_of_ble_eq_true rfl) rfl d_M_wanted_5 (x_rI (fun x u1 h9 => ?_))
  obtain ⟨rfl, rfl⟩ := h9
  have h := h.2
  refine x_topI (fun v1 ev1 => ?_)
  have h := h v1 ev1
  refine x_istore_n (lv' := [(3, .int v1), (0, .ref o), (1, .int a0), (2, .int a1)]) d_M_wanted_8 (by decide) rfl ?_
  refine x_aload_n (x := o) d_M_wanted_9 rfl ?_
  refine x_aload_n (x := o) d_M_wanted_10 rfl ?_
  refine x_get (v := .int (gI u 9)) f_M_126 (eM_o _ _ _ _) rfl d_M_wanted_11 ?_
  refine x_callV (st := []) k_M_189 rfl (eM_o _ _ _ _) x_id (c_M_numberEnd l D cs Ev hE o a (d + 0) _ (gI u 9) u h) hE (rmD_ok (by omega) (by decide)) rfl (Nat.le_of_ble_eq_true rfl) rfl d_M_wanted_14 (x_rI (fun r3 u2 h => ?_))
  refine x_istore (lv' := [(4, .int r3), (3, .int v1), (0, .ref o), (1, .int a0), (2, .int a1)]) d_M_wanted_17 (by decide) rfl ?_
  refine x_aload_n (x := o) d_M_wanted_19 rfl ?_
  refine x_aload_n (x := o) d_M_wanted_20 rfl ?_
  refine x_get (v := .int (gI u2 9)) f_M_126 (eM_o _ _ _ _) rfl d_M_wanted_21 ?_
  refine x_callV (st := []) k_M_141 rfl (eM_o _ _ _ _) x_id (c_M_nameEnd l D cs Ev hE o a (d + 1) _ (gI u2 9) u2 h) hE (rmD_ok (by omega) (by decide)) rfl (Nat.le_of_ble_eq_true rfl) rfl d_M_wanted_24 (x_rI (fun r5 u4 h => ?_))
  refine x_istore (lv' := [(5, .int r5), (4, .int r3), (3, .int v1), (0, .ref o), (1, .int a0), (2, .int a1)]) d_M_wanted_27 (by decide) rfl ?_
  refine x_iload (x := r3) d_M_wanted_29 rfl ?_
  refine x_aload_n (x := o) d_M_wanted_31 rfl ?_
  refine x_get (v := .int (gI u4 9)) f_M_126 (eM_o _ _ _ _) rfl d_M_wanted_32 ?_
  refine x_icmp_le (tgt := 63) d_M_wanted_35 rfl (fun hc => ?_) (fun hc => ?_)
  · have h := h.1 hc
    refine x_iload (x := r5) d_M_wanted_63 rfl ?_
    refine x_aload_n (x := o) d_M_wanted_65 rfl ?_
    refine x_get (v := .int (gI u4 9)) f_M_126 (eM_o _ _ _ _) rfl d_M_wanted_66 ?_
    refine x_icmp_le (tgt := 204) d_M_wanted_69 rfl (fun hc => ?_) (fun hc => ?_)
    · have h := h.1 hc
      refine x_iload_n (x := v1) d_M_wanted_204 rfl ?_
      refine x_bipush (v := 39) d_M_wanted_205 (by decide) ?_
      refine x_icmp_ne (tgt := 285) d_M_wanted_207 rfl (fun hc => ?_) (fun hc => ?_)
      · have h := h.1 hc
        refine x_iload_n (x := v1) d_M_wanted_285 rfl ?_
        refine x_bipush (v := 40) d_M_wanted_286 (by decide) ?_
        refine x_icmp_ne (tgt := 322) d_M_wanted_288 rfl (fun hc => ?_) (fun hc => ?_)
        · have h := h.1 hc
          refine x_aload_n (x := o) d_M_wanted_322 rfl ?_
          refine x_aload_n (x := o) d_M_wanted_323 rfl ?_
          refine x_get (v := .int (gI u4 9)) f_M_126 (eM_o _ _ _ _) rfl d_M_wanted_324 ?_
          refine x_callV (st := []) k_M_170 rfl (eM_o _ _ _ _) x_id (c_M_dots l D cs Ev hE o a (d + 1) _ (gI u4 9) u4 h) hE (rmD_ok (by omega) (by decide)) rfl (Nat.le_of_ble_eq_true rfl) rfl d_M_wanted_327 (x_rI (fun r7 u6 h => ?_))
          refine x_istore (lv' := [(6, .int r7), (5, .int r5), (4, .int r3), (3, .int v1), (0, .ref o), (1, .int a0), (2, .int a1)]) d_M_wanted_330 (by decide) rfl ?_
          refine x_iload (x := r7) d_M_wanted_332 rfl ?_
          refine x_bipush (v := 20) d_M_wanted_334 (by decide) ?_
          refine x_icmp_ne (tgt := 376) d_M_wanted_336 rfl (fun hc => ?_) (fun hc => ?_)
          · have h := h.1 hc
            refine x_iload (x := r7) d_M_wanted_376 rfl ?_
            refine x_iconst (v := 3) d_M_wanted_378 (by decide) ?_
            refine x_icmp_ne (tgt := 395) d_M_wanted_379 rfl (fun hc => ?_) (fun hc => ?_)
            · have h := h.1 hc
              refine x_iload_n (x := v1) d_M_wanted_395 rfl ?_
              refine x_bipush (v := 43) d_M_wanted_396 (by decide) ?_
              refine x_icmp_eq (tgt := 407) d_M_wanted_398 rfl (fun hc => ?_) (fun hc => ?_)
              · have h := h.1 hc
                refine x_sub [4, 5, 0] rfl ?_
                exact w_M_wanted_407 l D cs Ev hE o a d post  a0 r7 u6 h
              · have h := h.2 hc
                refine x_iload_n (x := v1) d_M_wanted_401 rfl ?_
                refine x_bipush (v := 45) d_M_wanted_402 (by decide) ?_
                refine x_icmp_ne (tgt := 415) d_M_wanted_404 rfl (fun hc => ?_) (fun hc => ?_)
                · have h := h.1 hc
                  refine x_sub [4, 0] rfl ?_
                  exact w_M_wanted_415 l D cs Ev hE o a d post  r7 u6 h
                · have h := h.2 hc
                  refine x_sub [4, 5, 0] rfl ?_
                  exact w_M_wanted_407 l D cs Ev hE o a d post  a0 r7 u6 h
            · have h := h.2 hc
              refine x_iload_n (x := a0) d_M_wanted_382 rfl ?_
              refine x_iconst (v := 2) d_M_wanted_383 (by decide) ?_
              refine x_icmp_ne (tgt := 391) d_M_wanted_384 rfl (fun hc => ?_) (fun hc => ?_)
              · have h := h.1 hc
                refine x_iconst (v := 0) d_M_wanted_391 (by decide) ?_
                refine x_goto (tgt := 416) d_M_wanted_392 rfl ?_
                refine x_sub [4, 0] rfl ?_
                exact w_M_wanted_416 l D cs Ev hE o a d post  r7 0 u6 h
              · have h := h.2 hc
                refine x_iconst (v := 1) d_M_wanted_387 (by decide) ?_
                refine x_goto (tgt := 416) d_M_wanted_388 rfl ?_
                refine x_sub [4, 0] rfl ?_
                exact w_M_wanted_416 l D cs Ev hE o a d post  r7 1 u6 h
          · have h := h.2 hc
            refine x_aload_n (x := o) d_M_wanted_339 rfl ?_
            refine x_aload_n (x := o) d_M_wanted_340 rfl ?_
            refine x_iconst (v := 0) d_M_wanted_341 (by decide) ?_
            refine x_aload_n (x := o) d_M_wanted_342 rfl ?_
            refine x_get (v := .int (gI u6 9)) f_M_126 (eM_o _ _ _ _) rfl d_M_wanted_343 ?_
            refine x_aload_n (x := o) d_M_wanted_346 rfl ?_
            refine x_aload_n (x := o) d_M_wanted_347 rfl ?_
            refine x_get (v := .int (gI u6 9)) f_M_126 (eM_o _ _ _ _) rfl d_M_wanted_348 ?_
            refine x_callV (st := [.int (gI u6 9), .int 0, .ref o, .ref o]) k_M_196 rfl (eM_o _ _ _ _) x_id (c_M_dotted l D cs Ev hE o a (d + 1) _ (gI u6 9) u6 h) hE (rmD_ok (by omega) (by decide)) rfl (Nat.le_of_ble_eq_true rfl) rfl d_M_wanted_351 (x_rI (fun r12 u11 h => ?_))
            refine x_iconst (v := (-1)) d_M_wanted_354 (by decide) ?_
            refine x_iconst (v := (-1)) d_M_wanted_355 (by decide) ?_
            refine x_callV (st := [.ref o]) k_M_182 rfl (eM_o _ _ _ _) x_id (c_M_part l D cs Ev hE o a (d + 2) _ (0 : Int32) (gI u6 9) r12 (-1 : Int32) (-1 : Int32) u11 h) hE (rmD_ok (by omega) (by decide)) rfl (Nat.le_of_ble_eq_true rfl) rfl d_M_wanted_356 (x_rI (fun r14 u13 h => ?_))
            refine x_callV (st := []) k_M_186 rfl (eM_o _ _ _ _) x_id (c_M_value l D cs Ev hE o a (d + 2) _ r14 u13 h) hE (rmD_ok (by omega) (by decide)) rfl (Nat.le_of_ble_eq_true rfl) rfl d_M_wanted_359 (x_rV (fun u15 h => ?_))
            refine x_aload_n (x := o) d_M_wanted_362 rfl ?_
            refine x_aload_n (x := o) d_M_wanted_363 rfl ?_
            refine x_aload_n (x := o) d_M_wanted_364 rfl ?_
            refine x_get (v := .int (gI u15 9)) f_M_126 (eM_o _ _ _ _) rfl d_M_wanted_365 ?_
            refine x_callV (st := [.ref o]) k_M_196 rfl (eM_o _ _ _ _) x_id (c_M_dotted l D cs Ev hE o a (d + 1) _ (gI u15 9) u15 h) hE (rmD_ok (by omega) (by decide)) rfl (Nat.le_of_ble_eq_true rfl) rfl d_M_wanted_368 (x_rI (fun r17 u16 h => ?_))
            refine x_put f_M_126 fw_M_9 (eM_o _ _ _ _) rfl rfl (Nat.le_of_ble_eq_true rfl) (sM_9 _ _ _ _ _) d_M_wanted_371 ?_
            refine x_iconst (v := 1) d_M_wanted_374 (by decide) ?_
            refine x_iret d_M_wanted_375 ⟨_, rfl, ?_⟩
            exact h
        · have h := h.2 hc
          refine x_aload_n (x := o) d_M_wanted_291 rfl ?_
          refine x_dup d_M_wanted_292 rfl ?_
          refine x_get (v := .int (gI u4 9)) f_M_126 (eM_o _ _ _ _) rfl d_M_wanted_293 ?_
          refine x_iconst (v := 1) d_M_wanted_296 (by decide) ?_
          refine x_iadd d_M_wanted_297 ?_
          refine x_put f_M_126 fw_M_9 (eM_o _ _ _ _) rfl rfl (Nat.le_of_ble_eq_true rfl) (sM_9 _ _ _ _ _) d_M_wanted_298 ?_
          refine x_aload_n (x := o) d_M_wanted_301 rfl ?_
          refine x_bipush (v := 8) d_M_wanted_302 (by decide) ?_
          refine x_iconst (v := 0) d_M_wanted_304 (by decide) ?_
          refine x_iconst (v := 0) d_M_wanted_305 (by decide) ?_
          refine x_iconst (v := 0) d_M_wanted_306 (by decide) ?_
          refine x_callV (st := []) k_M_192 rfl (eM_o _ _ _ _) x_id (c_M_push l D cs Ev hE o a (d + 2) _ (8 : Int32) (0 : Int32) (0 : Int32) (0 : Int32) (sI u4 9 ((gI u4 9) + (1 : Int32))) h) hE (rmD_ok (by omega) (by decide)) rfl (Nat.le_of_ble_eq_true rfl) rfl d_M_wanted_307 (x_rV (fun u18 h => ?_))
          refine x_iload_n (x := a1) d_M_wanted_310 rfl ?_
          refine x_bipush (v := 8) d_M_wanted_311 (by decide) ?_
          refine x_icmp_ne (tgt := 320) d_M_wanted_313 rfl (fun hc => ?_) (fun hc => ?_)
          · have h := h.1 hc
            refine x_iconst (v := 0) d_M_wanted_320 (by decide) ?_
            refine x_iret d_M_wanted_321 ⟨_, rfl, ?_⟩
            exact h
          · have h := h.2 hc
            refine x_iconst (v := (-1)) d_M_wanted_316 (by decide) ?_
            refine x_goto (tgt := 321) d_M_wanted_317 rfl ?_
            refine x_iret d_M_wanted_321 ⟨_, rfl, ?_⟩
            exact h
      · have h := h.2 hc
        refine x_aload_n (x := o) d_M_wanted_210 rfl ?_
        refine x_get (v := .int (gI u4 9)) f_M_126 (eM_o _ _ _ _) rfl d_M_wanted_211 ?_
        refine x_iconst (v := 1) d_M_wanted_214 (by decide) ?_
        refine x_iadd d_M_wanted_215 ?_
        refine x_topI (fun v19 ev19 => ?_)
        have h := h v19 ev19
        refine x_istore (lv' := [(6, .int v19), (5, .int r5), (4, .int r3), (3, .int v1), (0, .ref o), (1, .int a0), (2, .int a1)]) d_M_wanted_216 (by decide) rfl ?_
        refine x_sub [4, 0] rfl ?_
        obtain ⟨f9, h⟩ := h
        exact w_M_wanted_218 l D cs Ev hE o a d post  f9 v19 u4 h
    · have h := h.2 hc
      refine x_aload_n (x := o) d_M_wanted_72 rfl ?_
      refine x_iload (x := r5) d_M_wanted_73 rfl ?_
      refine x_callV (st := []) k_M_129 rfl (eM_o _ _ _ _) x_id (cf_M_at l D cs Ev hE o a (d + 2) r5 u4 h.1) hE (rmD_ok (by omega) (by decide)) rfl (Nat.le_of_ble_eq_true rfl) rfl d_M_wanted_75 (x_rI (fun x u1 h9 => ?_))
      obtain ⟨rfl, rfl⟩ := h9
      have h := h.2
      refine x_bipush (v := 40) d_M_wanted_78 (by decide) ?_
      refine x_icmp_ne (tgt := 87) d_M_wanted_80 rfl (fun hc => ?_) (fun hc => ?_)
      · have h := h.1 hc
        refine x_iconst (v := 0) d_M_wanted_87 (by decide) ?_
        refine x_sub [3, 5, 0] rfl ?_
        exact w_M_wanted_88 l D cs Ev hE o a d post  a1 r5 0 u4 h
      · have h := h.2 hc
        refine x_iconst (v := 1) d_M_wanted_83 (by decide) ?_
        refine x_goto (tgt := 88) d_M_wanted_84 rfl ?_
        refine x_sub [3, 5, 0] rfl ?_
        exact w_M_wanted_88 l D cs Ev hE o a d post  a1 r5 1 u4 h
  · have h := h.2 hc
    refine x_aload_n (x := o) d_M_wanted_38 rfl ?_
    refine x_aload_n (x := o) d_M_wanted_39 rfl ?_
    refine x_iconst (v := 0) d_M_wanted_40 (by decide) ?_
    refine x_aload_n (x := o) d_M_wanted_41 rfl ?_
    refine x_get (v := .int (gI u4 9)) f_M_126 (eM_o _ _ _ _) rfl d_M_wanted_42 ?_
    refine x_iload (x := r3) d_M_wanted_45 rfl ?_
    refine x_iconst (v := (-1)) d_M_wanted_47 (by decide) ?_
    refine x_iconst (v := (-1)) d_M_wanted_48 (by decide) ?_
    refine x_callV (st := [.ref o]) k_M_182 rfl (eM_o _ _ _ _) x_id (c_M_part l D cs Ev hE o a (d + 2) _ (0 : Int32) (gI u4 9) r3 (-1 : Int32) (-1 : Int32) u4 h) hE (rmD_ok (by omega) (by decide)) rfl (Nat.le_of_ble_eq_true rfl) rfl d_M_wanted_49 (x_rI (fun r29 u28 h => ?_))
    refine x_callV (st := []) k_M_186 rfl (eM_o _ _ _ _) x_id (c_M_value l D cs Ev hE o a (d + 2) _ r29 u28 h) hE (rmD_ok (by omega) (by decide)) rfl (Nat.le_of_ble_eq_true rfl) rfl d_M_wanted_52 (x_rV (fun u30 h => ?_))
    refine x_aload_n (x := o) d_M_wanted_55 rfl ?_
    refine x_iload (x := r3) d_M_wanted_56 rfl ?_
    refine x_put f_M_126 fw_M_9 (eM_o _ _ _ _) rfl rfl (Nat.le_of_ble_eq_true rfl) (sM_9 _ _ _ _ _) d_M_wanted_58 ?_
    refine x_iconst (v := 1) d_M_wanted_61 (by decide) ?_
    refine x_iret d_M_wanted_62 ⟨_, rfl, ?_⟩
    exact h
