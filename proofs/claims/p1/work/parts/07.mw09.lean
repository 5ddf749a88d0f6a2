def P_M_isType_86 (post : Int32 → MS → Prop) (x2 : Int32) (u : MS) : Prop := ((x2 = 0 → post 0 u) ∧ (¬ x2 = 0 → ((¬ (gI u 9) = (gI u 8) → post 0 u) ∧ ((gI u 9) = (gI u 8) → post 1 u))))
set_option maxHeartbeats 600000 in
set_option maxRecDepth 100000 in
theorem w_M_isType_86 (l : Launch) (D : va_G) (cs : Nat → ClassId) (Ev : (Nat → Prop) → State → Prop) (hE : xEok Ev) (o : Nat) (a : Nat → Nat) (d : Nat) (post : Int32 → MS → Prop) (x2 : Int32) (u : MS) (h : P_M_isType_86 post  x2 u) : RR l D clX (tysX cs) Ev "DeckFrontModel" b_M_isType 3 w_M_isType (rmD (d + 3)) (some .boolean) (wdM o a cs) (pI post) 0 0 0 0 86 [(0, .ref o), (2, .int x2)] [] u := by
  unfold P_M_isType_86 at h
  refine x_iload_n (x := x2) d_M_isType_86 rfl ?_
  refine x_if_eq (tgt := 105) d_M_isType_87 rfl (fun hc => ?_) (fun hc => ?_)
  · have h := h.1 hc
    refine x_iconst (v := 0) d_M_isType_105 (by decide) ?_
    refine x_zret rfl d_M_isType_106 ⟨_, rfl, ?_⟩
    exact h
  · have h := h.2 hc
    refine x_aload_n (x := o) d_M_isType_90 rfl ?_
    refine x_get (v := .int (gI u 9)) f_M_126 (eM_o _ _ _ _) rfl d_M_isType_91 ?_
    refine x_aload_n (x := o) d_M_isType_94 rfl ?_
    refine x_get (v := .int (gI u 8)) f_M_116 (eM_o _ _ _ _) rfl d_M_isType_95 ?_
    refine x_icmp_ne (tgt := 105) d_M_isType_98 rfl (fun hc => ?_) (fun hc => ?_)
    · have h := h.1 hc
      refine x_iconst (v := 0) d_M_isType_105 (by decide) ?_
      refine x_zret rfl d_M_isType_106 ⟨_, rfl, ?_⟩
      exact h
    · have h := h.2 hc
      refine x_iconst (v := 1) d_M_isType_101 (by decide) ?_
      refine x_goto (tgt := 106) d_M_isType_102 rfl ?_
      refine x_zret rfl d_M_isType_106 ⟨_, rfl, ?_⟩
      exact h
def P_M_isType_63 (post : Int32 → MS → Prop) : Nat → Int32 → Int32 → MS → Prop
  | 0, _, _, _ => False
  | f + 1, x1, x2, u => ((x2 = 0 → P_M_isType_86 post x2 u) ∧ (¬ x2 = 0 → P_M_sign (fun r8 u7 => ((r8 = 0 → P_M_isType_86 post x2 u7) ∧ (¬ r8 = 0 → P_M_name (fun r10 u9 => P_M_isType_63 post f x1 r10 u9) (4 : Int32) x1 u7))) (44 : Int32) u))
set_option maxHeartbeats 600000 in
set_option maxRecDepth 100000 in
theorem w_M_isType_63 (l : Launch) (D : va_G) (cs : Nat → ClassId) (Ev : (Nat → Prop) → State → Prop) (hE : xEok Ev) (o : Nat) (a : Nat → Nat) (d : Nat) (post : Int32 → MS → Prop) : ∀ (f : Nat) (x1 : Int32) (x2 : Int32) (u : MS), P_M_isType_63 post  f x1 x2 u → RR l D clX (tysX cs) Ev "DeckFrontModel" b_M_isType 3 w_M_isType (rmD (d + 3)) (some .boolean) (wdM o a cs) (pI post) 0 0 0 0 63 [(0, .ref o), (1, .int x1), (2, .int x2)] [] u := by
  intro f
  induction f with
  | zero => intro x1 x2 u h; exact h.elim
  | succ f ih =>
    intro x1 x2 u h
    unfold P_M_isType_63 at h
    refine x_iload_n (x := x2) d_M_isType_63 rfl ?_
    refine x_if_eq (tgt := 86) d_M_isType_64 rfl (fun hc => ?_) (fun hc => ?_)
    · have h := h.1 hc
      refine x_sub [0, 2] rfl ?_
      exact w_M_isType_86 l D cs Ev hE o a d post  x2 u h
    · have h := h.2 hc
      refine x_aload_n (x := o) d_M_isType_67 rfl ?_
      refine x_bipush (v := 44) d_M_isType_68 (by decide) ?_
      refine x_callV (st := []) k_M_226 rfl (eM_o _ _ _ _) x_id (c_M_sign l D cs Ev hE o a (d + 1) _ (44 : Int32) u h) hE (rmD_ok (by omega) (by decide)) rfl (Nat.le_of_ble_eq_true rfl) rfl d_M_isType_70 (x_rI (fun r8 u7 h => ?_))
      refine x_if_eq (tgt := 86) d_M_isType_73 rfl (fun hc => ?_) (fun hc => ?_)
      · have h := h.1 hc
        refine x_sub [0, 2] rfl ?_
        exact w_M_isType_86 l D cs Ev hE o a d post  x2 u7 h
      · have h := h.2 hc
        refine x_aload_n (x := o) d_M_isType_76 rfl ?_
        refine x_iconst (v := 4) d_M_isType_77 (by decide) ?_
        refine x_iload_n (x := x1) d_M_isType_78 rfl ?_
        refine x_callV (st := []) k_M_222 rfl (eM_o _ _ _ _) x_id (c_M_name l D cs Ev hE o a (d + 0) _ (4 : Int32) x1 u7 h) hE (rmD_ok (by omega) (by decide)) rfl (Nat.le_of_ble_eq_true rfl) rfl d_M_isType_79 (x_rI (fun r10 u9 h => ?_))
        refine x_istore_n (lv' := [(2, .int r10), (0, .ref o), (1, .int x1)]) d_M_isType_82 (by decide) rfl ?_
        refine x_goto (tgt := 63) d_M_isType_83 rfl ?_
        refine x_sub [1, 2, 0] rfl ?_
        exact ih x1 r10 u9 h
def P_M_isType_62 (post : Int32 → MS → Prop) (x1 : Int32) (s0 : Int32) (u : MS) : Prop := (∃ g, P_M_isType_63 post g x1 s0 u)
set_option maxHeartbeats 600000 in
set_option maxRecDepth 100000 in
theorem w_M_isType_62 (l : Launch) (D : va_G) (cs : Nat → ClassId) (Ev : (Nat → Prop) → State → Prop) (hE : xEok Ev) (o : Nat) (a : Nat → Nat) (d : Nat) (post : Int32 → MS → Prop) (x1 : Int32) (s0 : Int32) (u : MS) (h : P_M_isType_62 post  x1 s0 u) : RR l D clX (tysX cs) Ev "DeckFrontModel" b_M_isType 3 w_M_isType (rmD (d + 3)) (some .boolean) (wdM o a cs) (pI post) 0 0 0 0 62 [(0, .ref o), (1, .int x1)] [.int s0] u := by
  unfold P_M_isType_62 at h
  refine x_istore_n (lv' := [(2, .int s0), (0, .ref o), (1, .int x1)]) d_M_isType_62 (by decide) rfl ?_
  refine x_sub [1, 2, 0] rfl ?_
  obtain ⟨f9, h⟩ := h
  exact w_M_isType_63 l D cs Ev hE o a d post  f9 x1 s0 u h
def P_M_isType_61 (post : Int32 → MS → Prop) (x1 : Int32) (u : MS) : Prop := P_M_isType_62 post x1 0 u
set_option maxHeartbeats 600000 in
set_option maxRecDepth 100000 in
theorem w_M_isType_61 (l : Launch) (D : va_G) (cs : Nat → ClassId) (Ev : (Nat → Prop) → State → Prop) (hE : xEok Ev) (o : Nat) (a : Nat → Nat) (d : Nat) (post : Int32 → MS → Prop) (x1 : Int32) (u : MS) (h : P_M_isType_61 post  x1 u) : RR l D clX (tysX cs) Ev "DeckFrontModel" b_M_isType 3 w_M_isType (rmD (d + 3)) (some .boolean) (wdM o a cs) (pI post) 0 0 0 0 61 [(0, .ref o), (1, .int x1)] [] u := by
  unfold P_M_isType_61 at h
  refine x_iconst (v := 0) d_M_isType_61 (by decide) ?_
  exact w_M_isType_62 l D cs Ev hE o a d post  x1 0 u h
def P_M_isType_43 (post : Int32 → MS → Prop) (s0 : Int32) (u : MS) : Prop := ((s0 ≤ 0 → P_M_isType_61 post s0 u) ∧ (¬ s0 ≤ 0 → P_M_name (fun r12 u11 => ((r12 = 0 → P_M_isType_61 post s0 u11) ∧ (¬ r12 = 0 → P_M_isType_62 post s0 1 u11))) (4 : Int32) s0 u))
set_option maxHeartbeats 600000 in
set_option maxRecDepth 100000 in
theorem w_M_isType_43 (l : Launch) (D : va_G) (cs : Nat → ClassId) (Ev : (Nat → Prop) → State → Prop) (hE : xEok Ev) (o : Nat) (a : Nat → Nat) (d : Nat) (post : Int32 → MS → Prop) (s0 : Int32) (u : MS) (h : P_M_isType_43 post  s0 u) : RR l D clX (tysX cs) Ev "DeckFrontModel" b_M_isType 3 w_M_isType (rmD (d + 3)) (some .boolean) (wdM o a cs) (pI post) 0 0 0 0 43 [(0, .ref o)] [.int s0] u := by
  unfold P_M_isType_43 at h
  refine x_istore_n (lv' := [(1, .int s0), (0, .ref o)]) d_M_isType_43 (by decide) rfl ?_
  refine x_iload_n (x := s0) d_M_isType_44 rfl ?_
  refine x_if_le (tgt := 61) d_M_isType_45 rfl (fun hc => ?_) (fun hc => ?_)
  · have h := h.1 hc
    refine x_sub [1, 0] rfl ?_
    exact w_M_isType_61 l D cs Ev hE o a d post  s0 u h
  · have h := h.2 hc
    refine x_aload_n (x := o) d_M_isType_48 rfl ?_
    refine x_iconst (v := 4) d_M_isType_49 (by decide) ?_
    refine x_iload_n (x := s0) d_M_isType_50 rfl ?_
    refine x_callV (st := []) k_M_222 rfl (eM_o _ _ _ _) x_id (c_M_name l D cs Ev hE o a (d + 0) _ (4 : Int32) s0 u h) hE (rmD_ok (by omega) (by decide)) rfl (Nat.le_of_ble_eq_true rfl) rfl d_M_isType_51 (x_rI (fun r12 u11 h => ?_))
    refine x_if_eq (tgt := 61) d_M_isType_54 rfl (fun hc => ?_) (fun hc => ?_)
    · have h := h.1 hc
      refine x_sub [1, 0] rfl ?_
      exact w_M_isType_61 l D cs Ev hE o a d post  s0 u11 h
    · have h := h.2 hc
      refine x_iconst (v := 1) d_M_isType_57 (by decide) ?_
      refine x_goto (tgt := 62) d_M_isType_58 rfl ?_
      refine x_sub [1, 0] rfl ?_
      exact w_M_isType_62 l D cs Ev hE o a d post  s0 1 u11 h
def P_M_isType (post : Int32 → MS → Prop) (u : MS) : Prop := P_M_word (fun r2 u1 => ((r2 = 0 → P_M_word (fun r4 u3 => ((r4 = 0 → P_M_word (fun r6 u5 => ((r6 = 0 → P_M_isType_43 post 0 u5) ∧ (¬ r6 = 0 → P_M_isType_43 post 3 u5))) (21479265820426572 : Int64) u3) ∧ (¬ r4 = 0 → P_M_isType_43 post 2 u3))) (1380270412 : Int64) u1) ∧ (¬ r2 = 0 → P_M_isType_43 post 1 u1))) (20633797146395986 : Int64) u
set_option maxHeartbeats 600000 in
set_option maxRecDepth 100000 in
theorem c_M_isType (l : Launch) (D : va_G) (cs : Nat → ClassId) (Ev : (Nat → Prop) → State → Prop) (hE : xEok Ev) (o : Nat) (a : Nat → Nat) (d : Nat) (post : Int32 → MS → Prop) (u : MS) (h : P_M_isType post  u) : xC l D clX (tysX cs) Ev y_M_isType w_M_isType (rmD (d + 3)) (wdM o a cs) [.ref o] u (pI post) 0 0 := by
  unfold P_M_isType at h
  refine xC.of (cc := b_M_isType) (nL := 3) (ret := (some .boolean)) (by decide) rfl (Nat.le_of_ble_eq_true rfl) ?_
  show RR l D clX (tysX cs) Ev "DeckFrontModel" b_M_isType 3 w_M_isType (rmD (d + 3)) (some .boolean) (wdM o a cs) (pI post) 0 0 0 0 0 [(0, .ref o)] [] u
  refine x_aload_n (x := o) d_M_isType_0 rfl ?_
  refine x_ldc2 (v := 20633797146395986) (cG tw_1082) d_M_isType_1 ?_
  refine x_callV (st := []) k_M_234 rfl (eM_o _ _ _ _) x_id (c_M_word l D cs Ev hE o a (d + 0) _ (20633797146395986 : Int64) u h) hE (rmD_ok (by omega) (by decide)) rfl (Nat.le_of_ble_eq_true rfl) rfl d_M_isType_4 (x_rI (fun r2 u1 h => ?_))
  refine x_if_eq (tgt := 14) d_M_isType_7 rfl (fun hc => ?_) (fun hc => ?_)
  · have h := h.1 hc
    refine x_aload_n (x := o) d_M_isType_14 rfl ?_
    refine x_ldc2 (v := 1380270412) (cG tw_1083) d_M_isType_15 ?_
    refine x_callV (st := []) k_M_234 rfl (eM_o _ _ _ _) x_id (c_M_word l D cs Ev hE o a (d + 0) _ (1380270412 : Int64) u1 h) hE (rmD_ok (by omega) (by decide)) rfl (Nat.le_of_ble_eq_true rfl) rfl d_M_isType_18 (x_rI (fun r4 u3 h => ?_))
    refine x_if_eq (tgt := 28) d_M_isType_21 rfl (fun hc => ?_) (fun hc => ?_)
    · have h := h.1 hc
      refine x_aload_n (x := o) d_M_isType_28 rfl ?_
      refine x_ldc2 (v := 21479265820426572) (cG tw_1084) d_M_isType_29 ?_
      refine x_callV (st := []) k_M_234 rfl (eM_o _ _ _ _) x_id (c_M_word l D cs Ev hE o a (d + 0) _ (21479265820426572 : Int64) u3 h) hE (rmD_ok (by omega) (by decide)) rfl (Nat.le_of_ble_eq_true rfl) rfl d_M_isType_32 (x_rI (fun r6 u5 h => ?_))
      refine x_if_eq (tgt := 42) d_M_isType_35 rfl (fun hc => ?_) (fun hc => ?_)
      · have h := h.1 hc
        refine x_iconst (v := 0) d_M_isType_42 (by decide) ?_
        exact w_M_isType_43 l D cs Ev hE o a d post  0 u5 h
      · have h := h.2 hc
        refine x_iconst (v := 3) d_M_isType_38 (by decide) ?_
        refine x_goto (tgt := 43) d_M_isType_39 rfl ?_
        exact w_M_isType_43 l D cs Ev hE o a d post  3 u5 h
    · have h := h.2 hc
      refine x_iconst (v := 2) d_M_isType_24 (by decide) ?_
      refine x_goto (tgt := 43) d_M_isType_25 rfl ?_
      exact w_M_isType_43 l D cs Ev hE o a d post  2 u3 h
  · have h := h.2 hc
    refine x_iconst (v := 1) d_M_isType_10 (by decide) ?_
    refine x_goto (tgt := 43) d_M_isType_11 rfl ?_
    exact w_M_isType_43 l D cs Ev hE o a d post  1 u1 h
def P_M_isDimension_98 (post : Int32 → MS → Prop) (x1 : Int32) (u : MS) : Prop := ((x1 = 0 → post 0 u) ∧ (¬ x1 = 0 → ((¬ (gI u 9) = (gI u 8) → post 0 u) ∧ ((gI u 9) = (gI u 8) → post 1 u))))
set_option maxHeartbeats 600000 in
set_option maxRecDepth 100000 in
theorem w_M_isDimension_98 (l : Launch) (D : va_G) (cs : Nat → ClassId) (Ev : (Nat → Prop) → State → Prop) (hE : xEok Ev) (o : Nat) (a : Nat → Nat) (d : Nat) (post : Int32 → MS → Prop) (x1 : Int32) (u : MS) (h : P_M_isDimension_98 post  x1 u) : RR l D clX (tysX cs) Ev "DeckFrontModel" b_M_isDimension 3 w_M_isDimension (rmD (d + 3)) (some .boolean) (wdM o a cs) (pI post) 0 0 0 0 98 [(0, .ref o), (1, .int x1)] [] u := by
  unfold P_M_isDimension_98 at h
  refine x_iload_n (x := x1) d_M_isDimension_98 rfl ?_
  refine x_if_eq (tgt := 117) d_M_isDimension_99 rfl (fun hc => ?_) (fun hc => ?_)
  · have h := h.1 hc
    refine x_iconst (v := 0) d_M_isDimension_117 (by decide) ?_
    refine x_zret rfl d_M_isDimension_118 ⟨_, rfl, ?_⟩
    exact h
  · have h := h.2 hc
    refine x_aload_n (x := o) d_M_isDimension_102 rfl ?_
    refine x_get (v := .int (gI u 9)) f_M_126 (eM_o _ _ _ _) rfl d_M_isDimension_103 ?_
    refine x_aload_n (x := o) d_M_isDimension_106 rfl ?_
    refine x_get (v := .int (gI u 8)) f_M_116 (eM_o _ _ _ _) rfl d_M_isDimension_107 ?_
    refine x_icmp_ne (tgt := 117) d_M_isDimension_110 rfl (fun hc => ?_) (fun hc => ?_)
    · have h := h.1 hc
      refine x_iconst (v := 0) d_M_isDimension_117 (by decide) ?_
      refine x_zret rfl d_M_isDimension_118 ⟨_, rfl, ?_⟩
      exact h
    · have h := h.2 hc
      refine x_iconst (v := 1) d_M_isDimension_113 (by decide) ?_
      refine x_goto (tgt := 118) d_M_isDimension_114 rfl ?_
      refine x_zret rfl d_M_isDimension_118 ⟨_, rfl, ?_⟩
      exact h
def P_M_isDimension_94 (post : Int32 → MS → Prop) (K27 : Int32 → Int32 → MS → Prop) (x1 : Int32) (s0 : Int32) (u : MS) : Prop := K27 x1 s0 u
set_option maxHeartbeats 600000 in
set_option maxRecDepth 100000 in
theorem w_M_isDimension_94 (l : Launch) (D : va_G) (cs : Nat → ClassId) (Ev : (Nat → Prop) → State → Prop) (hE : xEok Ev) (o : Nat) (a : Nat → Nat) (d : Nat) (post : Int32 → MS → Prop) (K27 : Int32 → Int32 → MS → Prop) (hK27 : ∀ (x1 : Int32) (x2 : Int32) (u : MS), K27 x1 x2 u → RR l D clX (tysX cs) Ev "DeckFrontModel" b_M_isDimension 3 w_M_isDimension (rmD (d + 3)) (some .boolean) (wdM o a cs) (pI post) 0 0 0 0 27 [(0, .ref o), (1, .int x1), (2, .int x2)] [] u) (x1 : Int32) (s0 : Int32) (u : MS) (h : P_M_isDimension_94 post K27 x1 s0 u) : RR l D clX (tysX cs) Ev "DeckFrontModel" b_M_isDimension 3 w_M_isDimension (rmD (d + 3)) (some .boolean) (wdM o a cs) (pI post) 0 0 0 0 94 [(0, .ref o), (1, .int x1)] [.int s0] u := by
  unfold P_M_isDimension_94 at h
  refine x_istore_n (lv' := [(2, .int s0), (0, .ref o), (1, .int x1)]) d_M_isDimension_94 (by decide) rfl ?_
  refine x_goto (tgt := 27) d_M_isDimension_95 rfl ?_
  refine x_sub [1, 2, 0] rfl ?_
  exact hK27 x1 s0 u h
def P_M_isDimension_93 (post : Int32 → MS → Prop) (K27 : Int32 → Int32 → MS → Prop) (x1 : Int32) (u : MS) : Prop := P_M_isDimension_94 post K27 x1 0 u
set_option maxHeartbeats 600000 in
set_option maxRecDepth 100000 in
theorem w_M_isDimension_93 (l : Launch) (D : va_G) (cs : Nat → ClassId) (Ev : (Nat → Prop) → State → Prop) (hE : xEok Ev) (o : Nat) (a : Nat → Nat) (d : Nat) (post : Int32 → MS → Prop) (K27 : Int32 → Int32 → MS → Prop) (hK27 : ∀ (x1 : Int32) (x2 : Int32) (u : MS), K27 x1 x2 u → RR l D clX (tysX cs) Ev "DeckFrontModel" b_M_isDimension 3 w_M_isDimension (rmD (d + 3)) (some .boolean) (wdM o a cs) (pI post) 0 0 0 0 27 [(0, .ref o), (1, .int x1), (2, .int x2)] [] u) (x1 : Int32) (u : MS) (h : P_M_isDimension_93 post K27 x1 u) : RR l D clX (tysX cs) Ev "DeckFrontModel" b_M_isDimension 3 w_M_isDimension (rmD (d + 3)) (some .boolean) (wdM o a cs) (pI post) 0 0 0 0 93 [(0, .ref o), (1, .int x1)] [] u := by
  unfold P_M_isDimension_93 at h
  refine x_iconst (v := 0) d_M_isDimension_93 (by decide) ?_
  exact w_M_isDimension_94 l D cs Ev hE o a d post K27 hK27 x1 0 u h
def P_M_isDimension_75 (post : Int32 → MS → Prop) (K27 : Int32 → Int32 → MS → Prop) (s0 : Int32) (u : MS) : Prop := ((s0 = 0 → P_M_isDimension_93 post K27 s0 u) ∧ (¬ s0 = 0 → P_M_sign (fun r6 u5 => ((r6 = 0 → P_M_isDimension_93 post K27 s0 u5) ∧ (¬ r6 = 0 → P_M_isDimension_94 post K27 s0 1 u5))) (44 : Int32) u))
set_option maxHeartbeats 600000 in
set_option maxRecDepth 100000 in
theorem w_M_isDimension_75 (l : Launch) (D : va_G) (cs : Nat → ClassId) (Ev : (Nat → Prop) → State → Prop) (hE : xEok Ev) (o : Nat) (a : Nat → Nat) (d : Nat) (post : Int32 → MS → Prop) (K27 : Int32 → Int32 → MS → Prop) (hK27 : ∀ (x1 : Int32) (x2 : Int32) (u : MS), K27 x1 x2 u → RR l D clX (tysX cs) Ev "DeckFrontModel" b_M_isDimension 3 w_M_isDimension (rmD (d + 3)) (some .boolean) (wdM o a cs) (pI post) 0 0 0 0 27 [(0, .ref o), (1, .int x1), (2, .int x2)] [] u) (s0 : Int32) (u : MS) (h : P_M_isDimension_75 post K27 s0 u) : RR l D clX (tysX cs) Ev "DeckFrontModel" b_M_isDimension 3 w_M_isDimension (rmD (d + 3)) (some .boolean) (wdM o a cs) (pI post) 0 0 0 0 75 [(0, .ref o)] [.int s0] u := by
  unfold P_M_isDimension_75 at h
  refine x_istore_n (lv' := [(1, .int s0), (0, .ref o)]) d_M_isDimension_75 (by decide) rfl ?_
  refine x_iload_n (x := s0) d_M_isDimension_76 rfl ?_
  refine x_if_eq (tgt := 93) d_M_isDimension_77 rfl (fun hc => ?_) (fun hc => ?_)
  · have h := h.1 hc
    refine x_sub [1, 0] rfl ?_
    exact w_M_isDimension_93 l D cs Ev hE o a d post K27 hK27 s0 u h
  · have h := h.2 hc
    refine x_aload_n (x := o) d_M_isDimension_80 rfl ?_
    refine x_bipush (v := 44) d_M_isDimension_81 (by decide) ?_
    refine x_callV (st := []) k_M_226 rfl (eM_o _ _ _ _) x_id (c_M_sign l D cs Ev hE o a (d + 1) _ (44 : Int32) u h) hE (rmD_ok (by omega) (by decide)) rfl (Nat.le_of_ble_eq_true rfl) rfl d_M_isDimension_83 (x_rI (fun r6 u5 h => ?_))
    refine x_if_eq (tgt := 93) d_M_isDimension_86 rfl (fun hc => ?_) (fun hc => ?_)
    · have h := h.1 hc
      refine x_sub [1, 0] rfl ?_
      exact w_M_isDimension_93 l D cs Ev hE o a d post K27 hK27 s0 u5 h
    · have h := h.2 hc
      refine x_iconst (v := 1) d_M_isDimension_89 (by decide) ?_
      refine x_goto (tgt := 94) d_M_isDimension_90 rfl ?_
      refine x_sub [1, 0] rfl ?_
      exact w_M_isDimension_94 l D cs Ev hE o a d post K27 hK27 s0 1 u5 h
def P_M_isDimension_74 (post : Int32 → MS → Prop) (K27 : Int32 → Int32 → MS → Prop) (u : MS) : Prop := P_M_isDimension_75 post K27 0 u
set_option maxHeartbeats 600000 in
set_option maxRecDepth 100000 in
theorem w_M_isDimension_74 (l : Launch) (D : va_G) (cs : Nat → ClassId) (Ev : (Nat → Prop) → State → Prop) (hE : xEok Ev) (o : Nat) (a : Nat → Nat) (d : Nat) (post : Int32 → MS → Prop) (K27 : Int32 → Int32 → MS → Prop) (hK27 : ∀ (x1 : Int32) (x2 : Int32) (u : MS), K27 x1 x2 u → RR l D clX (tysX cs) Ev "DeckFrontModel" b_M_isDimension 3 w_M_isDimension (rmD (d + 3)) (some .boolean) (wdM o a cs) (pI post) 0 0 0 0 27 [(0, .ref o), (1, .int x1), (2, .int x2)] [] u) (u : MS) (h : P_M_isDimension_74 post K27  u) : RR l D clX (tysX cs) Ev "DeckFrontModel" b_M_isDimension 3 w_M_isDimension (rmD (d + 3)) (some .boolean) (wdM o a cs) (pI post) 0 0 0 0 74 [(0, .ref o)] [] u := by
  unfold P_M_isDimension_74 at h
  refine x_iconst (v := 0) d_M_isDimension_74 (by decide) ?_
  exact w_M_isDimension_75 l D cs Ev hE o a d post K27 hK27 0 u h
def P_M_isDimension_27 (post : Int32 → MS → Prop) : Nat → Int32 → Int32 → MS → Prop
  | 0, _, _, _ => False
  | f + 1, x1, x2, u => ((x1 = 0 → P_M_isDimension_98 post x1 u) ∧ (¬ x1 = 0 → ((x2 = 0 → P_M_isDimension_98 post x1 u) ∧ (¬ x2 = 0 → P_M_name (fun r4 u3 => ((r4 = 0 → P_M_isDimension_74 post (fun zx1 zx2 zu => P_M_isDimension_27 post f zx1 zx2 zu) u3) ∧ (¬ r4 = 0 → P_M_sign (fun r8 u7 => ((r8 = 0 → P_M_isDimension_74 post (fun zx1 zx2 zu => P_M_isDimension_27 post f zx1 zx2 zu) u7) ∧ (¬ r8 = 0 → P_M_digits (fun r10 u9 => ((r10 < 0 → P_M_isDimension_74 post (fun zx1 zx2 zu => P_M_isDimension_27 post f zx1 zx2 zu) u9) ∧ (¬ r10 < 0 → P_M_sign (fun r12 u11 => ((r12 = 0 → P_M_isDimension_74 post (fun zx1 zx2 zu => P_M_isDimension_27 post f zx1 zx2 zu) u11) ∧ (¬ r12 = 0 → P_M_isDimension_75 post (fun zx1 zx2 zu => P_M_isDimension_27 post f zx1 zx2 zu) 1 u11))) (41 : Int32) u9))) (3 : Int32) u7))) (40 : Int32) u3))) (1 : Int32) (0 : Int32) u))))
set_option maxHeartbeats 600000 in
set_option maxRecDepth 100000 in
theorem w_M_isDimension_27 (l : Launch) (D : va_G) (cs : Nat → ClassId) (Ev : (Nat → Prop) → State → Prop) (hE : xEok Ev) (o : Nat) (a : Nat → Nat) (d : Nat) (post : Int32 → MS → Prop) : ∀ (f : Nat) (x1 : Int32) (x2 : Int32) (u : MS), P_M_isDimension_27 post  f x1 x2 u → RR l D clX (tysX cs) Ev "DeckFrontModel" b_M_isDimension 3 w_M_isDimension (rmD (d + 3)) (some .boolean) (wdM o a cs) (pI post) 0 0 0 0 27 [(0, .ref o), (1, .int x1), (2, .int x2)] [] u := by
  intro f
  induction f with
  | zero => intro x1 x2 u h; exact h.elim
  | succ f ih =>
    intro x1 x2 u h
    unfold P_M_isDimension_27 at h
    refine x_iload_n (x := x1) d_M_isDimension_27 rfl ?_
    refine x_if_eq (tgt := 98) d_M_isDimension_28 rfl (fun hc => ?_) (fun hc => ?_)
    · have h := h.1 hc
      refine x_sub [0, 1] rfl ?_
      exact w_M_isDimension_98 l D cs Ev hE o a d post  x1 u h
    · have h := h.2 hc
      refine x_iload_n (x := x2) d_M_isDimension_31 rfl ?_
      refine x_if_eq (tgt := 98) d_M_isDimension_32 rfl (fun hc => ?_) (fun hc => ?_)
      · have h := h.1 hc
        refine x_sub [0, 1] rfl ?_
        exact w_M_isDimension_98 l D cs Ev hE o a d post  x1 u h
      · have h := h.2 hc
        refine x_aload_n (x := o) d_M_isDimension_35 rfl ?_
        refine x_iconst (v := 1) d_M_isDimension_36 (by decide) ?_
        refine x_iconst (v := 0) d_M_isDimension_37 (by decide) ?_
        refine x_callV (st := []) k_M_222 rfl (eM_o _ _ _ _) x_id (c_M_name l D cs Ev hE o a (d + 0) _ (1 : Int32) (0 : Int32) u h) hE (rmD_ok (by omega) (by decide)) rfl (Nat.le_of_ble_eq_true rfl) rfl d_M_isDimension_38 (x_rI (fun r4 u3 h => ?_))
        refine x_if_eq (tgt := 74) d_M_isDimension_41 rfl (fun hc => ?_) (fun hc => ?_)
        · have h := h.1 hc
          refine x_sub [0] rfl ?_
          exact w_M_isDimension_74 l D cs Ev hE o a d post (fun zx1 zx2 zu => P_M_isDimension_27 post f zx1 zx2 zu) ih u3 h
        · have h := h.2 hc
          refine x_aload_n (x := o) d_M_isDimension_44 rfl ?_
          refine x_bipush (v := 40) d_M_isDimension_45 (by decide) ?_
          refine x_callV (st := []) k_M_226 rfl (eM_o _ _ _ _) x_id (c_M_sign l D cs Ev hE o a (d + 1) _ (40 : Int32) u3 h) hE (rmD_ok (by omega) (by decide)) rfl (Nat.le_of_ble_eq_true rfl) rfl d_M_isDimension_47 (x_rI (fun r8 u7 h => ?_))
          refine x_if_eq (tgt := 74) d_M_isDimension_50 rfl (fun hc => ?_) (fun hc => ?_)
          · have h := h.1 hc
            refine x_sub [0] rfl ?_
            exact w_M_isDimension_74 l D cs Ev hE o a d post (fun zx1 zx2 zu => P_M_isDimension_27 post f zx1 zx2 zu) ih u7 h
          · have h := h.2 hc
            refine x_aload_n (x := o) d_M_isDimension_53 rfl ?_
            refine x_iconst (v := 3) d_M_isDimension_54 (by decide) ?_
            refine x_callV (st := []) k_M_238 rfl (eM_o _ _ _ _) x_id (c_M_digits l D cs Ev hE o a (d + 1) _ (3 : Int32) u7 h) hE (rmD_ok (by omega) (by decide)) rfl (Nat.le_of_ble_eq_true rfl) rfl d_M_isDimension_55 (x_rI (fun r10 u9 h => ?_))
            refine x_if_lt (tgt := 74) d_M_isDimension_58 rfl (fun hc => ?_) (fun hc => ?_)
            · have h := h.1 hc
              refine x_sub [0] rfl ?_
              exact w_M_isDimension_74 l D cs Ev hE o a d post (fun zx1 zx2 zu => P_M_isDimension_27 post f zx1 zx2 zu) ih u9 h
            · have h := h.2 hc
              refine x_aload_n (x := o) d_M_isDimension_61 rfl ?_
              refine x_bipush (v := 41) d_M_isDimension_62 (by decide) ?_
              refine x_callV (st := []) k_M_226 rfl (eM_o _ _ _ _) x_id (c_M_sign l D cs Ev hE o a (d + 1) _ (41 : Int32) u9 h) hE (rmD_ok (by omega) (by decide)) rfl (Nat.le_of_ble_eq_true rfl) rfl d_M_isDimension_64 (x_rI (fun r12 u11 h => ?_))
              refine x_if_eq (tgt := 74) d_M_isDimension_67 rfl (fun hc => ?_) (fun hc => ?_)
              · have h := h.1 hc
                refine x_sub [0] rfl ?_
                exact w_M_isDimension_74 l D cs Ev hE o a d post (fun zx1 zx2 zu => P_M_isDimension_27 post f zx1 zx2 zu) ih u11 h
              · have h := h.2 hc
                refine x_iconst (v := 1) d_M_isDimension_70 (by decide) ?_
                refine x_goto (tgt := 75) d_M_isDimension_71 rfl ?_
                refine x_sub [0] rfl ?_
                exact w_M_isDimension_75 l D cs Ev hE o a d post (fun zx1 zx2 zu => P_M_isDimension_27 post f zx1 zx2 zu) ih 1 u11 h
def P_M_isDimension_24 (post : Int32 → MS → Prop) (s0 : Int32) (u : MS) : Prop := (∃ g, P_M_isDimension_27 post g s0 s0 u)
set_option maxHeartbeats 600000 in
set_option maxRecDepth 100000 in
theorem w_M_isDimension_24 (l : Launch) (D : va_G) (cs : Nat → ClassId) (Ev : (Nat → Prop) → State → Prop) (hE : xEok Ev) (o : Nat) (a : Nat → Nat) (d : Nat) (post : Int32 → MS → Prop) (s0 : Int32) (u : MS) (h : P_M_isDimension_24 post  s0 u) : RR l D clX (tysX cs) Ev "DeckFrontModel" b_M_isDimension 3 w_M_isDimension (rmD (d + 3)) (some .boolean) (wdM o a cs) (pI post) 0 0 0 0 24 [(0, .ref o)] [.int s0] u := by
  unfold P_M_isDimension_24 at h
  refine x_istore_n (lv' := [(1, .int s0), (0, .ref o)]) d_M_isDimension_24 (by decide) rfl ?_
  refine x_iload_n (x := s0) d_M_isDimension_25 rfl ?_
  refine x_istore_n (lv' := [(2, .int s0), (1, .int s0), (0, .ref o)]) d_M_isDimension_26 (by decide) rfl ?_
  refine x_sub [2, 1, 0] rfl ?_
  obtain ⟨f9, h⟩ := h
  exact w_M_isDimension_27 l D cs Ev hE o a d post  f9 s0 s0 u h
def P_M_isDimension_23 (post : Int32 → MS → Prop) (u : MS) : Prop := P_M_isDimension_24 post 0 u
set_option maxHeartbeats 600000 in
set_option maxRecDepth 100000 in
theorem w_M_isDimension_23 (l : Launch) (D : va_G) (cs : Nat → ClassId) (Ev : (Nat → Prop) → State → Prop) (hE : xEok Ev) (o : Nat) (a : Nat → Nat) (d : Nat) (post : Int32 → MS → Prop) (u : MS) (h : P_M_isDimension_23 post   u) : RR l D clX (tysX cs) Ev "DeckFrontModel" b_M_isDimension 3 w_M_isDimension (rmD (d + 3)) (some .boolean) (wdM o a cs) (pI post) 0 0 0 0 23 [(0, .ref o)] [] u := by
  unfold P_M_isDimension_23 at h
  refine x_iconst (v := 0) d_M_isDimension_23 (by decide) ?_
  exact w_M_isDimension_24 l D cs Ev hE o a d post  0 u h
def P_M_isDimension (post : Int32 → MS → Prop) (u : MS) : Prop := P_M_word (fun r2 u1 => ((r2 = 0 → P_M_isDimension_23 post u1) ∧ (¬ r2 = 0 → P_M_sign (fun r14 u13 => ((r14 = 0 → P_M_isDimension_23 post u13) ∧ (¬ r14 = 0 → P_M_isDimension_24 post 1 u13))) (78 : Int32) u1))) (4920549027941140815 : Int64) u
set_option maxHeartbeats 600000 in
set_option maxRecDepth 100000 in
theorem c_M_isDimension (l : Launch) (D : va_G) (cs : Nat → ClassId) (Ev : (Nat → Prop) → State → Prop) (hE : xEok Ev) (o : Nat) (a : Nat → Nat) (d : Nat) (post : Int32 → MS → Prop) (u : MS) (h : P_M_isDimension post  u) : xC l D clX (tysX cs) Ev y_M_isDimension w_M_isDimension (rmD (d + 3)) (wdM o a cs) [.ref o] u (pI post) 0 0 := by
  unfold P_M_isDimension at h
  refine xC.of (cc := b_M_isDimension) (nL := 3) (ret := (some .boolean)) (by decide) rfl (Nat.le_of_ble_eq_true rfl) ?_
  show RR l D clX (tysX cs) Ev "DeckFrontModel" b_M_isDimension 3 w_M_isDimension (rmD (d + 3)) (some .boolean) (wdM o a cs) (pI post) 0 0 0 0 0 [(0, .ref o)] [] u
  refine x_aload_n (x := o) d_M_isDimension_0 rfl ?_
  refine x_ldc2 (v := 4920549027941140815) (cG tw_1089) d_M_isDimension_1 ?_
  refine x_callV (st := []) k_M_234 rfl (eM_o _ _ _ _) x_id (c_M_word l D cs Ev hE o a (d + 0) _ (4920549027941140815 : Int64) u h) hE (rmD_ok (by omega) (by decide)) rfl (Nat.le_of_ble_eq_true rfl) rfl d_M_isDimension_4 (x_rI (fun r2 u1 h => ?_))
  refine x_if_eq (tgt := 23) d_M_isDimension_7 rfl (fun hc => ?_) (fun hc => ?_)
  · have h := h.1 hc
    exact w_M_isDimension_23 l D cs Ev hE o a d post  u1 h
  · have h := h.2 hc
    refine x_aload_n (x := o) d_M_isDimension_10 rfl ?_
    refine x_bipush (v := 78) d_M_isDimension_11 (by decide) ?_
    refine x_callV (st := []) k_M_226 rfl (eM_o _ _ _ _) x_id (c_M_sign l D cs Ev hE o a (d + 1) _ (78 : Int32) u1 h) hE (rmD_ok (by omega) (by decide)) rfl (Nat.le_of_ble_eq_true rfl) rfl d_M_isDimension_13 (x_rI (fun r14 u13 h => ?_))
    refine x_if_eq (tgt := 23) d_M_isDimension_16 rfl (fun hc => ?_) (fun hc => ?_)
    · have h := h.1 hc
      exact w_M_isDimension_23 l D cs Ev hE o a d post  u13 h
    · have h := h.2 hc
      refine x_iconst (v := 1) d_M_isDimension_19 (by decide) ?_
      refine x_goto (tgt := 24) d_M_isDimension_20 rfl ?_
      exact w_M_isDimension_24 l D cs Ev hE o a d post  1 u13 h
def P_M_alone_20 (post : Int32 → MS → Prop) (u : MS) : Prop := ((¬ (gI u 9) = (gI u 8) → post 0 u) ∧ ((gI u 9) = (gI u 8) → post 1 u))
set_option maxHeartbeats 600000 in
set_option maxRecDepth 100000 in
theorem w_M_alone_20 (l : Launch) (D : va_G) (cs : Nat → ClassId) (Ev : (Nat → Prop) → State → Prop) (hE : xEok Ev) (o : Nat) (a : Nat → Nat) (d : Nat) (post : Int32 → MS → Prop) (u : MS) (h : P_M_alone_20 post   u) : RR l D clX (tysX cs) Ev "DeckFrontModel" b_M_alone 4 w_M_alone (rmD (d + 3)) (some .boolean) (wdM o a cs) (pI post) 0 0 0 0 20 [(0, .ref o)] [] u := by
  unfold P_M_alone_20 at h
  refine x_aload_n (x := o) d_M_alone_20 rfl ?_
  refine x_get (v := .int (gI u 9)) f_M_126 (eM_o _ _ _ _) rfl d_M_alone_21 ?_
  refine x_aload_n (x := o) d_M_alone_24 rfl ?_
  refine x_get (v := .int (gI u 8)) f_M_116 (eM_o _ _ _ _) rfl d_M_alone_25 ?_
  refine x_icmp_ne (tgt := 35) d_M_alone_28 rfl (fun hc => ?_) (fun hc => ?_)
  · have h := h.1 hc
    refine x_iconst (v := 0) d_M_alone_35 (by decide) ?_
    refine x_zret rfl d_M_alone_36 ⟨_, rfl, ?_⟩
    exact h
  · have h := h.2 hc
    refine x_iconst (v := 1) d_M_alone_31 (by decide) ?_
    refine x_goto (tgt := 36) d_M_alone_32 rfl ?_
    refine x_zret rfl d_M_alone_36 ⟨_, rfl, ?_⟩
    exact h
def P_M_alone (post : Int32 → MS → Prop) (a0 : Int64) (a1 : Int32) (u : MS) : Prop := P_M_word (fun r2 u1 => ((r2 = 0 → post 0 u1) ∧ (¬ r2 = 0 → ((a1 = 0 → P_M_alone_20 post u1) ∧ (¬ a1 = 0 → P_M_sign (fun r4 u3 => ((r4 = 0 → post 0 u3) ∧ (¬ r4 = 0 → P_M_alone_20 post u3))) a1 u1))))) a0 u
set_option maxHeartbeats 600000 in
set_option maxRecDepth 100000 in
theorem c_M_alone (l : Launch) (D : va_G) (cs : Nat → ClassId) (Ev : (Nat → Prop) → State → Prop) (hE : xEok Ev) (o : Nat) (a : Nat → Nat) (d : Nat) (post : Int32 → MS → Prop) (a0 : Int64) (a1 : Int32) (u : MS) (h : P_M_alone post a0 a1 u) : xC l D clX (tysX cs) Ev y_M_alone w_M_alone (rmD (d + 3)) (wdM o a cs) [.ref o, .long a0, .int a1] u (pI post) 0 0 := by
  unfold P_M_alone at h
  refine xC.of (cc := b_M_alone) (nL := 4) (ret := (some .boolean)) (by decide) rfl (Nat.le_of_ble_eq_true rfl) ?_
  show RR l D clX (tysX cs) Ev "DeckFrontModel" b_M_alone 4 w_M_alone (rmD (d + 3)) (some .boolean) (wdM o a cs) (pI post) 0 0 0 0 0 [(0, .ref o), (1, .long a0), (3, .int a1)] [] u
  refine x_aload_n (x := o) d_M_alone_0 rfl ?_
  refine x_lload_n (x := a0) d_M_alone_1 rfl ?_
  refine x_callV (st := []) k_M_234 rfl (eM_o _ _ _ _) x_id (c_M_word l D cs Ev hE o a (d + 0) _ a0 u h) hE (rmD_ok (by omega) (by decide)) rfl (Nat.le_of_ble_eq_true rfl) rfl d_M_alone_2 (x_rI (fun r2 u1 h => ?_))
  refine x_if_eq (tgt := 35) d_M_alone_5 rfl (fun hc => ?_) (fun hc => ?_)
  · have h := h.1 hc
    refine x_iconst (v := 0) d_M_alone_35 (by decide) ?_
    refine x_zret rfl d_M_alone_36 ⟨_, rfl, ?_⟩
    exact h
  · have h := h.2 hc
    refine x_iload_n (x := a1) d_M_alone_8 rfl ?_
    refine x_if_eq (tgt := 20) d_M_alone_9 rfl (fun hc => ?_) (fun hc => ?_)
    · have h := h.1 hc
      refine x_sub [0] rfl ?_
      exact w_M_alone_20 l D cs Ev hE o a d post  u1 h
    · have h := h.2 hc
      refine x_aload_n (x := o) d_M_alone_12 rfl ?_
      refine x_iload_n (x := a1) d_M_alone_13 rfl ?_
      refine x_callV (st := []) k_M_226 rfl (eM_o _ _ _ _) x_id (c_M_sign l D cs Ev hE o a (d + 1) _ a1 u1 h) hE (rmD_ok (by omega) (by decide)) rfl (Nat.le_of_ble_eq_true rfl) rfl d_M_alone_14 (x_rI (fun r4 u3 h => ?_))
      refine x_if_eq (tgt := 35) d_M_alone_17 rfl (fun hc => ?_) (fun hc => ?_)
      · have h := h.1 hc
        refine x_iconst (v := 0) d_M_alone_35 (by decide) ?_
        refine x_zret rfl d_M_alone_36 ⟨_, rfl, ?_⟩
        exact h
      · have h := h.2 hc
        refine x_sub [0] rfl ?_
        exact w_M_alone_20 l D cs Ev hE o a d post  u3 h
def P_M_isThen (post : Int32 → MS → Prop) (a0 : Int64) (u : MS) : Prop := P_M_word (fun r2 u1 => ((r2 = 0 → post 0 u1) ∧ (¬ r2 = 0 → P_M_expression (fun r4 u3 => ((r4 = 0 → post 0 u3) ∧ (¬ r4 = 0 → P_M_word (fun r6 u5 => ((r6 = 0 → post 0 u5) ∧ (¬ r6 = 0 → ((¬ (gI u5 9) = (gI u5 8) → post 0 u5) ∧ ((gI u5 9) = (gI u5 8) → post 1 u5))))) (177507681614 : Int64) u3))) (1 : Int32) u1))) a0 u
set_option maxHeartbeats 600000 in
set_option maxRecDepth 100000 in
theorem c_M_isThen (l : Launch) (D : va_G) (cs : Nat → ClassId) (Ev : (Nat → Prop) → State → Prop) (hE : xEok Ev) (o : Nat) (a : Nat → Nat) (d : Nat) (post : Int32 → MS → Prop) (a0 : Int64) (u : MS) (h : P_M_isThen post a0 u) : xC l D clX (tysX cs) Ev y_M_isThen w_M_isThen (rmD (d + 5)) (wdM o a cs) [.ref o, .long a0] u (pI post) 0 0 := by
  unfold P_M_isThen at h
  refine xC.of (cc := b_M_isThen) (nL := 3) (ret := (some .boolean)) (by decide) rfl (Nat.le_of_ble_eq_true rfl) ?_
  show RR l D clX (tysX cs) Ev "DeckFrontModel" b_M_isThen 3 w_M_isThen (rmD (d + 5)) (some .boolean) (wdM o a cs) (pI post) 0 0 0 0 0 [(0, .ref o), (1, .long a0)] [] u
  refine x_aload_n (x := o) d_M_isThen_0 rfl ?_
  refine x_lload_n (x := a0) d_M_isThen_1 rfl ?_
  refine x_callV (st := []) k_M_234 rfl (eM_o _ _ _ _) x_id (c_M_word l D cs Ev hE o a (d + 2) _ a0 u h) hE (rmD_ok (by omega) (by decide)) rfl (Nat.le_of_ble_eq_true rfl) rfl d_M_isThen_2 (x_rI (fun r2 u1 h => ?_))
  refine x_if_eq (tgt := 41) d_M_isThen_5 rfl (fun hc => ?_) (fun hc => ?_)
  · have h := h.1 hc
    refine x_iconst (v := 0) d_M_isThen_41 (by decide) ?_
    refine x_zret rfl d_M_isThen_42 ⟨_, rfl, ?_⟩
    exact h
  · have h := h.2 hc
    refine x_aload_n (x := o) d_M_isThen_8 rfl ?_
    refine x_iconst (v := 1) d_M_isThen_9 (by decide) ?_
    refine x_callV (st := []) k_M_219 rfl (eM_o _ _ _ _) x_id (c_M_expression l D cs Ev hE o a (d + 0) _ (1 : Int32) u1 h) hE (rmD_ok (by omega) (by decide)) rfl (Nat.le_of_ble_eq_true rfl) rfl d_M_isThen_10 (x_rI (fun r4 u3 h => ?_))
    refine x_if_eq (tgt := 41) d_M_isThen_13 rfl (fun hc => ?_) (fun hc => ?_)
    · have h := h.1 hc
      refine x_iconst (v := 0) d_M_isThen_41 (by decide) ?_
      refine x_zret rfl d_M_isThen_42 ⟨_, rfl, ?_⟩
      exact h
    · have h := h.2 hc
      refine x_aload_n (x := o) d_M_isThen_16 rfl ?_
      refine x_ldc2 (v := 177507681614) (cG tw_1055) d_M_isThen_17 ?_
      refine x_callV (st := []) k_M_234 rfl (eM_o _ _ _ _) x_id (c_M_word l D cs Ev hE o a (d + 2) _ (177507681614 : Int64) u3 h) hE (rmD_ok (by omega) (by decide)) rfl (Nat.le_of_ble_eq_true rfl) rfl d_M_isThen_20 (x_rI (fun r6 u5 h => ?_))
      refine x_if_eq (tgt := 41) d_M_isThen_23 rfl (fun hc => ?_) (fun hc => ?_)
      · have h := h.1 hc
        refine x_iconst (v := 0) d_M_isThen_41 (by decide) ?_
        refine x_zret rfl d_M_isThen_42 ⟨_, rfl, ?_⟩
        exact h
      · have h := h.2 hc
        refine x_aload_n (x := o) d_M_isThen_26 rfl ?_
        refine x_get (v := .int (gI u5 9)) f_M_126 (eM_o _ _ _ _) rfl d_M_isThen_27 ?_
        refine x_aload_n (x := o) d_M_isThen_30 rfl ?_
        refine x_get (v := .int (gI u5 8)) f_M_116 (eM_o _ _ _ _) rfl d_M_isThen_31 ?_
        refine x_icmp_ne (tgt := 41) d_M_isThen_34 rfl (fun hc => ?_) (fun hc => ?_)
        · have h := h.1 hc
          refine x_iconst (v := 0) d_M_isThen_41 (by decide) ?_
          refine x_zret rfl d_M_isThen_42 ⟨_, rfl, ?_⟩
          exact h
        · have h := h.2 hc
          refine x_iconst (v := 1) d_M_isThen_37 (by decide) ?_
          refine x_goto (tgt := 42) d_M_isThen_38 rfl ?_
          refine x_zret rfl d_M_isThen_42 ⟨_, rfl, ?_⟩
          exact h
def P_M_simple (post : Int32 → MS → Prop) (a0 : Int32) (u : MS) : Prop := ((a0 = 1 → P_M_isDo (fun r2 u1 => (narrow .boolean (.int r2) = .int r2 ∧ post r2 u1)) u) ∧ (¬ a0 = 1 → ((a0 = 2 → P_M_isAssignment (fun r4 u3 => (narrow .boolean (.int r4) = .int r4 ∧ post r4 u3)) u) ∧ (¬ a0 = 2 → ((a0 = 3 → P_M_isThen (fun r6 u5 => (narrow .boolean (.int r6) = .int r6 ∧ post r6 u5)) (4802088 : Int64) u) ∧ (¬ a0 = 3 → ((a0 = 4 → post 0 u) ∧ (¬ a0 = 4 → ((a0 = 5 → P_M_isThen (fun r8 u7 => (narrow .boolean (.int r8) = .int r8 ∧ post r8 u7)) (19505693921461800 : Int64) u) ∧ (¬ a0 = 5 → ((a0 = 6 → P_M_alone (fun r10 u9 => (narrow .boolean (.int r10) = .int r10 ∧ post r10 u9)) (1162629957 : Int64) (0 : Int32) u) ∧ (¬ a0 = 6 → ((a0 = 7 → P_M_alone (fun r12 u11 => (narrow .boolean (.int r12) = .int r12 ∧ post r12 u11)) (297665841478 : Int64) (0 : Int32) u) ∧ (¬ a0 = 7 → ((a0 = 8 → P_M_alone (fun r14 u13 => (narrow .boolean (.int r14) = .int r14 ∧ post r14 u13)) (4850181447615403333 : Int64) (0 : Int32) u) ∧ (¬ a0 = 8 → ((a0 = 9 → P_M_isGoTo (fun r16 u15 => (narrow .boolean (.int r16) = .int r16 ∧ post r16 u15)) u) ∧ (¬ a0 = 9 → ((a0 = 10 → P_M_isCall (fun r18 u17 => (narrow .boolean (.int r18) = .int r18 ∧ post r18 u17)) u) ∧ (¬ a0 = 10 → ((a0 = 11 → P_M_alone (fun r20 u19 => (narrow .boolean (.int r20) = .int r20 ∧ post r20 u19)) (90457721098830 : Int64) (0 : Int32) u) ∧ (¬ a0 = 11 → ((a0 = 12 → P_M_alone (fun r22 u21 => (narrow .boolean (.int r22) = .int r22 ∧ post r22 u21)) (1398034256 : Int64) (0 : Int32) u) ∧ (¬ a0 = 12 → ((a0 = 13 → P_M_word (fun r24 u23 => ((r24 = 0 → post 0 u23) ∧ (¬ r24 = 0 → P_M_expressions (fun r26 u25 => ((r26 = 0 → post 0 u25) ∧ (¬ r26 = 0 → ((¬ (gI u25 9) = (gI u25 8) → post 0 u25) ∧ ((gI u25 9) = (gI u25 8) → post 1 u25))))) (0 : Int32) u23))) (22608472937081388 : Int64) u) ∧ (¬ a0 = 13 → ((a0 = 14 → P_M_alone (fun r28 u27 => (narrow .boolean (.int r28) = .int r28 ∧ post r28 u27)) (4542020 : Int64) (0 : Int32) u) ∧ (¬ a0 = 14 → ((a0 = 15 → P_M_isType (fun r30 u29 => (narrow .boolean (.int r30) = .int r30 ∧ post r30 u29)) u) ∧ (¬ a0 = 15 → ((a0 = 16 → P_M_isDimension (fun r32 u31 => (narrow .boolean (.int r32) = .int r32 ∧ post r32 u31)) u) ∧ (¬ a0 = 16 → ((a0 = 17 → P_M_isComputed (fun r34 u33 => (narrow .boolean (.int r34) = .int r34 ∧ post r34 u33)) u) ∧ (¬ a0 = 17 → post 0 u))))))))))))))))))))))))))))))))))
set_option maxHeartbeats 600000 in
set_option maxRecDepth 100000 in
theorem c_M_simple (l : Launch) (D : va_G) (cs : Nat → ClassId) (Ev : (Nat → Prop) → State → Prop) (hE : xEok Ev) (o : Nat) (a : Nat → Nat) (d : Nat) (post : Int32 → MS → Prop) (a0 : Int32) (u : MS) (h : P_M_simple post a0 u) : xC l D clX (tysX cs) Ev y_M_simple w_M_simple (rmD (d + 8)) (wdM o a cs) [.ref o, .int a0] u (pI post) 0 0 := by
  unfold P_M_simple at h
  refine xC.of (cc := b_M_simple) (nL := 2) (ret := (some .boolean)) (by decide) rfl (Nat.le_of_ble_eq_true rfl) ?_
  show RR l D clX (tysX cs) Ev "DeckFrontModel" b_M_simple 2 w_M_simple (rmD (d + 8)) (some .boolean) (wdM o a cs) (pI post) 0 0 0 0 0 [(0, .ref o), (1, .int a0)] [] u
  refine x_iload_n (x := a0) d_M_simple_0 rfl ?_
  by_cases hx1 : a0 = 1
  · have h := h.1 hx1
    refine x_tableIn (off := 83) (tgt := 84) d_M_simple_1 (by rw [hx1]; decide) (by rw [hx1]; decide) (by rw [hx1]; rfl) rfl ?_
    refine x_aload_n (x := o) d_M_simple_84 rfl ?_
    refine x_callV (st := []) k_M_264 rfl (eM_o _ _ _ _) x_id (c_M_isDo l D cs Ev hE o a (d + 2) _ u h) hE (rmD_ok (by omega) (by decide)) rfl (Nat.le_of_ble_eq_true rfl) rfl d_M_simple_85 (x_rI (fun r2 u1 h => ?_))
    refine x_zret h.1 d_M_simple_88 ⟨_, rfl, ?_⟩
    exact h.2
  · have h := h.2 hx1
    by_cases hx2 : a0 = 2
    · have h := h.1 hx2
      refine x_tableIn (off := 88) (tgt := 89) d_M_simple_1 (by rw [hx2]; decide) (by rw [hx2]; decide) (by rw [hx2]; rfl) rfl ?_
      refine x_aload_n (x := o) d_M_simple_89 rfl ?_
      refine x_callV (st := []) k_M_267 rfl (eM_o _ _ _ _) x_id (c_M_isAssignment l D cs Ev hE o a (d + 0) _ u h) hE (rmD_ok (by omega) (by decide)) rfl (Nat.le_of_ble_eq_true rfl) rfl d_M_simple_90 (x_rI (fun r4 u3 h => ?_))
      refine x_zret h.1 d_M_simple_93 ⟨_, rfl, ?_⟩
      exact h.2
    · have h := h.2 hx2
      by_cases hx3 : a0 = 3
      · have h := h.1 hx3
        refine x_tableIn (off := 93) (tgt := 94) d_M_simple_1 (by rw [hx3]; decide) (by rw [hx3]; decide) (by rw [hx3]; rfl) rfl ?_
        refine x_aload_n (x := o) d_M_simple_94 rfl ?_
        refine x_ldc2 (v := 4802088) (cG tw_921) d_M_simple_95 ?_
        refine x_callV (st := []) k_M_272 rfl (eM_o _ _ _ _) x_id (c_M_isThen l D cs Ev hE o a (d + 2) _ (4802088 : Int64) u h) hE (rmD_ok (by omega) (by decide)) rfl (Nat.le_of_ble_eq_true rfl) rfl d_M_simple_98 (x_rI (fun r6 u5 h => ?_))
        refine x_zret h.1 d_M_simple_101 ⟨_, rfl, ?_⟩
        exact h.2
      · have h := h.2 hx3
        by_cases hx4 : a0 = 4
        · have h := h.1 hx4
          refine x_tableIn (off := 223) (tgt := 224) d_M_simple_1 (by rw [hx4]; decide) (by rw [hx4]; decide) (by rw [hx4]; rfl) rfl ?_
          refine x_iconst (v := 0) d_M_simple_224 (by decide) ?_
          refine x_zret rfl d_M_simple_225 ⟨_, rfl, ?_⟩
          exact h
        · have h := h.2 hx4
          by_cases hx5 : a0 = 5
          · have h := h.1 hx5
            refine x_tableIn (off := 101) (tgt := 102) d_M_simple_1 (by rw [hx5]; decide) (by rw [hx5]; decide) (by rw [hx5]; rfl) rfl ?_
            refine x_aload_n (x := o) d_M_simple_102 rfl ?_
            refine x_ldc2 (v := 19505693921461800) (cG tw_1056) d_M_simple_103 ?_
            refine x_callV (st := []) k_M_272 rfl (eM_o _ _ _ _) x_id (c_M_isThen l D cs Ev hE o a (d + 2) _ (19505693921461800 : Int64) u h) hE (rmD_ok (by omega) (by decide)) rfl (Nat.le_of_ble_eq_true rfl) rfl d_M_simple_106 (x_rI (fun r8 u7 h => ?_))
            refine x_zret h.1 d_M_simple_109 ⟨_, rfl, ?_⟩
            exact h.2
          · have h := h.2 hx5
            by_cases hx6 : a0 = 6
            · have h := h.1 hx6
              refine x_tableIn (off := 109) (tgt := 110) d_M_simple_1 (by rw [hx6]; decide) (by rw [hx6]; decide) (by rw [hx6]; rfl) rfl ?_
              refine x_aload_n (x := o) d_M_simple_110 rfl ?_
              refine x_ldc2 (v := 1162629957) (cG tw_1057) d_M_simple_111 ?_
              refine x_iconst (v := 0) d_M_simple_114 (by decide) ?_
              refine x_callV (st := []) k_M_279 rfl (eM_o _ _ _ _) x_id (c_M_alone l D cs Ev hE o a (d + 4) _ (1162629957 : Int64) (0 : Int32) u h) hE (rmD_ok (by omega) (by decide)) rfl (Nat.le_of_ble_eq_true rfl) rfl d_M_simple_115 (x_rI (fun r10 u9 h => ?_))
              refine x_zret h.1 d_M_simple_118 ⟨_, rfl, ?_⟩
              exact h.2
            · have h := h.2 hx6
              by_cases hx7 : a0 = 7
              · have h := h.1 hx7
                refine x_tableIn (off := 118) (tgt := 119) d_M_simple_1 (by rw [hx7]; decide) (by rw [hx7]; decide) (by rw [hx7]; rfl) rfl ?_
                refine x_aload_n (x := o) d_M_simple_119 rfl ?_
                refine x_ldc2 (v := 297665841478) (cG tw_1062) d_M_simple_120 ?_
                refine x_iconst (v := 0) d_M_simple_123 (by decide) ?_
                refine x_callV (st := []) k_M_279 rfl (eM_o _ _ _ _) x_id (c_M_alone l D cs Ev hE o a (d + 4) _ (297665841478 : Int64) (0 : Int32) u h) hE (rmD_ok (by omega) (by decide)) rfl (Nat.le_of_ble_eq_true rfl) rfl d_M_simple_124 (x_rI (fun r12 u11 h => ?_))
                refine x_zret h.1 d_M_simple_127 ⟨_, rfl, ?_⟩
                exact h.2
              · have h := h.2 hx7
                by_cases hx8 : a0 = 8
                · have h := h.1 hx8
                  refine x_tableIn (off := 127) (tgt := 128) d_M_simple_1 (by rw [hx8]; decide) (by rw [hx8]; decide) (by rw [hx8]; rfl) rfl ?_
                  refine x_aload_n (x := o) d_M_simple_128 rfl ?_
                  refine x_ldc2 (v := 4850181447615403333) (cG tw_1063) d_M_simple_129 ?_
                  refine x_iconst (v := 0) d_M_simple_132 (by decide) ?_
                  refine x_callV (st := []) k_M_279 rfl (eM_o _ _ _ _) x_id (c_M_alone l D cs Ev hE o a (d + 4) _ (4850181447615403333 : Int64) (0 : Int32) u h) hE (rmD_ok (by omega) (by decide)) rfl (Nat.le_of_ble_eq_true rfl) rfl d_M_simple_133 (x_rI (fun r14 u13 h => ?_))
                  refine x_zret h.1 d_M_simple_136 ⟨_, rfl, ?_⟩
                  exact h.2
                · have h := h.2 hx8
                  by_cases hx9 : a0 = 9
                  · have h := h.1 hx9
                    refine x_tableIn (off := 136) (tgt := 137) d_M_simple_1 (by rw [hx9]; decide) (by rw [hx9]; decide) (by rw [hx9]; rfl) rfl ?_
                    refine x_aload_n (x := o) d_M_simple_137 rfl ?_
                    refine x_callV (st := []) k_M_287 rfl (eM_o _ _ _ _) x_id (c_M_isGoTo l D cs Ev hE o a (d + 4) _ u h) hE (rmD_ok (by omega) (by decide)) rfl (Nat.le_of_ble_eq_true rfl) rfl d_M_simple_138 (x_rI (fun r16 u15 h => ?_))
                    refine x_zret h.1 d_M_simple_141 ⟨_, rfl, ?_⟩
                    exact h.2
                  · have h := h.2 hx9
                    by_cases hx10 : a0 = 10
                    · have h := h.1 hx10
                      refine x_tableIn (off := 141) (tgt := 142) d_M_simple_1 (by rw [hx10]; decide) (by rw [hx10]; decide) (by rw [hx10]; rfl) rfl ?_
                      refine x_aload_n (x := o) d_M_simple_142 rfl ?_
                      refine x_callV (st := []) k_M_290 rfl (eM_o _ _ _ _) x_id (c_M_isCall l D cs Ev hE o a (d + 0) _ u h) hE (rmD_ok (by omega) (by decide)) rfl (Nat.le_of_ble_eq_true rfl) rfl d_M_simple_143 (x_rI (fun r18 u17 h => ?_))
                      refine x_zret h.1 d_M_simple_146 ⟨_, rfl, ?_⟩
                      exact h.2
                    · have h := h.2 hx10
                      by_cases hx11 : a0 = 11
                      · have h := h.1 hx11
                        refine x_tableIn (off := 146) (tgt := 147) d_M_simple_1 (by rw [hx11]; decide) (by rw [hx11]; decide) (by rw [hx11]; rfl) rfl ?_
                        refine x_aload_n (x := o) d_M_simple_147 rfl ?_
                        refine x_ldc2 (v := 90457721098830) (cG tw_1074) d_M_simple_148 ?_
                        refine x_iconst (v := 0) d_M_simple_151 (by decide) ?_
                        refine x_callV (st := []) k_M_279 rfl (eM_o _ _ _ _) x_id (c_M_alone l D cs Ev hE o a (d + 4) _ (90457721098830 : Int64) (0 : Int32) u h) hE (rmD_ok (by omega) (by decide)) rfl (Nat.le_of_ble_eq_true rfl) rfl d_M_simple_152 (x_rI (fun r20 u19 h => ?_))
                        refine x_zret h.1 d_M_simple_155 ⟨_, rfl, ?_⟩
                        exact h.2
                      · have h := h.2 hx11
                        by_cases hx12 : a0 = 12
                        · have h := h.1 hx12
                          refine x_tableIn (off := 155) (tgt := 156) d_M_simple_1 (by rw [hx12]; decide) (by rw [hx12]; decide) (by rw [hx12]; rfl) rfl ?_
                          refine x_aload_n (x := o) d_M_simple_156 rfl ?_
                          refine x_ldc2 (v := 1398034256) (cG tw_1075) d_M_simple_157 ?_
                          refine x_iconst (v := 0) d_M_simple_160 (by decide) ?_
                          refine x_callV (st := []) k_M_279 rfl (eM_o _ _ _ _) x_id (c_M_alone l D cs Ev hE o a (d + 4) _ (1398034256 : Int64) (0 : Int32) u h) hE (rmD_ok (by omega) (by decide)) rfl (Nat.le_of_ble_eq_true rfl) rfl d_M_simple_161 (x_rI (fun r22 u21 h => ?_))
                          refine x_zret h.1 d_M_simple_164 ⟨_, rfl, ?_⟩
                          exact h.2
                        · have h := h.2 hx12
                          by_cases hx13 : a0 = 13
                          · have h := h.1 hx13
                            refine x_tableIn (off := 164) (tgt := 165) d_M_simple_1 (by rw [hx13]; decide) (by rw [hx13]; decide) (by rw [hx13]; rfl) rfl ?_
                            refine x_aload_n (x := o) d_M_simple_165 rfl ?_
                            refine x_ldc2 (v := 22608472937081388) (cG tw_1076) d_M_simple_166 ?_
                            refine x_callV (st := []) k_M_234 rfl (eM_o _ _ _ _) x_id (c_M_word l D cs Ev hE o a (d + 5) _ (22608472937081388 : Int64) u h) hE (rmD_ok (by omega) (by decide)) rfl (Nat.le_of_ble_eq_true rfl) rfl d_M_simple_169 (x_rI (fun r24 u23 h => ?_))
                            refine x_if_eq (tgt := 198) d_M_simple_172 rfl (fun hc => ?_) (fun hc => ?_)
                            · have h := h.1 hc
                              refine x_iconst (v := 0) d_M_simple_198 (by decide) ?_
                              refine x_zret rfl d_M_simple_199 ⟨_, rfl, ?_⟩
                              exact h
                            · have h := h.2 hc
                              refine x_aload_n (x := o) d_M_simple_175 rfl ?_
                              refine x_iconst (v := 0) d_M_simple_176 (by decide) ?_
                              refine x_callV (st := []) k_M_229 rfl (eM_o _ _ _ _) x_id (c_M_expressions l D cs Ev hE o a (d + 2) _ (0 : Int32) u23 h) hE (rmD_ok (by omega) (by decide)) rfl (Nat.le_of_ble_eq_true rfl) rfl d_M_simple_177 (x_rI (fun r26 u25 h => ?_))
                              refine x_if_eq (tgt := 198) d_M_simple_180 rfl (fun hc => ?_) (fun hc => ?_)
                              · have h := h.1 hc
                                refine x_iconst (v := 0) d_M_simple_198 (by decide) ?_
                                refine x_zret rfl d_M_simple_199 ⟨_, rfl, ?_⟩
                                exact h
                              · have h := h.2 hc
                                refine x_aload_n (x := o) d_M_simple_183 rfl ?_
                                refine x_get (v := .int (gI u25 9)) f_M_126 (eM_o _ _ _ _) rfl d_M_simple_184 ?_
                                refine x_aload_n (x := o) d_M_simple_187 rfl ?_
                                refine x_get (v := .int (gI u25 8)) f_M_116 (eM_o _ _ _ _) rfl d_M_simple_188 ?_
                                refine x_icmp_ne (tgt := 198) d_M_simple_191 rfl (fun hc => ?_) (fun hc => ?_)
                                · have h := h.1 hc
                                  refine x_iconst (v := 0) d_M_simple_198 (by decide) ?_
                                  refine x_zret rfl d_M_simple_199 ⟨_, rfl, ?_⟩
                                  exact h
                                · have h := h.2 hc
                                  refine x_iconst (v := 1) d_M_simple_194 (by decide) ?_
                                  refine x_goto (tgt := 199) d_M_simple_195 rfl ?_
                                  refine x_zret rfl d_M_simple_199 ⟨_, rfl, ?_⟩
                                  exact h
                          · have h := h.2 hx13
                            by_cases hx14 : a0 = 14
                            · have h := h.1 hx14
                              refine x_tableIn (off := 199) (tgt := 200) d_M_simple_1 (by rw [hx14]; decide) (by rw [hx14]; decide) (by rw [hx14]; rfl) rfl ?_
                              refine x_aload_n (x := o) d_M_simple_200 rfl ?_
                              refine x_ldc2 (v := 4542020) (cG tw_1077) d_M_simple_201 ?_
                              refine x_iconst (v := 0) d_M_simple_204 (by decide) ?_
                              refine x_callV (st := []) k_M_279 rfl (eM_o _ _ _ _) x_id (c_M_alone l D cs Ev hE o a (d + 4) _ (4542020 : Int64) (0 : Int32) u h) hE (rmD_ok (by omega) (by decide)) rfl (Nat.le_of_ble_eq_true rfl) rfl d_M_simple_205 (x_rI (fun r28 u27 h => ?_))
                              refine x_zret h.1 d_M_simple_208 ⟨_, rfl, ?_⟩
                              exact h.2
                            · have h := h.2 hx14
                              by_cases hx15 : a0 = 15
                              · have h := h.1 hx15
                                refine x_tableIn (off := 208) (tgt := 209) d_M_simple_1 (by rw [hx15]; decide) (by rw [hx15]; decide) (by rw [hx15]; rfl) rfl ?_
                                refine x_aload_n (x := o) d_M_simple_209 rfl ?_
                                refine x_callV (st := []) k_M_301 rfl (eM_o _ _ _ _) x_id (c_M_isType l D cs Ev hE o a (d + 4) _ u h) hE (rmD_ok (by omega) (by decide)) rfl (Nat.le_of_ble_eq_true rfl) rfl d_M_simple_210 (x_rI (fun r30 u29 h => ?_))
                                refine x_zret h.1 d_M_simple_213 ⟨_, rfl, ?_⟩
                                exact h.2
                              · have h := h.2 hx15
                                by_cases hx16 : a0 = 16
                                · have h := h.1 hx16
                                  refine x_tableIn (off := 213) (tgt := 214) d_M_simple_1 (by rw [hx16]; decide) (by rw [hx16]; decide) (by rw [hx16]; rfl) rfl ?_
                                  refine x_aload_n (x := o) d_M_simple_214 rfl ?_
                                  refine x_callV (st := []) k_M_304 rfl (eM_o _ _ _ _) x_id (c_M_isDimension l D cs Ev hE o a (d + 4) _ u h) hE (rmD_ok (by omega) (by decide)) rfl (Nat.le_of_ble_eq_true rfl) rfl d_M_simple_215 (x_rI (fun r32 u31 h => ?_))
                                  refine x_zret h.1 d_M_simple_218 ⟨_, rfl, ?_⟩
                                  exact h.2
                                · have h := h.2 hx16
                                  by_cases hx17 : a0 = 17
                                  · have h := h.1 hx17
                                    refine x_tableIn (off := 218) (tgt := 219) d_M_simple_1 (by rw [hx17]; decide) (by rw [hx17]; decide) (by rw [hx17]; rfl) rfl ?_
                                    refine x_aload_n (x := o) d_M_simple_219 rfl ?_
                                    refine x_callV (st := []) k_M_307 rfl (eM_o _ _ _ _) x_id (c_M_isComputed l D cs Ev hE o a (d + 2) _ u h) hE (rmD_ok (by omega) (by decide)) rfl (Nat.le_of_ble_eq_true rfl) rfl d_M_simple_220 (x_rI (fun r34 u33 h => ?_))
                                    refine x_zret h.1 d_M_simple_223 ⟨_, rfl, ?_⟩
                                    exact h.2
                                  · have h := h.2 hx17
                                    have t1 := lv_neT (a := 1) hx1 (by decide)
                                    have t2 := lv_neT (a := 2) hx2 (by decide)
                                    have t3 := lv_neT (a := 3) hx3 (by decide)
                                    have t4 := lv_neT (a := 4) hx4 (by decide)
                                    have t5 := lv_neT (a := 5) hx5 (by decide)
                                    have t6 := lv_neT (a := 6) hx6 (by decide)
                                    have t7 := lv_neT (a := 7) hx7 (by decide)
                                    have t8 := lv_neT (a := 8) hx8 (by decide)
                                    have t9 := lv_neT (a := 9) hx9 (by decide)
                                    have t10 := lv_neT (a := 10) hx10 (by decide)
                                    have t11 := lv_neT (a := 11) hx11 (by decide)
                                    have t12 := lv_neT (a := 12) hx12 (by decide)
                                    have t13 := lv_neT (a := 13) hx13 (by decide)
                                    have t14 := lv_neT (a := 14) hx14 (by decide)
                                    have t15 := lv_neT (a := 15) hx15 (by decide)
                                    have t16 := lv_neT (a := 16) hx16 (by decide)
                                    have t17 := lv_neT (a := 17) hx17 (by decide)
                                    refine x_tableOut (tgt := 224) d_M_simple_1 (by omega) rfl ?_
                                    refine x_iconst (v := 0) d_M_simple_224 (by decide) ?_
                                    refine x_zret rfl d_M_simple_225 ⟨_, rfl, ?_⟩
                                    exact h
def P_M_mayFollow_17 (post : Int32 → Unit → Prop) (x0 : Int32) (u : Unit) : Prop := ((¬ x0 = 17 → post 0 u) ∧ (x0 = 17 → post 1 u))
set_option maxHeartbeats 600000 in
set_option maxRecDepth 100000 in
theorem w_M_mayFollow_17 (l : Launch) (D : va_G) (cs : Nat → ClassId) (Ev : (Nat → Prop) → State → Prop) (hE : xEok Ev) (d : Nat) (post : Int32 → Unit → Prop) (x0 : Int32) (u : Unit) (h : P_M_mayFollow_17 post  x0 u) : RR l D clX (tysX cs) Ev "DeckFrontModel" b_M_mayFollow 1 w_M_mayFollow (rmD (d + 0)) (some .boolean) wd0 (pI post) 0 0 0 0 17 [(0, .int x0)] [] u := by
  unfold P_M_mayFollow_17 at h
  refine x_iload_n (x := x0) d_M_mayFollow_17 rfl ?_
  refine x_bipush (v := 17) d_M_mayFollow_18 (by decide) ?_
  refine x_icmp_ne (tgt := 27) d_M_mayFollow_20 rfl (fun hc => ?_) (fun hc => ?_)
  · have h := h.1 hc
    refine x_iconst (v := 0) d_M_mayFollow_27 (by decide) ?_
    refine x_zret rfl d_M_mayFollow_28 ⟨_, rfl, ?_⟩
    exact h
  · have h := h.2 hc
    refine x_iconst (v := 1) d_M_mayFollow_23 (by decide) ?_
    refine x_goto (tgt := 28) d_M_mayFollow_24 rfl ?_
    refine x_zret rfl d_M_mayFollow_28 ⟨_, rfl, ?_⟩
    exact h
def P_M_mayFollow (post : Int32 → Unit → Prop) (a0 : Int32) (u : Unit) : Prop := ((a0 = 2 → post 1 u) ∧ (¬ a0 = 2 → ((a0 ≤ 8 → P_M_mayFollow_17 post a0 u) ∧ (¬ a0 ≤ 8 → ((a0 < 14 → post 1 u) ∧ (¬ a0 < 14 → P_M_mayFollow_17 post a0 u))))))
set_option maxHeartbeats 600000 in
set_option maxRecDepth 100000 in
theorem c_M_mayFollow (l : Launch) (D : va_G) (cs : Nat → ClassId) (Ev : (Nat → Prop) → State → Prop) (hE : xEok Ev) (d : Nat) (post : Int32 → Unit → Prop) (a0 : Int32) (u : Unit) (h : P_M_mayFollow post a0 u) : xC l D clX (tysX cs) Ev y_M_mayFollow w_M_mayFollow (rmD (d + 0)) wd0 [.int a0] u (pI post) 0 0 := by
  unfold P_M_mayFollow at h
  refine xC.of (cc := b_M_mayFollow) (nL := 1) (ret := (some .boolean)) (by decide) rfl (Nat.le_of_ble_eq_true rfl) ?_
  show RR l D clX (tysX cs) Ev "DeckFrontModel" b_M_mayFollow 1 w_M_mayFollow (rmD (d + 0)) (some .boolean) wd0 (pI post) 0 0 0 0 0 [(0, .int a0)] [] u
  refine x_iload_n (x := a0) d_M_mayFollow_0 rfl ?_
  refine x_iconst (v := 2) d_M_mayFollow_1 (by decide) ?_
  refine x_icmp_eq (tgt := 23) d_M_mayFollow_2 rfl (fun hc => ?_) (fun hc => ?_)
  · have h := h.1 hc
    refine x_iconst (v := 1) d_M_mayFollow_23 (by decide) ?_
    refine x_goto (tgt := 28) d_M_mayFollow_24 rfl ?_
    refine x_zret rfl d_M_mayFollow_28 ⟨_, rfl, ?_⟩
    exact h
  · have h := h.2 hc
    refine x_iload_n (x := a0) d_M_mayFollow_5 rfl ?_
    refine x_bipush (v := 8) d_M_mayFollow_6 (by decide) ?_
    refine x_icmp_le (tgt := 17) d_M_mayFollow_8 rfl (fun hc => ?_) (fun hc => ?_)
    · have h := h.1 hc
      exact w_M_mayFollow_17 l D cs Ev hE d post  a0 u h
    · have h := h.2 hc
      refine x_iload_n (x := a0) d_M_mayFollow_11 rfl ?_
      refine x_bipush (v := 14) d_M_mayFollow_12 (by decide) ?_
      refine x_icmp_lt (tgt := 23) d_M_mayFollow_14 rfl (fun hc => ?_) (fun hc => ?_)
      · have h := h.1 hc
        refine x_iconst (v := 1) d_M_mayFollow_23 (by decide) ?_
        refine x_goto (tgt := 28) d_M_mayFollow_24 rfl ?_
        refine x_zret rfl d_M_mayFollow_28 ⟨_, rfl, ?_⟩
        exact h
      · have h := h.2 hc
        exact w_M_mayFollow_17 l D cs Ev hE d post  a0 u h
