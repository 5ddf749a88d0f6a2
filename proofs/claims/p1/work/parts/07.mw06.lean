def P_M_between_35 (post : Int32 → MS → Prop) (x1 : Int32) (u : MS) : Prop := ((¬ x1 = 42 → post 6 u) ∧ (x1 = 42 → (qAt u ((gI u 9) + (1 : Int32)) ∧ ((¬ (vAt u ((gI u 9) + (1 : Int32))) = 42 → post 6 u) ∧ ((vAt u ((gI u 9) + (1 : Int32))) = 42 → post 7 u)))))
set_option maxHeartbeats 600000 in
set_option maxRecDepth 100000 in
theorem w_M_between_35 (l : Launch) (D : va_G) (cs : Nat → ClassId) (Ev : (Nat → Prop) → State → Prop) (hE : xEok Ev) (o : Nat) (a : Nat → Nat) (d : Nat) (post : Int32 → MS → Prop) (x1 : Int32) (u : MS) (h : P_M_between_35 post  x1 u) : RR l D clX (tysX cs) Ev "DeckFrontModel" b_M_between 3 w_M_between (rmD (d + 2)) (some .int) (wdM o a cs) (pI post) 0 0 0 0 35 [(0, .ref o), (1, .int x1)] [] u := by
  unfold P_M_between_35 at h
  refine x_iload_n (x := x1) d_M_between_35 rfl ?_
  refine x_bipush (v := 42) d_M_between_36 (by decide) ?_
  refine x_icmp_ne (tgt := 61) d_M_between_38 rfl (fun hc => ?_) (fun hc => ?_)
  · have h := h.1 hc
    refine x_bipush (v := 6) d_M_between_61 (by decide) ?_
    refine x_iret d_M_between_63 ⟨_, rfl, ?_⟩
    exact h
  · have h := h.2 hc
    refine x_aload_n (x := o) d_M_between_41 rfl ?_
    refine x_aload_n (x := o) d_M_between_42 rfl ?_
    refine x_get (v := .int (gI u 9)) f_M_126 (eM_o _ _ _ _) rfl d_M_between_43 ?_
    refine x_iconst (v := 1) d_M_between_46 (by decide) ?_
    refine x_iadd d_M_between_47 ?_
    refine x_callV (st := []) k_M_129 rfl (eM_o _ _ _ _) x_id (cf_M_at l D cs Ev hE o a (d + 1) ((gI u 9) + (1 : Int32)) u h.1) hE (rmD_ok (by omega) (by decide)) rfl (Nat.le_of_ble_eq_true rfl) rfl d_M_between_48 (x_rI (fun x u1 h9 => ?_))
    obtain ⟨rfl, rfl⟩ := h9
    have h := h.2
    refine x_bipush (v := 42) d_M_between_51 (by decide) ?_
    refine x_icmp_ne (tgt := 61) d_M_between_53 rfl (fun hc => ?_) (fun hc => ?_)
    · have h := h.1 hc
      refine x_bipush (v := 6) d_M_between_61 (by decide) ?_
      refine x_iret d_M_between_63 ⟨_, rfl, ?_⟩
      exact h
    · have h := h.2 hc
      refine x_bipush (v := 7) d_M_between_56 (by decide) ?_
      refine x_goto (tgt := 63) d_M_between_58 rfl ?_
      refine x_iret d_M_between_63 ⟨_, rfl, ?_⟩
      exact h
def P_M_between (post : Int32 → MS → Prop) (u : MS) : Prop := (qAt u (gI u 9) ∧ (∀ v1, v1 = (vAt u (gI u 9)) → ((v1 = 43 → post 5 u) ∧ (¬ v1 = 43 → ((¬ v1 = 45 → ((v1 = 42 → P_M_between_35 post v1 u) ∧ (¬ v1 = 42 → ((¬ v1 = 47 → P_M_dots (fun r3 u2 => ((r3 = 1 → post r3 u2) ∧ (¬ r3 = 1 → ((r3 = 2 → post r3 u2) ∧ (¬ r3 = 2 → ((¬ r3 = 4 → post 0 u2) ∧ (r3 = 4 → post r3 u2))))))) (gI u 9) u) ∧ (v1 = 47 → P_M_between_35 post v1 u))))) ∧ (v1 = 45 → post 5 u))))))
set_option maxHeartbeats 600000 in
set_option maxRecDepth 100000 in
theorem c_M_between (l : Launch) (D : va_G) (cs : Nat → ClassId) (Ev : (Nat → Prop) → State → Prop) (hE : xEok Ev) (o : Nat) (a : Nat → Nat) (d : Nat) (post : Int32 → MS → Prop) (u : MS) (h : P_M_between post  u) : xC l D clX (tysX cs) Ev y_M_between w_M_between (rmD (d + 2)) (wdM o a cs) [.ref o] u (pI post) 0 0 := by
  unfold P_M_between at h
  refine xC.of (cc := b_M_between) (nL := 3) (ret := (some .int)) (by decide) rfl (Nat.le_of_ble_eq_true rfl) ?_
  show RR l D clX (tysX cs) Ev "DeckFrontModel" b_M_between 3 w_M_between (rmD (d + 2)) (some .int) (wdM o a cs) (pI post) 0 0 0 0 0 [(0, .ref o)] [] u
  refine x_aload_n (x := o) d_M_between_0 rfl ?_
  refine x_aload_n (x := o) d_M_between_1 rfl ?_
  refine x_get (v := .int (gI u 9)) f_M_126 (eM_o _ _ _ _) rfl d_M_between_2 ?_
  refine x_callV (st := []) k_M_129 rfl (eM_o _ _ _ _) x_id (cf_M_at l D cs Ev hE o a (d + 1) (gI u 9) u h.1) hE (rmD_ok (by omega) (by decide)) rfl (Nat.le_of_ble_eq_true rfl) rfl d_M_between_5 (x_rI (fun x u1 h9 => ?_))
  obtain ⟨rfl, rfl⟩ := h9
  have h := h.2
  refine x_topI (fun v1 ev1 => ?_)
  have h := h v1 ev1
  refine x_istore_n (lv' := [(1, .int v1), (0, .ref o)]) d_M_between_8 (by decide) rfl ?_
  refine x_iload_n (x := v1) d_M_between_9 rfl ?_
  refine x_bipush (v := 43) d_M_between_10 (by decide) ?_
  refine x_icmp_eq (tgt := 21) d_M_between_12 rfl (fun hc => ?_) (fun hc => ?_)
  · have h := h.1 hc
    refine x_iconst (v := 5) d_M_between_21 (by decide) ?_
    refine x_iret d_M_between_22 ⟨_, rfl, ?_⟩
    exact h
  · have h := h.2 hc
    refine x_iload_n (x := v1) d_M_between_15 rfl ?_
    refine x_bipush (v := 45) d_M_between_16 (by decide) ?_
    refine x_icmp_ne (tgt := 23) d_M_between_18 rfl (fun hc => ?_) (fun hc => ?_)
    · have h := h.1 hc
      refine x_iload_n (x := v1) d_M_between_23 rfl ?_
      refine x_bipush (v := 42) d_M_between_24 (by decide) ?_
      refine x_icmp_eq (tgt := 35) d_M_between_26 rfl (fun hc => ?_) (fun hc => ?_)
      · have h := h.1 hc
        refine x_sub [1, 0] rfl ?_
        exact w_M_between_35 l D cs Ev hE o a d post  v1 u h
      · have h := h.2 hc
        refine x_iload_n (x := v1) d_M_between_29 rfl ?_
        refine x_bipush (v := 47) d_M_between_30 (by decide) ?_
        refine x_icmp_ne (tgt := 64) d_M_between_32 rfl (fun hc => ?_) (fun hc => ?_)
        · have h := h.1 hc
          refine x_aload_n (x := o) d_M_between_64 rfl ?_
          refine x_aload_n (x := o) d_M_between_65 rfl ?_
          refine x_get (v := .int (gI u 9)) f_M_126 (eM_o _ _ _ _) rfl d_M_between_66 ?_
          refine x_callV (st := []) k_M_170 rfl (eM_o _ _ _ _) x_id (c_M_dots l D cs Ev hE o a (d + 0) _ (gI u 9) u h) hE (rmD_ok (by omega) (by decide)) rfl (Nat.le_of_ble_eq_true rfl) rfl d_M_between_69 (x_rI (fun r3 u2 h => ?_))
          refine x_istore_n (lv' := [(2, .int r3), (1, .int v1), (0, .ref o)]) d_M_between_72 (by decide) rfl ?_
          refine x_iload_n (x := r3) d_M_between_73 rfl ?_
          refine x_iconst (v := 1) d_M_between_74 (by decide) ?_
          refine x_icmp_eq (tgt := 88) d_M_between_75 rfl (fun hc => ?_) (fun hc => ?_)
          · have h := h.1 hc
            refine x_iload_n (x := r3) d_M_between_88 rfl ?_
            refine x_goto (tgt := 93) d_M_between_89 rfl ?_
            refine x_iret d_M_between_93 ⟨_, rfl, ?_⟩
            exact h
          · have h := h.2 hc
            refine x_iload_n (x := r3) d_M_between_78 rfl ?_
            refine x_iconst (v := 2) d_M_between_79 (by decide) ?_
            refine x_icmp_eq (tgt := 88) d_M_between_80 rfl (fun hc => ?_) (fun hc => ?_)
            · have h := h.1 hc
              refine x_iload_n (x := r3) d_M_between_88 rfl ?_
              refine x_goto (tgt := 93) d_M_between_89 rfl ?_
              refine x_iret d_M_between_93 ⟨_, rfl, ?_⟩
              exact h
            · have h := h.2 hc
              refine x_iload_n (x := r3) d_M_between_83 rfl ?_
              refine x_iconst (v := 4) d_M_between_84 (by decide) ?_
              refine x_icmp_ne (tgt := 92) d_M_between_85 rfl (fun hc => ?_) (fun hc => ?_)
              · have h := h.1 hc
                refine x_iconst (v := 0) d_M_between_92 (by decide) ?_
                refine x_iret d_M_between_93 ⟨_, rfl, ?_⟩
                exact h
              · have h := h.2 hc
                refine x_iload_n (x := r3) d_M_between_88 rfl ?_
                refine x_goto (tgt := 93) d_M_between_89 rfl ?_
                refine x_iret d_M_between_93 ⟨_, rfl, ?_⟩
                exact h
        · have h := h.2 hc
          refine x_sub [1, 0] rfl ?_
          exact w_M_between_35 l D cs Ev hE o a d post  v1 u h
    · have h := h.2 hc
      refine x_iconst (v := 5) d_M_between_21 (by decide) ?_
      refine x_iret d_M_between_22 ⟨_, rfl, ?_⟩
      exact h
def P_M_related_38 (post : Int32 → MS → Prop) (x1 : Int32) (u : MS) : Prop := ((x1 < 0 → post 0 u) ∧ (¬ x1 < 0 → (vp_in x1 100 ∧ ((¬ (gA u 28 x1.toNatClampNeg) = 4 → post 0 u) ∧ ((gA u 28 x1.toNatClampNeg) = 4 → post 1 u)))))
set_option maxHeartbeats 600000 in
set_option maxRecDepth 100000 in
theorem w_M_related_38 (l : Launch) (D : va_G) (cs : Nat → ClassId) (Ev : (Nat → Prop) → State → Prop) (hE : xEok Ev) (o : Nat) (a : Nat → Nat) (d : Nat) (post : Int32 → MS → Prop) (x1 : Int32) (u : MS) (h : P_M_related_38 post  x1 u) : RR l D clX (tysX cs) Ev "DeckFrontModel" b_M_related 2 w_M_related (rmD (d + 0)) (some .boolean) (wdM o a cs) (pI post) 0 0 0 0 38 [(0, .ref o), (1, .int x1)] [] u := by
  unfold P_M_related_38 at h
  refine x_iload_n (x := x1) d_M_related_38 rfl ?_
  refine x_if_lt (tgt := 56) d_M_related_39 rfl (fun hc => ?_) (fun hc => ?_)
  · have h := h.1 hc
    refine x_iconst (v := 0) d_M_related_56 (by decide) ?_
    refine x_zret rfl d_M_related_57 ⟨_, rfl, ?_⟩
    exact h
  · have h := h.2 hc
    refine x_aload_n (x := o) d_M_related_42 rfl ?_
    refine x_get (v := .ref (a 28)) f_M_60 (eM_o _ _ _ _) rfl d_M_related_43 ?_
    refine x_iload_n (x := x1) d_M_related_46 rfl ?_
    refine x_iald (t0 := 0) (eM_28 _ _ _ _) rfl h.1 d_M_related_47 ?_
    have h := h.2
    refine x_iconst (v := 4) d_M_related_48 (by decide) ?_
    refine x_icmp_ne (tgt := 56) d_M_related_49 rfl (fun hc => ?_) (fun hc => ?_)
    · have h := h.1 hc
      refine x_iconst (v := 0) d_M_related_56 (by decide) ?_
      refine x_zret rfl d_M_related_57 ⟨_, rfl, ?_⟩
      exact h
    · have h := h.2 hc
      refine x_iconst (v := 1) d_M_related_52 (by decide) ?_
      refine x_goto (tgt := 57) d_M_related_53 rfl ?_
      refine x_zret rfl d_M_related_57 ⟨_, rfl, ?_⟩
      exact h
def P_M_related_7 (post : Int32 → MS → Prop) : Nat → Int32 → MS → Prop
  | 0, _, _ => False
  | f + 1, x1, u => ((x1 < 0 → P_M_related_38 post x1 u) ∧ (¬ x1 < 0 → (vp_in x1 100 ∧ ((8 ≤ (gA u 28 x1.toNatClampNeg) → P_M_related_38 post x1 u) ∧ (¬ 8 ≤ (gA u 28 x1.toNatClampNeg) → (vp_in x1 100 ∧ (((gA u 28 x1.toNatClampNeg) ≤ 4 → P_M_related_38 post x1 u) ∧ (¬ (gA u 28 x1.toNatClampNeg) ≤ 4 → P_M_related_7 post f (x1 + (-1)) u))))))))
set_option maxHeartbeats 600000 in
set_option maxRecDepth 100000 in
theorem w_M_related_7 (l : Launch) (D : va_G) (cs : Nat → ClassId) (Ev : (Nat → Prop) → State → Prop) (hE : xEok Ev) (o : Nat) (a : Nat → Nat) (d : Nat) (post : Int32 → MS → Prop) : ∀ (f : Nat) (x1 : Int32) (u : MS), P_M_related_7 post  f x1 u → RR l D clX (tysX cs) Ev "DeckFrontModel" b_M_related 2 w_M_related (rmD (d + 0)) (some .boolean) (wdM o a cs) (pI post) 0 0 0 0 7 [(0, .ref o), (1, .int x1)] [] u := by
  intro f
  induction f with
  | zero => intro x1 u h; exact h.elim
  | succ f ih =>
    intro x1 u h
    unfold P_M_related_7 at h
    refine x_iload_n (x := x1) d_M_related_7 rfl ?_
    refine x_if_lt (tgt := 38) d_M_related_8 rfl (fun hc => ?_) (fun hc => ?_)
    · have h := h.1 hc
      exact w_M_related_38 l D cs Ev hE o a d post  x1 u h
    · have h := h.2 hc
      refine x_aload_n (x := o) d_M_related_11 rfl ?_
      refine x_get (v := .ref (a 28)) f_M_60 (eM_o _ _ _ _) rfl d_M_related_12 ?_
      refine x_iload_n (x := x1) d_M_related_15 rfl ?_
      refine x_iald (t0 := 0) (eM_28 _ _ _ _) rfl h.1 d_M_related_16 ?_
      have h := h.2
      refine x_bipush (v := 8) d_M_related_17 (by decide) ?_
      refine x_icmp_ge (tgt := 38) d_M_related_19 rfl (fun hc => ?_) (fun hc => ?_)
      · have h := h.1 hc
        exact w_M_related_38 l D cs Ev hE o a d post  x1 u h
      · have h := h.2 hc
        refine x_aload_n (x := o) d_M_related_22 rfl ?_
        refine x_get (v := .ref (a 28)) f_M_60 (eM_o _ _ _ _) rfl d_M_related_23 ?_
        refine x_iload_n (x := x1) d_M_related_26 rfl ?_
        refine x_iald (t0 := 0) (eM_28 _ _ _ _) rfl h.1 d_M_related_27 ?_
        have h := h.2
        refine x_iconst (v := 4) d_M_related_28 (by decide) ?_
        refine x_icmp_le (tgt := 38) d_M_related_29 rfl (fun hc => ?_) (fun hc => ?_)
        · have h := h.1 hc
          exact w_M_related_38 l D cs Ev hE o a d post  x1 u h
        · have h := h.2 hc
          refine x_iinc (v := x1 + (-1)) (lv' := [(1, .int (x1 + (-1))), (0, .ref o)]) d_M_related_32 rfl rfl (by decide) rfl ?_
          refine x_goto (tgt := 7) d_M_related_35 rfl ?_
          refine x_sub [1, 0] rfl ?_
          exact ih (x1 + (-1)) u h
def P_M_related (post : Int32 → MS → Prop) (u : MS) : Prop := (∀ v1, v1 = ((gI u 27) - (1 : Int32)) → (∃ g, P_M_related_7 post g v1 u))
set_option maxHeartbeats 600000 in
set_option maxRecDepth 100000 in
theorem c_M_related (l : Launch) (D : va_G) (cs : Nat → ClassId) (Ev : (Nat → Prop) → State → Prop) (hE : xEok Ev) (o : Nat) (a : Nat → Nat) (d : Nat) (post : Int32 → MS → Prop) (u : MS) (h : P_M_related post  u) : xC l D clX (tysX cs) Ev y_M_related w_M_related (rmD (d + 0)) (wdM o a cs) [.ref o] u (pI post) 0 0 := by
  unfold P_M_related at h
  refine xC.of (cc := b_M_related) (nL := 2) (ret := (some .boolean)) (by decide) rfl (Nat.le_of_ble_eq_true rfl) ?_
  show RR l D clX (tysX cs) Ev "DeckFrontModel" b_M_related 2 w_M_related (rmD (d + 0)) (some .boolean) (wdM o a cs) (pI post) 0 0 0 0 0 [(0, .ref o)] [] u
  refine x_aload_n (x := o) d_M_related_0 rfl ?_
  refine x_get (v := .int (gI u 27)) f_M_179 (eM_o _ _ _ _) rfl d_M_related_1 ?_
  refine x_iconst (v := 1) d_M_related_4 (by decide) ?_
  refine x_isub d_M_related_5 ?_
  refine x_topI (fun v1 ev1 => ?_)
  have h := h v1 ev1
  refine x_istore_n (lv' := [(1, .int v1), (0, .ref o)]) d_M_related_6 (by decide) rfl ?_
  refine x_sub [1, 0] rfl ?_
  obtain ⟨f9, h⟩ := h
  exact w_M_related_7 l D cs Ev hE o a d post  f9 v1 u h
def P_M_print_342 (post : MS → Prop) (K9 : Int32 → MS → Prop) (x2 : Int32) (u : MS) : Prop := K9 x2 u
set_option maxHeartbeats 600000 in
set_option maxRecDepth 100000 in
theorem w_M_print_342 (l : Launch) (D : va_G) (cs : Nat → ClassId) (Ev : (Nat → Prop) → State → Prop) (hE : xEok Ev) (o : Nat) (a : Nat → Nat) (d : Nat) (post : MS → Prop) (K9 : Int32 → MS → Prop) (hK9 : ∀ (x2 : Int32) (u : MS), K9 x2 u → RR l D clX (tysX cs) Ev "DeckFrontModel" b_M_print 5 w_M_print (rmD (d + 2)) none (wdM o a cs) (pV post) 0 0 0 0 9 [(0, .ref o), (2, .int x2)] [] u) (x2 : Int32) (u : MS) (h : P_M_print_342 post K9 x2 u) : RR l D clX (tysX cs) Ev "DeckFrontModel" b_M_print 5 w_M_print (rmD (d + 2)) none (wdM o a cs) (pV post) 0 0 0 0 342 [(0, .ref o), (2, .int x2)] [] u := by
  unfold P_M_print_342 at h
  refine x_goto (tgt := 9) d_M_print_342 rfl ?_
  exact hK9 x2 u h
def P_M_print_339 (post : MS → Prop) (K9 : Int32 → MS → Prop) (x2 : Int32) (u : MS) : Prop := P_M_print_342 post K9 (x2 + 1) u
set_option maxHeartbeats 600000 in
set_option maxRecDepth 100000 in
theorem w_M_print_339 (l : Launch) (D : va_G) (cs : Nat → ClassId) (Ev : (Nat → Prop) → State → Prop) (hE : xEok Ev) (o : Nat) (a : Nat → Nat) (d : Nat) (post : MS → Prop) (K9 : Int32 → MS → Prop) (hK9 : ∀ (x2 : Int32) (u : MS), K9 x2 u → RR l D clX (tysX cs) Ev "DeckFrontModel" b_M_print 5 w_M_print (rmD (d + 2)) none (wdM o a cs) (pV post) 0 0 0 0 9 [(0, .ref o), (2, .int x2)] [] u) (x2 : Int32) (u : MS) (h : P_M_print_339 post K9 x2 u) : RR l D clX (tysX cs) Ev "DeckFrontModel" b_M_print 5 w_M_print (rmD (d + 2)) none (wdM o a cs) (pV post) 0 0 0 0 339 [(0, .ref o), (2, .int x2)] [] u := by
  unfold P_M_print_339 at h
  refine x_iinc (v := x2 + 1) (lv' := [(2, .int (x2 + 1)), (0, .ref o)]) d_M_print_339 rfl rfl (by decide) rfl ?_
  refine x_sub [1, 0] rfl ?_
  exact w_M_print_342 l D cs Ev hE o a d post K9 hK9 (x2 + 1) u h
def P_M_print_77 (post : MS → Prop) (K9 : Int32 → MS → Prop) (x2 : Int32) (x4 : Int32) (u : MS) : Prop := (vp_in x2 400 ∧ P_M_print_342 post K9 (x2 + 1) (sA u 32 x2.toNatClampNeg x4))
set_option maxHeartbeats 600000 in
set_option maxRecDepth 100000 in
theorem w_M_print_77 (l : Launch) (D : va_G) (cs : Nat → ClassId) (Ev : (Nat → Prop) → State → Prop) (hE : xEok Ev) (o : Nat) (a : Nat → Nat) (d : Nat) (post : MS → Prop) (K9 : Int32 → MS → Prop) (hK9 : ∀ (x2 : Int32) (u : MS), K9 x2 u → RR l D clX (tysX cs) Ev "DeckFrontModel" b_M_print 5 w_M_print (rmD (d + 2)) none (wdM o a cs) (pV post) 0 0 0 0 9 [(0, .ref o), (2, .int x2)] [] u) (x2 : Int32) (x4 : Int32) (u : MS) (h : P_M_print_77 post K9 x2 x4 u) : RR l D clX (tysX cs) Ev "DeckFrontModel" b_M_print 5 w_M_print (rmD (d + 2)) none (wdM o a cs) (pV post) 0 0 0 0 77 [(0, .ref o), (2, .int x2), (4, .int x4)] [] u := by
  unfold P_M_print_77 at h
  refine x_aload_n (x := o) d_M_print_77 rfl ?_
  refine x_get (v := .ref (a 32)) f_M_73 (eM_o _ _ _ _) rfl d_M_print_78 ?_
  refine x_iload_n (x := x2) d_M_print_81 rfl ?_
  refine x_iload (x := x4) d_M_print_82 rfl ?_
  refine x_iast (t0 := 0) (eM_32 _ _ _ _) rfl h.1 (sM_32 _ _ _ _ _ _) d_M_print_84 ?_
  have h := h.2
  refine x_iinc (v := x2 + 1) (lv' := [(2, .int (x2 + 1)), (0, .ref o), (4, .int x4)]) d_M_print_85 rfl rfl (by decide) rfl ?_
  refine x_goto (tgt := 342) d_M_print_88 rfl ?_
  refine x_sub [1, 0] rfl ?_
  exact w_M_print_342 l D cs Ev hE o a d post K9 hK9 (x2 + 1) (sA u 32 x2.toNatClampNeg x4) h
def P_M_print_9 (post : MS → Prop) : Nat → Int32 → MS → Prop
  | 0, _, _ => False
  | f + 1, x2, u => ((x2 ≤ 0 → post u) ∧ (¬ x2 ≤ 0 → (vp_in (x2 + (-1)) 400 ∧ (∀ v1, v1 = (gA u 32 (x2 + (-1)).toNatClampNeg) → (((-2000) < v1 → (((-1000) < v1 → ((0 ≤ v1 → (vp_in v1 100 ∧ ((¬ (gA u 24 v1.toNatClampNeg) = 0 → (vp_in v1 100 ∧ ((¬ (gA u 24 v1.toNatClampNeg) = 3 → (vp_in (gI u 10) 600 ∧ (vp_in (x2 + (-1)) 400 ∧ (vp_in v1 100 ∧ ((¬ (gA (sA (mPut u (40 : Int32)) 32 (x2 + (-1)).toNatClampNeg (-42 : Int32)) 24 v1.toNatClampNeg) = 1 → (vp_in v1 100 ∧ (vp_in v1 100 ∧ P_M_putPart (fun u2 => (vp_in v1 100 ∧ (vp_in ((x2 + (-1)) + 1) 400 ∧ P_M_print_339 post (fun zx2 zu => P_M_print_9 post f zx2 zu) ((x2 + (-1)) + 1) (sA u2 32 ((x2 + (-1)) + 1).toNatClampNeg (gA u2 21 v1.toNatClampNeg))))) (gA (sA (mPut u (40 : Int32)) 32 (x2 + (-1)).toNatClampNeg (-42 : Int32)) 19 v1.toNatClampNeg) (gA (sA (mPut u (40 : Int32)) 32 (x2 + (-1)).toNatClampNeg (-42 : Int32)) 20 v1.toNatClampNeg) (sA (mPut u (40 : Int32)) 32 (x2 + (-1)).toNatClampNeg (-42 : Int32))))) ∧ ((gA (sA (mPut u (40 : Int32)) 32 (x2 + (-1)).toNatClampNeg (-42 : Int32)) 24 v1.toNatClampNeg) = 1 → (vp_in v1 100 ∧ (vp_in ((x2 + (-1)) + 1) 400 ∧ (vp_in (((x2 + (-1)) + 1) + (1 : Int32)) 400 ∧ (vp_in v1 100 ∧ (vp_in (((x2 + (-1)) + 1) + 2) 400 ∧ P_M_print_339 post (fun zx2 zu => P_M_print_9 post f zx2 zu) (((x2 + (-1)) + 1) + 2) (sA (sA (sA (sA (mPut u (40 : Int32)) 32 (x2 + (-1)).toNatClampNeg (-42 : Int32)) 32 ((x2 + (-1)) + 1).toNatClampNeg (gA (sA (mPut u (40 : Int32)) 32 (x2 + (-1)).toNatClampNeg (-42 : Int32)) 22 v1.toNatClampNeg)) 32 (((x2 + (-1)) + 1) + (1 : Int32)).toNatClampNeg ((-1000 : Int32) - v1)) 32 (((x2 + (-1)) + 1) + 2).toNatClampNeg (gA (sA (sA (sA (mPut u (40 : Int32)) 32 (x2 + (-1)).toNatClampNeg (-42 : Int32)) 32 ((x2 + (-1)) + 1).toNatClampNeg (gA (sA (mPut u (40 : Int32)) 32 (x2 + (-1)).toNatClampNeg (-42 : Int32)) 22 v1.toNatClampNeg)) 32 (((x2 + (-1)) + 1) + (1 : Int32)).toNatClampNeg ((-1000 : Int32) - v1)) 21 v1.toNatClampNeg))))))))))))) ∧ ((gA u 24 v1.toNatClampNeg) = 3 → (vp_in v1 100 ∧ (vp_in v1 100 ∧ P_M_putPart (fun u3 => (vp_in (gI u3 10) 600 ∧ (vp_in (x2 + (-1)) 400 ∧ (vp_in v1 100 ∧ (((gA (sA (mPut u3 (40 : Int32)) 32 (x2 + (-1)).toNatClampNeg (-42 : Int32)) 21 v1.toNatClampNeg) < 0 → P_M_print_342 post (fun zx2 zu => P_M_print_9 post f zx2 zu) ((x2 + (-1)) + 1) (sA (mPut u3 (40 : Int32)) 32 (x2 + (-1)).toNatClampNeg (-42 : Int32))) ∧ (¬ (gA (sA (mPut u3 (40 : Int32)) 32 (x2 + (-1)).toNatClampNeg (-42 : Int32)) 21 v1.toNatClampNeg) < 0 → (vp_in v1 100 ∧ (vp_in ((x2 + (-1)) + 1) 400 ∧ P_M_print_342 post (fun zx2 zu => P_M_print_9 post f zx2 zu) (((x2 + (-1)) + 1) + 1) (sA (sA (mPut u3 (40 : Int32)) 32 (x2 + (-1)).toNatClampNeg (-42 : Int32)) 32 ((x2 + (-1)) + 1).toNatClampNeg ((-2000 : Int32) - (gA (sA (mPut u3 (40 : Int32)) 32 (x2 + (-1)).toNatClampNeg (-42 : Int32)) 21 v1.toNatClampNeg))))))))))) (gA u 19 v1.toNatClampNeg) (gA u 20 v1.toNatClampNeg) u)))))) ∧ ((gA u 24 v1.toNatClampNeg) = 0 → (vp_in v1 100 ∧ (vp_in v1 100 ∧ P_M_putPart (fun u4 => P_M_print_342 post (fun zx2 zu => P_M_print_9 post f zx2 zu) (x2 + (-1)) u4) (gA u 19 v1.toNatClampNeg) (gA u 20 v1.toNatClampNeg) u)))))) ∧ (¬ 0 ≤ v1 → (vp_in (gI u 10) 600 ∧ P_M_print_342 post (fun zx2 zu => P_M_print_9 post f zx2 zu) (x2 + (-1)) (mPut u ((-1 : Int32) - v1)))))) ∧ (¬ (-1000) < v1 → (vp_in ((-1000 : Int32) - v1) 100 ∧ (vp_in ((-1000 : Int32) - v1) 100 ∧ P_M_putPart (fun u5 => P_M_print_342 post (fun zx2 zu => P_M_print_9 post f zx2 zu) (x2 + (-1)) u5) (gA u 19 ((-1000 : Int32) - v1).toNatClampNeg) (gA u 20 ((-1000 : Int32) - v1).toNatClampNeg) u))))) ∧ (¬ (-2000) < v1 → (∀ v6, v6 = ((-2000 : Int32) - v1) → (vp_in v6 100 ∧ (((gA u 23 v6.toNatClampNeg) < 0 → P_M_print_77 post (fun zx2 zu => P_M_print_9 post f zx2 zu) (x2 + (-1)) v6 u) ∧ (¬ (gA u 23 v6.toNatClampNeg) < 0 → (vp_in v6 100 ∧ (vp_in (x2 + (-1)) 400 ∧ (vp_in ((x2 + (-1)) + (1 : Int32)) 400 ∧ P_M_print_77 post (fun zx2 zu => P_M_print_9 post f zx2 zu) ((x2 + (-1)) + 2) v6 (sA (sA u 32 (x2 + (-1)).toNatClampNeg ((-2000 : Int32) - (gA u 23 v6.toNatClampNeg))) 32 ((x2 + (-1)) + (1 : Int32)).toNatClampNeg (-45 : Int32)))))))))))))))
set_option maxHeartbeats 600000 in
set_option maxRecDepth 100000 in
theorem w_M_print_9 (l : Launch) (D : va_G) (cs : Nat → ClassId) (Ev : (Nat → Prop) → State → Prop) (hE : xEok Ev) (o : Nat) (a : Nat → Nat) (d : Nat) (post : MS → Prop) : ∀ (f : Nat) (x2 : Int32) (u : MS), P_M_print_9 post  f x2 u → RR l D clX (tysX cs) Ev "DeckFrontModel" b_M_print 5 w_M_print (rmD (d + 2)) none (wdM o a cs) (pV post) 0 0 0 0 9 [(0, .ref o), (2, .int x2)] [] u := by
  intro f
  induction f with
  | zero => intro x2 u h; exact h.elim
  | succ f ih =>
    intro x2 u h
    unfold P_M_print_9 at h
    refine x_iload_n (x := x2) d_M_print_9 rfl ?_
    refine x_if_le (tgt := 345) d_M_print_10 rfl (fun hc => ?_) (fun hc => ?_)
    · have h := h.1 hc
      refine x_vret d_M_print_345 ⟨rfl, ?_⟩
      exact h
    · have h := h.2 hc
      refine x_iinc (v := x2 + (-1)) (lv' := [(2, .int (x2 + (-1))), (0, .ref o)]) d_M_print_13 rfl rfl (by decide) rfl ?_
      refine x_aload_n (x := o) d_M_print_16 rfl ?_
      refine x_get (v := .ref (a 32)) f_M_73 (eM_o _ _ _ _) rfl d_M_print_17 ?_
      refine x_iload_n (x := x2 + (-1)) d_M_print_20 rfl ?_
      refine x_iald (t0 := 0) (eM_32 _ _ _ _) rfl h.1 d_M_print_21 ?_
      have h := h.2
      refine x_topI (fun v1 ev1 => ?_)
      have h := h v1 ev1
      refine x_istore_n (lv' := [(3, .int v1), (2, .int (x2 + (-1))), (0, .ref o)]) d_M_print_22 (by decide) rfl ?_
      refine x_iload_n (x := v1) d_M_print_23 rfl ?_
      refine x_sipush (v := (-2000)) d_M_print_24 (by decide) ?_
      refine x_icmp_gt (tgt := 91) d_M_print_27 rfl (fun hc => ?_) (fun hc => ?_)
      · have h := h.1 hc
        refine x_iload_n (x := v1) d_M_print_91 rfl ?_
        refine x_sipush (v := (-1000)) d_M_print_92 (by decide) ?_
        refine x_icmp_gt (tgt := 125) d_M_print_95 rfl (fun hc => ?_) (fun hc => ?_)
        · have h := h.1 hc
          refine x_iload_n (x := v1) d_M_print_125 rfl ?_
          refine x_if_ge (tgt := 139) d_M_print_126 rfl (fun hc => ?_) (fun hc => ?_)
          · have h := h.1 hc
            refine x_aload_n (x := o) d_M_print_139 rfl ?_
            refine x_get (v := .ref (a 24)) f_M_54 (eM_o _ _ _ _) rfl d_M_print_140 ?_
            refine x_iload_n (x := v1) d_M_print_143 rfl ?_
            refine x_iald (t0 := 0) (eM_24 _ _ _ _) rfl h.1 d_M_print_144 ?_
            have h := h.2
            refine x_if_ne (tgt := 167) d_M_print_145 rfl (fun hc => ?_) (fun hc => ?_)
            · have h := h.1 hc
              refine x_aload_n (x := o) d_M_print_167 rfl ?_
              refine x_get (v := .ref (a 24)) f_M_54 (eM_o _ _ _ _) rfl d_M_print_168 ?_
              refine x_iload_n (x := v1) d_M_print_171 rfl ?_
              refine x_iald (t0 := 0) (eM_24 _ _ _ _) rfl h.1 d_M_print_172 ?_
              have h := h.2
              refine x_iconst (v := 3) d_M_print_173 (by decide) ?_
              refine x_icmp_ne (tgt := 241) d_M_print_174 rfl (fun hc => ?_) (fun hc => ?_)
              · have h := h.1 hc
                refine x_aload_n (x := o) d_M_print_241 rfl ?_
                refine x_bipush (v := 40) d_M_print_242 (by decide) ?_
                refine x_callV (st := []) k_M_122 rfl (eM_o _ _ _ _) x_id (cf_M_put l D cs Ev hE o a (d + 1) (40 : Int32) u h.1) hE (rmD_ok (by omega) (by decide)) rfl (Nat.le_of_ble_eq_true rfl) rfl d_M_print_244 (x_rV (fun u1 h9 => ?_))
                subst h9
                have h := h.2
                refine x_aload_n (x := o) d_M_print_247 rfl ?_
                refine x_get (v := .ref (a 32)) f_M_73 (eM_o _ _ _ _) rfl d_M_print_248 ?_
                refine x_iload_n (x := x2 + (-1)) d_M_print_251 rfl ?_
                refine x_bipush (v := (-42)) d_M_print_252 (by decide) ?_
                refine x_iast (t0 := 0) (eM_32 _ _ _ _) rfl h.1 (sM_32 _ _ _ _ _ _) d_M_print_254 ?_
                have h := h.2
                refine x_iinc (v := (x2 + (-1)) + 1) (lv' := [(2, .int ((x2 + (-1)) + 1)), (3, .int v1), (0, .ref o)]) d_M_print_255 rfl rfl (by decide) rfl ?_
                refine x_aload_n (x := o) d_M_print_258 rfl ?_
                refine x_get (v := .ref (a 24)) f_M_54 (eM_o _ _ _ _) rfl d_M_print_259 ?_
                refine x_iload_n (x := v1) d_M_print_262 rfl ?_
                refine x_iald (t0 := 0) (eM_24 _ _ _ _) rfl h.1 d_M_print_263 ?_
                have h := h.2
                refine x_iconst (v := 1) d_M_print_264 (by decide) ?_
                refine x_icmp_ne (tgt := 311) d_M_print_265 rfl (fun hc => ?_) (fun hc => ?_)
                · have h := h.1 hc
                  refine x_aload_n (x := o) d_M_print_311 rfl ?_
                  refine x_aload_n (x := o) d_M_print_312 rfl ?_
                  refine x_get (v := .ref (a 19)) f_M_39 (eM_o _ _ _ _) rfl d_M_print_313 ?_
                  refine x_iload_n (x := v1) d_M_print_316 rfl ?_
                  refine x_iald (t0 := 0) (eM_19 _ _ _ _) rfl h.1 d_M_print_317 ?_
                  have h := h.2
                  refine x_aload_n (x := o) d_M_print_318 rfl ?_
                  refine x_get (v := .ref (a 20)) f_M_42 (eM_o _ _ _ _) rfl d_M_print_319 ?_
                  refine x_iload_n (x := v1) d_M_print_322 rfl ?_
                  refine x_iald (t0 := 0) (eM_20 _ _ _ _) rfl h.1 d_M_print_323 ?_
                  have h := h.2
                  refine x_callV (st := []) k_M_134 rfl (eM_o _ _ _ _) x_id (c_M_putPart l D cs Ev hE o a (d + 0) _ (gA (sA (mPut u (40 : Int32)) 32 (x2 + (-1)).toNatClampNeg (-42 : Int32)) 19 v1.toNatClampNeg) (gA (sA (mPut u (40 : Int32)) 32 (x2 + (-1)).toNatClampNeg (-42 : Int32)) 20 v1.toNatClampNeg) (sA (mPut u (40 : Int32)) 32 (x2 + (-1)).toNatClampNeg (-42 : Int32)) h) hE (rmD_ok (by omega) (by decide)) rfl (Nat.le_of_ble_eq_true rfl) rfl d_M_print_324 (x_rV (fun u2 h => ?_))
                  refine x_aload_n (x := o) d_M_print_327 rfl ?_
                  refine x_get (v := .ref (a 32)) f_M_73 (eM_o _ _ _ _) rfl d_M_print_328 ?_
                  refine x_iload_n (x := (x2 + (-1)) + 1) d_M_print_331 rfl ?_
                  refine x_aload_n (x := o) d_M_print_332 rfl ?_
                  refine x_get (v := .ref (a 21)) f_M_45 (eM_o _ _ _ _) rfl d_M_print_333 ?_
                  refine x_iload_n (x := v1) d_M_print_336 rfl ?_
                  refine x_iald (t0 := 0) (eM_21 _ _ _ _) rfl h.1 d_M_print_337 ?_
                  have h := h.2
                  refine x_iast (t0 := 0) (eM_32 _ _ _ _) rfl h.1 (sM_32 _ _ _ _ _ _) d_M_print_338 ?_
                  have h := h.2
                  refine x_sub [2, 0] rfl ?_
                  exact w_M_print_339 l D cs Ev hE o a d post (fun zx2 zu => P_M_print_9 post f zx2 zu) ih ((x2 + (-1)) + 1) (sA u2 32 ((x2 + (-1)) + 1).toNatClampNeg (gA u2 21 v1.toNatClampNeg)) h
                · have h := h.2 hc
                  refine x_aload_n (x := o) d_M_print_268 rfl ?_
                  refine x_get (v := .ref (a 32)) f_M_73 (eM_o _ _ _ _) rfl d_M_print_269 ?_
                  refine x_iload_n (x := (x2 + (-1)) + 1) d_M_print_272 rfl ?_
                  refine x_aload_n (x := o) d_M_print_273 rfl ?_
                  refine x_get (v := .ref (a 22)) f_M_48 (eM_o _ _ _ _) rfl d_M_print_274 ?_
                  refine x_iload_n (x := v1) d_M_print_277 rfl ?_
                  refine x_iald (t0 := 0) (eM_22 _ _ _ _) rfl h.1 d_M_print_278 ?_
                  have h := h.2
                  refine x_iast (t0 := 0) (eM_32 _ _ _ _) rfl h.1 (sM_32 _ _ _ _ _ _) d_M_print_279 ?_
                  have h := h.2
                  refine x_aload_n (x := o) d_M_print_280 rfl ?_
                  refine x_get (v := .ref (a 32)) f_M_73 (eM_o _ _ _ _) rfl d_M_print_281 ?_
                  refine x_iload_n (x := (x2 + (-1)) + 1) d_M_print_284 rfl ?_
                  refine x_iconst (v := 1) d_M_print_285 (by decide) ?_
                  refine x_iadd d_M_print_286 ?_
                  refine x_sipush (v := (-1000)) d_M_print_287 (by decide) ?_
                  refine x_iload_n (x := v1) d_M_print_290 rfl ?_
                  refine x_isub d_M_print_291 ?_
                  refine x_iast (t0 := 0) (eM_32 _ _ _ _) rfl h.1 (sM_32 _ _ _ _ _ _) d_M_print_292 ?_
                  have h := h.2
                  refine x_iinc (v := ((x2 + (-1)) + 1) + 2) (lv' := [(2, .int (((x2 + (-1)) + 1) + 2)), (3, .int v1), (0, .ref o)]) d_M_print_293 rfl rfl (by decide) rfl ?_
                  refine x_aload_n (x := o) d_M_print_296 rfl ?_
                  refine x_get (v := .ref (a 32)) f_M_73 (eM_o _ _ _ _) rfl d_M_print_297 ?_
                  refine x_iload_n (x := ((x2 + (-1)) + 1) + 2) d_M_print_300 rfl ?_
                  refine x_aload_n (x := o) d_M_print_301 rfl ?_
                  refine x_get (v := .ref (a 21)) f_M_45 (eM_o _ _ _ _) rfl d_M_print_302 ?_
                  refine x_iload_n (x := v1) d_M_print_305 rfl ?_
                  refine x_iald (t0 := 0) (eM_21 _ _ _ _) rfl h.1 d_M_print_306 ?_
                  have h := h.2
                  refine x_iast (t0 := 0) (eM_32 _ _ _ _) rfl h.1 (sM_32 _ _ _ _ _ _) d_M_print_307 ?_
                  have h := h.2
                  refine x_goto (tgt := 339) d_M_print_308 rfl ?_
                  refine x_sub [2, 0] rfl ?_
                  exact w_M_print_339 l D cs Ev hE o a d post (fun zx2 zu => P_M_print_9 post f zx2 zu) ih (((x2 + (-1)) + 1) + 2) (sA (sA (sA (sA (mPut u (40 : Int32)) 32 (x2 + (-1)).toNatClampNeg (-42 : Int32)) 32 ((x2 + (-1)) + 1).toNatClampNeg (gA (sA (mPut u (40 : Int32)) 32 (x2 + (-1)).toNatClampNeg (-42 : Int32)) 22 v1.toNatClampNeg)) 32 (((x2 + (-1)) + 1) + (1 : Int32)).toNatClampNeg ((-1000 : Int32) - v1)) 32 (((x2 + (-1)) + 1) + 2).toNatClampNeg (gA (sA (sA (sA (mPut u (40 : Int32)) 32 (x2 + (-1)).toNatClampNeg (-42 : Int32)) 32 ((x2 + (-1)) + 1).toNatClampNeg (gA (sA (mPut u (40 : Int32)) 32 (x2 + (-1)).toNatClampNeg (-42 : Int32)) 22 v1.toNatClampNeg)) 32 (((x2 + (-1)) + 1) + (1 : Int32)).toNatClampNeg ((-1000 : Int32) - v1)) 21 v1.toNatClampNeg)) h
              · have h := h.2 hc
                refine x_aload_n (x := o) d_M_print_177 rfl ?_
                refine x_aload_n (x := o) d_M_print_178 rfl ?_
                refine x_get (v := .ref (a 19)) f_M_39 (eM_o _ _ _ _) rfl d_M_print_179 ?_
                refine x_iload_n (x := v1) d_M_print_182 rfl ?_
                refine x_iald (t0 := 0) (eM_19 _ _ _ _) rfl h.1 d_M_print_183 ?_
                have h := h.2
                refine x_aload_n (x := o) d_M_print_184 rfl ?_
                refine x_get (v := .ref (a 20)) f_M_42 (eM_o _ _ _ _) rfl d_M_print_185 ?_
                refine x_iload_n (x := v1) d_M_print_188 rfl ?_
                refine x_iald (t0 := 0) (eM_20 _ _ _ _) rfl h.1 d_M_print_189 ?_
                have h := h.2
                refine x_callV (st := []) k_M_134 rfl (eM_o _ _ _ _) x_id (c_M_putPart l D cs Ev hE o a (d + 0) _ (gA u 19 v1.toNatClampNeg) (gA u 20 v1.toNatClampNeg) u h) hE (rmD_ok (by omega) (by decide)) rfl (Nat.le_of_ble_eq_true rfl) rfl d_M_print_190 (x_rV (fun u3 h => ?_))
                refine x_aload_n (x := o) d_M_print_193 rfl ?_
                refine x_bipush (v := 40) d_M_print_194 (by decide) ?_
                refine x_callV (st := []) k_M_122 rfl (eM_o _ _ _ _) x_id (cf_M_put l D cs Ev hE o a (d + 1) (40 : Int32) u3 h.1) hE (rmD_ok (by omega) (by decide)) rfl (Nat.le_of_ble_eq_true rfl) rfl d_M_print_196 (x_rV (fun u1 h9 => ?_))
                subst h9
                have h := h.2
                refine x_aload_n (x := o) d_M_print_199 rfl ?_
                refine x_get (v := .ref (a 32)) f_M_73 (eM_o _ _ _ _) rfl d_M_print_200 ?_
                refine x_iload_n (x := x2 + (-1)) d_M_print_203 rfl ?_
                refine x_bipush (v := (-42)) d_M_print_204 (by decide) ?_
                refine x_iast (t0 := 0) (eM_32 _ _ _ _) rfl h.1 (sM_32 _ _ _ _ _ _) d_M_print_206 ?_
                have h := h.2
                refine x_iinc (v := (x2 + (-1)) + 1) (lv' := [(2, .int ((x2 + (-1)) + 1)), (3, .int v1), (0, .ref o)]) d_M_print_207 rfl rfl (by decide) rfl ?_
                refine x_aload_n (x := o) d_M_print_210 rfl ?_
                refine x_get (v := .ref (a 21)) f_M_45 (eM_o _ _ _ _) rfl d_M_print_211 ?_
                refine x_iload_n (x := v1) d_M_print_214 rfl ?_
                refine x_iald (t0 := 0) (eM_21 _ _ _ _) rfl h.1 d_M_print_215 ?_
                have h := h.2
                refine x_if_lt (tgt := 342) d_M_print_216 rfl (fun hc => ?_) (fun hc => ?_)
                · have h := h.1 hc
                  refine x_sub [2, 0] rfl ?_
                  exact w_M_print_342 l D cs Ev hE o a d post (fun zx2 zu => P_M_print_9 post f zx2 zu) ih ((x2 + (-1)) + 1) (sA (mPut u3 (40 : Int32)) 32 (x2 + (-1)).toNatClampNeg (-42 : Int32)) h
                · have h := h.2 hc
                  refine x_aload_n (x := o) d_M_print_219 rfl ?_
                  refine x_get (v := .ref (a 32)) f_M_73 (eM_o _ _ _ _) rfl d_M_print_220 ?_
                  refine x_iload_n (x := (x2 + (-1)) + 1) d_M_print_223 rfl ?_
                  refine x_sipush (v := (-2000)) d_M_print_224 (by decide) ?_
                  refine x_aload_n (x := o) d_M_print_227 rfl ?_
                  refine x_get (v := .ref (a 21)) f_M_45 (eM_o _ _ _ _) rfl d_M_print_228 ?_
                  refine x_iload_n (x := v1) d_M_print_231 rfl ?_
                  refine x_iald (t0 := 0) (eM_21 _ _ _ _) rfl h.1 d_M_print_232 ?_
                  have h := h.2
                  refine x_isub d_M_print_233 ?_
                  refine x_iast (t0 := 0) (eM_32 _ _ _ _) rfl h.1 (sM_32 _ _ _ _ _ _) d_M_print_234 ?_
                  have h := h.2
                  refine x_iinc (v := ((x2 + (-1)) + 1) + 1) (lv' := [(2, .int (((x2 + (-1)) + 1) + 1)), (3, .int v1), (0, .ref o)]) d_M_print_235 rfl rfl (by decide) rfl ?_
                  refine x_goto (tgt := 342) d_M_print_238 rfl ?_
                  refine x_sub [2, 0] rfl ?_
                  exact w_M_print_342 l D cs Ev hE o a d post (fun zx2 zu => P_M_print_9 post f zx2 zu) ih (((x2 + (-1)) + 1) + 1) (sA (sA (mPut u3 (40 : Int32)) 32 (x2 + (-1)).toNatClampNeg (-42 : Int32)) 32 ((x2 + (-1)) + 1).toNatClampNeg ((-2000 : Int32) - (gA (sA (mPut u3 (40 : Int32)) 32 (x2 + (-1)).toNatClampNeg (-42 : Int32)) 21 v1.toNatClampNeg))) h
            · have h := h.2 hc
              refine x_aload_n (x := o) d_M_print_148 rfl ?_
              refine x_aload_n (x := o) d_M_print_149 rfl ?_
              refine x_get (v := .ref (a 19)) f_M_39 (eM_o _ _ _ _) rfl d_M_print_150 ?_
              refine x_iload_n (x := v1) d_M_print_153 rfl ?_
              refine x_iald (t0 := 0) (eM_19 _ _ _ _) rfl h.1 d_M_print_154 ?_
              have h := h.2
              refine x_aload_n (x := o) d_M_print_155 rfl ?_
              refine x_get (v := .ref (a 20)) f_M_42 (eM_o _ _ _ _) rfl d_M_print_156 ?_
              refine x_iload_n (x := v1) d_M_print_159 rfl ?_
              refine x_iald (t0 := 0) (eM_20 _ _ _ _) rfl h.1 d_M_print_160 ?_
              have h := h.2
              refine x_callV (st := []) k_M_134 rfl (eM_o _ _ _ _) x_id (c_M_putPart l D cs Ev hE o a (d + 0) _ (gA u 19 v1.toNatClampNeg) (gA u 20 v1.toNatClampNeg) u h) hE (rmD_ok (by omega) (by decide)) rfl (Nat.le_of_ble_eq_true rfl) rfl d_M_print_161 (x_rV (fun u4 h => ?_))
              refine x_goto (tgt := 342) d_M_print_164 rfl ?_
              refine x_sub [2, 1] rfl ?_
              exact w_M_print_342 l D cs Ev hE o a d post (fun zx2 zu => P_M_print_9 post f zx2 zu) ih (x2 + (-1)) u4 h
          · have h := h.2 hc
            refine x_aload_n (x := o) d_M_print_129 rfl ?_
            refine x_iconst (v := (-1)) d_M_print_130 (by decide) ?_
            refine x_iload_n (x := v1) d_M_print_131 rfl ?_
            refine x_isub d_M_print_132 ?_
            refine x_callV (st := []) k_M_122 rfl (eM_o _ _ _ _) x_id (cf_M_put l D cs Ev hE o a (d + 1) ((-1 : Int32) - v1) u h.1) hE (rmD_ok (by omega) (by decide)) rfl (Nat.le_of_ble_eq_true rfl) rfl d_M_print_133 (x_rV (fun u1 h9 => ?_))
            subst h9
            have h := h.2
            refine x_goto (tgt := 342) d_M_print_136 rfl ?_
            refine x_sub [2, 1] rfl ?_
            exact w_M_print_342 l D cs Ev hE o a d post (fun zx2 zu => P_M_print_9 post f zx2 zu) ih (x2 + (-1)) (mPut u ((-1 : Int32) - v1)) h
        · have h := h.2 hc
          refine x_aload_n (x := o) d_M_print_98 rfl ?_
          refine x_aload_n (x := o) d_M_print_99 rfl ?_
          refine x_get (v := .ref (a 19)) f_M_39 (eM_o _ _ _ _) rfl d_M_print_100 ?_
          refine x_sipush (v := (-1000)) d_M_print_103 (by decide) ?_
          refine x_iload_n (x := v1) d_M_print_106 rfl ?_
          refine x_isub d_M_print_107 ?_
          refine x_iald (t0 := 0) (eM_19 _ _ _ _) rfl h.1 d_M_print_108 ?_
          have h := h.2
          refine x_aload_n (x := o) d_M_print_109 rfl ?_
          refine x_get (v := .ref (a 20)) f_M_42 (eM_o _ _ _ _) rfl d_M_print_110 ?_
          refine x_sipush (v := (-1000)) d_M_print_113 (by decide) ?_
          refine x_iload_n (x := v1) d_M_print_116 rfl ?_
          refine x_isub d_M_print_117 ?_
          refine x_iald (t0 := 0) (eM_20 _ _ _ _) rfl h.1 d_M_print_118 ?_
          have h := h.2
          refine x_callV (st := []) k_M_134 rfl (eM_o _ _ _ _) x_id (c_M_putPart l D cs Ev hE o a (d + 0) _ (gA u 19 ((-1000 : Int32) - v1).toNatClampNeg) (gA u 20 ((-1000 : Int32) - v1).toNatClampNeg) u h) hE (rmD_ok (by omega) (by decide)) rfl (Nat.le_of_ble_eq_true rfl) rfl d_M_print_119 (x_rV (fun u5 h => ?_))
          refine x_goto (tgt := 342) d_M_print_122 rfl ?_
          refine x_sub [2, 1] rfl ?_
          exact w_M_print_342 l D cs Ev hE o a d post (fun zx2 zu => P_M_print_9 post f zx2 zu) ih (x2 + (-1)) u5 h
      · have h := h.2 hc
        refine x_sipush (v := (-2000)) d_M_print_30 (by decide) ?_
        refine x_iload_n (x := v1) d_M_print_33 rfl ?_
        refine x_isub d_M_print_34 ?_
        refine x_topI (fun v6 ev6 => ?_)
        have h := h v6 ev6
        refine x_istore (lv' := [(4, .int v6), (3, .int v1), (2, .int (x2 + (-1))), (0, .ref o)]) d_M_print_35 (by decide) rfl ?_
        refine x_aload_n (x := o) d_M_print_37 rfl ?_
        refine x_get (v := .ref (a 23)) f_M_51 (eM_o _ _ _ _) rfl d_M_print_38 ?_
        refine x_iload (x := v6) d_M_print_41 rfl ?_
        refine x_iald (t0 := 0) (eM_23 _ _ _ _) rfl h.1 d_M_print_43 ?_
        have h := h.2
        refine x_if_lt (tgt := 77) d_M_print_44 rfl (fun hc => ?_) (fun hc => ?_)
        · have h := h.1 hc
          refine x_sub [3, 2, 0] rfl ?_
          exact w_M_print_77 l D cs Ev hE o a d post (fun zx2 zu => P_M_print_9 post f zx2 zu) ih (x2 + (-1)) v6 u h
        · have h := h.2 hc
          refine x_aload_n (x := o) d_M_print_47 rfl ?_
          refine x_get (v := .ref (a 32)) f_M_73 (eM_o _ _ _ _) rfl d_M_print_48 ?_
          refine x_iload_n (x := x2 + (-1)) d_M_print_51 rfl ?_
          refine x_sipush (v := (-2000)) d_M_print_52 (by decide) ?_
          refine x_aload_n (x := o) d_M_print_55 rfl ?_
          refine x_get (v := .ref (a 23)) f_M_51 (eM_o _ _ _ _) rfl d_M_print_56 ?_
          refine x_iload (x := v6) d_M_print_59 rfl ?_
          refine x_iald (t0 := 0) (eM_23 _ _ _ _) rfl h.1 d_M_print_61 ?_
          have h := h.2
          refine x_isub d_M_print_62 ?_
          refine x_iast (t0 := 0) (eM_32 _ _ _ _) rfl h.1 (sM_32 _ _ _ _ _ _) d_M_print_63 ?_
          have h := h.2
          refine x_aload_n (x := o) d_M_print_64 rfl ?_
          refine x_get (v := .ref (a 32)) f_M_73 (eM_o _ _ _ _) rfl d_M_print_65 ?_
          refine x_iload_n (x := x2 + (-1)) d_M_print_68 rfl ?_
          refine x_iconst (v := 1) d_M_print_69 (by decide) ?_
          refine x_iadd d_M_print_70 ?_
          refine x_bipush (v := (-45)) d_M_print_71 (by decide) ?_
          refine x_iast (t0 := 0) (eM_32 _ _ _ _) rfl h.1 (sM_32 _ _ _ _ _ _) d_M_print_73 ?_
          have h := h.2
          refine x_iinc (v := (x2 + (-1)) + 2) (lv' := [(2, .int ((x2 + (-1)) + 2)), (4, .int v6), (3, .int v1), (0, .ref o)]) d_M_print_74 rfl rfl (by decide) rfl ?_
          refine x_sub [3, 0, 1] rfl ?_
          exact w_M_print_77 l D cs Ev hE o a d post (fun zx2 zu => P_M_print_9 post f zx2 zu) ih ((x2 + (-1)) + 2) v6 (sA (sA u 32 (x2 + (-1)).toNatClampNeg ((-2000 : Int32) - (gA u 23 v6.toNatClampNeg))) 32 ((x2 + (-1)) + (1 : Int32)).toNatClampNeg (-45 : Int32)) h
def P_M_print (post : MS → Prop) (a0 : Int32) (u : MS) : Prop := (vp_in (0 : Int32) 400 ∧ (∃ g, P_M_print_9 post g 1 (sA u 32 (0 : Int32).toNatClampNeg a0)))
set_option maxHeartbeats 600000 in
set_option maxRecDepth 100000 in
theorem c_M_print (l : Launch) (D : va_G) (cs : Nat → ClassId) (Ev : (Nat → Prop) → State → Prop) (hE : xEok Ev) (o : Nat) (a : Nat → Nat) (d : Nat) (post : MS → Prop) (a0 : Int32) (u : MS) (h : P_M_print post a0 u) : xC l D clX (tysX cs) Ev y_M_print w_M_print (rmD (d + 2)) (wdM o a cs) [.ref o, .int a0] u (pV post) 0 0 := by
  unfold P_M_print at h
  refine xC.of (cc := b_M_print) (nL := 5) (ret := none) (by decide) rfl (Nat.le_of_ble_eq_true rfl) ?_
  show RR l D clX (tysX cs) Ev "DeckFrontModel" b_M_print 5 w_M_print (rmD (d + 2)) none (wdM o a cs) (pV post) 0 0 0 0 0 [(0, .ref o), (1, .int a0)] [] u
  refine x_iconst (v := 1) d_M_print_0 (by decide) ?_
  refine x_istore_n (lv' := [(2, .int 1), (0, .ref o), (1, .int a0)]) d_M_print_1 (by decide) rfl ?_
  refine x_aload_n (x := o) d_M_print_2 rfl ?_
  refine x_get (v := .ref (a 32)) f_M_73 (eM_o _ _ _ _) rfl d_M_print_3 ?_
  refine x_iconst (v := 0) d_M_print_6 (by decide) ?_
  refine x_iload_n (x := a0) d_M_print_7 rfl ?_
  refine x_iast (t0 := 0) (eM_32 _ _ _ _) rfl h.1 (sM_32 _ _ _ _ _ _) d_M_print_8 ?_
  have h := h.2
  refine x_sub [1, 0] rfl ?_
  obtain ⟨f9, h⟩ := h
  exact w_M_print_9 l D cs Ev hE o a d post  f9 1 (sA u 32 (0 : Int32).toNatClampNeg a0) h
