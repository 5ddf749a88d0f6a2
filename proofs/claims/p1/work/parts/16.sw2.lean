def P_S_expressions_9 (post : Int32 → MS → Prop) (PE : (Int32 → MS → Prop) → Int32 → Int32 → MS → Prop) : Nat → Int32 → Int32 → Int32 → MS → Prop
  | 0, _, _, _, _ => False
  | f + 1, x1, x2, x3, u => ((80 ≤ x3 → (narrow .boolean (.int x2) = .int x2 ∧ post x2 u)) ∧ (¬ 80 ≤ x3 → ((x2 = 0 → (narrow .boolean (.int x2) = .int x2 ∧ post x2 u)) ∧ (¬ x2 = 0 → P_T_take (fun r4 u3 => ((r4 = 0 → (narrow .boolean (.int x2) = .int x2 ∧ post x2 u3)) ∧ (¬ r4 = 0 → PE (fun r6 u5 => P_S_expressions_9 post PE f x1 r6 (x3 + 1) u5) (1 : Int32) x1 u3))) 23 u))))
set_option maxHeartbeats 600000 in
set_option maxRecDepth 100000 in
theorem w_S_expressions_9 (l : Launch) (D : va_G) (cs : Nat → ClassId) (Ev : (Nat → Prop) → State → Prop) (hE : xEok Ev) (adK adV : Nat → Nat) (fm : Option Nat) (X : xEv adK adV fm Ev) (o : Nat) (a : Nat → Nat) (e0 : Nat) (PE : (Int32 → MS → Prop) → Int32 → Int32 → MS → Prop) (hPE : ∀ (d : Nat) (post : Int32 → MS → Prop) (x y : Int32) (u : MS), PE post x y u → xC l D clX (tysX cs) Ev y_S_expression w_S_expression (rmD (e0 + d)) (wdS o a cs) [.ref o, .int x, .int y] u (pI post) 0 0) (d : Nat) (post : Int32 → MS → Prop) : ∀ (f : Nat) (x1 : Int32) (x2 : Int32) (x3 : Int32) (u : MS), P_S_expressions_9 post PE  f x1 x2 x3 u → RR l D clX (tysX cs) Ev "DeckFront$Statement" b_S_expressions 4 w_S_expressions (rmD (e0 + d + 6)) (some .boolean) (wdS o a cs) (pI post) 0 0 0 0 9 [(0, .ref o), (1, .int x1), (2, .int x2), (3, .int x3)] [] u := by
  intro f
  induction f with
  | zero => intro x1 x2 x3 u h; exact h.elim
  | succ f ih =>
    intro x1 x2 x3 u h
    unfold P_S_expressions_9 at h
    refine x_iload_n (x := x3) d_S_expressions_9 rfl ?_
    refine x_bipush (v := 80) d_S_expressions_10 (by decide) ?_
    refine x_icmp_ge (tgt := 41) d_S_expressions_12 rfl (fun hc => ?_) (fun hc => ?_)
    · have h := h.1 hc
      refine x_iload_n (x := x2) d_S_expressions_41 rfl ?_
      refine x_zret h.1 d_S_expressions_42 ⟨_, rfl, ?_⟩
      exact h.2
    · have h := h.2 hc
      refine x_iload_n (x := x2) d_S_expressions_15 rfl ?_
      refine x_if_eq (tgt := 41) d_S_expressions_16 rfl (fun hc => ?_) (fun hc => ?_)
      · have h := h.1 hc
        refine x_iload_n (x := x2) d_S_expressions_41 rfl ?_
        refine x_zret h.1 d_S_expressions_42 ⟨_, rfl, ?_⟩
        exact h.2
      · have h := h.2 hc
        refine x_aload_n (x := o) d_S_expressions_19 rfl ?_
        refine x_ldcS (fun A s h9 => ((X A s h9).2.1 23 (by decide)).1) d_S_expressions_20 ?_
        refine x_callU (st := []) k_S_27 rfl (eS_o _ _ _ _) x_id (c_T_take l D cs Ev hE adK adV fm X o a 23 (by decide) (e0 + d + 0) _ u h) hE (rmD_ok (by omega) (by decide)) rfl (Nat.le_of_ble_eq_true rfl) rfl d_S_expressions_22 (x_rI (fun r4 u3 h => ?_))
        refine x_if_eq (tgt := 41) d_S_expressions_25 rfl (fun hc => ?_) (fun hc => ?_)
        · have h := h.1 hc
          refine x_iload_n (x := x2) d_S_expressions_41 rfl ?_
          refine x_zret h.1 d_S_expressions_42 ⟨_, rfl, ?_⟩
          exact h.2
        · have h := h.2 hc
          refine x_aload_n (x := o) d_S_expressions_28 rfl ?_
          refine x_iconst (v := 1) d_S_expressions_29 (by decide) ?_
          refine x_iload_n (x := x1) d_S_expressions_30 rfl ?_
          refine x_callV (st := []) k_S_31 rfl (eS_o _ _ _ _) x_id (hPE  (d + 5) _ (1 : Int32) x1 u3 h) hE (rmD_ok (by omega) (by decide)) rfl (Nat.le_of_ble_eq_true rfl) rfl d_S_expressions_31 (x_rI (fun r6 u5 h => ?_))
          refine x_istore_n (lv' := [(2, .int r6), (0, .ref o), (1, .int x1), (3, .int x3)]) d_S_expressions_34 (by decide) rfl ?_
          refine x_iinc (v := x3 + 1) (lv' := [(3, .int (x3 + 1)), (2, .int r6), (0, .ref o), (1, .int x1)]) d_S_expressions_35 rfl rfl (by decide) rfl ?_
          refine x_goto (tgt := 9) d_S_expressions_38 rfl ?_
          refine x_sub [2, 3, 1, 0] rfl ?_
          exact ih x1 r6 (x3 + 1) u5 h
def P_S_expressions (post : Int32 → MS → Prop) (PE : (Int32 → MS → Prop) → Int32 → Int32 → MS → Prop) (a0 : Int32) (u : MS) : Prop := PE (fun r2 u1 => (∃ g, P_S_expressions_9 post PE g a0 r2 0 u1)) (1 : Int32) a0 u
set_option maxHeartbeats 600000 in
set_option maxRecDepth 100000 in
theorem c_S_expressions (l : Launch) (D : va_G) (cs : Nat → ClassId) (Ev : (Nat → Prop) → State → Prop) (hE : xEok Ev) (adK adV : Nat → Nat) (fm : Option Nat) (X : xEv adK adV fm Ev) (o : Nat) (a : Nat → Nat) (e0 : Nat) (PE : (Int32 → MS → Prop) → Int32 → Int32 → MS → Prop) (hPE : ∀ (d : Nat) (post : Int32 → MS → Prop) (x y : Int32) (u : MS), PE post x y u → xC l D clX (tysX cs) Ev y_S_expression w_S_expression (rmD (e0 + d)) (wdS o a cs) [.ref o, .int x, .int y] u (pI post) 0 0) (d : Nat) (post : Int32 → MS → Prop) (a0 : Int32) (u : MS) (h : P_S_expressions post PE a0 u) : xC l D clX (tysX cs) Ev y_S_expressions w_S_expressions (rmD (e0 + d + 6)) (wdS o a cs) [.ref o, .int a0] u (pI post) 0 0 := by
  unfold P_S_expressions at h
  refine xC.of (cc := b_S_expressions) (nL := 4) (ret := (some .boolean)) (by decide) rfl (Nat.le_of_ble_eq_true rfl) ?_
  show RR l D clX (tysX cs) Ev "DeckFront$Statement" b_S_expressions 4 w_S_expressions (rmD (e0 + d + 6)) (some .boolean) (wdS o a cs) (pI post) 0 0 0 0 0 [(0, .ref o), (1, .int a0)] [] u
  refine x_aload_n (x := o) d_S_expressions_0 rfl ?_
  refine x_iconst (v := 1) d_S_expressions_1 (by decide) ?_
  refine x_iload_n (x := a0) d_S_expressions_2 rfl ?_
  refine x_callV (st := []) k_S_31 rfl (eS_o _ _ _ _) x_id (hPE  (d + 5) _ (1 : Int32) a0 u h) hE (rmD_ok (by omega) (by decide)) rfl (Nat.le_of_ble_eq_true rfl) rfl d_S_expressions_3 (x_rI (fun r2 u1 h => ?_))
  refine x_istore_n (lv' := [(2, .int r2), (0, .ref o), (1, .int a0)]) d_S_expressions_6 (by decide) rfl ?_
  refine x_iconst (v := 0) d_S_expressions_7 (by decide) ?_
  refine x_istore_n (lv' := [(3, .int 0), (2, .int r2), (0, .ref o), (1, .int a0)]) d_S_expressions_8 (by decide) rfl ?_
  refine x_sub [2, 3, 1, 0] rfl ?_
  obtain ⟨f9, h⟩ := h
  exact w_S_expressions_9 l D cs Ev hE adK adV fm X o a e0 PE hPE d post  f9 a0 r2 0 u1 h
def P_S_list (post : Int32 → MS → Prop) (PE : (Int32 → MS → Prop) → Int32 → Int32 → MS → Prop) (a0 : Int32) (u : MS) : Prop := ((8 < a0 → post 0 u) ∧ (¬ 8 < a0 → P_T_take (fun r2 u1 => ((r2 = 0 → post 0 u1) ∧ (¬ r2 = 0 → P_S_expressions (fun r4 u3 => ((r4 = 0 → post 0 u3) ∧ (¬ r4 = 0 → P_T_take (fun r6 u5 => ((r6 = 0 → post 0 u5) ∧ (¬ r6 = 0 → post 1 u5))) 24 u3))) PE a0 u1))) 22 u))
set_option maxHeartbeats 600000 in
set_option maxRecDepth 100000 in
theorem c_S_list (l : Launch) (D : va_G) (cs : Nat → ClassId) (Ev : (Nat → Prop) → State → Prop) (hE : xEok Ev) (adK adV : Nat → Nat) (fm : Option Nat) (X : xEv adK adV fm Ev) (o : Nat) (a : Nat → Nat) (e0 : Nat) (PE : (Int32 → MS → Prop) → Int32 → Int32 → MS → Prop) (hPE : ∀ (d : Nat) (post : Int32 → MS → Prop) (x y : Int32) (u : MS), PE post x y u → xC l D clX (tysX cs) Ev y_S_expression w_S_expression (rmD (e0 + d)) (wdS o a cs) [.ref o, .int x, .int y] u (pI post) 0 0) (d : Nat) (post : Int32 → MS → Prop) (a0 : Int32) (u : MS) (h : P_S_list post PE a0 u) : xC l D clX (tysX cs) Ev y_S_list w_S_list (rmD (e0 + d + 7)) (wdS o a cs) [.ref o, .int a0] u (pI post) 0 0 := by
  unfold P_S_list at h
  refine xC.of (cc := b_S_list) (nL := 2) (ret := (some .boolean)) (by decide) rfl (Nat.le_of_ble_eq_true rfl) ?_
  show RR l D clX (tysX cs) Ev "DeckFront$Statement" b_S_list 2 w_S_list (rmD (e0 + d + 7)) (some .boolean) (wdS o a cs) (pI post) 0 0 0 0 0 [(0, .ref o), (1, .int a0)] [] u
  refine x_iload_n (x := a0) d_S_list_0 rfl ?_
  refine x_bipush (v := 8) d_S_list_1 (by decide) ?_
  refine x_icmp_gt (tgt := 36) d_S_list_3 rfl (fun hc => ?_) (fun hc => ?_)
  · have h := h.1 hc
    refine x_iconst (v := 0) d_S_list_36 (by decide) ?_
    refine x_zret rfl d_S_list_37 ⟨_, rfl, ?_⟩
    exact h
  · have h := h.2 hc
    refine x_aload_n (x := o) d_S_list_6 rfl ?_
    refine x_ldcS (fun A s h9 => ((X A s h9).2.1 22 (by decide)).1) d_S_list_7 ?_
    refine x_callU (st := []) k_S_27 rfl (eS_o _ _ _ _) x_id (c_T_take l D cs Ev hE adK adV fm X o a 22 (by decide) (e0 + d + 1) _ u h) hE (rmD_ok (by omega) (by decide)) rfl (Nat.le_of_ble_eq_true rfl) rfl d_S_list_9 (x_rI (fun r2 u1 h => ?_))
    refine x_if_eq (tgt := 36) d_S_list_12 rfl (fun hc => ?_) (fun hc => ?_)
    · have h := h.1 hc
      refine x_iconst (v := 0) d_S_list_36 (by decide) ?_
      refine x_zret rfl d_S_list_37 ⟨_, rfl, ?_⟩
      exact h
    · have h := h.2 hc
      refine x_aload_n (x := o) d_S_list_15 rfl ?_
      refine x_iload_n (x := a0) d_S_list_16 rfl ?_
      refine x_callV (st := []) k_S_95 rfl (eS_o _ _ _ _) x_id (c_S_expressions l D cs Ev hE adK adV fm X o a e0 PE hPE (d + 0) _ a0 u1 h) hE (rmD_ok (by omega) (by decide)) rfl (Nat.le_of_ble_eq_true rfl) rfl d_S_list_17 (x_rI (fun r4 u3 h => ?_))
      refine x_if_eq (tgt := 36) d_S_list_20 rfl (fun hc => ?_) (fun hc => ?_)
      · have h := h.1 hc
        refine x_iconst (v := 0) d_S_list_36 (by decide) ?_
        refine x_zret rfl d_S_list_37 ⟨_, rfl, ?_⟩
        exact h
      · have h := h.2 hc
        refine x_aload_n (x := o) d_S_list_23 rfl ?_
        refine x_ldcS (fun A s h9 => ((X A s h9).2.1 24 (by decide)).1) d_S_list_24 ?_
        refine x_callU (st := []) k_S_27 rfl (eS_o _ _ _ _) x_id (c_T_take l D cs Ev hE adK adV fm X o a 24 (by decide) (e0 + d + 1) _ u3 h) hE (rmD_ok (by omega) (by decide)) rfl (Nat.le_of_ble_eq_true rfl) rfl d_S_list_26 (x_rI (fun r6 u5 h => ?_))
        refine x_if_eq (tgt := 36) d_S_list_29 rfl (fun hc => ?_) (fun hc => ?_)
        · have h := h.1 hc
          refine x_iconst (v := 0) d_S_list_36 (by decide) ?_
          refine x_zret rfl d_S_list_37 ⟨_, rfl, ?_⟩
          exact h
        · have h := h.2 hc
          refine x_iconst (v := 1) d_S_list_32 (by decide) ?_
          refine x_goto (tgt := 37) d_S_list_33 rfl ?_
          refine x_zret rfl d_S_list_37 ⟨_, rfl, ?_⟩
          exact h
def P_S_reference_52 (post : Int32 → MS → Prop) (PE : (Int32 → MS → Prop) → Int32 → Int32 → MS → Prop) (x1 : Int32) (u : MS) : Prop := P_S_list (fun r7 u6 => ((r7 = 0 → post 0 u6) ∧ (¬ r7 = 0 → post 1 u6))) PE x1 u
set_option maxHeartbeats 600000 in
set_option maxRecDepth 100000 in
theorem w_S_reference_52 (l : Launch) (D : va_G) (cs : Nat → ClassId) (Ev : (Nat → Prop) → State → Prop) (hE : xEok Ev) (adK adV : Nat → Nat) (fm : Option Nat) (X : xEv adK adV fm Ev) (o : Nat) (a : Nat → Nat) (e0 : Nat) (PE : (Int32 → MS → Prop) → Int32 → Int32 → MS → Prop) (hPE : ∀ (d : Nat) (post : Int32 → MS → Prop) (x y : Int32) (u : MS), PE post x y u → xC l D clX (tysX cs) Ev y_S_expression w_S_expression (rmD (e0 + d)) (wdS o a cs) [.ref o, .int x, .int y] u (pI post) 0 0) (d : Nat) (post : Int32 → MS → Prop) (x1 : Int32) (u : MS) (h : P_S_reference_52 post PE  x1 u) : RR l D clX (tysX cs) Ev "DeckFront$Statement" b_S_reference 4 w_S_reference (rmD (e0 + d + 8)) (some .boolean) (wdS o a cs) (pI post) 0 0 0 0 52 [(0, .ref o), (1, .int x1)] [] u := by
  unfold P_S_reference_52 at h
  refine x_aload_n (x := o) d_S_reference_52 rfl ?_
  refine x_iload_n (x := x1) d_S_reference_53 rfl ?_
  refine x_callV (st := []) k_S_86 rfl (eS_o _ _ _ _) x_id (c_S_list l D cs Ev hE adK adV fm X o a e0 PE hPE (d + 0) _ x1 u h) hE (rmD_ok (by omega) (by decide)) rfl (Nat.le_of_ble_eq_true rfl) rfl d_S_reference_54 (x_rI (fun r7 u6 h => ?_))
  refine x_if_eq (tgt := 64) d_S_reference_57 rfl (fun hc => ?_) (fun hc => ?_)
  · have h := h.1 hc
    refine x_iconst (v := 0) d_S_reference_64 (by decide) ?_
    refine x_zret rfl d_S_reference_65 ⟨_, rfl, ?_⟩
    exact h
  · have h := h.2 hc
    refine x_iconst (v := 1) d_S_reference_60 (by decide) ?_
    refine x_goto (tgt := 65) d_S_reference_61 rfl ?_
    refine x_zret rfl d_S_reference_65 ⟨_, rfl, ?_⟩
    exact h
def P_S_reference (post : Int32 → MS → Prop) (PE : (Int32 → MS → Prop) → Int32 → Int32 → MS → Prop) (a0 : Int32) (a1 : Int32) (u : MS) : Prop := (∀ v1, v1 = (gI u 5) → P_T_takeName (fun r3 u2 => ((¬ r3 = 0 → P_T_isNext (fun r5 u4 => ((¬ r5 = 0 → (vp_in v1 80 ∧ ((8 < a0 → post 0 (sA u4 3 v1.toNatClampNeg (3 : Int32))) ∧ (¬ 8 < a0 → ((a1 = 0 → P_S_reference_52 post PE a0 (sA u4 3 v1.toNatClampNeg (3 : Int32))) ∧ (¬ a1 = 0 → P_T_take (fun r9 u8 => ((¬ r9 = 0 → post 1 u8) ∧ (r9 = 0 → P_S_reference_52 post PE a0 u8))) 21 (sA u4 3 v1.toNatClampNeg (3 : Int32)))))))) ∧ (r5 = 0 → post 1 u4))) (40 : Int32) u2) ∧ (r3 = 0 → post 0 u2))) (4 : Int32) u)
set_option maxHeartbeats 600000 in
set_option maxRecDepth 100000 in
theorem c_S_reference (l : Launch) (D : va_G) (cs : Nat → ClassId) (Ev : (Nat → Prop) → State → Prop) (hE : xEok Ev) (adK adV : Nat → Nat) (fm : Option Nat) (X : xEv adK adV fm Ev) (o : Nat) (a : Nat → Nat) (e0 : Nat) (PE : (Int32 → MS → Prop) → Int32 → Int32 → MS → Prop) (hPE : ∀ (d : Nat) (post : Int32 → MS → Prop) (x y : Int32) (u : MS), PE post x y u → xC l D clX (tysX cs) Ev y_S_expression w_S_expression (rmD (e0 + d)) (wdS o a cs) [.ref o, .int x, .int y] u (pI post) 0 0) (d : Nat) (post : Int32 → MS → Prop) (a0 : Int32) (a1 : Int32) (u : MS) (h : P_S_reference post PE a0 a1 u) : xC l D clX (tysX cs) Ev y_S_reference w_S_reference (rmD (e0 + d + 8)) (wdS o a cs) [.ref o, .int a0, .int a1] u (pI post) 0 0 := by
  unfold P_S_reference at h
  refine xC.of (cc := b_S_reference) (nL := 4) (ret := (some .boolean)) (by decide) rfl (Nat.le_of_ble_eq_true rfl) ?_
  show RR l D clX (tysX cs) Ev "DeckFront$Statement" b_S_reference 4 w_S_reference (rmD (e0 + d + 8)) (some .boolean) (wdS o a cs) (pI post) 0 0 0 0 0 [(0, .ref o), (1, .int a0), (2, .int a1)] [] u
  refine x_aload_n (x := o) d_S_reference_0 rfl ?_
  refine x_get (v := .int (gI u 5)) f_S_15 (eS_o _ _ _ _) rfl d_S_reference_1 ?_
  refine x_topI (fun v1 ev1 => ?_)
  have h := h v1 ev1
  refine x_istore_n (lv' := [(3, .int v1), (0, .ref o), (1, .int a0), (2, .int a1)]) d_S_reference_4 (by decide) rfl ?_
  refine x_aload_n (x := o) d_S_reference_5 rfl ?_
  refine x_iconst (v := 4) d_S_reference_6 (by decide) ?_
  refine x_callU (st := []) k_S_57 rfl (eS_o _ _ _ _) x_id (c_T_takeName l D cs Ev hE adK adV fm X o a (e0 + d + 6) _ (4 : Int32) u h) hE (rmD_ok (by omega) (by decide)) rfl (Nat.le_of_ble_eq_true rfl) rfl d_S_reference_7 (x_rI (fun r3 u2 h => ?_))
  refine x_if_ne (tgt := 15) d_S_reference_10 rfl (fun hc => ?_) (fun hc => ?_)
  · have h := h.1 hc
    refine x_aload_n (x := o) d_S_reference_15 rfl ?_
    refine x_bipush (v := 40) d_S_reference_16 (by decide) ?_
    refine x_callU (st := []) k_S_82 rfl (eS_o _ _ _ _) x_id (c_T_isNext l D cs Ev hE adK adV fm X o a (e0 + d + 7) _ (40 : Int32) u2 h) hE (rmD_ok (by omega) (by decide)) rfl (Nat.le_of_ble_eq_true rfl) rfl d_S_reference_18 (x_rI (fun r5 u4 h => ?_))
    refine x_if_ne (tgt := 26) d_S_reference_21 rfl (fun hc => ?_) (fun hc => ?_)
    · have h := h.1 hc
      refine x_aload_n (x := o) d_S_reference_26 rfl ?_
      refine x_get (v := .ref (a 3)) f_S_185 (eS_o _ _ _ _) rfl d_S_reference_27 ?_
      refine x_iload_n (x := v1) d_S_reference_30 rfl ?_
      refine x_iconst (v := 3) d_S_reference_31 (by decide) ?_
      refine x_iast (t0 := 0) (eS_3 _ _ _ _) rfl h.1 (sS_3 _ _ _ _ _ _) d_S_reference_32 ?_
      have h := h.2
      refine x_iload_n (x := a0) d_S_reference_33 rfl ?_
      refine x_bipush (v := 8) d_S_reference_34 (by decide) ?_
      refine x_icmp_gt (tgt := 64) d_S_reference_36 rfl (fun hc => ?_) (fun hc => ?_)
      · have h := h.1 hc
        refine x_iconst (v := 0) d_S_reference_64 (by decide) ?_
        refine x_zret rfl d_S_reference_65 ⟨_, rfl, ?_⟩
        exact h
      · have h := h.2 hc
        refine x_iload_n (x := a1) d_S_reference_39 rfl ?_
        refine x_if_eq (tgt := 52) d_S_reference_40 rfl (fun hc => ?_) (fun hc => ?_)
        · have h := h.1 hc
          refine x_sub [1, 2] rfl ?_
          exact w_S_reference_52 l D cs Ev hE adK adV fm X o a e0 PE hPE d post  a0 (sA u4 3 v1.toNatClampNeg (3 : Int32)) h
        · have h := h.2 hc
          refine x_aload_n (x := o) d_S_reference_43 rfl ?_
          refine x_ldcS (fun A s h9 => ((X A s h9).2.1 21 (by decide)).1) d_S_reference_44 ?_
          refine x_callU (st := []) k_S_27 rfl (eS_o _ _ _ _) x_id (c_T_take l D cs Ev hE adK adV fm X o a 21 (by decide) (e0 + d + 2) _ (sA u4 3 v1.toNatClampNeg (3 : Int32)) h) hE (rmD_ok (by omega) (by decide)) rfl (Nat.le_of_ble_eq_true rfl) rfl d_S_reference_46 (x_rI (fun r9 u8 h => ?_))
          refine x_if_ne (tgt := 60) d_S_reference_49 rfl (fun hc => ?_) (fun hc => ?_)
          · have h := h.1 hc
            refine x_iconst (v := 1) d_S_reference_60 (by decide) ?_
            refine x_goto (tgt := 65) d_S_reference_61 rfl ?_
            refine x_zret rfl d_S_reference_65 ⟨_, rfl, ?_⟩
            exact h
          · have h := h.2 hc
            refine x_sub [1, 2] rfl ?_
            exact w_S_reference_52 l D cs Ev hE adK adV fm X o a e0 PE hPE d post  a0 u8 h
    · have h := h.2 hc
      refine x_iconst (v := 1) d_S_reference_24 (by decide) ?_
      refine x_zret rfl d_S_reference_25 ⟨_, rfl, ?_⟩
      exact h
  · have h := h.2 hc
    refine x_iconst (v := 0) d_S_reference_13 (by decide) ?_
    refine x_zret rfl d_S_reference_14 ⟨_, rfl, ?_⟩
    exact h
def P_S_group (post : Int32 → MS → Prop) (PE : (Int32 → MS → Prop) → Int32 → Int32 → MS → Prop) (a0 : Int32) (u : MS) : Prop := ((a0 ≤ 8 → (vp_in (gI u 5) 80 ∧ PE (fun r2 u1 => ((r2 = 0 → post 0 u1) ∧ (¬ r2 = 0 → P_T_isNext (fun r4 u3 => ((¬ r4 = 0 → (vp_in (gI u3 5) 80 ∧ post 1 (sI (sA u3 3 (gI u3 5).toNatClampNeg (5 : Int32)) 5 ((gI u3 5) + (1 : Int32))))) ∧ (r4 = 0 → post 0 u3))) (41 : Int32) u1))) (1 : Int32) a0 (sI (sA u 3 (gI u 5).toNatClampNeg (5 : Int32)) 5 ((gI u 5) + (1 : Int32))))) ∧ (¬ a0 ≤ 8 → post 0 u))
set_option maxHeartbeats 600000 in
set_option maxRecDepth 100000 in
theorem c_S_group (l : Launch) (D : va_G) (cs : Nat → ClassId) (Ev : (Nat → Prop) → State → Prop) (hE : xEok Ev) (adK adV : Nat → Nat) (fm : Option Nat) (X : xEv adK adV fm Ev) (o : Nat) (a : Nat → Nat) (e0 : Nat) (PE : (Int32 → MS → Prop) → Int32 → Int32 → MS → Prop) (hPE : ∀ (d : Nat) (post : Int32 → MS → Prop) (x y : Int32) (u : MS), PE post x y u → xC l D clX (tysX cs) Ev y_S_expression w_S_expression (rmD (e0 + d)) (wdS o a cs) [.ref o, .int x, .int y] u (pI post) 0 0) (d : Nat) (post : Int32 → MS → Prop) (a0 : Int32) (u : MS) (h : P_S_group post PE a0 u) : xC l D clX (tysX cs) Ev y_S_group w_S_group (rmD (e0 + d + 1)) (wdS o a cs) [.ref o, .int a0] u (pI post) 0 0 := by
  unfold P_S_group at h
  refine xC.of (cc := b_S_group) (nL := 2) (ret := (some .boolean)) (by decide) rfl (Nat.le_of_ble_eq_true rfl) ?_
  show RR l D clX (tysX cs) Ev "DeckFront$Statement" b_S_group 2 w_S_group (rmD (e0 + d + 1)) (some .boolean) (wdS o a cs) (pI post) 0 0 0 0 0 [(0, .ref o), (1, .int a0)] [] u
  refine x_iload_n (x := a0) d_S_group_0 rfl ?_
  refine x_bipush (v := 8) d_S_group_1 (by decide) ?_
  refine x_icmp_le (tgt := 8) d_S_group_3 rfl (fun hc => ?_) (fun hc => ?_)
  · have h := h.1 hc
    refine x_aload_n (x := o) d_S_group_8 rfl ?_
    refine x_get (v := .ref (a 3)) f_S_185 (eS_o _ _ _ _) rfl d_S_group_9 ?_
    refine x_aload_n (x := o) d_S_group_12 rfl ?_
    refine x_get (v := .int (gI u 5)) f_S_15 (eS_o _ _ _ _) rfl d_S_group_13 ?_
    refine x_iconst (v := 5) d_S_group_16 (by decide) ?_
    refine x_iast (t0 := 0) (eS_3 _ _ _ _) rfl h.1 (sS_3 _ _ _ _ _ _) d_S_group_17 ?_
    have h := h.2
    refine x_aload_n (x := o) d_S_group_18 rfl ?_
    refine x_dup d_S_group_19 rfl ?_
    refine x_get (v := .int (gI u 5)) f_S_15 (eS_o _ _ _ _) rfl d_S_group_20 ?_
    refine x_iconst (v := 1) d_S_group_23 (by decide) ?_
    refine x_iadd d_S_group_24 ?_
    refine x_put f_S_15 fw_S_5 (eS_o _ _ _ _) rfl rfl (Nat.le_of_ble_eq_true rfl) (sS_5 _ _ _ _ _) d_S_group_25 ?_
    refine x_aload_n (x := o) d_S_group_28 rfl ?_
    refine x_iconst (v := 1) d_S_group_29 (by decide) ?_
    refine x_iload_n (x := a0) d_S_group_30 rfl ?_
    refine x_callV (st := []) k_S_31 rfl (eS_o _ _ _ _) x_id (hPE  (d + 0) _ (1 : Int32) a0 (sI (sA u 3 (gI u 5).toNatClampNeg (5 : Int32)) 5 ((gI u 5) + (1 : Int32))) h) hE (rmD_ok (by omega) (by decide)) rfl (Nat.le_of_ble_eq_true rfl) rfl d_S_group_31 (x_rI (fun r2 u1 h => ?_))
    refine x_if_eq (tgt := 46) d_S_group_34 rfl (fun hc => ?_) (fun hc => ?_)
    · have h := h.1 hc
      refine x_iconst (v := 0) d_S_group_46 (by decide) ?_
      refine x_zret rfl d_S_group_47 ⟨_, rfl, ?_⟩
      exact h
    · have h := h.2 hc
      refine x_aload_n (x := o) d_S_group_37 rfl ?_
      refine x_bipush (v := 41) d_S_group_38 (by decide) ?_
      refine x_callU (st := []) k_S_82 rfl (eS_o _ _ _ _) x_id (c_T_isNext l D cs Ev hE adK adV fm X o a (e0 + d + 0) _ (41 : Int32) u1 h) hE (rmD_ok (by omega) (by decide)) rfl (Nat.le_of_ble_eq_true rfl) rfl d_S_group_40 (x_rI (fun r4 u3 h => ?_))
      refine x_if_ne (tgt := 48) d_S_group_43 rfl (fun hc => ?_) (fun hc => ?_)
      · have h := h.1 hc
        refine x_aload_n (x := o) d_S_group_48 rfl ?_
        refine x_get (v := .ref (a 3)) f_S_185 (eS_o _ _ _ _) rfl d_S_group_49 ?_
        refine x_aload_n (x := o) d_S_group_52 rfl ?_
        refine x_get (v := .int (gI u3 5)) f_S_15 (eS_o _ _ _ _) rfl d_S_group_53 ?_
        refine x_iconst (v := 5) d_S_group_56 (by decide) ?_
        refine x_iast (t0 := 0) (eS_3 _ _ _ _) rfl h.1 (sS_3 _ _ _ _ _ _) d_S_group_57 ?_
        have h := h.2
        refine x_aload_n (x := o) d_S_group_58 rfl ?_
        refine x_dup d_S_group_59 rfl ?_
        refine x_get (v := .int (gI u3 5)) f_S_15 (eS_o _ _ _ _) rfl d_S_group_60 ?_
        refine x_iconst (v := 1) d_S_group_63 (by decide) ?_
        refine x_iadd d_S_group_64 ?_
        refine x_put f_S_15 fw_S_5 (eS_o _ _ _ _) rfl rfl (Nat.le_of_ble_eq_true rfl) (sS_5 _ _ _ _ _) d_S_group_65 ?_
        refine x_iconst (v := 1) d_S_group_68 (by decide) ?_
        refine x_zret rfl d_S_group_69 ⟨_, rfl, ?_⟩
        exact h
      · have h := h.2 hc
        refine x_iconst (v := 0) d_S_group_46 (by decide) ?_
        refine x_zret rfl d_S_group_47 ⟨_, rfl, ?_⟩
        exact h
  · have h := h.2 hc
    refine x_iconst (v := 0) d_S_group_6 (by decide) ?_
    refine x_zret rfl d_S_group_7 ⟨_, rfl, ?_⟩
    exact h
def P_S_primary (post : Int32 → MS → Prop) (PE : (Int32 → MS → Prop) → Int32 → Int32 → MS → Prop) (a0 : Int32) (u : MS) : Prop := P_T_takeDecimal (fun r2 u1 => ((r2 = 0 → P_T_take (fun r4 u3 => ((¬ r4 = 0 → post 1 u3) ∧ (r4 = 0 → P_T_take (fun r6 u5 => ((¬ r6 = 0 → post 1 u5) ∧ (r6 = 0 → P_T_takeQuote (fun r8 u7 => ((r8 = 0 → P_T_isNext (fun r10 u9 => ((r10 = 0 → P_S_reference (fun r12 u11 => (narrow .boolean (.int r12) = .int r12 ∧ post r12 u11)) PE (a0 + (1 : Int32)) (1 : Int32) u9) ∧ (¬ r10 = 0 → P_S_group (fun r14 u13 => (narrow .boolean (.int r14) = .int r14 ∧ post r14 u13)) PE (a0 + (1 : Int32)) u9))) (40 : Int32) u7) ∧ (¬ r8 = 0 → post 1 u7))) u5))) 20 u3))) 19 u1) ∧ (¬ r2 = 0 → P_T_takeExponent (fun r16 u15 => (narrow .boolean (.int r16) = .int r16 ∧ post r16 u15)) u1))) u
set_option maxHeartbeats 600000 in
set_option maxRecDepth 100000 in
theorem c_S_primary (l : Launch) (D : va_G) (cs : Nat → ClassId) (Ev : (Nat → Prop) → State → Prop) (hE : xEok Ev) (adK adV : Nat → Nat) (fm : Option Nat) (X : xEv adK adV fm Ev) (o : Nat) (a : Nat → Nat) (e0 : Nat) (PE : (Int32 → MS → Prop) → Int32 → Int32 → MS → Prop) (hPE : ∀ (d : Nat) (post : Int32 → MS → Prop) (x y : Int32) (u : MS), PE post x y u → xC l D clX (tysX cs) Ev y_S_expression w_S_expression (rmD (e0 + d)) (wdS o a cs) [.ref o, .int x, .int y] u (pI post) 0 0) (d : Nat) (post : Int32 → MS → Prop) (a0 : Int32) (u : MS) (h : P_S_primary post PE a0 u) : xC l D clX (tysX cs) Ev y_S_primary w_S_primary (rmD (e0 + d + 9)) (wdS o a cs) [.ref o, .int a0] u (pI post) 0 0 := by
  unfold P_S_primary at h
  refine xC.of (cc := b_S_primary) (nL := 2) (ret := (some .boolean)) (by decide) rfl (Nat.le_of_ble_eq_true rfl) ?_
  show RR l D clX (tysX cs) Ev "DeckFront$Statement" b_S_primary 2 w_S_primary (rmD (e0 + d + 9)) (some .boolean) (wdS o a cs) (pI post) 0 0 0 0 0 [(0, .ref o), (1, .int a0)] [] u
  refine x_aload_n (x := o) d_S_primary_0 rfl ?_
  refine x_callU (st := []) k_S_169 rfl (eS_o _ _ _ _) x_id (c_T_takeDecimal l D cs Ev hE adK adV fm X o a (e0 + d + 2) _ u h) hE (rmD_ok (by omega) (by decide)) rfl (Nat.le_of_ble_eq_true rfl) rfl d_S_primary_1 (x_rI (fun r2 u1 h => ?_))
  refine x_if_eq (tgt := 12) d_S_primary_4 rfl (fun hc => ?_) (fun hc => ?_)
  · have h := h.1 hc
    refine x_aload_n (x := o) d_S_primary_12 rfl ?_
    refine x_ldcS (fun A s h9 => ((X A s h9).2.1 19 (by decide)).1) d_S_primary_13 ?_
    refine x_callU (st := []) k_S_27 rfl (eS_o _ _ _ _) x_id (c_T_take l D cs Ev hE adK adV fm X o a 19 (by decide) (e0 + d + 3) _ u1 h) hE (rmD_ok (by omega) (by decide)) rfl (Nat.le_of_ble_eq_true rfl) rfl d_S_primary_15 (x_rI (fun r4 u3 h => ?_))
    refine x_if_ne (tgt := 37) d_S_primary_18 rfl (fun hc => ?_) (fun hc => ?_)
    · have h := h.1 hc
      refine x_iconst (v := 1) d_S_primary_37 (by decide) ?_
      refine x_zret rfl d_S_primary_38 ⟨_, rfl, ?_⟩
      exact h
    · have h := h.2 hc
      refine x_aload_n (x := o) d_S_primary_21 rfl ?_
      refine x_ldcS (fun A s h9 => ((X A s h9).2.1 20 (by decide)).1) d_S_primary_22 ?_
      refine x_callU (st := []) k_S_27 rfl (eS_o _ _ _ _) x_id (c_T_take l D cs Ev hE adK adV fm X o a 20 (by decide) (e0 + d + 3) _ u3 h) hE (rmD_ok (by omega) (by decide)) rfl (Nat.le_of_ble_eq_true rfl) rfl d_S_primary_24 (x_rI (fun r6 u5 h => ?_))
      refine x_if_ne (tgt := 37) d_S_primary_27 rfl (fun hc => ?_) (fun hc => ?_)
      · have h := h.1 hc
        refine x_iconst (v := 1) d_S_primary_37 (by decide) ?_
        refine x_zret rfl d_S_primary_38 ⟨_, rfl, ?_⟩
        exact h
      · have h := h.2 hc
        refine x_aload_n (x := o) d_S_primary_30 rfl ?_
        refine x_callU (st := []) k_S_179 rfl (eS_o _ _ _ _) x_id (c_T_takeQuote l D cs Ev hE adK adV fm X o a (e0 + d + 7) _ u5 h) hE (rmD_ok (by omega) (by decide)) rfl (Nat.le_of_ble_eq_true rfl) rfl d_S_primary_31 (x_rI (fun r8 u7 h => ?_))
        refine x_if_eq (tgt := 39) d_S_primary_34 rfl (fun hc => ?_) (fun hc => ?_)
        · have h := h.1 hc
          refine x_aload_n (x := o) d_S_primary_39 rfl ?_
          refine x_bipush (v := 40) d_S_primary_40 (by decide) ?_
          refine x_callU (st := []) k_S_82 rfl (eS_o _ _ _ _) x_id (c_T_isNext l D cs Ev hE adK adV fm X o a (e0 + d + 8) _ (40 : Int32) u7 h) hE (rmD_ok (by omega) (by decide)) rfl (Nat.le_of_ble_eq_true rfl) rfl d_S_primary_42 (x_rI (fun r10 u9 h => ?_))
          refine x_if_eq (tgt := 58) d_S_primary_45 rfl (fun hc => ?_) (fun hc => ?_)
          · have h := h.1 hc
            refine x_aload_n (x := o) d_S_primary_58 rfl ?_
            refine x_iload_n (x := a0) d_S_primary_59 rfl ?_
            refine x_iconst (v := 1) d_S_primary_60 (by decide) ?_
            refine x_iadd d_S_primary_61 ?_
            refine x_iconst (v := 1) d_S_primary_62 (by decide) ?_
            refine x_callV (st := []) k_S_64 rfl (eS_o _ _ _ _) x_id (c_S_reference l D cs Ev hE adK adV fm X o a e0 PE hPE (d + 0) _ (a0 + (1 : Int32)) (1 : Int32) u9 h) hE (rmD_ok (by omega) (by decide)) rfl (Nat.le_of_ble_eq_true rfl) rfl d_S_primary_63 (x_rI (fun r12 u11 h => ?_))
            refine x_zret h.1 d_S_primary_66 ⟨_, rfl, ?_⟩
            exact h.2
          · have h := h.2 hc
            refine x_aload_n (x := o) d_S_primary_48 rfl ?_
            refine x_iload_n (x := a0) d_S_primary_49 rfl ?_
            refine x_iconst (v := 1) d_S_primary_50 (by decide) ?_
            refine x_iadd d_S_primary_51 ?_
            refine x_callV (st := []) k_S_182 rfl (eS_o _ _ _ _) x_id (c_S_group l D cs Ev hE adK adV fm X o a e0 PE hPE (d + 7) _ (a0 + (1 : Int32)) u9 h) hE (rmD_ok (by omega) (by decide)) rfl (Nat.le_of_ble_eq_true rfl) rfl d_S_primary_52 (x_rI (fun r14 u13 h => ?_))
            refine x_goto (tgt := 66) d_S_primary_55 rfl ?_
            refine x_zret h.1 d_S_primary_66 ⟨_, rfl, ?_⟩
            exact h.2
        · have h := h.2 hc
          refine x_iconst (v := 1) d_S_primary_37 (by decide) ?_
          refine x_zret rfl d_S_primary_38 ⟨_, rfl, ?_⟩
          exact h
  · have h := h.2 hc
    refine x_aload_n (x := o) d_S_primary_7 rfl ?_
    refine x_callU (st := []) k_S_172 rfl (eS_o _ _ _ _) x_id (c_T_takeExponent l D cs Ev hE adK adV fm X o a (e0 + d + 3) _ u1 h) hE (rmD_ok (by omega) (by decide)) rfl (Nat.le_of_ble_eq_true rfl) rfl d_S_primary_8 (x_rI (fun r16 u15 h => ?_))
    refine x_zret h.1 d_S_primary_11 ⟨_, rfl, ?_⟩
    exact h.2
def P_S_power_70 (post : Int32 → MS → Prop) (PE : (Int32 → MS → Prop) → Int32 → Int32 → MS → Prop) (x3 : Int32) (u : MS) : Prop := P_T_close (fun u4 => post 1 u4) x3 u
set_option maxHeartbeats 600000 in
set_option maxRecDepth 100000 in
theorem w_S_power_70 (l : Launch) (D : va_G) (cs : Nat → ClassId) (Ev : (Nat → Prop) → State → Prop) (hE : xEok Ev) (adK adV : Nat → Nat) (fm : Option Nat) (X : xEv adK adV fm Ev) (o : Nat) (a : Nat → Nat) (e0 : Nat) (PE : (Int32 → MS → Prop) → Int32 → Int32 → MS → Prop) (hPE : ∀ (d : Nat) (post : Int32 → MS → Prop) (x y : Int32) (u : MS), PE post x y u → xC l D clX (tysX cs) Ev y_S_expression w_S_expression (rmD (e0 + d)) (wdS o a cs) [.ref o, .int x, .int y] u (pI post) 0 0) (d : Nat) (post : Int32 → MS → Prop) (x3 : Int32) (u : MS) (h : P_S_power_70 post PE  x3 u) : RR l D clX (tysX cs) Ev "DeckFront$Statement" b_S_power 5 w_S_power (rmD (e0 + d + 10)) (some .boolean) (wdS o a cs) (pI post) 0 0 0 0 70 [(0, .ref o), (3, .int x3)] [] u := by
  unfold P_S_power_70 at h
  refine x_aload_n (x := o) d_S_power_70 rfl ?_
  refine x_iload_n (x := x3) d_S_power_71 rfl ?_
  refine x_callU (st := []) k_S_124 rfl (eS_o _ _ _ _) x_id (c_T_close l D cs Ev hE adK adV fm X o a (e0 + d + 9) _ x3 u h) hE (rmD_ok (by omega) (by decide)) rfl (Nat.le_of_ble_eq_true rfl) rfl d_S_power_72 (x_rV (fun u4 h => ?_))
  refine x_iconst (v := 1) d_S_power_75 (by decide) ?_
  refine x_zret rfl d_S_power_76 ⟨_, rfl, ?_⟩
  exact h
def P_S_power_20 (post : Int32 → MS → Prop) (PE : (Int32 → MS → Prop) → Int32 → Int32 → MS → Prop) : Nat → Int32 → Int32 → Int32 → Int32 → MS → Prop
  | 0, _, _, _, _, _ => False
  | f + 1, x1, x2, x3, x4, u => ((80 ≤ x4 → P_S_power_70 post PE x3 u) ∧ (¬ 80 ≤ x4 → P_T_take (fun r6 u5 => ((r6 = 0 → P_S_power_70 post PE x3 u5) ∧ (¬ r6 = 0 → (vp_in x2 80 ∧ (vp_in x2 80 ∧ (∀ v7, v7 = (gI u5 5) → P_S_primary (fun r9 u8 => ((¬ r9 = 0 → P_S_power_20 post PE f x1 v7 (x3 + 1) (x4 + 1) u8) ∧ (r9 = 0 → post 0 u8))) PE x1 (sA u5 1 x2.toNatClampNeg ((gA u5 1 x2.toNatClampNeg) + (1 : Int32))))))))) 25 u))
set_option maxHeartbeats 600000 in
set_option maxRecDepth 100000 in
theorem w_S_power_20 (l : Launch) (D : va_G) (cs : Nat → ClassId) (Ev : (Nat → Prop) → State → Prop) (hE : xEok Ev) (adK adV : Nat → Nat) (fm : Option Nat) (X : xEv adK adV fm Ev) (o : Nat) (a : Nat → Nat) (e0 : Nat) (PE : (Int32 → MS → Prop) → Int32 → Int32 → MS → Prop) (hPE : ∀ (d : Nat) (post : Int32 → MS → Prop) (x y : Int32) (u : MS), PE post x y u → xC l D clX (tysX cs) Ev y_S_expression w_S_expression (rmD (e0 + d)) (wdS o a cs) [.ref o, .int x, .int y] u (pI post) 0 0) (d : Nat) (post : Int32 → MS → Prop) : ∀ (f : Nat) (x1 : Int32) (x2 : Int32) (x3 : Int32) (x4 : Int32) (u : MS), P_S_power_20 post PE  f x1 x2 x3 x4 u → RR l D clX (tysX cs) Ev "DeckFront$Statement" b_S_power 5 w_S_power (rmD (e0 + d + 10)) (some .boolean) (wdS o a cs) (pI post) 0 0 0 0 20 [(0, .ref o), (1, .int x1), (2, .int x2), (3, .int x3), (4, .int x4)] [] u := by
  intro f
  induction f with
  | zero => intro x1 x2 x3 x4 u h; exact h.elim
  | succ f ih =>
    intro x1 x2 x3 x4 u h
    unfold P_S_power_20 at h
    refine x_iload (x := x4) d_S_power_20 rfl ?_
    refine x_bipush (v := 80) d_S_power_22 (by decide) ?_
    refine x_icmp_ge (tgt := 70) d_S_power_24 rfl (fun hc => ?_) (fun hc => ?_)
    · have h := h.1 hc
      refine x_sub [0, 3] rfl ?_
      exact w_S_power_70 l D cs Ev hE adK adV fm X o a e0 PE hPE d post  x3 u h
    · have h := h.2 hc
      refine x_aload_n (x := o) d_S_power_27 rfl ?_
      refine x_ldcS (fun A s h9 => ((X A s h9).2.1 25 (by decide)).1) d_S_power_28 ?_
      refine x_callU (st := []) k_S_27 rfl (eS_o _ _ _ _) x_id (c_T_take l D cs Ev hE adK adV fm X o a 25 (by decide) (e0 + d + 4) _ u h) hE (rmD_ok (by omega) (by decide)) rfl (Nat.le_of_ble_eq_true rfl) rfl d_S_power_30 (x_rI (fun r6 u5 h => ?_))
      refine x_if_eq (tgt := 70) d_S_power_33 rfl (fun hc => ?_) (fun hc => ?_)
      · have h := h.1 hc
        refine x_sub [0, 3] rfl ?_
        exact w_S_power_70 l D cs Ev hE adK adV fm X o a e0 PE hPE d post  x3 u5 h
      · have h := h.2 hc
        refine x_aload_n (x := o) d_S_power_36 rfl ?_
        refine x_get (v := .ref (a 1)) f_S_130 (eS_o _ _ _ _) rfl d_S_power_37 ?_
        refine x_iload_n (x := x2) d_S_power_40 rfl ?_
        refine x_dup2 d_S_power_41 rfl rfl ?_
        refine x_iald (t0 := 0) (eS_1 _ _ _ _) rfl h.1 d_S_power_42 ?_
        have h := h.2
        refine x_iconst (v := 1) d_S_power_43 (by decide) ?_
        refine x_iadd d_S_power_44 ?_
        refine x_iast (t0 := 0) (eS_1 _ _ _ _) rfl h.1 (sS_1 _ _ _ _ _ _) d_S_power_45 ?_
        have h := h.2
        refine x_iinc (v := x3 + 1) (lv' := [(3, .int (x3 + 1)), (0, .ref o), (1, .int x1), (2, .int x2), (4, .int x4)]) d_S_power_46 rfl rfl (by decide) rfl ?_
        refine x_aload_n (x := o) d_S_power_49 rfl ?_
        refine x_get (v := .int (gI u5 5)) f_S_15 (eS_o _ _ _ _) rfl d_S_power_50 ?_
        refine x_topI (fun v7 ev7 => ?_)
        have h := h v7 ev7
        refine x_istore_n (lv' := [(2, .int v7), (3, .int (x3 + 1)), (0, .ref o), (1, .int x1), (4, .int x4)]) d_S_power_53 (by decide) rfl ?_
        refine x_aload_n (x := o) d_S_power_54 rfl ?_
        refine x_iload_n (x := x1) d_S_power_55 rfl ?_
        refine x_callV (st := []) k_S_164 rfl (eS_o _ _ _ _) x_id (c_S_primary l D cs Ev hE adK adV fm X o a e0 PE hPE (d + 0) _ x1 (sA u5 1 x2.toNatClampNeg ((gA u5 1 x2.toNatClampNeg) + (1 : Int32))) h) hE (rmD_ok (by omega) (by decide)) rfl (Nat.le_of_ble_eq_true rfl) rfl d_S_power_56 (x_rI (fun r9 u8 h => ?_))
        refine x_if_ne (tgt := 64) d_S_power_59 rfl (fun hc => ?_) (fun hc => ?_)
        · have h := h.1 hc
          refine x_iinc (v := x4 + 1) (lv' := [(4, .int (x4 + 1)), (2, .int v7), (3, .int (x3 + 1)), (0, .ref o), (1, .int x1)]) d_S_power_64 rfl rfl (by decide) rfl ?_
          refine x_goto (tgt := 20) d_S_power_67 rfl ?_
          refine x_sub [3, 4, 1, 2, 0] rfl ?_
          exact ih x1 v7 (x3 + 1) (x4 + 1) u8 h
        · have h := h.2 hc
          refine x_iconst (v := 0) d_S_power_62 (by decide) ?_
          refine x_zret rfl d_S_power_63 ⟨_, rfl, ?_⟩
          exact h
def P_S_power (post : Int32 → MS → Prop) (PE : (Int32 → MS → Prop) → Int32 → Int32 → MS → Prop) (a0 : Int32) (u : MS) : Prop := (∀ v1, v1 = (gI u 5) → P_S_primary (fun r3 u2 => ((¬ r3 = 0 → (∃ g, P_S_power_20 post PE g a0 v1 0 0 u2)) ∧ (r3 = 0 → post 0 u2))) PE a0 u)
set_option maxHeartbeats 600000 in
set_option maxRecDepth 100000 in
theorem c_S_power (l : Launch) (D : va_G) (cs : Nat → ClassId) (Ev : (Nat → Prop) → State → Prop) (hE : xEok Ev) (adK adV : Nat → Nat) (fm : Option Nat) (X : xEv adK adV fm Ev) (o : Nat) (a : Nat → Nat) (e0 : Nat) (PE : (Int32 → MS → Prop) → Int32 → Int32 → MS → Prop) (hPE : ∀ (d : Nat) (post : Int32 → MS → Prop) (x y : Int32) (u : MS), PE post x y u → xC l D clX (tysX cs) Ev y_S_expression w_S_expression (rmD (e0 + d)) (wdS o a cs) [.ref o, .int x, .int y] u (pI post) 0 0) (d : Nat) (post : Int32 → MS → Prop) (a0 : Int32) (u : MS) (h : P_S_power post PE a0 u) : xC l D clX (tysX cs) Ev y_S_power w_S_power (rmD (e0 + d + 10)) (wdS o a cs) [.ref o, .int a0] u (pI post) 0 0 := by
  unfold P_S_power at h
  refine xC.of (cc := b_S_power) (nL := 5) (ret := (some .boolean)) (by decide) rfl (Nat.le_of_ble_eq_true rfl) ?_
  show RR l D clX (tysX cs) Ev "DeckFront$Statement" b_S_power 5 w_S_power (rmD (e0 + d + 10)) (some .boolean) (wdS o a cs) (pI post) 0 0 0 0 0 [(0, .ref o), (1, .int a0)] [] u
  refine x_aload_n (x := o) d_S_power_0 rfl ?_
  refine x_get (v := .int (gI u 5)) f_S_15 (eS_o _ _ _ _) rfl d_S_power_1 ?_
  refine x_topI (fun v1 ev1 => ?_)
  have h := h v1 ev1
  refine x_istore_n (lv' := [(2, .int v1), (0, .ref o), (1, .int a0)]) d_S_power_4 (by decide) rfl ?_
  refine x_iconst (v := 0) d_S_power_5 (by decide) ?_
  refine x_istore_n (lv' := [(3, .int 0), (2, .int v1), (0, .ref o), (1, .int a0)]) d_S_power_6 (by decide) rfl ?_
  refine x_aload_n (x := o) d_S_power_7 rfl ?_
  refine x_iload_n (x := a0) d_S_power_8 rfl ?_
  refine x_callV (st := []) k_S_164 rfl (eS_o _ _ _ _) x_id (c_S_primary l D cs Ev hE adK adV fm X o a e0 PE hPE (d + 0) _ a0 u h) hE (rmD_ok (by omega) (by decide)) rfl (Nat.le_of_ble_eq_true rfl) rfl d_S_power_9 (x_rI (fun r3 u2 h => ?_))
  refine x_if_ne (tgt := 17) d_S_power_12 rfl (fun hc => ?_) (fun hc => ?_)
  · have h := h.1 hc
    refine x_iconst (v := 0) d_S_power_17 (by decide) ?_
    refine x_istore (lv' := [(4, .int 0), (3, .int 0), (2, .int v1), (0, .ref o), (1, .int a0)]) d_S_power_18 (by decide) rfl ?_
    refine x_sub [3, 4, 2, 1, 0] rfl ?_
    obtain ⟨f9, h⟩ := h
    exact w_S_power_20 l D cs Ev hE adK adV fm X o a e0 PE hPE d post  f9 a0 v1 0 0 u2 h
  · have h := h.2 hc
    refine x_iconst (v := 0) d_S_power_15 (by decide) ?_
    refine x_zret rfl d_S_power_16 ⟨_, rfl, ?_⟩
    exact h
def P_S_expressionB_59 (post : Int32 → MS → Prop) (PE : (Int32 → MS → Prop) → Int32 → Int32 → MS → Prop) : Nat → Int32 → Int32 → Int32 → Int32 → Int32 → MS → Prop
  | 0, _, _, _, _, _, _ => False
  | f + 1, x1, x2, x3, x5, x6, u => ((x5 ≤ x6 → post 1 u) ∧ (¬ x5 ≤ x6 → P_S_takeSignBetween (fun r8 u7 => ((r8 = 0 → post 1 u7) ∧ (¬ r8 = 0 → PE (fun r10 u9 => ((¬ r10 = 0 → (vp_in x3 80 ∧ (vp_in x3 80 ∧ P_T_close (fun u11 => P_S_expressionB_59 post PE f x1 x2 x3 x5 (x6 + 1) u11) (1 : Int32) (sA u9 1 x3.toNatClampNeg ((gA u9 1 x3.toNatClampNeg) + (1 : Int32)))))) ∧ (r10 = 0 → post 0 u9))) (x1 + (1 : Int32)) x2 u7))) x1 u))
set_option maxHeartbeats 600000 in
set_option maxRecDepth 100000 in
theorem w_S_expressionB_59 (l : Launch) (D : va_G) (cs : Nat → ClassId) (Ev : (Nat → Prop) → State → Prop) (hE : xEok Ev) (adK adV : Nat → Nat) (fm : Option Nat) (X : xEv adK adV fm Ev) (o : Nat) (a : Nat → Nat) (e0 : Nat) (PE : (Int32 → MS → Prop) → Int32 → Int32 → MS → Prop) (hPE : ∀ (d : Nat) (post : Int32 → MS → Prop) (x y : Int32) (u : MS), PE post x y u → xC l D clX (tysX cs) Ev y_S_expression w_S_expression (rmD (e0 + d)) (wdS o a cs) [.ref o, .int x, .int y] u (pI post) 0 0) (d : Nat) (post : Int32 → MS → Prop) : ∀ (f : Nat) (x1 : Int32) (x2 : Int32) (x3 : Int32) (x5 : Int32) (x6 : Int32) (u : MS), P_S_expressionB_59 post PE  f x1 x2 x3 x5 x6 u → RR l D clX (tysX cs) Ev "DeckFront$Statement" b_S_expression 7 w_S_expression (rmD (e0 + d + 11)) (some .boolean) (wdS o a cs) (pI post) 0 0 0 0 59 [(0, .ref o), (1, .int x1), (2, .int x2), (3, .int x3), (5, .int x5), (6, .int x6)] [] u := by
  intro f
  induction f with
  | zero => intro x1 x2 x3 x5 x6 u h; exact h.elim
  | succ f ih =>
    intro x1 x2 x3 x5 x6 u h
    unfold P_S_expressionB_59 at h
    refine x_iload (x := x6) d_S_expression_59 rfl ?_
    refine x_iload (x := x5) d_S_expression_61 rfl ?_
    refine x_icmp_ge (tgt := 108) d_S_expression_63 rfl (fun hc => ?_) (fun hc => ?_)
    · have h := h.1 hc
      refine x_iconst (v := 1) d_S_expression_108 (by decide) ?_
      refine x_zret rfl d_S_expression_109 ⟨_, rfl, ?_⟩
      exact h
    · have h := h.2 hc
      refine x_aload_n (x := o) d_S_expression_66 rfl ?_
      refine x_iload_n (x := x1) d_S_expression_67 rfl ?_
      refine x_callV (st := []) k_S_127 rfl (eS_o _ _ _ _) x_id (c_S_takeSignBetween l D cs Ev hE adK adV fm X o a (e0 + d + 4) _ x1 u h) hE (rmD_ok (by omega) (by decide)) rfl (Nat.le_of_ble_eq_true rfl) rfl d_S_expression_68 (x_rI (fun r8 u7 h => ?_))
      refine x_if_eq (tgt := 108) d_S_expression_71 rfl (fun hc => ?_) (fun hc => ?_)
      · have h := h.1 hc
        refine x_iconst (v := 1) d_S_expression_108 (by decide) ?_
        refine x_zret rfl d_S_expression_109 ⟨_, rfl, ?_⟩
        exact h
      · have h := h.2 hc
        refine x_aload_n (x := o) d_S_expression_74 rfl ?_
        refine x_iload_n (x := x1) d_S_expression_75 rfl ?_
        refine x_iconst (v := 1) d_S_expression_76 (by decide) ?_
        refine x_iadd d_S_expression_77 ?_
        refine x_iload_n (x := x2) d_S_expression_78 rfl ?_
        refine x_callV (st := []) k_S_31 rfl (eS_o _ _ _ _) x_id (hPE  (d + 10) _ (x1 + (1 : Int32)) x2 u7 h) hE (rmD_ok (by omega) (by decide)) rfl (Nat.le_of_ble_eq_true rfl) rfl d_S_expression_79 (x_rI (fun r10 u9 h => ?_))
        refine x_if_ne (tgt := 87) d_S_expression_82 rfl (fun hc => ?_) (fun hc => ?_)
        · have h := h.1 hc
          refine x_aload_n (x := o) d_S_expression_87 rfl ?_
          refine x_get (v := .ref (a 1)) f_S_130 (eS_o _ _ _ _) rfl d_S_expression_88 ?_
          refine x_iload_n (x := x3) d_S_expression_91 rfl ?_
          refine x_dup2 d_S_expression_92 rfl rfl ?_
          refine x_iald (t0 := 0) (eS_1 _ _ _ _) rfl h.1 d_S_expression_93 ?_
          have h := h.2
          refine x_iconst (v := 1) d_S_expression_94 (by decide) ?_
          refine x_iadd d_S_expression_95 ?_
          refine x_iast (t0 := 0) (eS_1 _ _ _ _) rfl h.1 (sS_1 _ _ _ _ _ _) d_S_expression_96 ?_
          have h := h.2
          refine x_aload_n (x := o) d_S_expression_97 rfl ?_
          refine x_iconst (v := 1) d_S_expression_98 (by decide) ?_
          refine x_callU (st := []) k_S_124 rfl (eS_o _ _ _ _) x_id (c_T_close l D cs Ev hE adK adV fm X o a (e0 + d + 10) _ (1 : Int32) (sA u9 1 x3.toNatClampNeg ((gA u9 1 x3.toNatClampNeg) + (1 : Int32))) h) hE (rmD_ok (by omega) (by decide)) rfl (Nat.le_of_ble_eq_true rfl) rfl d_S_expression_99 (x_rV (fun u11 h => ?_))
          refine x_iinc (v := x6 + 1) (lv' := [(6, .int (x6 + 1)), (0, .ref o), (1, .int x1), (2, .int x2), (3, .int x3), (5, .int x5)]) d_S_expression_102 rfl rfl (by decide) rfl ?_
          refine x_goto (tgt := 59) d_S_expression_105 rfl ?_
          refine x_sub [1, 2, 3, 4, 5, 0] rfl ?_
          exact ih x1 x2 x3 x5 (x6 + 1) u11 h
        · have h := h.2 hc
          refine x_iconst (v := 0) d_S_expression_85 (by decide) ?_
          refine x_zret rfl d_S_expression_86 ⟨_, rfl, ?_⟩
          exact h
def P_S_expressionB_54 (post : Int32 → MS → Prop) (PE : (Int32 → MS → Prop) → Int32 → Int32 → MS → Prop) (x1 : Int32) (x2 : Int32) (x3 : Int32) (s0 : Int32) (u : MS) : Prop := (∃ g, P_S_expressionB_59 post PE g x1 x2 x3 s0 0 u)
set_option maxHeartbeats 600000 in
set_option maxRecDepth 100000 in
theorem w_S_expressionB_54 (l : Launch) (D : va_G) (cs : Nat → ClassId) (Ev : (Nat → Prop) → State → Prop) (hE : xEok Ev) (adK adV : Nat → Nat) (fm : Option Nat) (X : xEv adK adV fm Ev) (o : Nat) (a : Nat → Nat) (e0 : Nat) (PE : (Int32 → MS → Prop) → Int32 → Int32 → MS → Prop) (hPE : ∀ (d : Nat) (post : Int32 → MS → Prop) (x y : Int32) (u : MS), PE post x y u → xC l D clX (tysX cs) Ev y_S_expression w_S_expression (rmD (e0 + d)) (wdS o a cs) [.ref o, .int x, .int y] u (pI post) 0 0) (d : Nat) (post : Int32 → MS → Prop) (x1 : Int32) (x2 : Int32) (x3 : Int32) (s0 : Int32) (u : MS) (h : P_S_expressionB_54 post PE  x1 x2 x3 s0 u) : RR l D clX (tysX cs) Ev "DeckFront$Statement" b_S_expression 7 w_S_expression (rmD (e0 + d + 11)) (some .boolean) (wdS o a cs) (pI post) 0 0 0 0 54 [(0, .ref o), (1, .int x1), (2, .int x2), (3, .int x3)] [.int s0] u := by
  unfold P_S_expressionB_54 at h
  refine x_istore (lv' := [(5, .int s0), (0, .ref o), (1, .int x1), (2, .int x2), (3, .int x3)]) d_S_expression_54 (by decide) rfl ?_
  refine x_iconst (v := 0) d_S_expression_56 (by decide) ?_
  refine x_istore (lv' := [(6, .int 0), (5, .int s0), (0, .ref o), (1, .int x1), (2, .int x2), (3, .int x3)]) d_S_expression_57 (by decide) rfl ?_
  refine x_sub [2, 3, 4, 5, 1, 0] rfl ?_
  obtain ⟨f9, h⟩ := h
  exact w_S_expressionB_59 l D cs Ev hE adK adV fm X o a e0 PE hPE d post  f9 x1 x2 x3 s0 0 u h
def P_S_expressionB (post : Int32 → MS → Prop) (PE : (Int32 → MS → Prop) → Int32 → Int32 → MS → Prop) (a0 : Int32) (a1 : Int32) (u : MS) : Prop := ((a0 ≤ 6 → (∀ v1, v1 = (gI u 5) → P_S_takeSignsBefore (fun r3 u2 => PE (fun r5 u4 => ((¬ r5 = 0 → P_T_close (fun u6 => ((¬ a0 = 4 → P_S_expressionB_54 post PE a0 a1 v1 80 u6) ∧ (a0 = 4 → P_S_expressionB_54 post PE a0 a1 v1 1 u6))) r3 u4) ∧ (r5 = 0 → post 0 u4))) (a0 + (1 : Int32)) a1 u2) a0 u)) ∧ (¬ a0 ≤ 6 → P_S_power (fun r13 u12 => (narrow .boolean (.int r13) = .int r13 ∧ post r13 u12)) PE a1 u))
set_option maxHeartbeats 600000 in
set_option maxRecDepth 100000 in
theorem c_S_expressionB (l : Launch) (D : va_G) (cs : Nat → ClassId) (Ev : (Nat → Prop) → State → Prop) (hE : xEok Ev) (adK adV : Nat → Nat) (fm : Option Nat) (X : xEv adK adV fm Ev) (o : Nat) (a : Nat → Nat) (e0 : Nat) (PE : (Int32 → MS → Prop) → Int32 → Int32 → MS → Prop) (hPE : ∀ (d : Nat) (post : Int32 → MS → Prop) (x y : Int32) (u : MS), PE post x y u → xC l D clX (tysX cs) Ev y_S_expression w_S_expression (rmD (e0 + d)) (wdS o a cs) [.ref o, .int x, .int y] u (pI post) 0 0) (d : Nat) (post : Int32 → MS → Prop) (a0 : Int32) (a1 : Int32) (u : MS) (h : P_S_expressionB post PE a0 a1 u) : xC l D clX (tysX cs) Ev y_S_expression w_S_expression (rmD (e0 + d + 11)) (wdS o a cs) [.ref o, .int a0, .int a1] u (pI post) 0 0 := by
  unfold P_S_expressionB at h
  refine xC.of (cc := b_S_expression) (nL := 7) (ret := (some .boolean)) (by decide) rfl (Nat.le_of_ble_eq_true rfl) ?_
  show RR l D clX (tysX cs) Ev "DeckFront$Statement" b_S_expression 7 w_S_expression (rmD (e0 + d + 11)) (some .boolean) (wdS o a cs) (pI post) 0 0 0 0 0 [(0, .ref o), (1, .int a0), (2, .int a1)] [] u
  refine x_iload_n (x := a0) d_S_expression_0 rfl ?_
  refine x_bipush (v := 6) d_S_expression_1 (by decide) ?_
  refine x_icmp_le (tgt := 12) d_S_expression_3 rfl (fun hc => ?_) (fun hc => ?_)
  · have h := h.1 hc
    refine x_aload_n (x := o) d_S_expression_12 rfl ?_
    refine x_get (v := .int (gI u 5)) f_S_15 (eS_o _ _ _ _) rfl d_S_expression_13 ?_
    refine x_topI (fun v1 ev1 => ?_)
    have h := h v1 ev1
    refine x_istore_n (lv' := [(3, .int v1), (0, .ref o), (1, .int a0), (2, .int a1)]) d_S_expression_16 (by decide) rfl ?_
    refine x_aload_n (x := o) d_S_expression_17 rfl ?_
    refine x_iload_n (x := a0) d_S_expression_18 rfl ?_
    refine x_callV (st := []) k_S_121 rfl (eS_o _ _ _ _) x_id (c_S_takeSignsBefore l D cs Ev hE adK adV fm X o a (e0 + d + 5) _ a0 u h) hE (rmD_ok (by omega) (by decide)) rfl (Nat.le_of_ble_eq_true rfl) rfl d_S_expression_19 (x_rI (fun r3 u2 h => ?_))
    refine x_istore (lv' := [(4, .int r3), (3, .int v1), (0, .ref o), (1, .int a0), (2, .int a1)]) d_S_expression_22 (by decide) rfl ?_
    refine x_aload_n (x := o) d_S_expression_24 rfl ?_
    refine x_iload_n (x := a0) d_S_expression_25 rfl ?_
    refine x_iconst (v := 1) d_S_expression_26 (by decide) ?_
    refine x_iadd d_S_expression_27 ?_
    refine x_iload_n (x := a1) d_S_expression_28 rfl ?_
    refine x_callV (st := []) k_S_31 rfl (eS_o _ _ _ _) x_id (hPE  (d + 10) _ (a0 + (1 : Int32)) a1 u2 h) hE (rmD_ok (by omega) (by decide)) rfl (Nat.le_of_ble_eq_true rfl) rfl d_S_expression_29 (x_rI (fun r5 u4 h => ?_))
    refine x_if_ne (tgt := 37) d_S_expression_32 rfl (fun hc => ?_) (fun hc => ?_)
    · have h := h.1 hc
      refine x_aload_n (x := o) d_S_expression_37 rfl ?_
      refine x_iload (x := r3) d_S_expression_38 rfl ?_
      refine x_callU (st := []) k_S_124 rfl (eS_o _ _ _ _) x_id (c_T_close l D cs Ev hE adK adV fm X o a (e0 + d + 10) _ r3 u4 h) hE (rmD_ok (by omega) (by decide)) rfl (Nat.le_of_ble_eq_true rfl) rfl d_S_expression_40 (x_rV (fun u6 h => ?_))
      refine x_iload_n (x := a0) d_S_expression_43 rfl ?_
      refine x_iconst (v := 4) d_S_expression_44 (by decide) ?_
      refine x_icmp_ne (tgt := 52) d_S_expression_45 rfl (fun hc => ?_) (fun hc => ?_)
      · have h := h.1 hc
        refine x_bipush (v := 80) d_S_expression_52 (by decide) ?_
        refine x_sub [2, 3, 4, 1] rfl ?_
        exact w_S_expressionB_54 l D cs Ev hE adK adV fm X o a e0 PE hPE d post  a0 a1 v1 80 u6 h
      · have h := h.2 hc
        refine x_iconst (v := 1) d_S_expression_48 (by decide) ?_
        refine x_goto (tgt := 54) d_S_expression_49 rfl ?_
        refine x_sub [2, 3, 4, 1] rfl ?_
        exact w_S_expressionB_54 l D cs Ev hE adK adV fm X o a e0 PE hPE d post  a0 a1 v1 1 u6 h
    · have h := h.2 hc
      refine x_iconst (v := 0) d_S_expression_35 (by decide) ?_
      refine x_zret rfl d_S_expression_36 ⟨_, rfl, ?_⟩
      exact h
  · have h := h.2 hc
    refine x_aload_n (x := o) d_S_expression_6 rfl ?_
    refine x_iload_n (x := a1) d_S_expression_7 rfl ?_
    refine x_callV (st := []) k_S_118 rfl (eS_o _ _ _ _) x_id (c_S_power l D cs Ev hE adK adV fm X o a e0 PE hPE (d + 0) _ a1 u h) hE (rmD_ok (by omega) (by decide)) rfl (Nat.le_of_ble_eq_true rfl) rfl d_S_expression_8 (x_rI (fun r13 u12 h => ?_))
    refine x_zret h.1 d_S_expression_11 ⟨_, rfl, ?_⟩
    exact h.2
/-- expression, to at most n calls of itself in one another -/
def P_S_expression : Nat → (Int32 → MS → Prop) → Int32 → Int32 → MS → Prop
  | 0, _, _, _, _ => False
  | n + 1, post, x, y, u => P_S_expressionB post (fun po a b w => P_S_expression n po a b w) x y u
theorem cn_S_expression (l : Launch) (D : va_G) (cs : Nat → ClassId) (Ev : (Nat → Prop) → State → Prop) (hE : xEok Ev) (adK adV : Nat → Nat) (fm : Option Nat) (X : xEv adK adV fm Ev) (o : Nat) (a : Nat → Nat) : ∀ (n d : Nat) (post : Int32 → MS → Prop) (x y : Int32) (u : MS), P_S_expression n post x y u → xC l D clX (tysX cs) Ev y_S_expression w_S_expression (rmD (11 * n + d)) (wdS o a cs) [.ref o, .int x, .int y] u (pI post) 0 0 := by
  intro n
  induction n with
  | zero => intro d post x y u h; exact h.elim
  | succ n ih =>
    intro d post x y u h
    have h1 := c_S_expressionB l D cs Ev hE adK adV fm X o a (11 * n) (fun po a b w => P_S_expression n po a b w) ih d post x y u h
    rw [show 11 * n + d + 11 = 11 * (n + 1) + d by omega] at h1
    exact h1
abbrev PEX : (Int32 → MS → Prop) → Int32 → Int32 → MS → Prop := P_S_expression 70
theorem cX_S_expression (l : Launch) (D : va_G) (cs : Nat → ClassId) (Ev : (Nat → Prop) → State → Prop) (hE : xEok Ev) (adK adV : Nat → Nat) (fm : Option Nat) (X : xEv adK adV fm Ev) (o : Nat) (a : Nat → Nat) (d : Nat) (post : Int32 → MS → Prop) (x y : Int32) (u : MS) (h : PEX post x y u) : xC l D clX (tysX cs) Ev y_S_expression w_S_expression (rmD (d + 770)) (wdS o a cs) [.ref o, .int x, .int y] u (pI post) 0 0 := by
  have h1 := cn_S_expression l D cs Ev hE adK adV fm X o a 70 d post x y u h
  rw [show 11 * 70 + d = d + 770 by omega] at h1
  exact h1
theorem cX_S_expressions (l : Launch) (D : va_G) (cs : Nat → ClassId) (Ev : (Nat → Prop) → State → Prop) (hE : xEok Ev) (adK adV : Nat → Nat) (fm : Option Nat) (X : xEv adK adV fm Ev) (o : Nat) (a : Nat → Nat) (d : Nat) (post : Int32 → MS → Prop) (x0 : Int32) (u : MS) (h : P_S_expressions post PEX x0 u) : xC l D clX (tysX cs) Ev y_S_expressions w_S_expressions (rmD (d + 776)) (wdS o a cs) [.ref o, .int x0] u (pI post) 0 0 := by
  have h1 := c_S_expressions l D cs Ev hE adK adV fm X o a 770 PEX (fun d post x y u h => by have h2 := cX_S_expression l D cs Ev hE adK adV fm X o a d post x y u h; rw [Nat.add_comm] at h2; exact h2) d post x0 u h
  rw [show 770 + d + 6 = d + 776 by omega] at h1
  exact h1
theorem cX_S_list (l : Launch) (D : va_G) (cs : Nat → ClassId) (Ev : (Nat → Prop) → State → Prop) (hE : xEok Ev) (adK adV : Nat → Nat) (fm : Option Nat) (X : xEv adK adV fm Ev) (o : Nat) (a : Nat → Nat) (d : Nat) (post : Int32 → MS → Prop) (x0 : Int32) (u : MS) (h : P_S_list post PEX x0 u) : xC l D clX (tysX cs) Ev y_S_list w_S_list (rmD (d + 777)) (wdS o a cs) [.ref o, .int x0] u (pI post) 0 0 := by
  have h1 := c_S_list l D cs Ev hE adK adV fm X o a 770 PEX (fun d post x y u h => by have h2 := cX_S_expression l D cs Ev hE adK adV fm X o a d post x y u h; rw [Nat.add_comm] at h2; exact h2) d post x0 u h
  rw [show 770 + d + 7 = d + 777 by omega] at h1
  exact h1
theorem cX_S_reference (l : Launch) (D : va_G) (cs : Nat → ClassId) (Ev : (Nat → Prop) → State → Prop) (hE : xEok Ev) (adK adV : Nat → Nat) (fm : Option Nat) (X : xEv adK adV fm Ev) (o : Nat) (a : Nat → Nat) (d : Nat) (post : Int32 → MS → Prop) (x0 : Int32) (x1 : Int32) (u : MS) (h : P_S_reference post PEX x0 x1 u) : xC l D clX (tysX cs) Ev y_S_reference w_S_reference (rmD (d + 778)) (wdS o a cs) [.ref o, .int x0, .int x1] u (pI post) 0 0 := by
  have h1 := c_S_reference l D cs Ev hE adK adV fm X o a 770 PEX (fun d post x y u h => by have h2 := cX_S_expression l D cs Ev hE adK adV fm X o a d post x y u h; rw [Nat.add_comm] at h2; exact h2) d post x0 x1 u h
  rw [show 770 + d + 8 = d + 778 by omega] at h1
  exact h1
theorem cX_S_group (l : Launch) (D : va_G) (cs : Nat → ClassId) (Ev : (Nat → Prop) → State → Prop) (hE : xEok Ev) (adK adV : Nat → Nat) (fm : Option Nat) (X : xEv adK adV fm Ev) (o : Nat) (a : Nat → Nat) (d : Nat) (post : Int32 → MS → Prop) (x0 : Int32) (u : MS) (h : P_S_group post PEX x0 u) : xC l D clX (tysX cs) Ev y_S_group w_S_group (rmD (d + 771)) (wdS o a cs) [.ref o, .int x0] u (pI post) 0 0 := by
  have h1 := c_S_group l D cs Ev hE adK adV fm X o a 770 PEX (fun d post x y u h => by have h2 := cX_S_expression l D cs Ev hE adK adV fm X o a d post x y u h; rw [Nat.add_comm] at h2; exact h2) d post x0 u h
  rw [show 770 + d + 1 = d + 771 by omega] at h1
  exact h1
theorem cX_S_primary (l : Launch) (D : va_G) (cs : Nat → ClassId) (Ev : (Nat → Prop) → State → Prop) (hE : xEok Ev) (adK adV : Nat → Nat) (fm : Option Nat) (X : xEv adK adV fm Ev) (o : Nat) (a : Nat → Nat) (d : Nat) (post : Int32 → MS → Prop) (x0 : Int32) (u : MS) (h : P_S_primary post PEX x0 u) : xC l D clX (tysX cs) Ev y_S_primary w_S_primary (rmD (d + 779)) (wdS o a cs) [.ref o, .int x0] u (pI post) 0 0 := by
  have h1 := c_S_primary l D cs Ev hE adK adV fm X o a 770 PEX (fun d post x y u h => by have h2 := cX_S_expression l D cs Ev hE adK adV fm X o a d post x y u h; rw [Nat.add_comm] at h2; exact h2) d post x0 u h
  rw [show 770 + d + 9 = d + 779 by omega] at h1
  exact h1
theorem cX_S_power (l : Launch) (D : va_G) (cs : Nat → ClassId) (Ev : (Nat → Prop) → State → Prop) (hE : xEok Ev) (adK adV : Nat → Nat) (fm : Option Nat) (X : xEv adK adV fm Ev) (o : Nat) (a : Nat → Nat) (d : Nat) (post : Int32 → MS → Prop) (x0 : Int32) (u : MS) (h : P_S_power post PEX x0 u) : xC l D clX (tysX cs) Ev y_S_power w_S_power (rmD (d + 780)) (wdS o a cs) [.ref o, .int x0] u (pI post) 0 0 := by
  have h1 := c_S_power l D cs Ev hE adK adV fm X o a 770 PEX (fun d post x y u h => by have h2 := cX_S_expression l D cs Ev hE adK adV fm X o a d post x y u h; rw [Nat.add_comm] at h2; exact h2) d post x0 u h
  rw [show 770 + d + 10 = d + 780 by omega] at h1
  exact h1
