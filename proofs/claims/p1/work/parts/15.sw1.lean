def P_S_mayStandInIf_17 (post : Int32 → Unit → Prop) (x0 : Int32) (u : Unit) : Prop := ((¬ x0 = 17 → post 0 u) ∧ (x0 = 17 → post 1 u))
set_option maxHeartbeats 600000 in
set_option maxRecDepth 100000 in
theorem w_S_mayStandInIf_17 (l : Launch) (D : va_G) (cs : Nat → ClassId) (Ev : (Nat → Prop) → State → Prop) (hE : xEok Ev) (adK adV : Nat → Nat) (fm : Option Nat) (X : xEv adK adV fm Ev) (d : Nat) (post : Int32 → Unit → Prop) (x0 : Int32) (u : Unit) (h : P_S_mayStandInIf_17 post  x0 u) : RR l D clX (tysX cs) Ev "DeckFront$Statement" b_S_mayStandInIf 1 w_S_mayStandInIf (rmD (d + 0)) (some .boolean) wd0 (pI post) 0 0 0 0 17 [(0, .int x0)] [] u := by
  unfold P_S_mayStandInIf_17 at h
  refine x_iload_n (x := x0) d_S_mayStandInIf_17 rfl ?_
  refine x_bipush (v := 17) d_S_mayStandInIf_18 (by decide) ?_
  refine x_icmp_ne (tgt := 27) d_S_mayStandInIf_20 rfl (fun hc => ?_) (fun hc => ?_)
  · have h := h.1 hc
    refine x_iconst (v := 0) d_S_mayStandInIf_27 (by decide) ?_
    refine x_zret rfl d_S_mayStandInIf_28 ⟨_, rfl, ?_⟩
    exact h
  · have h := h.2 hc
    refine x_iconst (v := 1) d_S_mayStandInIf_23 (by decide) ?_
    refine x_goto (tgt := 28) d_S_mayStandInIf_24 rfl ?_
    refine x_zret rfl d_S_mayStandInIf_28 ⟨_, rfl, ?_⟩
    exact h
def P_S_mayStandInIf (post : Int32 → Unit → Prop) (a0 : Int32) (u : Unit) : Prop := ((a0 = 2 → post 1 u) ∧ (¬ a0 = 2 → ((a0 < 9 → P_S_mayStandInIf_17 post a0 u) ∧ (¬ a0 < 9 → ((a0 ≤ 13 → post 1 u) ∧ (¬ a0 ≤ 13 → P_S_mayStandInIf_17 post a0 u))))))
set_option maxHeartbeats 600000 in
set_option maxRecDepth 100000 in
theorem c_S_mayStandInIf (l : Launch) (D : va_G) (cs : Nat → ClassId) (Ev : (Nat → Prop) → State → Prop) (hE : xEok Ev) (adK adV : Nat → Nat) (fm : Option Nat) (X : xEv adK adV fm Ev) (d : Nat) (post : Int32 → Unit → Prop) (a0 : Int32) (u : Unit) (h : P_S_mayStandInIf post a0 u) : xC l D clX (tysX cs) Ev y_S_mayStandInIf w_S_mayStandInIf (rmD (d + 0)) wd0 [.int a0] u (pI post) 0 0 := by
  unfold P_S_mayStandInIf at h
  refine xC.of (cc := b_S_mayStandInIf) (nL := 1) (ret := (some .boolean)) (by decide) rfl (Nat.le_of_ble_eq_true rfl) ?_
  show RR l D clX (tysX cs) Ev "DeckFront$Statement" b_S_mayStandInIf 1 w_S_mayStandInIf (rmD (d + 0)) (some .boolean) wd0 (pI post) 0 0 0 0 0 [(0, .int a0)] [] u
  refine x_iload_n (x := a0) d_S_mayStandInIf_0 rfl ?_
  refine x_iconst (v := 2) d_S_mayStandInIf_1 (by decide) ?_
  refine x_icmp_eq (tgt := 23) d_S_mayStandInIf_2 rfl (fun hc => ?_) (fun hc => ?_)
  · have h := h.1 hc
    refine x_iconst (v := 1) d_S_mayStandInIf_23 (by decide) ?_
    refine x_goto (tgt := 28) d_S_mayStandInIf_24 rfl ?_
    refine x_zret rfl d_S_mayStandInIf_28 ⟨_, rfl, ?_⟩
    exact h
  · have h := h.2 hc
    refine x_iload_n (x := a0) d_S_mayStandInIf_5 rfl ?_
    refine x_bipush (v := 9) d_S_mayStandInIf_6 (by decide) ?_
    refine x_icmp_lt (tgt := 17) d_S_mayStandInIf_8 rfl (fun hc => ?_) (fun hc => ?_)
    · have h := h.1 hc
      exact w_S_mayStandInIf_17 l D cs Ev hE adK adV fm X d post  a0 u h
    · have h := h.2 hc
      refine x_iload_n (x := a0) d_S_mayStandInIf_11 rfl ?_
      refine x_bipush (v := 13) d_S_mayStandInIf_12 (by decide) ?_
      refine x_icmp_le (tgt := 23) d_S_mayStandInIf_14 rfl (fun hc => ?_) (fun hc => ?_)
      · have h := h.1 hc
        refine x_iconst (v := 1) d_S_mayStandInIf_23 (by decide) ?_
        refine x_goto (tgt := 28) d_S_mayStandInIf_24 rfl ?_
        refine x_zret rfl d_S_mayStandInIf_28 ⟨_, rfl, ?_⟩
        exact h
      · have h := h.2 hc
        exact w_S_mayStandInIf_17 l D cs Ev hE adK adV fm X d post  a0 u h
def P_S_takeSignsBefore_53 (post : Int32 → MS → Prop) : Nat → Int32 → Int32 → Int32 → MS → Prop
  | 0, _, _, _, _ => False
  | f + 1, x1, x2, x3, u => ((80 ≤ x3 → post x2 u) ∧ (¬ 80 ≤ x3 → ((¬ x1 = 3 → post x2 u) ∧ (x1 = 3 → P_T_stands (fun r2 u1 => ((r2 = 0 → post x2 u1) ∧ (¬ r2 = 0 → (vp_in (gI u1 5) 80 ∧ (vp_in (gI u1 5) 80 ∧ P_S_takeSignsBefore_53 post f x1 (x2 + 1) (x3 + 1) (sI (sA u1 1 (gI u1 5).toNatClampNeg ((gA u1 1 (gI u1 5).toNatClampNeg) + (1 : Int32))) 5 ((gI u1 5) + (5 : Int32)))))))) 26 (gI u 5) u))))
set_option maxHeartbeats 600000 in
set_option maxRecDepth 100000 in
theorem w_S_takeSignsBefore_53 (l : Launch) (D : va_G) (cs : Nat → ClassId) (Ev : (Nat → Prop) → State → Prop) (hE : xEok Ev) (adK adV : Nat → Nat) (fm : Option Nat) (X : xEv adK adV fm Ev) (o : Nat) (a : Nat → Nat) (d : Nat) (post : Int32 → MS → Prop) : ∀ (f : Nat) (x1 : Int32) (x2 : Int32) (x3 : Int32) (u : MS), P_S_takeSignsBefore_53 post  f x1 x2 x3 u → RR l D clX (tysX cs) Ev "DeckFront$Statement" b_S_takeSignsBefore 4 w_S_takeSignsBefore (rmD (d + 5)) (some .int) (wdS o a cs) (pI post) 0 0 0 0 53 [(0, .ref o), (1, .int x1), (2, .int x2), (3, .int x3)] [] u := by
  intro f
  induction f with
  | zero => intro x1 x2 x3 u h; exact h.elim
  | succ f ih =>
    intro x1 x2 x3 u h
    unfold P_S_takeSignsBefore_53 at h
    refine x_iload_n (x := x3) d_S_takeSignsBefore_53 rfl ?_
    refine x_bipush (v := 80) d_S_takeSignsBefore_54 (by decide) ?_
    refine x_icmp_ge (tgt := 109) d_S_takeSignsBefore_56 rfl (fun hc => ?_) (fun hc => ?_)
    · have h := h.1 hc
      refine x_iload_n (x := x2) d_S_takeSignsBefore_109 rfl ?_
      refine x_iret d_S_takeSignsBefore_110 ⟨_, rfl, ?_⟩
      exact h
    · have h := h.2 hc
      refine x_iload_n (x := x1) d_S_takeSignsBefore_59 rfl ?_
      refine x_iconst (v := 3) d_S_takeSignsBefore_60 (by decide) ?_
      refine x_icmp_ne (tgt := 109) d_S_takeSignsBefore_61 rfl (fun hc => ?_) (fun hc => ?_)
      · have h := h.1 hc
        refine x_iload_n (x := x2) d_S_takeSignsBefore_109 rfl ?_
        refine x_iret d_S_takeSignsBefore_110 ⟨_, rfl, ?_⟩
        exact h
      · have h := h.2 hc
        refine x_aload_n (x := o) d_S_takeSignsBefore_64 rfl ?_
        refine x_aload_n (x := o) d_S_takeSignsBefore_65 rfl ?_
        refine x_get (v := .int (gI u 5)) f_S_15 (eS_o _ _ _ _) rfl d_S_takeSignsBefore_66 ?_
        refine x_ldcS (fun A s h9 => ((X A s h9).2.1 26 (by decide)).1) d_S_takeSignsBefore_69 ?_
        refine x_callU (st := []) k_S_136 rfl (eS_o _ _ _ _) x_id (c_T_stands l D cs Ev hE adK adV fm X o a 26 (by decide) (d + 0) _ (gI u 5) u h) hE (rmD_ok (by omega) (by decide)) rfl (Nat.le_of_ble_eq_true rfl) rfl d_S_takeSignsBefore_71 (x_rI (fun r2 u1 h => ?_))
        refine x_if_eq (tgt := 109) d_S_takeSignsBefore_74 rfl (fun hc => ?_) (fun hc => ?_)
        · have h := h.1 hc
          refine x_iload_n (x := x2) d_S_takeSignsBefore_109 rfl ?_
          refine x_iret d_S_takeSignsBefore_110 ⟨_, rfl, ?_⟩
          exact h
        · have h := h.2 hc
          refine x_aload_n (x := o) d_S_takeSignsBefore_77 rfl ?_
          refine x_get (v := .ref (a 1)) f_S_130 (eS_o _ _ _ _) rfl d_S_takeSignsBefore_78 ?_
          refine x_aload_n (x := o) d_S_takeSignsBefore_81 rfl ?_
          refine x_get (v := .int (gI u1 5)) f_S_15 (eS_o _ _ _ _) rfl d_S_takeSignsBefore_82 ?_
          refine x_dup2 d_S_takeSignsBefore_85 rfl rfl ?_
          refine x_iald (t0 := 0) (eS_1 _ _ _ _) rfl h.1 d_S_takeSignsBefore_86 ?_
          have h := h.2
          refine x_iconst (v := 1) d_S_takeSignsBefore_87 (by decide) ?_
          refine x_iadd d_S_takeSignsBefore_88 ?_
          refine x_iast (t0 := 0) (eS_1 _ _ _ _) rfl h.1 (sS_1 _ _ _ _ _ _) d_S_takeSignsBefore_89 ?_
          have h := h.2
          refine x_aload_n (x := o) d_S_takeSignsBefore_90 rfl ?_
          refine x_dup d_S_takeSignsBefore_91 rfl ?_
          refine x_get (v := .int (gI u1 5)) f_S_15 (eS_o _ _ _ _) rfl d_S_takeSignsBefore_92 ?_
          refine x_iconst (v := 5) d_S_takeSignsBefore_95 (by decide) ?_
          refine x_iadd d_S_takeSignsBefore_96 ?_
          refine x_put f_S_15 fw_S_5 (eS_o _ _ _ _) rfl rfl (Nat.le_of_ble_eq_true rfl) (sS_5 _ _ _ _ _) d_S_takeSignsBefore_97 ?_
          refine x_iinc (v := x2 + 1) (lv' := [(2, .int (x2 + 1)), (0, .ref o), (1, .int x1), (3, .int x3)]) d_S_takeSignsBefore_100 rfl rfl (by decide) rfl ?_
          refine x_iinc (v := x3 + 1) (lv' := [(3, .int (x3 + 1)), (2, .int (x2 + 1)), (0, .ref o), (1, .int x1)]) d_S_takeSignsBefore_103 rfl rfl (by decide) rfl ?_
          refine x_goto (tgt := 53) d_S_takeSignsBefore_106 rfl ?_
          refine x_sub [2, 3, 1, 0] rfl ?_
          exact ih x1 (x2 + 1) (x3 + 1) (sI (sA u1 1 (gI u1 5).toNatClampNeg ((gA u1 1 (gI u1 5).toNatClampNeg) + (1 : Int32))) 5 ((gI u1 5) + (5 : Int32))) h
def P_S_takeSignsBefore_51 (post : Int32 → MS → Prop) (x1 : Int32) (x2 : Int32) (u : MS) : Prop := (∃ g, P_S_takeSignsBefore_53 post g x1 x2 0 u)
set_option maxHeartbeats 600000 in
set_option maxRecDepth 100000 in
theorem w_S_takeSignsBefore_51 (l : Launch) (D : va_G) (cs : Nat → ClassId) (Ev : (Nat → Prop) → State → Prop) (hE : xEok Ev) (adK adV : Nat → Nat) (fm : Option Nat) (X : xEv adK adV fm Ev) (o : Nat) (a : Nat → Nat) (d : Nat) (post : Int32 → MS → Prop) (x1 : Int32) (x2 : Int32) (u : MS) (h : P_S_takeSignsBefore_51 post  x1 x2 u) : RR l D clX (tysX cs) Ev "DeckFront$Statement" b_S_takeSignsBefore 4 w_S_takeSignsBefore (rmD (d + 5)) (some .int) (wdS o a cs) (pI post) 0 0 0 0 51 [(0, .ref o), (1, .int x1), (2, .int x2)] [] u := by
  unfold P_S_takeSignsBefore_51 at h
  refine x_iconst (v := 0) d_S_takeSignsBefore_51 (by decide) ?_
  refine x_istore_n (lv' := [(3, .int 0), (0, .ref o), (1, .int x1), (2, .int x2)]) d_S_takeSignsBefore_52 (by decide) rfl ?_
  refine x_sub [1, 2, 3, 0] rfl ?_
  obtain ⟨f9, h⟩ := h
  exact w_S_takeSignsBefore_53 l D cs Ev hE adK adV fm X o a d post  f9 x1 x2 0 u h
def P_S_takeSignsBefore_25 (post : Int32 → MS → Prop) (x1 : Int32) (x2 : Int32) (u : MS) : Prop := (vp_in (gI u 5) 80 ∧ (vp_in (gI u 5) 80 ∧ P_S_takeSignsBefore_51 post x1 (x2 + 1) (sI (sA u 1 (gI u 5).toNatClampNeg ((gA u 1 (gI u 5).toNatClampNeg) + (1 : Int32))) 5 ((gI u 5) + (1 : Int32)))))
set_option maxHeartbeats 600000 in
set_option maxRecDepth 100000 in
theorem w_S_takeSignsBefore_25 (l : Launch) (D : va_G) (cs : Nat → ClassId) (Ev : (Nat → Prop) → State → Prop) (hE : xEok Ev) (adK adV : Nat → Nat) (fm : Option Nat) (X : xEv adK adV fm Ev) (o : Nat) (a : Nat → Nat) (d : Nat) (post : Int32 → MS → Prop) (x1 : Int32) (x2 : Int32) (u : MS) (h : P_S_takeSignsBefore_25 post  x1 x2 u) : RR l D clX (tysX cs) Ev "DeckFront$Statement" b_S_takeSignsBefore 4 w_S_takeSignsBefore (rmD (d + 5)) (some .int) (wdS o a cs) (pI post) 0 0 0 0 25 [(0, .ref o), (1, .int x1), (2, .int x2)] [] u := by
  unfold P_S_takeSignsBefore_25 at h
  refine x_aload_n (x := o) d_S_takeSignsBefore_25 rfl ?_
  refine x_get (v := .ref (a 1)) f_S_130 (eS_o _ _ _ _) rfl d_S_takeSignsBefore_26 ?_
  refine x_aload_n (x := o) d_S_takeSignsBefore_29 rfl ?_
  refine x_get (v := .int (gI u 5)) f_S_15 (eS_o _ _ _ _) rfl d_S_takeSignsBefore_30 ?_
  refine x_dup2 d_S_takeSignsBefore_33 rfl rfl ?_
  refine x_iald (t0 := 0) (eS_1 _ _ _ _) rfl h.1 d_S_takeSignsBefore_34 ?_
  have h := h.2
  refine x_iconst (v := 1) d_S_takeSignsBefore_35 (by decide) ?_
  refine x_iadd d_S_takeSignsBefore_36 ?_
  refine x_iast (t0 := 0) (eS_1 _ _ _ _) rfl h.1 (sS_1 _ _ _ _ _ _) d_S_takeSignsBefore_37 ?_
  have h := h.2
  refine x_aload_n (x := o) d_S_takeSignsBefore_38 rfl ?_
  refine x_dup d_S_takeSignsBefore_39 rfl ?_
  refine x_get (v := .int (gI u 5)) f_S_15 (eS_o _ _ _ _) rfl d_S_takeSignsBefore_40 ?_
  refine x_iconst (v := 1) d_S_takeSignsBefore_43 (by decide) ?_
  refine x_iadd d_S_takeSignsBefore_44 ?_
  refine x_put f_S_15 fw_S_5 (eS_o _ _ _ _) rfl rfl (Nat.le_of_ble_eq_true rfl) (sS_5 _ _ _ _ _) d_S_takeSignsBefore_45 ?_
  refine x_iinc (v := x2 + 1) (lv' := [(2, .int (x2 + 1)), (0, .ref o), (1, .int x1)]) d_S_takeSignsBefore_48 rfl rfl (by decide) rfl ?_
  refine x_sub [1, 2, 0] rfl ?_
  exact w_S_takeSignsBefore_51 l D cs Ev hE adK adV fm X o a d post  x1 (x2 + 1) (sI (sA u 1 (gI u 5).toNatClampNeg ((gA u 1 (gI u 5).toNatClampNeg) + (1 : Int32))) 5 ((gI u 5) + (1 : Int32))) h
def P_S_takeSignsBefore (post : Int32 → MS → Prop) (a0 : Int32) (u : MS) : Prop := ((¬ a0 = 5 → P_S_takeSignsBefore_51 post a0 0 u) ∧ (a0 = 5 → P_T_isNext (fun r4 u3 => ((¬ r4 = 0 → P_S_takeSignsBefore_25 post a0 0 u3) ∧ (r4 = 0 → P_T_isNext (fun r6 u5 => ((r6 = 0 → P_S_takeSignsBefore_51 post a0 0 u5) ∧ (¬ r6 = 0 → P_S_takeSignsBefore_25 post a0 0 u5))) (45 : Int32) u3))) (43 : Int32) u))
set_option maxHeartbeats 600000 in
set_option maxRecDepth 100000 in
theorem c_S_takeSignsBefore (l : Launch) (D : va_G) (cs : Nat → ClassId) (Ev : (Nat → Prop) → State → Prop) (hE : xEok Ev) (adK adV : Nat → Nat) (fm : Option Nat) (X : xEv adK adV fm Ev) (o : Nat) (a : Nat → Nat) (d : Nat) (post : Int32 → MS → Prop) (a0 : Int32) (u : MS) (h : P_S_takeSignsBefore post a0 u) : xC l D clX (tysX cs) Ev y_S_takeSignsBefore w_S_takeSignsBefore (rmD (d + 5)) (wdS o a cs) [.ref o, .int a0] u (pI post) 0 0 := by
  unfold P_S_takeSignsBefore at h
  refine xC.of (cc := b_S_takeSignsBefore) (nL := 4) (ret := (some .int)) (by decide) rfl (Nat.le_of_ble_eq_true rfl) ?_
  show RR l D clX (tysX cs) Ev "DeckFront$Statement" b_S_takeSignsBefore 4 w_S_takeSignsBefore (rmD (d + 5)) (some .int) (wdS o a cs) (pI post) 0 0 0 0 0 [(0, .ref o), (1, .int a0)] [] u
  refine x_iconst (v := 0) d_S_takeSignsBefore_0 (by decide) ?_
  refine x_istore_n (lv' := [(2, .int 0), (0, .ref o), (1, .int a0)]) d_S_takeSignsBefore_1 (by decide) rfl ?_
  refine x_iload_n (x := a0) d_S_takeSignsBefore_2 rfl ?_
  refine x_iconst (v := 5) d_S_takeSignsBefore_3 (by decide) ?_
  refine x_icmp_ne (tgt := 51) d_S_takeSignsBefore_4 rfl (fun hc => ?_) (fun hc => ?_)
  · have h := h.1 hc
    refine x_sub [1, 2, 0] rfl ?_
    exact w_S_takeSignsBefore_51 l D cs Ev hE adK adV fm X o a d post  a0 0 u h
  · have h := h.2 hc
    refine x_aload_n (x := o) d_S_takeSignsBefore_7 rfl ?_
    refine x_bipush (v := 43) d_S_takeSignsBefore_8 (by decide) ?_
    refine x_callU (st := []) k_S_82 rfl (eS_o _ _ _ _) x_id (c_T_isNext l D cs Ev hE adK adV fm X o a (d + 4) _ (43 : Int32) u h) hE (rmD_ok (by omega) (by decide)) rfl (Nat.le_of_ble_eq_true rfl) rfl d_S_takeSignsBefore_10 (x_rI (fun r4 u3 h => ?_))
    refine x_if_ne (tgt := 25) d_S_takeSignsBefore_13 rfl (fun hc => ?_) (fun hc => ?_)
    · have h := h.1 hc
      refine x_sub [1, 2, 0] rfl ?_
      exact w_S_takeSignsBefore_25 l D cs Ev hE adK adV fm X o a d post  a0 0 u3 h
    · have h := h.2 hc
      refine x_aload_n (x := o) d_S_takeSignsBefore_16 rfl ?_
      refine x_bipush (v := 45) d_S_takeSignsBefore_17 (by decide) ?_
      refine x_callU (st := []) k_S_82 rfl (eS_o _ _ _ _) x_id (c_T_isNext l D cs Ev hE adK adV fm X o a (d + 4) _ (45 : Int32) u3 h) hE (rmD_ok (by omega) (by decide)) rfl (Nat.le_of_ble_eq_true rfl) rfl d_S_takeSignsBefore_19 (x_rI (fun r6 u5 h => ?_))
      refine x_if_eq (tgt := 51) d_S_takeSignsBefore_22 rfl (fun hc => ?_) (fun hc => ?_)
      · have h := h.1 hc
        refine x_sub [1, 2, 0] rfl ?_
        exact w_S_takeSignsBefore_51 l D cs Ev hE adK adV fm X o a d post  a0 0 u5 h
      · have h := h.2 hc
        refine x_sub [1, 2, 0] rfl ?_
        exact w_S_takeSignsBefore_25 l D cs Ev hE adK adV fm X o a d post  a0 0 u5 h
def P_S_takeSignBetween (post : Int32 → MS → Prop) (a0 : Int32) (u : MS) : Prop := ((a0 = 1 → P_T_take (fun r2 u1 => (narrow .boolean (.int r2) = .int r2 ∧ post r2 u1)) 27 u) ∧ (¬ a0 = 1 → ((a0 = 2 → P_T_take (fun r4 u3 => (narrow .boolean (.int r4) = .int r4 ∧ post r4 u3)) 28 u) ∧ (¬ a0 = 2 → ((a0 = 3 → post 0 u) ∧ (¬ a0 = 3 → ((a0 = 4 → P_T_take (fun r6 u5 => ((¬ r6 = 0 → post 1 u5) ∧ (r6 = 0 → P_T_take (fun r8 u7 => ((¬ r8 = 0 → post 1 u7) ∧ (r8 = 0 → P_T_take (fun r10 u9 => ((¬ r10 = 0 → post 1 u9) ∧ (r10 = 0 → P_T_take (fun r12 u11 => ((¬ r12 = 0 → post 1 u11) ∧ (r12 = 0 → P_T_take (fun r14 u13 => ((¬ r14 = 0 → post 1 u13) ∧ (r14 = 0 → P_T_take (fun r16 u15 => ((r16 = 0 → post 0 u15) ∧ (¬ r16 = 0 → post 1 u15))) 34 u13))) 33 u11))) 32 u9))) 31 u7))) 30 u5))) 29 u) ∧ (¬ a0 = 4 → ((a0 = 5 → P_T_take (fun r18 u17 => ((¬ r18 = 0 → post 1 u17) ∧ (r18 = 0 → P_T_take (fun r20 u19 => ((r20 = 0 → post 0 u19) ∧ (¬ r20 = 0 → post 1 u19))) 36 u17))) 35 u) ∧ (¬ a0 = 5 → ((a0 = 6 → P_T_take (fun r22 u21 => ((¬ r22 = 0 → post 1 u21) ∧ (r22 = 0 → P_T_take (fun r24 u23 => ((r24 = 0 → post 0 u23) ∧ (¬ r24 = 0 → post 1 u23))) 38 u21))) 37 u) ∧ (¬ a0 = 6 → post 0 u))))))))))))
set_option maxHeartbeats 600000 in
set_option maxRecDepth 100000 in
theorem c_S_takeSignBetween (l : Launch) (D : va_G) (cs : Nat → ClassId) (Ev : (Nat → Prop) → State → Prop) (hE : xEok Ev) (adK adV : Nat → Nat) (fm : Option Nat) (X : xEv adK adV fm Ev) (o : Nat) (a : Nat → Nat) (d : Nat) (post : Int32 → MS → Prop) (a0 : Int32) (u : MS) (h : P_S_takeSignBetween post a0 u) : xC l D clX (tysX cs) Ev y_S_takeSignBetween w_S_takeSignBetween (rmD (d + 6)) (wdS o a cs) [.ref o, .int a0] u (pI post) 0 0 := by
  unfold P_S_takeSignBetween at h
  refine xC.of (cc := b_S_takeSignBetween) (nL := 2) (ret := (some .boolean)) (by decide) rfl (Nat.le_of_ble_eq_true rfl) ?_
  show RR l D clX (tysX cs) Ev "DeckFront$Statement" b_S_takeSignBetween 2 w_S_takeSignBetween (rmD (d + 6)) (some .boolean) (wdS o a cs) (pI post) 0 0 0 0 0 [(0, .ref o), (1, .int a0)] [] u
  refine x_iload_n (x := a0) d_S_takeSignBetween_0 rfl ?_
  by_cases hx1 : a0 = 1
  · have h := h.1 hx1
    refine x_tableIn (off := 39) (tgt := 40) d_S_takeSignBetween_1 (by rw [hx1]; decide) (by rw [hx1]; decide) (by rw [hx1]; rfl) rfl ?_
    refine x_aload_n (x := o) d_S_takeSignBetween_40 rfl ?_
    refine x_ldcS (fun A s h9 => ((X A s h9).2.1 27 (by decide)).1) d_S_takeSignBetween_41 ?_
    refine x_callU (st := []) k_S_27 rfl (eS_o _ _ _ _) x_id (c_T_take l D cs Ev hE adK adV fm X o a 27 (by decide) (d + 0) _ u h) hE (rmD_ok (by omega) (by decide)) rfl (Nat.le_of_ble_eq_true rfl) rfl d_S_takeSignBetween_43 (x_rI (fun r2 u1 h => ?_))
    refine x_zret h.1 d_S_takeSignBetween_46 ⟨_, rfl, ?_⟩
    exact h.2
  · have h := h.2 hx1
    by_cases hx2 : a0 = 2
    · have h := h.1 hx2
      refine x_tableIn (off := 46) (tgt := 47) d_S_takeSignBetween_1 (by rw [hx2]; decide) (by rw [hx2]; decide) (by rw [hx2]; rfl) rfl ?_
      refine x_aload_n (x := o) d_S_takeSignBetween_47 rfl ?_
      refine x_ldcS (fun A s h9 => ((X A s h9).2.1 28 (by decide)).1) d_S_takeSignBetween_48 ?_
      refine x_callU (st := []) k_S_27 rfl (eS_o _ _ _ _) x_id (c_T_take l D cs Ev hE adK adV fm X o a 28 (by decide) (d + 0) _ u h) hE (rmD_ok (by omega) (by decide)) rfl (Nat.le_of_ble_eq_true rfl) rfl d_S_takeSignBetween_50 (x_rI (fun r4 u3 h => ?_))
      refine x_zret h.1 d_S_takeSignBetween_53 ⟨_, rfl, ?_⟩
      exact h.2
    · have h := h.2 hx2
      by_cases hx3 : a0 = 3
      · have h := h.1 hx3
        refine x_tableIn (off := 161) (tgt := 162) d_S_takeSignBetween_1 (by rw [hx3]; decide) (by rw [hx3]; decide) (by rw [hx3]; rfl) rfl ?_
        refine x_iconst (v := 0) d_S_takeSignBetween_162 (by decide) ?_
        refine x_zret rfl d_S_takeSignBetween_163 ⟨_, rfl, ?_⟩
        exact h
      · have h := h.2 hx3
        by_cases hx4 : a0 = 4
        · have h := h.1 hx4
          refine x_tableIn (off := 53) (tgt := 54) d_S_takeSignBetween_1 (by rw [hx4]; decide) (by rw [hx4]; decide) (by rw [hx4]; rfl) rfl ?_
          refine x_aload_n (x := o) d_S_takeSignBetween_54 rfl ?_
          refine x_ldcS (fun A s h9 => ((X A s h9).2.1 29 (by decide)).1) d_S_takeSignBetween_55 ?_
          refine x_callU (st := []) k_S_27 rfl (eS_o _ _ _ _) x_id (c_T_take l D cs Ev hE adK adV fm X o a 29 (by decide) (d + 0) _ u h) hE (rmD_ok (by omega) (by decide)) rfl (Nat.le_of_ble_eq_true rfl) rfl d_S_takeSignBetween_57 (x_rI (fun r6 u5 h => ?_))
          refine x_if_ne (tgt := 108) d_S_takeSignBetween_60 rfl (fun hc => ?_) (fun hc => ?_)
          · have h := h.1 hc
            refine x_iconst (v := 1) d_S_takeSignBetween_108 (by decide) ?_
            refine x_goto (tgt := 113) d_S_takeSignBetween_109 rfl ?_
            refine x_zret rfl d_S_takeSignBetween_113 ⟨_, rfl, ?_⟩
            exact h
          · have h := h.2 hc
            refine x_aload_n (x := o) d_S_takeSignBetween_63 rfl ?_
            refine x_ldcS (fun A s h9 => ((X A s h9).2.1 30 (by decide)).1) d_S_takeSignBetween_64 ?_
            refine x_callU (st := []) k_S_27 rfl (eS_o _ _ _ _) x_id (c_T_take l D cs Ev hE adK adV fm X o a 30 (by decide) (d + 0) _ u5 h) hE (rmD_ok (by omega) (by decide)) rfl (Nat.le_of_ble_eq_true rfl) rfl d_S_takeSignBetween_66 (x_rI (fun r8 u7 h => ?_))
            refine x_if_ne (tgt := 108) d_S_takeSignBetween_69 rfl (fun hc => ?_) (fun hc => ?_)
            · have h := h.1 hc
              refine x_iconst (v := 1) d_S_takeSignBetween_108 (by decide) ?_
              refine x_goto (tgt := 113) d_S_takeSignBetween_109 rfl ?_
              refine x_zret rfl d_S_takeSignBetween_113 ⟨_, rfl, ?_⟩
              exact h
            · have h := h.2 hc
              refine x_aload_n (x := o) d_S_takeSignBetween_72 rfl ?_
              refine x_ldcS (fun A s h9 => ((X A s h9).2.1 31 (by decide)).1) d_S_takeSignBetween_73 ?_
              refine x_callU (st := []) k_S_27 rfl (eS_o _ _ _ _) x_id (c_T_take l D cs Ev hE adK adV fm X o a 31 (by decide) (d + 0) _ u7 h) hE (rmD_ok (by omega) (by decide)) rfl (Nat.le_of_ble_eq_true rfl) rfl d_S_takeSignBetween_75 (x_rI (fun r10 u9 h => ?_))
              refine x_if_ne (tgt := 108) d_S_takeSignBetween_78 rfl (fun hc => ?_) (fun hc => ?_)
              · have h := h.1 hc
                refine x_iconst (v := 1) d_S_takeSignBetween_108 (by decide) ?_
                refine x_goto (tgt := 113) d_S_takeSignBetween_109 rfl ?_
                refine x_zret rfl d_S_takeSignBetween_113 ⟨_, rfl, ?_⟩
                exact h
              · have h := h.2 hc
                refine x_aload_n (x := o) d_S_takeSignBetween_81 rfl ?_
                refine x_ldcS (fun A s h9 => ((X A s h9).2.1 32 (by decide)).1) d_S_takeSignBetween_82 ?_
                refine x_callU (st := []) k_S_27 rfl (eS_o _ _ _ _) x_id (c_T_take l D cs Ev hE adK adV fm X o a 32 (by decide) (d + 0) _ u9 h) hE (rmD_ok (by omega) (by decide)) rfl (Nat.le_of_ble_eq_true rfl) rfl d_S_takeSignBetween_84 (x_rI (fun r12 u11 h => ?_))
                refine x_if_ne (tgt := 108) d_S_takeSignBetween_87 rfl (fun hc => ?_) (fun hc => ?_)
                · have h := h.1 hc
                  refine x_iconst (v := 1) d_S_takeSignBetween_108 (by decide) ?_
                  refine x_goto (tgt := 113) d_S_takeSignBetween_109 rfl ?_
                  refine x_zret rfl d_S_takeSignBetween_113 ⟨_, rfl, ?_⟩
                  exact h
                · have h := h.2 hc
                  refine x_aload_n (x := o) d_S_takeSignBetween_90 rfl ?_
                  refine x_ldcS (fun A s h9 => ((X A s h9).2.1 33 (by decide)).1) d_S_takeSignBetween_91 ?_
                  refine x_callU (st := []) k_S_27 rfl (eS_o _ _ _ _) x_id (c_T_take l D cs Ev hE adK adV fm X o a 33 (by decide) (d + 0) _ u11 h) hE (rmD_ok (by omega) (by decide)) rfl (Nat.le_of_ble_eq_true rfl) rfl d_S_takeSignBetween_93 (x_rI (fun r14 u13 h => ?_))
                  refine x_if_ne (tgt := 108) d_S_takeSignBetween_96 rfl (fun hc => ?_) (fun hc => ?_)
                  · have h := h.1 hc
                    refine x_iconst (v := 1) d_S_takeSignBetween_108 (by decide) ?_
                    refine x_goto (tgt := 113) d_S_takeSignBetween_109 rfl ?_
                    refine x_zret rfl d_S_takeSignBetween_113 ⟨_, rfl, ?_⟩
                    exact h
                  · have h := h.2 hc
                    refine x_aload_n (x := o) d_S_takeSignBetween_99 rfl ?_
                    refine x_ldcS (fun A s h9 => ((X A s h9).2.1 34 (by decide)).1) d_S_takeSignBetween_100 ?_
                    refine x_callU (st := []) k_S_27 rfl (eS_o _ _ _ _) x_id (c_T_take l D cs Ev hE adK adV fm X o a 34 (by decide) (d + 0) _ u13 h) hE (rmD_ok (by omega) (by decide)) rfl (Nat.le_of_ble_eq_true rfl) rfl d_S_takeSignBetween_102 (x_rI (fun r16 u15 h => ?_))
                    refine x_if_eq (tgt := 112) d_S_takeSignBetween_105 rfl (fun hc => ?_) (fun hc => ?_)
                    · have h := h.1 hc
                      refine x_iconst (v := 0) d_S_takeSignBetween_112 (by decide) ?_
                      refine x_zret rfl d_S_takeSignBetween_113 ⟨_, rfl, ?_⟩
                      exact h
                    · have h := h.2 hc
                      refine x_iconst (v := 1) d_S_takeSignBetween_108 (by decide) ?_
                      refine x_goto (tgt := 113) d_S_takeSignBetween_109 rfl ?_
                      refine x_zret rfl d_S_takeSignBetween_113 ⟨_, rfl, ?_⟩
                      exact h
        · have h := h.2 hx4
          by_cases hx5 : a0 = 5
          · have h := h.1 hx5
            refine x_tableIn (off := 113) (tgt := 114) d_S_takeSignBetween_1 (by rw [hx5]; decide) (by rw [hx5]; decide) (by rw [hx5]; rfl) rfl ?_
            refine x_aload_n (x := o) d_S_takeSignBetween_114 rfl ?_
            refine x_ldcS (fun A s h9 => ((X A s h9).2.1 35 (by decide)).1) d_S_takeSignBetween_115 ?_
            refine x_callU (st := []) k_S_27 rfl (eS_o _ _ _ _) x_id (c_T_take l D cs Ev hE adK adV fm X o a 35 (by decide) (d + 0) _ u h) hE (rmD_ok (by omega) (by decide)) rfl (Nat.le_of_ble_eq_true rfl) rfl d_S_takeSignBetween_117 (x_rI (fun r18 u17 h => ?_))
            refine x_if_ne (tgt := 132) d_S_takeSignBetween_120 rfl (fun hc => ?_) (fun hc => ?_)
            · have h := h.1 hc
              refine x_iconst (v := 1) d_S_takeSignBetween_132 (by decide) ?_
              refine x_goto (tgt := 137) d_S_takeSignBetween_133 rfl ?_
              refine x_zret rfl d_S_takeSignBetween_137 ⟨_, rfl, ?_⟩
              exact h
            · have h := h.2 hc
              refine x_aload_n (x := o) d_S_takeSignBetween_123 rfl ?_
              refine x_ldcS (fun A s h9 => ((X A s h9).2.1 36 (by decide)).1) d_S_takeSignBetween_124 ?_
              refine x_callU (st := []) k_S_27 rfl (eS_o _ _ _ _) x_id (c_T_take l D cs Ev hE adK adV fm X o a 36 (by decide) (d + 0) _ u17 h) hE (rmD_ok (by omega) (by decide)) rfl (Nat.le_of_ble_eq_true rfl) rfl d_S_takeSignBetween_126 (x_rI (fun r20 u19 h => ?_))
              refine x_if_eq (tgt := 136) d_S_takeSignBetween_129 rfl (fun hc => ?_) (fun hc => ?_)
              · have h := h.1 hc
                refine x_iconst (v := 0) d_S_takeSignBetween_136 (by decide) ?_
                refine x_zret rfl d_S_takeSignBetween_137 ⟨_, rfl, ?_⟩
                exact h
              · have h := h.2 hc
                refine x_iconst (v := 1) d_S_takeSignBetween_132 (by decide) ?_
                refine x_goto (tgt := 137) d_S_takeSignBetween_133 rfl ?_
                refine x_zret rfl d_S_takeSignBetween_137 ⟨_, rfl, ?_⟩
                exact h
          · have h := h.2 hx5
            by_cases hx6 : a0 = 6
            · have h := h.1 hx6
              refine x_tableIn (off := 137) (tgt := 138) d_S_takeSignBetween_1 (by rw [hx6]; decide) (by rw [hx6]; decide) (by rw [hx6]; rfl) rfl ?_
              refine x_aload_n (x := o) d_S_takeSignBetween_138 rfl ?_
              refine x_ldcS (fun A s h9 => ((X A s h9).2.1 37 (by decide)).1) d_S_takeSignBetween_139 ?_
              refine x_callU (st := []) k_S_27 rfl (eS_o _ _ _ _) x_id (c_T_take l D cs Ev hE adK adV fm X o a 37 (by decide) (d + 0) _ u h) hE (rmD_ok (by omega) (by decide)) rfl (Nat.le_of_ble_eq_true rfl) rfl d_S_takeSignBetween_141 (x_rI (fun r22 u21 h => ?_))
              refine x_if_ne (tgt := 156) d_S_takeSignBetween_144 rfl (fun hc => ?_) (fun hc => ?_)
              · have h := h.1 hc
                refine x_iconst (v := 1) d_S_takeSignBetween_156 (by decide) ?_
                refine x_goto (tgt := 161) d_S_takeSignBetween_157 rfl ?_
                refine x_zret rfl d_S_takeSignBetween_161 ⟨_, rfl, ?_⟩
                exact h
              · have h := h.2 hc
                refine x_aload_n (x := o) d_S_takeSignBetween_147 rfl ?_
                refine x_ldcS (fun A s h9 => ((X A s h9).2.1 38 (by decide)).1) d_S_takeSignBetween_148 ?_
                refine x_callU (st := []) k_S_27 rfl (eS_o _ _ _ _) x_id (c_T_take l D cs Ev hE adK adV fm X o a 38 (by decide) (d + 0) _ u21 h) hE (rmD_ok (by omega) (by decide)) rfl (Nat.le_of_ble_eq_true rfl) rfl d_S_takeSignBetween_150 (x_rI (fun r24 u23 h => ?_))
                refine x_if_eq (tgt := 160) d_S_takeSignBetween_153 rfl (fun hc => ?_) (fun hc => ?_)
                · have h := h.1 hc
                  refine x_iconst (v := 0) d_S_takeSignBetween_160 (by decide) ?_
                  refine x_zret rfl d_S_takeSignBetween_161 ⟨_, rfl, ?_⟩
                  exact h
                · have h := h.2 hc
                  refine x_iconst (v := 1) d_S_takeSignBetween_156 (by decide) ?_
                  refine x_goto (tgt := 161) d_S_takeSignBetween_157 rfl ?_
                  refine x_zret rfl d_S_takeSignBetween_161 ⟨_, rfl, ?_⟩
                  exact h
            · have h := h.2 hx6
              have t1 := lv_neT (a := 1) hx1 (by decide)
              have t2 := lv_neT (a := 2) hx2 (by decide)
              have t3 := lv_neT (a := 3) hx3 (by decide)
              have t4 := lv_neT (a := 4) hx4 (by decide)
              have t5 := lv_neT (a := 5) hx5 (by decide)
              have t6 := lv_neT (a := 6) hx6 (by decide)
              refine x_tableOut (tgt := 162) d_S_takeSignBetween_1 (by omega) rfl ?_
              refine x_iconst (v := 0) d_S_takeSignBetween_162 (by decide) ?_
              refine x_zret rfl d_S_takeSignBetween_163 ⟨_, rfl, ?_⟩
              exact h
def P_S_item (post : Int32 → MS → Prop) (a0 : Int32) (u : MS) : Prop := ((¬ a0 = 15 → ((¬ a0 = 16 → P_T_takeDigits (fun r2 u1 => (narrow .boolean (.int r2) = .int r2 ∧ post r2 u1)) (5 : Int32) (6 : Int32) u) ∧ (a0 = 16 → P_T_takeName (fun r4 u3 => ((r4 = 0 → post 0 u3) ∧ (¬ r4 = 0 → P_T_take (fun r6 u5 => ((r6 = 0 → post 0 u5) ∧ (¬ r6 = 0 → P_T_takeDigits (fun r8 u7 => ((r8 = 0 → post 0 u7) ∧ (¬ r8 = 0 → P_T_take (fun r10 u9 => ((r10 = 0 → post 0 u9) ∧ (¬ r10 = 0 → post 1 u9))) 24 u7))) (3 : Int32) (0 : Int32) u5))) 22 u3))) (1 : Int32) u))) ∧ (a0 = 15 → P_T_takeName (fun r12 u11 => (narrow .boolean (.int r12) = .int r12 ∧ post r12 u11)) (4 : Int32) u))
set_option maxHeartbeats 600000 in
set_option maxRecDepth 100000 in
theorem c_S_item (l : Launch) (D : va_G) (cs : Nat → ClassId) (Ev : (Nat → Prop) → State → Prop) (hE : xEok Ev) (adK adV : Nat → Nat) (fm : Option Nat) (X : xEv adK adV fm Ev) (o : Nat) (a : Nat → Nat) (d : Nat) (post : Int32 → MS → Prop) (a0 : Int32) (u : MS) (h : P_S_item post a0 u) : xC l D clX (tysX cs) Ev y_S_item w_S_item (rmD (d + 6)) (wdS o a cs) [.ref o, .int a0] u (pI post) 0 0 := by
  unfold P_S_item at h
  refine xC.of (cc := b_S_item) (nL := 2) (ret := (some .boolean)) (by decide) rfl (Nat.le_of_ble_eq_true rfl) ?_
  show RR l D clX (tysX cs) Ev "DeckFront$Statement" b_S_item 2 w_S_item (rmD (d + 6)) (some .boolean) (wdS o a cs) (pI post) 0 0 0 0 0 [(0, .ref o), (1, .int a0)] [] u
  refine x_iload_n (x := a0) d_S_item_0 rfl ?_
  refine x_bipush (v := 15) d_S_item_1 (by decide) ?_
  refine x_icmp_ne (tgt := 12) d_S_item_3 rfl (fun hc => ?_) (fun hc => ?_)
  · have h := h.1 hc
    refine x_iload_n (x := a0) d_S_item_12 rfl ?_
    refine x_bipush (v := 16) d_S_item_13 (by decide) ?_
    refine x_icmp_ne (tgt := 59) d_S_item_15 rfl (fun hc => ?_) (fun hc => ?_)
    · have h := h.1 hc
      refine x_aload_n (x := o) d_S_item_59 rfl ?_
      refine x_iconst (v := 5) d_S_item_60 (by decide) ?_
      refine x_bipush (v := 6) d_S_item_61 (by decide) ?_
      refine x_callU (st := []) k_S_50 rfl (eS_o _ _ _ _) x_id (c_T_takeDigits l D cs Ev hE adK adV fm X o a (d + 4) _ (5 : Int32) (6 : Int32) u h) hE (rmD_ok (by omega) (by decide)) rfl (Nat.le_of_ble_eq_true rfl) rfl d_S_item_63 (x_rI (fun r2 u1 h => ?_))
      refine x_zret h.1 d_S_item_66 ⟨_, rfl, ?_⟩
      exact h.2
    · have h := h.2 hc
      refine x_aload_n (x := o) d_S_item_18 rfl ?_
      refine x_iconst (v := 1) d_S_item_19 (by decide) ?_
      refine x_callU (st := []) k_S_57 rfl (eS_o _ _ _ _) x_id (c_T_takeName l D cs Ev hE adK adV fm X o a (d + 4) _ (1 : Int32) u h) hE (rmD_ok (by omega) (by decide)) rfl (Nat.le_of_ble_eq_true rfl) rfl d_S_item_20 (x_rI (fun r4 u3 h => ?_))
      refine x_if_eq (tgt := 57) d_S_item_23 rfl (fun hc => ?_) (fun hc => ?_)
      · have h := h.1 hc
        refine x_iconst (v := 0) d_S_item_57 (by decide) ?_
        refine x_zret rfl d_S_item_58 ⟨_, rfl, ?_⟩
        exact h
      · have h := h.2 hc
        refine x_aload_n (x := o) d_S_item_26 rfl ?_
        refine x_ldcS (fun A s h9 => ((X A s h9).2.1 22 (by decide)).1) d_S_item_27 ?_
        refine x_callU (st := []) k_S_27 rfl (eS_o _ _ _ _) x_id (c_T_take l D cs Ev hE adK adV fm X o a 22 (by decide) (d + 0) _ u3 h) hE (rmD_ok (by omega) (by decide)) rfl (Nat.le_of_ble_eq_true rfl) rfl d_S_item_29 (x_rI (fun r6 u5 h => ?_))
        refine x_if_eq (tgt := 57) d_S_item_32 rfl (fun hc => ?_) (fun hc => ?_)
        · have h := h.1 hc
          refine x_iconst (v := 0) d_S_item_57 (by decide) ?_
          refine x_zret rfl d_S_item_58 ⟨_, rfl, ?_⟩
          exact h
        · have h := h.2 hc
          refine x_aload_n (x := o) d_S_item_35 rfl ?_
          refine x_iconst (v := 3) d_S_item_36 (by decide) ?_
          refine x_iconst (v := 0) d_S_item_37 (by decide) ?_
          refine x_callU (st := []) k_S_50 rfl (eS_o _ _ _ _) x_id (c_T_takeDigits l D cs Ev hE adK adV fm X o a (d + 4) _ (3 : Int32) (0 : Int32) u5 h) hE (rmD_ok (by omega) (by decide)) rfl (Nat.le_of_ble_eq_true rfl) rfl d_S_item_38 (x_rI (fun r8 u7 h => ?_))
          refine x_if_eq (tgt := 57) d_S_item_41 rfl (fun hc => ?_) (fun hc => ?_)
          · have h := h.1 hc
            refine x_iconst (v := 0) d_S_item_57 (by decide) ?_
            refine x_zret rfl d_S_item_58 ⟨_, rfl, ?_⟩
            exact h
          · have h := h.2 hc
            refine x_aload_n (x := o) d_S_item_44 rfl ?_
            refine x_ldcS (fun A s h9 => ((X A s h9).2.1 24 (by decide)).1) d_S_item_45 ?_
            refine x_callU (st := []) k_S_27 rfl (eS_o _ _ _ _) x_id (c_T_take l D cs Ev hE adK adV fm X o a 24 (by decide) (d + 0) _ u7 h) hE (rmD_ok (by omega) (by decide)) rfl (Nat.le_of_ble_eq_true rfl) rfl d_S_item_47 (x_rI (fun r10 u9 h => ?_))
            refine x_if_eq (tgt := 57) d_S_item_50 rfl (fun hc => ?_) (fun hc => ?_)
            · have h := h.1 hc
              refine x_iconst (v := 0) d_S_item_57 (by decide) ?_
              refine x_zret rfl d_S_item_58 ⟨_, rfl, ?_⟩
              exact h
            · have h := h.2 hc
              refine x_iconst (v := 1) d_S_item_53 (by decide) ?_
              refine x_goto (tgt := 58) d_S_item_54 rfl ?_
              refine x_zret rfl d_S_item_58 ⟨_, rfl, ?_⟩
              exact h
  · have h := h.2 hc
    refine x_aload_n (x := o) d_S_item_6 rfl ?_
    refine x_iconst (v := 4) d_S_item_7 (by decide) ?_
    refine x_callU (st := []) k_S_57 rfl (eS_o _ _ _ _) x_id (c_T_takeName l D cs Ev hE adK adV fm X o a (d + 4) _ (4 : Int32) u h) hE (rmD_ok (by omega) (by decide)) rfl (Nat.le_of_ble_eq_true rfl) rfl d_S_item_8 (x_rI (fun r12 u11 h => ?_))
    refine x_zret h.1 d_S_item_11 ⟨_, rfl, ?_⟩
    exact h.2
def P_S_series_8 (post : Int32 → MS → Prop) : Nat → Int32 → Int32 → Int32 → MS → Prop
  | 0, _, _, _, _ => False
  | f + 1, x1, x2, x3, u => ((80 ≤ x3 → (narrow .boolean (.int x2) = .int x2 ∧ post x2 u)) ∧ (¬ 80 ≤ x3 → ((x2 = 0 → (narrow .boolean (.int x2) = .int x2 ∧ post x2 u)) ∧ (¬ x2 = 0 → P_T_take (fun r4 u3 => ((r4 = 0 → (narrow .boolean (.int x2) = .int x2 ∧ post x2 u3)) ∧ (¬ r4 = 0 → P_S_item (fun r6 u5 => P_S_series_8 post f x1 r6 (x3 + 1) u5) x1 u3))) 23 u))))
set_option maxHeartbeats 600000 in
set_option maxRecDepth 100000 in
theorem w_S_series_8 (l : Launch) (D : va_G) (cs : Nat → ClassId) (Ev : (Nat → Prop) → State → Prop) (hE : xEok Ev) (adK adV : Nat → Nat) (fm : Option Nat) (X : xEv adK adV fm Ev) (o : Nat) (a : Nat → Nat) (d : Nat) (post : Int32 → MS → Prop) : ∀ (f : Nat) (x1 : Int32) (x2 : Int32) (x3 : Int32) (u : MS), P_S_series_8 post  f x1 x2 x3 u → RR l D clX (tysX cs) Ev "DeckFront$Statement" b_S_series 4 w_S_series (rmD (d + 7)) (some .boolean) (wdS o a cs) (pI post) 0 0 0 0 8 [(0, .ref o), (1, .int x1), (2, .int x2), (3, .int x3)] [] u := by
  intro f
  induction f with
  | zero => intro x1 x2 x3 u h; exact h.elim
  | succ f ih =>
    intro x1 x2 x3 u h
    unfold P_S_series_8 at h
    refine x_iload_n (x := x3) d_S_series_8 rfl ?_
    refine x_bipush (v := 80) d_S_series_9 (by decide) ?_
    refine x_icmp_ge (tgt := 39) d_S_series_11 rfl (fun hc => ?_) (fun hc => ?_)
    · have h := h.1 hc
      refine x_iload_n (x := x2) d_S_series_39 rfl ?_
      refine x_zret h.1 d_S_series_40 ⟨_, rfl, ?_⟩
      exact h.2
    · have h := h.2 hc
      refine x_iload_n (x := x2) d_S_series_14 rfl ?_
      refine x_if_eq (tgt := 39) d_S_series_15 rfl (fun hc => ?_) (fun hc => ?_)
      · have h := h.1 hc
        refine x_iload_n (x := x2) d_S_series_39 rfl ?_
        refine x_zret h.1 d_S_series_40 ⟨_, rfl, ?_⟩
        exact h.2
      · have h := h.2 hc
        refine x_aload_n (x := o) d_S_series_18 rfl ?_
        refine x_ldcS (fun A s h9 => ((X A s h9).2.1 23 (by decide)).1) d_S_series_19 ?_
        refine x_callU (st := []) k_S_27 rfl (eS_o _ _ _ _) x_id (c_T_take l D cs Ev hE adK adV fm X o a 23 (by decide) (d + 1) _ u h) hE (rmD_ok (by omega) (by decide)) rfl (Nat.le_of_ble_eq_true rfl) rfl d_S_series_21 (x_rI (fun r4 u3 h => ?_))
        refine x_if_eq (tgt := 39) d_S_series_24 rfl (fun hc => ?_) (fun hc => ?_)
        · have h := h.1 hc
          refine x_iload_n (x := x2) d_S_series_39 rfl ?_
          refine x_zret h.1 d_S_series_40 ⟨_, rfl, ?_⟩
          exact h.2
        · have h := h.2 hc
          refine x_aload_n (x := o) d_S_series_27 rfl ?_
          refine x_iload_n (x := x1) d_S_series_28 rfl ?_
          refine x_callV (st := []) k_S_113 rfl (eS_o _ _ _ _) x_id (c_S_item l D cs Ev hE adK adV fm X o a (d + 0) _ x1 u3 h) hE (rmD_ok (by omega) (by decide)) rfl (Nat.le_of_ble_eq_true rfl) rfl d_S_series_29 (x_rI (fun r6 u5 h => ?_))
          refine x_istore_n (lv' := [(2, .int r6), (0, .ref o), (1, .int x1), (3, .int x3)]) d_S_series_32 (by decide) rfl ?_
          refine x_iinc (v := x3 + 1) (lv' := [(3, .int (x3 + 1)), (2, .int r6), (0, .ref o), (1, .int x1)]) d_S_series_33 rfl rfl (by decide) rfl ?_
          refine x_goto (tgt := 8) d_S_series_36 rfl ?_
          refine x_sub [2, 3, 1, 0] rfl ?_
          exact ih x1 r6 (x3 + 1) u5 h
def P_S_series (post : Int32 → MS → Prop) (a0 : Int32) (u : MS) : Prop := P_S_item (fun r2 u1 => (∃ g, P_S_series_8 post g a0 r2 0 u1)) a0 u
set_option maxHeartbeats 600000 in
set_option maxRecDepth 100000 in
theorem c_S_series (l : Launch) (D : va_G) (cs : Nat → ClassId) (Ev : (Nat → Prop) → State → Prop) (hE : xEok Ev) (adK adV : Nat → Nat) (fm : Option Nat) (X : xEv adK adV fm Ev) (o : Nat) (a : Nat → Nat) (d : Nat) (post : Int32 → MS → Prop) (a0 : Int32) (u : MS) (h : P_S_series post a0 u) : xC l D clX (tysX cs) Ev y_S_series w_S_series (rmD (d + 7)) (wdS o a cs) [.ref o, .int a0] u (pI post) 0 0 := by
  unfold P_S_series at h
  refine xC.of (cc := b_S_series) (nL := 4) (ret := (some .boolean)) (by decide) rfl (Nat.le_of_ble_eq_true rfl) ?_
  show RR l D clX (tysX cs) Ev "DeckFront$Statement" b_S_series 4 w_S_series (rmD (d + 7)) (some .boolean) (wdS o a cs) (pI post) 0 0 0 0 0 [(0, .ref o), (1, .int a0)] [] u
  refine x_aload_n (x := o) d_S_series_0 rfl ?_
  refine x_iload_n (x := a0) d_S_series_1 rfl ?_
  refine x_callV (st := []) k_S_113 rfl (eS_o _ _ _ _) x_id (c_S_item l D cs Ev hE adK adV fm X o a (d + 0) _ a0 u h) hE (rmD_ok (by omega) (by decide)) rfl (Nat.le_of_ble_eq_true rfl) rfl d_S_series_2 (x_rI (fun r2 u1 h => ?_))
  refine x_istore_n (lv' := [(2, .int r2), (0, .ref o), (1, .int a0)]) d_S_series_5 (by decide) rfl ?_
  refine x_iconst (v := 0) d_S_series_6 (by decide) ?_
  refine x_istore_n (lv' := [(3, .int 0), (2, .int r2), (0, .ref o), (1, .int a0)]) d_S_series_7 (by decide) rfl ?_
  refine x_sub [2, 3, 1, 0] rfl ?_
  obtain ⟨f9, h⟩ := h
  exact w_S_series_8 l D cs Ev hE adK adV fm X o a d post  f9 a0 r2 0 u1 h
def P_S_typeTold (post : Int32 → MS → Prop) (u : MS) : Prop := (vp_in (0 : Int32) 80 ∧ ((¬ (gA u 0 (0 : Int32).toNatClampNeg) = 73 → (vp_in (0 : Int32) 80 ∧ ((¬ (gA u 0 (0 : Int32).toNatClampNeg) = 82 → post 3 u) ∧ ((gA u 0 (0 : Int32).toNatClampNeg) = 82 → post 2 u)))) ∧ ((gA u 0 (0 : Int32).toNatClampNeg) = 73 → post 1 u)))
set_option maxHeartbeats 600000 in
set_option maxRecDepth 100000 in
theorem c_S_typeTold (l : Launch) (D : va_G) (cs : Nat → ClassId) (Ev : (Nat → Prop) → State → Prop) (hE : xEok Ev) (adK adV : Nat → Nat) (fm : Option Nat) (X : xEv adK adV fm Ev) (o : Nat) (a : Nat → Nat) (d : Nat) (post : Int32 → MS → Prop) (u : MS) (h : P_S_typeTold post  u) : xC l D clX (tysX cs) Ev y_S_typeTold w_S_typeTold (rmD (d + 0)) (wdS o a cs) [.ref o] u (pI post) 0 0 := by
  unfold P_S_typeTold at h
  refine xC.of (cc := b_S_typeTold) (nL := 1) (ret := (some .int)) (by decide) rfl (Nat.le_of_ble_eq_true rfl) ?_
  show RR l D clX (tysX cs) Ev "DeckFront$Statement" b_S_typeTold 1 w_S_typeTold (rmD (d + 0)) (some .int) (wdS o a cs) (pI post) 0 0 0 0 0 [(0, .ref o)] [] u
  refine x_aload_n (x := o) d_S_typeTold_0 rfl ?_
  refine x_get (v := .ref (a 0)) f_S_190 (eS_o _ _ _ _) rfl d_S_typeTold_1 ?_
  refine x_iconst (v := 0) d_S_typeTold_4 (by decide) ?_
  refine x_cald (t0 := 1) (eS_0 _ _ _ _) rfl h.1 d_S_typeTold_5 ?_
  have h := h.2
  refine x_bipush (v := 73) d_S_typeTold_6 (by decide) ?_
  refine x_icmp_ne (tgt := 13) d_S_typeTold_8 rfl (fun hc => ?_) (fun hc => ?_)
  · have h := h.1 hc
    refine x_aload_n (x := o) d_S_typeTold_13 rfl ?_
    refine x_get (v := .ref (a 0)) f_S_190 (eS_o _ _ _ _) rfl d_S_typeTold_14 ?_
    refine x_iconst (v := 0) d_S_typeTold_17 (by decide) ?_
    refine x_cald (t0 := 1) (eS_0 _ _ _ _) rfl h.1 d_S_typeTold_18 ?_
    have h := h.2
    refine x_bipush (v := 82) d_S_typeTold_19 (by decide) ?_
    refine x_icmp_ne (tgt := 28) d_S_typeTold_21 rfl (fun hc => ?_) (fun hc => ?_)
    · have h := h.1 hc
      refine x_iconst (v := 3) d_S_typeTold_28 (by decide) ?_
      refine x_iret d_S_typeTold_29 ⟨_, rfl, ?_⟩
      exact h
    · have h := h.2 hc
      refine x_iconst (v := 2) d_S_typeTold_24 (by decide) ?_
      refine x_goto (tgt := 29) d_S_typeTold_25 rfl ?_
      refine x_iret d_S_typeTold_29 ⟨_, rfl, ?_⟩
      exact h
  · have h := h.2 hc
    refine x_iconst (v := 1) d_S_typeTold_11 (by decide) ?_
    refine x_iret d_S_typeTold_12 ⟨_, rfl, ?_⟩
    exact h
def P_S_loopNumber_2 (post : Int32 → MS → Prop) : Nat → Int32 → MS → Prop
  | 0, _, _ => False
  | f + 1, x1, u => (((gI u 4) ≤ x1 → post 0 u) ∧ (¬ (gI u 4) ≤ x1 → (vp_in x1 80 ∧ ((¬ (gA u 3 x1.toNatClampNeg) = 6 → P_S_loopNumber_2 post f (x1 + 1) u) ∧ ((gA u 3 x1.toNatClampNeg) = 6 → P_T_numberAt (fun r2 u1 => post r2 u1) x1 u)))))
set_option maxHeartbeats 600000 in
set_option maxRecDepth 100000 in
theorem w_S_loopNumber_2 (l : Launch) (D : va_G) (cs : Nat → ClassId) (Ev : (Nat → Prop) → State → Prop) (hE : xEok Ev) (adK adV : Nat → Nat) (fm : Option Nat) (X : xEv adK adV fm Ev) (o : Nat) (a : Nat → Nat) (d : Nat) (post : Int32 → MS → Prop) : ∀ (f : Nat) (x1 : Int32) (u : MS), P_S_loopNumber_2 post  f x1 u → RR l D clX (tysX cs) Ev "DeckFront$Statement" b_S_loopNumber 2 w_S_loopNumber (rmD (d + 2)) (some .int) (wdS o a cs) (pI post) 0 0 0 0 2 [(0, .ref o), (1, .int x1)] [] u := by
  intro f
  induction f with
  | zero => intro x1 u h; exact h.elim
  | succ f ih =>
    intro x1 u h
    unfold P_S_loopNumber_2 at h
    refine x_iload_n (x := x1) d_S_loopNumber_2 rfl ?_
    refine x_aload_n (x := o) d_S_loopNumber_3 rfl ?_
    refine x_get (v := .int (gI u 4)) f_S_9 (eS_o _ _ _ _) rfl d_S_loopNumber_4 ?_
    refine x_icmp_ge (tgt := 33) d_S_loopNumber_7 rfl (fun hc => ?_) (fun hc => ?_)
    · have h := h.1 hc
      refine x_iconst (v := 0) d_S_loopNumber_33 (by decide) ?_
      refine x_iret d_S_loopNumber_34 ⟨_, rfl, ?_⟩
      exact h
    · have h := h.2 hc
      refine x_aload_n (x := o) d_S_loopNumber_10 rfl ?_
      refine x_get (v := .ref (a 3)) f_S_185 (eS_o _ _ _ _) rfl d_S_loopNumber_11 ?_
      refine x_iload_n (x := x1) d_S_loopNumber_14 rfl ?_
      refine x_iald (t0 := 0) (eS_3 _ _ _ _) rfl h.1 d_S_loopNumber_15 ?_
      have h := h.2
      refine x_bipush (v := 6) d_S_loopNumber_16 (by decide) ?_
      refine x_icmp_ne (tgt := 27) d_S_loopNumber_18 rfl (fun hc => ?_) (fun hc => ?_)
      · have h := h.1 hc
        refine x_iinc (v := x1 + 1) (lv' := [(1, .int (x1 + 1)), (0, .ref o)]) d_S_loopNumber_27 rfl rfl (by decide) rfl ?_
        refine x_goto (tgt := 2) d_S_loopNumber_30 rfl ?_
        refine x_sub [1, 0] rfl ?_
        exact ih (x1 + 1) u h
      · have h := h.2 hc
        refine x_aload_n (x := o) d_S_loopNumber_21 rfl ?_
        refine x_iload_n (x := x1) d_S_loopNumber_22 rfl ?_
        refine x_callU (st := []) k_S_194 rfl (eS_o _ _ _ _) x_id (c_T_numberAt l D cs Ev hE adK adV fm X o a (d + 0) _ x1 u h) hE (rmD_ok (by omega) (by decide)) rfl (Nat.le_of_ble_eq_true rfl) rfl d_S_loopNumber_23 (x_rI (fun r2 u1 h => ?_))
        refine x_iret d_S_loopNumber_26 ⟨_, rfl, ?_⟩
        exact h
def P_S_loopNumber (post : Int32 → MS → Prop) (u : MS) : Prop := (∃ g, P_S_loopNumber_2 post g 0 u)
set_option maxHeartbeats 600000 in
set_option maxRecDepth 100000 in
theorem c_S_loopNumber (l : Launch) (D : va_G) (cs : Nat → ClassId) (Ev : (Nat → Prop) → State → Prop) (hE : xEok Ev) (adK adV : Nat → Nat) (fm : Option Nat) (X : xEv adK adV fm Ev) (o : Nat) (a : Nat → Nat) (d : Nat) (post : Int32 → MS → Prop) (u : MS) (h : P_S_loopNumber post  u) : xC l D clX (tysX cs) Ev y_S_loopNumber w_S_loopNumber (rmD (d + 2)) (wdS o a cs) [.ref o] u (pI post) 0 0 := by
  unfold P_S_loopNumber at h
  refine xC.of (cc := b_S_loopNumber) (nL := 2) (ret := (some .int)) (by decide) rfl (Nat.le_of_ble_eq_true rfl) ?_
  show RR l D clX (tysX cs) Ev "DeckFront$Statement" b_S_loopNumber 2 w_S_loopNumber (rmD (d + 2)) (some .int) (wdS o a cs) (pI post) 0 0 0 0 0 [(0, .ref o)] [] u
  refine x_iconst (v := 0) d_S_loopNumber_0 (by decide) ?_
  refine x_istore_n (lv' := [(1, .int 0), (0, .ref o)]) d_S_loopNumber_1 (by decide) rfl ?_
  refine x_sub [1, 0] rfl ?_
  obtain ⟨f9, h⟩ := h
  exact w_S_loopNumber_2 l D cs Ev hE adK adV fm X o a d post  f9 0 u h
def P_S_declares (post : Int32 → MS → Prop) (u : MS) : Prop := (((gI u 8) = 15 → post 1 u) ∧ (¬ (gI u 8) = 15 → ((¬ (gI u 8) = 16 → post 0 u) ∧ ((gI u 8) = 16 → post 1 u))))
set_option maxHeartbeats 600000 in
set_option maxRecDepth 100000 in
theorem c_S_declares (l : Launch) (D : va_G) (cs : Nat → ClassId) (Ev : (Nat → Prop) → State → Prop) (hE : xEok Ev) (adK adV : Nat → Nat) (fm : Option Nat) (X : xEv adK adV fm Ev) (o : Nat) (a : Nat → Nat) (d : Nat) (post : Int32 → MS → Prop) (u : MS) (h : P_S_declares post  u) : xC l D clX (tysX cs) Ev y_S_declares w_S_declares (rmD (d + 0)) (wdS o a cs) [.ref o] u (pI post) 0 0 := by
  unfold P_S_declares at h
  refine xC.of (cc := b_S_declares) (nL := 1) (ret := (some .boolean)) (by decide) rfl (Nat.le_of_ble_eq_true rfl) ?_
  show RR l D clX (tysX cs) Ev "DeckFront$Statement" b_S_declares 1 w_S_declares (rmD (d + 0)) (some .boolean) (wdS o a cs) (pI post) 0 0 0 0 0 [(0, .ref o)] [] u
  refine x_aload_n (x := o) d_S_declares_0 rfl ?_
  refine x_get (v := .int (gI u 8)) f_S_22 (eS_o _ _ _ _) rfl d_S_declares_1 ?_
  refine x_bipush (v := 15) d_S_declares_4 (by decide) ?_
  refine x_icmp_eq (tgt := 18) d_S_declares_6 rfl (fun hc => ?_) (fun hc => ?_)
  · have h := h.1 hc
    refine x_iconst (v := 1) d_S_declares_18 (by decide) ?_
    refine x_goto (tgt := 23) d_S_declares_19 rfl ?_
    refine x_zret rfl d_S_declares_23 ⟨_, rfl, ?_⟩
    exact h
  · have h := h.2 hc
    refine x_aload_n (x := o) d_S_declares_9 rfl ?_
    refine x_get (v := .int (gI u 8)) f_S_22 (eS_o _ _ _ _) rfl d_S_declares_10 ?_
    refine x_bipush (v := 16) d_S_declares_13 (by decide) ?_
    refine x_icmp_ne (tgt := 22) d_S_declares_15 rfl (fun hc => ?_) (fun hc => ?_)
    · have h := h.1 hc
      refine x_iconst (v := 0) d_S_declares_22 (by decide) ?_
      refine x_zret rfl d_S_declares_23 ⟨_, rfl, ?_⟩
      exact h
    · have h := h.2 hc
      refine x_iconst (v := 1) d_S_declares_18 (by decide) ?_
      refine x_goto (tgt := 23) d_S_declares_19 rfl ?_
      refine x_zret rfl d_S_declares_23 ⟨_, rfl, ?_⟩
      exact h
def P_S_isBranch (post : Int32 → MS → Prop) (u : MS) : Prop := (((gI u 8) = 5 → post 1 u) ∧ (¬ (gI u 8) = 5 → (((gI u 8) = 6 → post 1 u) ∧ (¬ (gI u 8) = 6 → ((¬ (gI u 8) = 7 → post 0 u) ∧ ((gI u 8) = 7 → post 1 u))))))
set_option maxHeartbeats 600000 in
set_option maxRecDepth 100000 in
theorem c_S_isBranch (l : Launch) (D : va_G) (cs : Nat → ClassId) (Ev : (Nat → Prop) → State → Prop) (hE : xEok Ev) (adK adV : Nat → Nat) (fm : Option Nat) (X : xEv adK adV fm Ev) (o : Nat) (a : Nat → Nat) (d : Nat) (post : Int32 → MS → Prop) (u : MS) (h : P_S_isBranch post  u) : xC l D clX (tysX cs) Ev y_S_isBranch w_S_isBranch (rmD (d + 0)) (wdS o a cs) [.ref o] u (pI post) 0 0 := by
  unfold P_S_isBranch at h
  refine xC.of (cc := b_S_isBranch) (nL := 1) (ret := (some .boolean)) (by decide) rfl (Nat.le_of_ble_eq_true rfl) ?_
  show RR l D clX (tysX cs) Ev "DeckFront$Statement" b_S_isBranch 1 w_S_isBranch (rmD (d + 0)) (some .boolean) (wdS o a cs) (pI post) 0 0 0 0 0 [(0, .ref o)] [] u
  refine x_aload_n (x := o) d_S_isBranch_0 rfl ?_
  refine x_get (v := .int (gI u 8)) f_S_22 (eS_o _ _ _ _) rfl d_S_isBranch_1 ?_
  refine x_iconst (v := 5) d_S_isBranch_4 (by decide) ?_
  refine x_icmp_eq (tgt := 26) d_S_isBranch_5 rfl (fun hc => ?_) (fun hc => ?_)
  · have h := h.1 hc
    refine x_iconst (v := 1) d_S_isBranch_26 (by decide) ?_
    refine x_goto (tgt := 31) d_S_isBranch_27 rfl ?_
    refine x_zret rfl d_S_isBranch_31 ⟨_, rfl, ?_⟩
    exact h
  · have h := h.2 hc
    refine x_aload_n (x := o) d_S_isBranch_8 rfl ?_
    refine x_get (v := .int (gI u 8)) f_S_22 (eS_o _ _ _ _) rfl d_S_isBranch_9 ?_
    refine x_bipush (v := 6) d_S_isBranch_12 (by decide) ?_
    refine x_icmp_eq (tgt := 26) d_S_isBranch_14 rfl (fun hc => ?_) (fun hc => ?_)
    · have h := h.1 hc
      refine x_iconst (v := 1) d_S_isBranch_26 (by decide) ?_
      refine x_goto (tgt := 31) d_S_isBranch_27 rfl ?_
      refine x_zret rfl d_S_isBranch_31 ⟨_, rfl, ?_⟩
      exact h
    · have h := h.2 hc
      refine x_aload_n (x := o) d_S_isBranch_17 rfl ?_
      refine x_get (v := .int (gI u 8)) f_S_22 (eS_o _ _ _ _) rfl d_S_isBranch_18 ?_
      refine x_bipush (v := 7) d_S_isBranch_21 (by decide) ?_
      refine x_icmp_ne (tgt := 30) d_S_isBranch_23 rfl (fun hc => ?_) (fun hc => ?_)
      · have h := h.1 hc
        refine x_iconst (v := 0) d_S_isBranch_30 (by decide) ?_
        refine x_zret rfl d_S_isBranch_31 ⟨_, rfl, ?_⟩
        exact h
      · have h := h.2 hc
        refine x_iconst (v := 1) d_S_isBranch_26 (by decide) ?_
        refine x_goto (tgt := 31) d_S_isBranch_27 rfl ?_
        refine x_zret rfl d_S_isBranch_31 ⟨_, rfl, ?_⟩
        exact h
def P_S_mayEndLoop (post : Int32 → MS → Prop) (u : MS) : Prop := (((gI u 8) = 2 → post 1 u) ∧ (¬ (gI u 8) = 2 → (((gI u 8) = 4 → post 1 u) ∧ (¬ (gI u 8) = 4 → (((gI u 8) = 8 → post 1 u) ∧ (¬ (gI u 8) = 8 → (((gI u 8) = 10 → post 1 u) ∧ (¬ (gI u 8) = 10 → (((gI u 8) = 13 → post 1 u) ∧ (¬ (gI u 8) = 13 → P_S_declares (fun r2 u1 => ((r2 = 0 → post 0 u1) ∧ (¬ r2 = 0 → post 1 u1))) u))))))))))
set_option maxHeartbeats 600000 in
set_option maxRecDepth 100000 in
theorem c_S_mayEndLoop (l : Launch) (D : va_G) (cs : Nat → ClassId) (Ev : (Nat → Prop) → State → Prop) (hE : xEok Ev) (adK adV : Nat → Nat) (fm : Option Nat) (X : xEv adK adV fm Ev) (o : Nat) (a : Nat → Nat) (d : Nat) (post : Int32 → MS → Prop) (u : MS) (h : P_S_mayEndLoop post  u) : xC l D clX (tysX cs) Ev y_S_mayEndLoop w_S_mayEndLoop (rmD (d + 1)) (wdS o a cs) [.ref o] u (pI post) 0 0 := by
  unfold P_S_mayEndLoop at h
  refine xC.of (cc := b_S_mayEndLoop) (nL := 1) (ret := (some .boolean)) (by decide) rfl (Nat.le_of_ble_eq_true rfl) ?_
  show RR l D clX (tysX cs) Ev "DeckFront$Statement" b_S_mayEndLoop 1 w_S_mayEndLoop (rmD (d + 1)) (some .boolean) (wdS o a cs) (pI post) 0 0 0 0 0 [(0, .ref o)] [] u
  refine x_aload_n (x := o) d_S_mayEndLoop_0 rfl ?_
  refine x_get (v := .int (gI u 8)) f_S_22 (eS_o _ _ _ _) rfl d_S_mayEndLoop_1 ?_
  refine x_iconst (v := 2) d_S_mayEndLoop_4 (by decide) ?_
  refine x_icmp_eq (tgt := 50) d_S_mayEndLoop_5 rfl (fun hc => ?_) (fun hc => ?_)
  · have h := h.1 hc
    refine x_iconst (v := 1) d_S_mayEndLoop_50 (by decide) ?_
    refine x_goto (tgt := 55) d_S_mayEndLoop_51 rfl ?_
    refine x_zret rfl d_S_mayEndLoop_55 ⟨_, rfl, ?_⟩
    exact h
  · have h := h.2 hc
    refine x_aload_n (x := o) d_S_mayEndLoop_8 rfl ?_
    refine x_get (v := .int (gI u 8)) f_S_22 (eS_o _ _ _ _) rfl d_S_mayEndLoop_9 ?_
    refine x_iconst (v := 4) d_S_mayEndLoop_12 (by decide) ?_
    refine x_icmp_eq (tgt := 50) d_S_mayEndLoop_13 rfl (fun hc => ?_) (fun hc => ?_)
    · have h := h.1 hc
      refine x_iconst (v := 1) d_S_mayEndLoop_50 (by decide) ?_
      refine x_goto (tgt := 55) d_S_mayEndLoop_51 rfl ?_
      refine x_zret rfl d_S_mayEndLoop_55 ⟨_, rfl, ?_⟩
      exact h
    · have h := h.2 hc
      refine x_aload_n (x := o) d_S_mayEndLoop_16 rfl ?_
      refine x_get (v := .int (gI u 8)) f_S_22 (eS_o _ _ _ _) rfl d_S_mayEndLoop_17 ?_
      refine x_bipush (v := 8) d_S_mayEndLoop_20 (by decide) ?_
      refine x_icmp_eq (tgt := 50) d_S_mayEndLoop_22 rfl (fun hc => ?_) (fun hc => ?_)
      · have h := h.1 hc
        refine x_iconst (v := 1) d_S_mayEndLoop_50 (by decide) ?_
        refine x_goto (tgt := 55) d_S_mayEndLoop_51 rfl ?_
        refine x_zret rfl d_S_mayEndLoop_55 ⟨_, rfl, ?_⟩
        exact h
      · have h := h.2 hc
        refine x_aload_n (x := o) d_S_mayEndLoop_25 rfl ?_
        refine x_get (v := .int (gI u 8)) f_S_22 (eS_o _ _ _ _) rfl d_S_mayEndLoop_26 ?_
        refine x_bipush (v := 10) d_S_mayEndLoop_29 (by decide) ?_
        refine x_icmp_eq (tgt := 50) d_S_mayEndLoop_31 rfl (fun hc => ?_) (fun hc => ?_)
        · have h := h.1 hc
          refine x_iconst (v := 1) d_S_mayEndLoop_50 (by decide) ?_
          refine x_goto (tgt := 55) d_S_mayEndLoop_51 rfl ?_
          refine x_zret rfl d_S_mayEndLoop_55 ⟨_, rfl, ?_⟩
          exact h
        · have h := h.2 hc
          refine x_aload_n (x := o) d_S_mayEndLoop_34 rfl ?_
          refine x_get (v := .int (gI u 8)) f_S_22 (eS_o _ _ _ _) rfl d_S_mayEndLoop_35 ?_
          refine x_bipush (v := 13) d_S_mayEndLoop_38 (by decide) ?_
          refine x_icmp_eq (tgt := 50) d_S_mayEndLoop_40 rfl (fun hc => ?_) (fun hc => ?_)
          · have h := h.1 hc
            refine x_iconst (v := 1) d_S_mayEndLoop_50 (by decide) ?_
            refine x_goto (tgt := 55) d_S_mayEndLoop_51 rfl ?_
            refine x_zret rfl d_S_mayEndLoop_55 ⟨_, rfl, ?_⟩
            exact h
          · have h := h.2 hc
            refine x_aload_n (x := o) d_S_mayEndLoop_43 rfl ?_
            refine x_callV (st := []) k_S_197 rfl (eS_o _ _ _ _) x_id (c_S_declares l D cs Ev hE adK adV fm X o a (d + 0) _ u h) hE (rmD_ok (by omega) (by decide)) rfl (Nat.le_of_ble_eq_true rfl) rfl d_S_mayEndLoop_44 (x_rI (fun r2 u1 h => ?_))
            refine x_if_eq (tgt := 54) d_S_mayEndLoop_47 rfl (fun hc => ?_) (fun hc => ?_)
            · have h := h.1 hc
              refine x_iconst (v := 0) d_S_mayEndLoop_54 (by decide) ?_
              refine x_zret rfl d_S_mayEndLoop_55 ⟨_, rfl, ?_⟩
              exact h
            · have h := h.2 hc
              refine x_iconst (v := 1) d_S_mayEndLoop_50 (by decide) ?_
              refine x_goto (tgt := 55) d_S_mayEndLoop_51 rfl ?_
              refine x_zret rfl d_S_mayEndLoop_55 ⟨_, rfl, ?_⟩
              exact h
