def P_T_wipe (post : MS → Prop) (u : MS) : Prop := post (sI (sI (sI u 4 (0 : Int32)) 5 (0 : Int32)) 6 (0 : Int32))
set_option maxHeartbeats 600000 in
set_option maxRecDepth 100000 in
theorem c_T_wipe (l : Launch) (D : va_G) (cs : Nat → ClassId) (Ev : (Nat → Prop) → State → Prop) (hE : xEok Ev) (adK adV : Nat → Nat) (fm : Option Nat) (X : xEv adK adV fm Ev) (o : Nat) (a : Nat → Nat) (d : Nat) (post : MS → Prop) (u : MS) (h : P_T_wipe post  u) : xC l D clX (tysX cs) Ev y_T_wipe w_T_wipe (rmD (d + 0)) (wdS o a cs) [.ref o] u (pV post) 0 0 := by
  unfold P_T_wipe at h
  refine xC.of (cc := b_T_wipe) (nL := 1) (ret := none) (by decide) rfl (Nat.le_of_ble_eq_true rfl) ?_
  show RR l D clX (tysX cs) Ev "DeckFront$Tape" b_T_wipe 1 w_T_wipe (rmD (d + 0)) none (wdS o a cs) (pV post) 0 0 0 0 0 [(0, .ref o)] [] u
  refine x_aload_n (x := o) d_T_wipe_0 rfl ?_
  refine x_iconst (v := 0) d_T_wipe_1 (by decide) ?_
  refine x_put f_T_25 fw_S_4 (eS_o _ _ _ _) rfl rfl (Nat.le_of_ble_eq_true rfl) (sS_4 _ _ _ _ _) d_T_wipe_2 ?_
  refine x_aload_n (x := o) d_T_wipe_5 rfl ?_
  refine x_iconst (v := 0) d_T_wipe_6 (by decide) ?_
  refine x_put f_T_29 fw_S_5 (eS_o _ _ _ _) rfl rfl (Nat.le_of_ble_eq_true rfl) (sS_5 _ _ _ _ _) d_T_wipe_7 ?_
  refine x_aload_n (x := o) d_T_wipe_10 rfl ?_
  refine x_iconst (v := 0) d_T_wipe_11 (by decide) ?_
  refine x_put f_T_32 fw_S_6 (eS_o _ _ _ _) rfl rfl (Nat.le_of_ble_eq_true rfl) (sS_6 _ _ _ _ _) d_T_wipe_12 ?_
  refine x_vret d_T_wipe_15 ⟨rfl, ?_⟩
  exact h
def P_T_goBackTo_2 (post : MS → Prop) : Nat → Int32 → Int32 → MS → Prop
  | 0, _, _, _ => False
  | f + 1, x1, x2, u => (((gI u 5) ≤ x2 → post (sI u 5 x1)) ∧ (¬ (gI u 5) ≤ x2 → (((gI u 4) ≤ x2 → post (sI u 5 x1)) ∧ (¬ (gI u 4) ≤ x2 → (vp_in x2 80 ∧ (vp_in x2 80 ∧ (vp_in x2 80 ∧ P_T_goBackTo_2 post f x1 (x2 + 1) (sA (sA (sA u 1 x2.toNatClampNeg (0 : Int32)) 2 x2.toNatClampNeg (0 : Int32)) 3 x2.toNatClampNeg (0 : Int32)))))))))
set_option maxHeartbeats 600000 in
set_option maxRecDepth 100000 in
theorem w_T_goBackTo_2 (l : Launch) (D : va_G) (cs : Nat → ClassId) (Ev : (Nat → Prop) → State → Prop) (hE : xEok Ev) (adK adV : Nat → Nat) (fm : Option Nat) (X : xEv adK adV fm Ev) (o : Nat) (a : Nat → Nat) (d : Nat) (post : MS → Prop) : ∀ (f : Nat) (x1 : Int32) (x2 : Int32) (u : MS), P_T_goBackTo_2 post  f x1 x2 u → RR l D clX (tysX cs) Ev "DeckFront$Tape" b_T_goBackTo 3 w_T_goBackTo (rmD (d + 0)) none (wdS o a cs) (pV post) 0 0 0 0 2 [(0, .ref o), (1, .int x1), (2, .int x2)] [] u := by
  intro f
  induction f with
  | zero => intro x1 x2 u h; exact h.elim
  | succ f ih =>
    intro x1 x2 u h
    unfold P_T_goBackTo_2 at h
    refine x_iload_n (x := x2) d_T_goBackTo_2 rfl ?_
    refine x_aload_n (x := o) d_T_goBackTo_3 rfl ?_
    refine x_get (v := .int (gI u 5)) f_T_29 (eS_o _ _ _ _) rfl d_T_goBackTo_4 ?_
    refine x_icmp_ge (tgt := 45) d_T_goBackTo_7 rfl (fun hc => ?_) (fun hc => ?_)
    · have h := h.1 hc
      refine x_aload_n (x := o) d_T_goBackTo_45 rfl ?_
      refine x_iload_n (x := x1) d_T_goBackTo_46 rfl ?_
      refine x_put f_T_29 fw_S_5 (eS_o _ _ _ _) rfl rfl (Nat.le_of_ble_eq_true rfl) (sS_5 _ _ _ _ _) d_T_goBackTo_47 ?_
      refine x_vret d_T_goBackTo_50 ⟨rfl, ?_⟩
      exact h
    · have h := h.2 hc
      refine x_iload_n (x := x2) d_T_goBackTo_10 rfl ?_
      refine x_aload_n (x := o) d_T_goBackTo_11 rfl ?_
      refine x_get (v := .int (gI u 4)) f_T_25 (eS_o _ _ _ _) rfl d_T_goBackTo_12 ?_
      refine x_icmp_ge (tgt := 45) d_T_goBackTo_15 rfl (fun hc => ?_) (fun hc => ?_)
      · have h := h.1 hc
        refine x_aload_n (x := o) d_T_goBackTo_45 rfl ?_
        refine x_iload_n (x := x1) d_T_goBackTo_46 rfl ?_
        refine x_put f_T_29 fw_S_5 (eS_o _ _ _ _) rfl rfl (Nat.le_of_ble_eq_true rfl) (sS_5 _ _ _ _ _) d_T_goBackTo_47 ?_
        refine x_vret d_T_goBackTo_50 ⟨rfl, ?_⟩
        exact h
      · have h := h.2 hc
        refine x_aload_n (x := o) d_T_goBackTo_18 rfl ?_
        refine x_get (v := .ref (a 1)) f_T_15 (eS_o _ _ _ _) rfl d_T_goBackTo_19 ?_
        refine x_iload_n (x := x2) d_T_goBackTo_22 rfl ?_
        refine x_iconst (v := 0) d_T_goBackTo_23 (by decide) ?_
        refine x_iast (t0 := 0) (eS_1 _ _ _ _) rfl h.1 (sS_1 _ _ _ _ _ _) d_T_goBackTo_24 ?_
        have h := h.2
        refine x_aload_n (x := o) d_T_goBackTo_25 rfl ?_
        refine x_get (v := .ref (a 2)) f_T_19 (eS_o _ _ _ _) rfl d_T_goBackTo_26 ?_
        refine x_iload_n (x := x2) d_T_goBackTo_29 rfl ?_
        refine x_iconst (v := 0) d_T_goBackTo_30 (by decide) ?_
        refine x_iast (t0 := 0) (eS_2 _ _ _ _) rfl h.1 (sS_2 _ _ _ _ _ _) d_T_goBackTo_31 ?_
        have h := h.2
        refine x_aload_n (x := o) d_T_goBackTo_32 rfl ?_
        refine x_get (v := .ref (a 3)) f_T_22 (eS_o _ _ _ _) rfl d_T_goBackTo_33 ?_
        refine x_iload_n (x := x2) d_T_goBackTo_36 rfl ?_
        refine x_iconst (v := 0) d_T_goBackTo_37 (by decide) ?_
        refine x_iast (t0 := 0) (eS_3 _ _ _ _) rfl h.1 (sS_3 _ _ _ _ _ _) d_T_goBackTo_38 ?_
        have h := h.2
        refine x_iinc (v := x2 + 1) (lv' := [(2, .int (x2 + 1)), (0, .ref o), (1, .int x1)]) d_T_goBackTo_39 rfl rfl (by decide) rfl ?_
        refine x_goto (tgt := 2) d_T_goBackTo_42 rfl ?_
        refine x_sub [1, 2, 0] rfl ?_
        exact ih x1 (x2 + 1) (sA (sA (sA u 1 x2.toNatClampNeg (0 : Int32)) 2 x2.toNatClampNeg (0 : Int32)) 3 x2.toNatClampNeg (0 : Int32)) h
def P_T_goBackTo (post : MS → Prop) (a0 : Int32) (u : MS) : Prop := (∃ g, P_T_goBackTo_2 post g a0 a0 u)
set_option maxHeartbeats 600000 in
set_option maxRecDepth 100000 in
theorem c_T_goBackTo (l : Launch) (D : va_G) (cs : Nat → ClassId) (Ev : (Nat → Prop) → State → Prop) (hE : xEok Ev) (adK adV : Nat → Nat) (fm : Option Nat) (X : xEv adK adV fm Ev) (o : Nat) (a : Nat → Nat) (d : Nat) (post : MS → Prop) (a0 : Int32) (u : MS) (h : P_T_goBackTo post a0 u) : xC l D clX (tysX cs) Ev y_T_goBackTo w_T_goBackTo (rmD (d + 0)) (wdS o a cs) [.ref o, .int a0] u (pV post) 0 0 := by
  unfold P_T_goBackTo at h
  refine xC.of (cc := b_T_goBackTo) (nL := 3) (ret := none) (by decide) rfl (Nat.le_of_ble_eq_true rfl) ?_
  show RR l D clX (tysX cs) Ev "DeckFront$Tape" b_T_goBackTo 3 w_T_goBackTo (rmD (d + 0)) none (wdS o a cs) (pV post) 0 0 0 0 0 [(0, .ref o), (1, .int a0)] [] u
  refine x_iload_n (x := a0) d_T_goBackTo_0 rfl ?_
  refine x_istore_n (lv' := [(2, .int a0), (0, .ref o), (1, .int a0)]) d_T_goBackTo_1 (by decide) rfl ?_
  refine x_sub [1, 2, 0] rfl ?_
  obtain ⟨f9, h⟩ := h
  exact w_T_goBackTo_2 l D cs Ev hE adK adV fm X o a d post  f9 a0 a0 u h
def P_T_isNext (post : Int32 → MS → Prop) (a0 : Int32) (u : MS) : Prop := (((gI u 4) ≤ (gI u 5) → post 0 u) ∧ (¬ (gI u 4) ≤ (gI u 5) → (vp_in (gI u 5) 80 ∧ ((¬ (gA u 0 (gI u 5).toNatClampNeg) = a0 → post 0 u) ∧ ((gA u 0 (gI u 5).toNatClampNeg) = a0 → post 1 u)))))
set_option maxHeartbeats 600000 in
set_option maxRecDepth 100000 in
theorem c_T_isNext (l : Launch) (D : va_G) (cs : Nat → ClassId) (Ev : (Nat → Prop) → State → Prop) (hE : xEok Ev) (adK adV : Nat → Nat) (fm : Option Nat) (X : xEv adK adV fm Ev) (o : Nat) (a : Nat → Nat) (d : Nat) (post : Int32 → MS → Prop) (a0 : Int32) (u : MS) (h : P_T_isNext post a0 u) : xC l D clX (tysX cs) Ev y_T_isNext w_T_isNext (rmD (d + 0)) (wdS o a cs) [.ref o, .int a0] u (pI post) 0 0 := by
  unfold P_T_isNext at h
  refine xC.of (cc := b_T_isNext) (nL := 2) (ret := (some .boolean)) (by decide) rfl (Nat.le_of_ble_eq_true rfl) ?_
  show RR l D clX (tysX cs) Ev "DeckFront$Tape" b_T_isNext 2 w_T_isNext (rmD (d + 0)) (some .boolean) (wdS o a cs) (pI post) 0 0 0 0 0 [(0, .ref o), (1, .int a0)] [] u
  refine x_aload_n (x := o) d_T_isNext_0 rfl ?_
  refine x_get (v := .int (gI u 5)) f_T_29 (eS_o _ _ _ _) rfl d_T_isNext_1 ?_
  refine x_aload_n (x := o) d_T_isNext_4 rfl ?_
  refine x_get (v := .int (gI u 4)) f_T_25 (eS_o _ _ _ _) rfl d_T_isNext_5 ?_
  refine x_icmp_ge (tgt := 28) d_T_isNext_8 rfl (fun hc => ?_) (fun hc => ?_)
  · have h := h.1 hc
    refine x_iconst (v := 0) d_T_isNext_28 (by decide) ?_
    refine x_zret rfl d_T_isNext_29 ⟨_, rfl, ?_⟩
    exact h
  · have h := h.2 hc
    refine x_aload_n (x := o) d_T_isNext_11 rfl ?_
    refine x_get (v := .ref (a 0)) f_T_9 (eS_o _ _ _ _) rfl d_T_isNext_12 ?_
    refine x_aload_n (x := o) d_T_isNext_15 rfl ?_
    refine x_get (v := .int (gI u 5)) f_T_29 (eS_o _ _ _ _) rfl d_T_isNext_16 ?_
    refine x_cald (t0 := 1) (eS_0 _ _ _ _) rfl h.1 d_T_isNext_19 ?_
    have h := h.2
    refine x_iload_n (x := a0) d_T_isNext_20 rfl ?_
    refine x_icmp_ne (tgt := 28) d_T_isNext_21 rfl (fun hc => ?_) (fun hc => ?_)
    · have h := h.1 hc
      refine x_iconst (v := 0) d_T_isNext_28 (by decide) ?_
      refine x_zret rfl d_T_isNext_29 ⟨_, rfl, ?_⟩
      exact h
    · have h := h.2 hc
      refine x_iconst (v := 1) d_T_isNext_24 (by decide) ?_
      refine x_goto (tgt := 29) d_T_isNext_25 rfl ?_
      refine x_zret rfl d_T_isNext_29 ⟨_, rfl, ?_⟩
      exact h
def P_T_stands_17 (post : Int32 → MS → Prop) (i : Nat) : Nat → Int32 → Int32 → MS → Prop
  | 0, _, _, _ => False
  | f + 1, x1, x3, u => (((nI (lenS i)) ≤ x3 → post 1 u) ∧ (¬ (nI (lenS i)) ≤ x3 → (vp_in (x1 + x3) 80 ∧ (vp_in x3 (lenS i) ∧ (((gA u 0 (x1 + x3).toNatClampNeg) = (chS i x3.toNatClampNeg) → P_T_stands_17 post i f x1 (x3 + 1) u) ∧ (¬ (gA u 0 (x1 + x3).toNatClampNeg) = (chS i x3.toNatClampNeg) → post 0 u))))))
set_option maxHeartbeats 600000 in
set_option maxRecDepth 100000 in
theorem w_T_stands_17 (l : Launch) (D : va_G) (cs : Nat → ClassId) (Ev : (Nat → Prop) → State → Prop) (hE : xEok Ev) (adK adV : Nat → Nat) (fm : Option Nat) (X : xEv adK adV fm Ev) (o : Nat) (a : Nat → Nat) (i : Nat) (hi : i < 56) (d : Nat) (post : Int32 → MS → Prop) : ∀ (f : Nat) (x1 : Int32) (x3 : Int32) (u : MS), P_T_stands_17 post i  f x1 x3 u → RR l D clX (tysX cs) Ev "DeckFront$Tape" b_T_stands 4 w_T_stands (rmD (d + 4)) (some .boolean) (wdS o a cs) (pI post) 0 0 0 0 17 [(0, .ref o), (1, .int x1), (2, .ref (adK i)), (3, .int x3)] [] u := by
  intro f
  induction f with
  | zero => intro x1 x3 u h; exact h.elim
  | succ f ih =>
    intro x1 x3 u h
    unfold P_T_stands_17 at h
    refine x_iload_n (x := x3) d_T_stands_17 rfl ?_
    refine x_aload_n (x := (adK i)) d_T_stands_18 rfl ?_
    refine x_callVO (st := [.int x3]) k_T_42 (fun A s h9 => ((X A s h9).2.1 i hi).2.1) x_none (cf_JS_length l D cs Ev hE adK adV fm X i hi (d + 2)) hE (rmD_ok (by omega) (by decide)) rfl (Nat.le_of_ble_eq_true rfl) rfl d_T_stands_19 (x_rI (fun x u1 h9 => ?_))
    obtain ⟨rfl, rfl⟩ := h9
    refine x_icmp_ge (tgt := 49) d_T_stands_22 rfl (fun hc => ?_) (fun hc => ?_)
    · have h := h.1 hc
      refine x_iconst (v := 1) d_T_stands_49 (by decide) ?_
      refine x_zret rfl d_T_stands_50 ⟨_, rfl, ?_⟩
      exact h
    · have h := h.2 hc
      refine x_aload_n (x := o) d_T_stands_25 rfl ?_
      refine x_get (v := .ref (a 0)) f_T_9 (eS_o _ _ _ _) rfl d_T_stands_26 ?_
      refine x_iload_n (x := x1) d_T_stands_29 rfl ?_
      refine x_iload_n (x := x3) d_T_stands_30 rfl ?_
      refine x_iadd d_T_stands_31 ?_
      refine x_cald (t0 := 1) (eS_0 _ _ _ _) rfl h.1 d_T_stands_32 ?_
      have h := h.2
      refine x_aload_n (x := (adK i)) d_T_stands_33 rfl ?_
      refine x_iload_n (x := x3) d_T_stands_34 rfl ?_
      refine x_callVO (st := [.int (gA u 0 (x1 + x3).toNatClampNeg)]) k_T_47 (fun A s h9 => ((X A s h9).2.1 i hi).2.1) x_none (cf_JS_charAt l D cs Ev hE adK adV fm X i hi (d + 0) x3 h.1) hE (rmD_ok (by omega) (by decide)) rfl (Nat.le_of_ble_eq_true rfl) rfl d_T_stands_35 (x_rI (fun x u1 h9 => ?_))
      obtain ⟨rfl, rfl⟩ := h9
      have h := h.2
      refine x_icmp_eq (tgt := 43) d_T_stands_38 rfl (fun hc => ?_) (fun hc => ?_)
      · have h := h.1 hc
        refine x_iinc (v := x3 + 1) (lv' := [(3, .int (x3 + 1)), (0, .ref o), (1, .int x1), (2, .ref (adK i))]) d_T_stands_43 rfl rfl (by decide) rfl ?_
        refine x_goto (tgt := 17) d_T_stands_46 rfl ?_
        refine x_sub [1, 2, 3, 0] rfl ?_
        exact ih x1 (x3 + 1) u h
      · have h := h.2 hc
        refine x_iconst (v := 0) d_T_stands_41 (by decide) ?_
        refine x_zret rfl d_T_stands_42 ⟨_, rfl, ?_⟩
        exact h
def P_T_stands (post : Int32 → MS → Prop) (i : Nat) (a0 : Int32) (u : MS) : Prop := (((a0 + (nI (lenS i))) ≤ (gI u 4) → (∃ g, P_T_stands_17 post i g a0 0 u)) ∧ (¬ (a0 + (nI (lenS i))) ≤ (gI u 4) → post 0 u))
set_option maxHeartbeats 600000 in
set_option maxRecDepth 100000 in
theorem c_T_stands (l : Launch) (D : va_G) (cs : Nat → ClassId) (Ev : (Nat → Prop) → State → Prop) (hE : xEok Ev) (adK adV : Nat → Nat) (fm : Option Nat) (X : xEv adK adV fm Ev) (o : Nat) (a : Nat → Nat) (i : Nat) (hi : i < 56) (d : Nat) (post : Int32 → MS → Prop) (a0 : Int32) (u : MS) (h : P_T_stands post i a0 u) : xC l D clX (tysX cs) Ev y_T_stands w_T_stands (rmD (d + 4)) (wdS o a cs) [.ref o, .int a0, .ref (adK i)] u (pI post) 0 0 := by
  unfold P_T_stands at h
  refine xC.of (cc := b_T_stands) (nL := 4) (ret := (some .boolean)) (by decide) rfl (Nat.le_of_ble_eq_true rfl) ?_
  show RR l D clX (tysX cs) Ev "DeckFront$Tape" b_T_stands 4 w_T_stands (rmD (d + 4)) (some .boolean) (wdS o a cs) (pI post) 0 0 0 0 0 [(0, .ref o), (1, .int a0), (2, .ref (adK i))] [] u
  refine x_iload_n (x := a0) d_T_stands_0 rfl ?_
  refine x_aload_n (x := (adK i)) d_T_stands_1 rfl ?_
  refine x_callVO (st := [.int a0]) k_T_42 (fun A s h9 => ((X A s h9).2.1 i hi).2.1) x_none (cf_JS_length l D cs Ev hE adK adV fm X i hi (d + 2)) hE (rmD_ok (by omega) (by decide)) rfl (Nat.le_of_ble_eq_true rfl) rfl d_T_stands_2 (x_rI (fun x u1 h9 => ?_))
  obtain ⟨rfl, rfl⟩ := h9
  refine x_iadd d_T_stands_5 ?_
  refine x_aload_n (x := o) d_T_stands_6 rfl ?_
  refine x_get (v := .int (gI u 4)) f_T_25 (eS_o _ _ _ _) rfl d_T_stands_7 ?_
  refine x_icmp_le (tgt := 15) d_T_stands_10 rfl (fun hc => ?_) (fun hc => ?_)
  · have h := h.1 hc
    refine x_iconst (v := 0) d_T_stands_15 (by decide) ?_
    refine x_istore_n (lv' := [(3, .int 0), (0, .ref o), (1, .int a0), (2, .ref (adK i))]) d_T_stands_16 (by decide) rfl ?_
    refine x_sub [1, 2, 3, 0] rfl ?_
    obtain ⟨f9, h⟩ := h
    exact w_T_stands_17 l D cs Ev hE adK adV fm X o a i hi d post  f9 a0 0 u h
  · have h := h.2 hc
    refine x_iconst (v := 0) d_T_stands_13 (by decide) ?_
    refine x_zret rfl d_T_stands_14 ⟨_, rfl, ?_⟩
    exact h
def P_T_take (post : Int32 → MS → Prop) (i : Nat) (u : MS) : Prop := P_T_stands (fun r2 u1 => ((¬ r2 = 0 → post 1 (sI u1 5 ((gI u1 5) + (nI (lenS i))))) ∧ (r2 = 0 → post 0 u1))) i (gI u 5) u
set_option maxHeartbeats 600000 in
set_option maxRecDepth 100000 in
theorem c_T_take (l : Launch) (D : va_G) (cs : Nat → ClassId) (Ev : (Nat → Prop) → State → Prop) (hE : xEok Ev) (adK adV : Nat → Nat) (fm : Option Nat) (X : xEv adK adV fm Ev) (o : Nat) (a : Nat → Nat) (i : Nat) (hi : i < 56) (d : Nat) (post : Int32 → MS → Prop) (u : MS) (h : P_T_take post i  u) : xC l D clX (tysX cs) Ev y_T_take w_T_take (rmD (d + 5)) (wdS o a cs) [.ref o, .ref (adK i)] u (pI post) 0 0 := by
  unfold P_T_take at h
  refine xC.of (cc := b_T_take) (nL := 2) (ret := (some .boolean)) (by decide) rfl (Nat.le_of_ble_eq_true rfl) ?_
  show RR l D clX (tysX cs) Ev "DeckFront$Tape" b_T_take 2 w_T_take (rmD (d + 5)) (some .boolean) (wdS o a cs) (pI post) 0 0 0 0 0 [(0, .ref o), (1, .ref (adK i))] [] u
  refine x_aload_n (x := o) d_T_take_0 rfl ?_
  refine x_aload_n (x := o) d_T_take_1 rfl ?_
  refine x_get (v := .int (gI u 5)) f_T_29 (eS_o _ _ _ _) rfl d_T_take_2 ?_
  refine x_aload_n (x := (adK i)) d_T_take_5 rfl ?_
  refine x_callV (st := []) k_T_51 rfl (eS_o _ _ _ _) x_id (c_T_stands l D cs Ev hE adK adV fm X o a i hi (d + 0) _ (gI u 5) u h) hE (rmD_ok (by omega) (by decide)) rfl (Nat.le_of_ble_eq_true rfl) rfl d_T_take_6 (x_rI (fun r2 u1 h => ?_))
  refine x_if_ne (tgt := 14) d_T_take_9 rfl (fun hc => ?_) (fun hc => ?_)
  · have h := h.1 hc
    refine x_aload_n (x := o) d_T_take_14 rfl ?_
    refine x_dup d_T_take_15 rfl ?_
    refine x_get (v := .int (gI u1 5)) f_T_29 (eS_o _ _ _ _) rfl d_T_take_16 ?_
    refine x_aload_n (x := (adK i)) d_T_take_19 rfl ?_
    refine x_callVO (st := [.int (gI u1 5), .ref o]) k_T_42 (fun A s h9 => ((X A s h9).2.1 i hi).2.1) x_none (cf_JS_length l D cs Ev hE adK adV fm X i hi (d + 3)) hE (rmD_ok (by omega) (by decide)) rfl (Nat.le_of_ble_eq_true rfl) rfl d_T_take_20 (x_rI (fun x u1 h9 => ?_))
    obtain ⟨rfl, rfl⟩ := h9
    refine x_iadd d_T_take_23 ?_
    refine x_put f_T_29 fw_S_5 (eS_o _ _ _ _) rfl rfl (Nat.le_of_ble_eq_true rfl) (sS_5 _ _ _ _ _) d_T_take_24 ?_
    refine x_iconst (v := 1) d_T_take_27 (by decide) ?_
    refine x_zret rfl d_T_take_28 ⟨_, rfl, ?_⟩
    exact h
  · have h := h.2 hc
    refine x_iconst (v := 0) d_T_take_12 (by decide) ?_
    refine x_zret rfl d_T_take_13 ⟨_, rfl, ?_⟩
    exact h
def P_T_takeIdleComma (post : Int32 → MS → Prop) (u : MS) : Prop := P_T_isNext (fun r2 u1 => ((r2 = 0 → post 1 u1) ∧ (¬ r2 = 0 → (vp_in (gI u1 5) 80 ∧ post 1 (sI (sA u1 3 (gI u1 5).toNatClampNeg (5 : Int32)) 5 ((gI u1 5) + (1 : Int32))))))) (44 : Int32) u
set_option maxHeartbeats 600000 in
set_option maxRecDepth 100000 in
theorem c_T_takeIdleComma (l : Launch) (D : va_G) (cs : Nat → ClassId) (Ev : (Nat → Prop) → State → Prop) (hE : xEok Ev) (adK adV : Nat → Nat) (fm : Option Nat) (X : xEv adK adV fm Ev) (o : Nat) (a : Nat → Nat) (d : Nat) (post : Int32 → MS → Prop) (u : MS) (h : P_T_takeIdleComma post  u) : xC l D clX (tysX cs) Ev y_T_takeIdleComma w_T_takeIdleComma (rmD (d + 1)) (wdS o a cs) [.ref o] u (pI post) 0 0 := by
  unfold P_T_takeIdleComma at h
  refine xC.of (cc := b_T_takeIdleComma) (nL := 1) (ret := (some .boolean)) (by decide) rfl (Nat.le_of_ble_eq_true rfl) ?_
  show RR l D clX (tysX cs) Ev "DeckFront$Tape" b_T_takeIdleComma 1 w_T_takeIdleComma (rmD (d + 1)) (some .boolean) (wdS o a cs) (pI post) 0 0 0 0 0 [(0, .ref o)] [] u
  refine x_aload_n (x := o) d_T_takeIdleComma_0 rfl ?_
  refine x_bipush (v := 44) d_T_takeIdleComma_1 (by decide) ?_
  refine x_callV (st := []) k_T_55 rfl (eS_o _ _ _ _) x_id (c_T_isNext l D cs Ev hE adK adV fm X o a (d + 0) _ (44 : Int32) u h) hE (rmD_ok (by omega) (by decide)) rfl (Nat.le_of_ble_eq_true rfl) rfl d_T_takeIdleComma_3 (x_rI (fun r2 u1 h => ?_))
  refine x_if_eq (tgt := 29) d_T_takeIdleComma_6 rfl (fun hc => ?_) (fun hc => ?_)
  · have h := h.1 hc
    refine x_iconst (v := 1) d_T_takeIdleComma_29 (by decide) ?_
    refine x_zret rfl d_T_takeIdleComma_30 ⟨_, rfl, ?_⟩
    exact h
  · have h := h.2 hc
    refine x_aload_n (x := o) d_T_takeIdleComma_9 rfl ?_
    refine x_get (v := .ref (a 3)) f_T_22 (eS_o _ _ _ _) rfl d_T_takeIdleComma_10 ?_
    refine x_aload_n (x := o) d_T_takeIdleComma_13 rfl ?_
    refine x_get (v := .int (gI u1 5)) f_T_29 (eS_o _ _ _ _) rfl d_T_takeIdleComma_14 ?_
    refine x_iconst (v := 5) d_T_takeIdleComma_17 (by decide) ?_
    refine x_iast (t0 := 0) (eS_3 _ _ _ _) rfl h.1 (sS_3 _ _ _ _ _ _) d_T_takeIdleComma_18 ?_
    have h := h.2
    refine x_aload_n (x := o) d_T_takeIdleComma_19 rfl ?_
    refine x_dup d_T_takeIdleComma_20 rfl ?_
    refine x_get (v := .int (gI u1 5)) f_T_29 (eS_o _ _ _ _) rfl d_T_takeIdleComma_21 ?_
    refine x_iconst (v := 1) d_T_takeIdleComma_24 (by decide) ?_
    refine x_iadd d_T_takeIdleComma_25 ?_
    refine x_put f_T_29 fw_S_5 (eS_o _ _ _ _) rfl rfl (Nat.le_of_ble_eq_true rfl) (sS_5 _ _ _ _ _) d_T_takeIdleComma_26 ?_
    refine x_iconst (v := 1) d_T_takeIdleComma_29 (by decide) ?_
    refine x_zret rfl d_T_takeIdleComma_30 ⟨_, rfl, ?_⟩
    exact h
def P_T_takeDigits_100 (post : Int32 → MS → Prop) (x2 : Int32) (x3 : Int32) (u : MS) : Prop := (vp_in x3 80 ∧ post 1 (sA u 3 x3.toNatClampNeg x2))
set_option maxHeartbeats 600000 in
set_option maxRecDepth 100000 in
theorem w_T_takeDigits_100 (l : Launch) (D : va_G) (cs : Nat → ClassId) (Ev : (Nat → Prop) → State → Prop) (hE : xEok Ev) (adK adV : Nat → Nat) (fm : Option Nat) (X : xEv adK adV fm Ev) (o : Nat) (a : Nat → Nat) (d : Nat) (post : Int32 → MS → Prop) (x2 : Int32) (x3 : Int32) (u : MS) (h : P_T_takeDigits_100 post  x2 x3 u) : RR l D clX (tysX cs) Ev "DeckFront$Tape" b_T_takeDigits 5 w_T_takeDigits (rmD (d + 1)) (some .boolean) (wdS o a cs) (pI post) 0 0 0 0 100 [(0, .ref o), (2, .int x2), (3, .int x3)] [] u := by
  unfold P_T_takeDigits_100 at h
  refine x_aload_n (x := o) d_T_takeDigits_100 rfl ?_
  refine x_get (v := .ref (a 3)) f_T_22 (eS_o _ _ _ _) rfl d_T_takeDigits_101 ?_
  refine x_iload_n (x := x3) d_T_takeDigits_104 rfl ?_
  refine x_iload_n (x := x2) d_T_takeDigits_105 rfl ?_
  refine x_iast (t0 := 0) (eS_3 _ _ _ _) rfl h.1 (sS_3 _ _ _ _ _ _) d_T_takeDigits_106 ?_
  have h := h.2
  refine x_iconst (v := 1) d_T_takeDigits_107 (by decide) ?_
  refine x_zret rfl d_T_takeDigits_108 ⟨_, rfl, ?_⟩
  exact h
def P_T_takeDigits_66 (post : Int32 → MS → Prop) : Nat → Int32 → Int32 → MS → Prop
  | 0, _, _, _ => False
  | f + 1, x2, x3, u => ((((gI u 5) - (1 : Int32)) ≤ x3 → P_T_takeDigits_100 post x2 x3 u) ∧ (¬ ((gI u 5) - (1 : Int32)) ≤ x3 → (vp_in x3 80 ∧ ((¬ (gA u 0 x3.toNatClampNeg) = 48 → P_T_takeDigits_100 post x2 x3 u) ∧ ((gA u 0 x3.toNatClampNeg) = 48 → (vp_in x3 80 ∧ P_T_takeDigits_66 post f x2 (x3 + 1) (sA u 3 x3.toNatClampNeg (5 : Int32))))))))
set_option maxHeartbeats 600000 in
set_option maxRecDepth 100000 in
theorem w_T_takeDigits_66 (l : Launch) (D : va_G) (cs : Nat → ClassId) (Ev : (Nat → Prop) → State → Prop) (hE : xEok Ev) (adK adV : Nat → Nat) (fm : Option Nat) (X : xEv adK adV fm Ev) (o : Nat) (a : Nat → Nat) (d : Nat) (post : Int32 → MS → Prop) : ∀ (f : Nat) (x2 : Int32) (x3 : Int32) (u : MS), P_T_takeDigits_66 post  f x2 x3 u → RR l D clX (tysX cs) Ev "DeckFront$Tape" b_T_takeDigits 5 w_T_takeDigits (rmD (d + 1)) (some .boolean) (wdS o a cs) (pI post) 0 0 0 0 66 [(0, .ref o), (2, .int x2), (3, .int x3)] [] u := by
  intro f
  induction f with
  | zero => intro x2 x3 u h; exact h.elim
  | succ f ih =>
    intro x2 x3 u h
    unfold P_T_takeDigits_66 at h
    refine x_iload_n (x := x3) d_T_takeDigits_66 rfl ?_
    refine x_aload_n (x := o) d_T_takeDigits_67 rfl ?_
    refine x_get (v := .int (gI u 5)) f_T_29 (eS_o _ _ _ _) rfl d_T_takeDigits_68 ?_
    refine x_iconst (v := 1) d_T_takeDigits_71 (by decide) ?_
    refine x_isub d_T_takeDigits_72 ?_
    refine x_icmp_ge (tgt := 100) d_T_takeDigits_73 rfl (fun hc => ?_) (fun hc => ?_)
    · have h := h.1 hc
      exact w_T_takeDigits_100 l D cs Ev hE adK adV fm X o a d post  x2 x3 u h
    · have h := h.2 hc
      refine x_aload_n (x := o) d_T_takeDigits_76 rfl ?_
      refine x_get (v := .ref (a 0)) f_T_9 (eS_o _ _ _ _) rfl d_T_takeDigits_77 ?_
      refine x_iload_n (x := x3) d_T_takeDigits_80 rfl ?_
      refine x_cald (t0 := 1) (eS_0 _ _ _ _) rfl h.1 d_T_takeDigits_81 ?_
      have h := h.2
      refine x_bipush (v := 48) d_T_takeDigits_82 (by decide) ?_
      refine x_icmp_ne (tgt := 100) d_T_takeDigits_84 rfl (fun hc => ?_) (fun hc => ?_)
      · have h := h.1 hc
        exact w_T_takeDigits_100 l D cs Ev hE adK adV fm X o a d post  x2 x3 u h
      · have h := h.2 hc
        refine x_aload_n (x := o) d_T_takeDigits_87 rfl ?_
        refine x_get (v := .ref (a 3)) f_T_22 (eS_o _ _ _ _) rfl d_T_takeDigits_88 ?_
        refine x_iload_n (x := x3) d_T_takeDigits_91 rfl ?_
        refine x_iconst (v := 5) d_T_takeDigits_92 (by decide) ?_
        refine x_iast (t0 := 0) (eS_3 _ _ _ _) rfl h.1 (sS_3 _ _ _ _ _ _) d_T_takeDigits_93 ?_
        have h := h.2
        refine x_iinc (v := x3 + 1) (lv' := [(3, .int (x3 + 1)), (0, .ref o), (2, .int x2)]) d_T_takeDigits_94 rfl rfl (by decide) rfl ?_
        refine x_goto (tgt := 66) d_T_takeDigits_97 rfl ?_
        refine x_sub [1, 2, 0] rfl ?_
        exact ih x2 (x3 + 1) (sA u 3 x3.toNatClampNeg (5 : Int32)) h
def P_T_takeDigits_56 (post : Int32 → MS → Prop) (x2 : Int32) (x3 : Int32) (u : MS) : Prop := ((¬ (gI u 5) = x3 → (∃ g, P_T_takeDigits_66 post g x2 x3 u)) ∧ ((gI u 5) = x3 → post 0 u))
set_option maxHeartbeats 600000 in
set_option maxRecDepth 100000 in
theorem w_T_takeDigits_56 (l : Launch) (D : va_G) (cs : Nat → ClassId) (Ev : (Nat → Prop) → State → Prop) (hE : xEok Ev) (adK adV : Nat → Nat) (fm : Option Nat) (X : xEv adK adV fm Ev) (o : Nat) (a : Nat → Nat) (d : Nat) (post : Int32 → MS → Prop) (x2 : Int32) (x3 : Int32) (u : MS) (h : P_T_takeDigits_56 post  x2 x3 u) : RR l D clX (tysX cs) Ev "DeckFront$Tape" b_T_takeDigits 5 w_T_takeDigits (rmD (d + 1)) (some .boolean) (wdS o a cs) (pI post) 0 0 0 0 56 [(0, .ref o), (2, .int x2), (3, .int x3)] [] u := by
  unfold P_T_takeDigits_56 at h
  refine x_aload_n (x := o) d_T_takeDigits_56 rfl ?_
  refine x_get (v := .int (gI u 5)) f_T_29 (eS_o _ _ _ _) rfl d_T_takeDigits_57 ?_
  refine x_iload_n (x := x3) d_T_takeDigits_60 rfl ?_
  refine x_icmp_ne (tgt := 66) d_T_takeDigits_61 rfl (fun hc => ?_) (fun hc => ?_)
  · have h := h.1 hc
    obtain ⟨f9, h⟩ := h
    exact w_T_takeDigits_66 l D cs Ev hE adK adV fm X o a d post  f9 x2 x3 u h
  · have h := h.2 hc
    refine x_iconst (v := 0) d_T_takeDigits_64 (by decide) ?_
    refine x_zret rfl d_T_takeDigits_65 ⟨_, rfl, ?_⟩
    exact h
def P_T_takeDigits_8 (post : Int32 → MS → Prop) : Nat → Int32 → Int32 → Int32 → Int32 → MS → Prop
  | 0, _, _, _, _, _ => False
  | f + 1, x1, x2, x3, x4, u => ((x1 ≤ x4 → P_T_takeDigits_56 post x2 x3 u) ∧ (¬ x1 ≤ x4 → (((gI u 4) ≤ (gI u 5) → P_T_takeDigits_56 post x2 x3 u) ∧ (¬ (gI u 4) ≤ (gI u 5) → (vp_in (gI u 5) 80 ∧ (((isDig (gA u 0 (gI u 5).toNatClampNeg)) = 0 → P_T_takeDigits_56 post x2 x3 u) ∧ (¬ (isDig (gA u 0 (gI u 5).toNatClampNeg)) = 0 → P_T_takeDigits_8 post f x1 x2 x3 (x4 + 1) (sI u 5 ((gI u 5) + (1 : Int32))))))))))
set_option maxHeartbeats 600000 in
set_option maxRecDepth 100000 in
theorem w_T_takeDigits_8 (l : Launch) (D : va_G) (cs : Nat → ClassId) (Ev : (Nat → Prop) → State → Prop) (hE : xEok Ev) (adK adV : Nat → Nat) (fm : Option Nat) (X : xEv adK adV fm Ev) (o : Nat) (a : Nat → Nat) (d : Nat) (post : Int32 → MS → Prop) : ∀ (f : Nat) (x1 : Int32) (x2 : Int32) (x3 : Int32) (x4 : Int32) (u : MS), P_T_takeDigits_8 post  f x1 x2 x3 x4 u → RR l D clX (tysX cs) Ev "DeckFront$Tape" b_T_takeDigits 5 w_T_takeDigits (rmD (d + 1)) (some .boolean) (wdS o a cs) (pI post) 0 0 0 0 8 [(0, .ref o), (1, .int x1), (2, .int x2), (3, .int x3), (4, .int x4)] [] u := by
  intro f
  induction f with
  | zero => intro x1 x2 x3 x4 u h; exact h.elim
  | succ f ih =>
    intro x1 x2 x3 x4 u h
    unfold P_T_takeDigits_8 at h
    refine x_iload (x := x4) d_T_takeDigits_8 rfl ?_
    refine x_iload_n (x := x1) d_T_takeDigits_10 rfl ?_
    refine x_icmp_ge (tgt := 56) d_T_takeDigits_11 rfl (fun hc => ?_) (fun hc => ?_)
    · have h := h.1 hc
      refine x_sub [0, 2, 3] rfl ?_
      exact w_T_takeDigits_56 l D cs Ev hE adK adV fm X o a d post  x2 x3 u h
    · have h := h.2 hc
      refine x_aload_n (x := o) d_T_takeDigits_14 rfl ?_
      refine x_get (v := .int (gI u 5)) f_T_29 (eS_o _ _ _ _) rfl d_T_takeDigits_15 ?_
      refine x_aload_n (x := o) d_T_takeDigits_18 rfl ?_
      refine x_get (v := .int (gI u 4)) f_T_25 (eS_o _ _ _ _) rfl d_T_takeDigits_19 ?_
      refine x_icmp_ge (tgt := 56) d_T_takeDigits_22 rfl (fun hc => ?_) (fun hc => ?_)
      · have h := h.1 hc
        refine x_sub [0, 2, 3] rfl ?_
        exact w_T_takeDigits_56 l D cs Ev hE adK adV fm X o a d post  x2 x3 u h
      · have h := h.2 hc
        refine x_aload_n (x := o) d_T_takeDigits_25 rfl ?_
        refine x_get (v := .ref (a 0)) f_T_9 (eS_o _ _ _ _) rfl d_T_takeDigits_26 ?_
        refine x_aload_n (x := o) d_T_takeDigits_29 rfl ?_
        refine x_get (v := .int (gI u 5)) f_T_29 (eS_o _ _ _ _) rfl d_T_takeDigits_30 ?_
        refine x_cald (t0 := 1) (eS_0 _ _ _ _) rfl h.1 d_T_takeDigits_33 ?_
        have h := h.2
        refine x_callSN (st := []) (k_T_59 X) x_none (cf_D_isDigit l D cs Ev hE adK adV fm X (d + 0) (gA u 0 (gI u 5).toNatClampNeg)) hE (rmD_ok (by omega) (by decide)) rfl (Nat.le_of_ble_eq_true rfl) rfl d_T_takeDigits_34 (x_rI (fun x u1 h9 => ?_))
        obtain ⟨rfl, rfl⟩ := h9
        refine x_if_eq (tgt := 56) d_T_takeDigits_37 rfl (fun hc => ?_) (fun hc => ?_)
        · have h := h.1 hc
          refine x_sub [0, 2, 3] rfl ?_
          exact w_T_takeDigits_56 l D cs Ev hE adK adV fm X o a d post  x2 x3 u h
        · have h := h.2 hc
          refine x_aload_n (x := o) d_T_takeDigits_40 rfl ?_
          refine x_dup d_T_takeDigits_41 rfl ?_
          refine x_get (v := .int (gI u 5)) f_T_29 (eS_o _ _ _ _) rfl d_T_takeDigits_42 ?_
          refine x_iconst (v := 1) d_T_takeDigits_45 (by decide) ?_
          refine x_iadd d_T_takeDigits_46 ?_
          refine x_put f_T_29 fw_S_5 (eS_o _ _ _ _) rfl rfl (Nat.le_of_ble_eq_true rfl) (sS_5 _ _ _ _ _) d_T_takeDigits_47 ?_
          refine x_iinc (v := x4 + 1) (lv' := [(4, .int (x4 + 1)), (0, .ref o), (1, .int x1), (2, .int x2), (3, .int x3)]) d_T_takeDigits_50 rfl rfl (by decide) rfl ?_
          refine x_goto (tgt := 8) d_T_takeDigits_53 rfl ?_
          refine x_sub [1, 2, 3, 4, 0] rfl ?_
          exact ih x1 x2 x3 (x4 + 1) (sI u 5 ((gI u 5) + (1 : Int32))) h
def P_T_takeDigits (post : Int32 → MS → Prop) (a0 : Int32) (a1 : Int32) (u : MS) : Prop := (∀ v1, v1 = (gI u 5) → (∃ g, P_T_takeDigits_8 post g a0 a1 v1 0 u))
set_option maxHeartbeats 600000 in
set_option maxRecDepth 100000 in
theorem c_T_takeDigits (l : Launch) (D : va_G) (cs : Nat → ClassId) (Ev : (Nat → Prop) → State → Prop) (hE : xEok Ev) (adK adV : Nat → Nat) (fm : Option Nat) (X : xEv adK adV fm Ev) (o : Nat) (a : Nat → Nat) (d : Nat) (post : Int32 → MS → Prop) (a0 : Int32) (a1 : Int32) (u : MS) (h : P_T_takeDigits post a0 a1 u) : xC l D clX (tysX cs) Ev y_T_takeDigits w_T_takeDigits (rmD (d + 1)) (wdS o a cs) [.ref o, .int a0, .int a1] u (pI post) 0 0 := by
  unfold P_T_takeDigits at h
  refine xC.of (cc := b_T_takeDigits) (nL := 5) (ret := (some .boolean)) (by decide) rfl (Nat.le_of_ble_eq_true rfl) ?_
  show RR l D clX (tysX cs) Ev "DeckFront$Tape" b_T_takeDigits 5 w_T_takeDigits (rmD (d + 1)) (some .boolean) (wdS o a cs) (pI post) 0 0 0 0 0 [(0, .ref o), (1, .int a0), (2, .int a1)] [] u
  refine x_aload_n (x := o) d_T_takeDigits_0 rfl ?_
  refine x_get (v := .int (gI u 5)) f_T_29 (eS_o _ _ _ _) rfl d_T_takeDigits_1 ?_
  refine x_topI (fun v1 ev1 => ?_)
  have h := h v1 ev1
  refine x_istore_n (lv' := [(3, .int v1), (0, .ref o), (1, .int a0), (2, .int a1)]) d_T_takeDigits_4 (by decide) rfl ?_
  refine x_iconst (v := 0) d_T_takeDigits_5 (by decide) ?_
  refine x_istore (lv' := [(4, .int 0), (3, .int v1), (0, .ref o), (1, .int a0), (2, .int a1)]) d_T_takeDigits_6 (by decide) rfl ?_
  refine x_sub [2, 3, 4, 1, 0] rfl ?_
  obtain ⟨f9, h⟩ := h
  exact w_T_takeDigits_8 l D cs Ev hE adK adV fm X o a d post  f9 a0 a1 v1 0 u h
def P_T_takeName_101 (post : Int32 → MS → Prop) (x1 : Int32) (x2 : Int32) (u : MS) : Prop := (vp_in x2 80 ∧ post 1 (sA u 3 x2.toNatClampNeg x1))
set_option maxHeartbeats 600000 in
set_option maxRecDepth 100000 in
theorem w_T_takeName_101 (l : Launch) (D : va_G) (cs : Nat → ClassId) (Ev : (Nat → Prop) → State → Prop) (hE : xEok Ev) (adK adV : Nat → Nat) (fm : Option Nat) (X : xEv adK adV fm Ev) (o : Nat) (a : Nat → Nat) (d : Nat) (post : Int32 → MS → Prop) (x1 : Int32) (x2 : Int32) (u : MS) (h : P_T_takeName_101 post  x1 x2 u) : RR l D clX (tysX cs) Ev "DeckFront$Tape" b_T_takeName 4 w_T_takeName (rmD (d + 1)) (some .boolean) (wdS o a cs) (pI post) 0 0 0 0 101 [(0, .ref o), (1, .int x1), (2, .int x2)] [] u := by
  unfold P_T_takeName_101 at h
  refine x_aload_n (x := o) d_T_takeName_101 rfl ?_
  refine x_get (v := .ref (a 3)) f_T_22 (eS_o _ _ _ _) rfl d_T_takeName_102 ?_
  refine x_iload_n (x := x2) d_T_takeName_105 rfl ?_
  refine x_iload_n (x := x1) d_T_takeName_106 rfl ?_
  refine x_iast (t0 := 0) (eS_3 _ _ _ _) rfl h.1 (sS_3 _ _ _ _ _ _) d_T_takeName_107 ?_
  have h := h.2
  refine x_iconst (v := 1) d_T_takeName_108 (by decide) ?_
  refine x_zret rfl d_T_takeName_109 ⟨_, rfl, ?_⟩
  exact h
def P_T_takeName_85 (post : Int32 → MS → Prop) (K35 : Int32 → Int32 → Int32 → MS → Prop) (x1 : Int32) (x2 : Int32) (x3 : Int32) (u : MS) : Prop := K35 x1 x2 (x3 + 1) (sI u 5 ((gI u 5) + (1 : Int32)))
set_option maxHeartbeats 600000 in
set_option maxRecDepth 100000 in
theorem w_T_takeName_85 (l : Launch) (D : va_G) (cs : Nat → ClassId) (Ev : (Nat → Prop) → State → Prop) (hE : xEok Ev) (adK adV : Nat → Nat) (fm : Option Nat) (X : xEv adK adV fm Ev) (o : Nat) (a : Nat → Nat) (d : Nat) (post : Int32 → MS → Prop) (K35 : Int32 → Int32 → Int32 → MS → Prop) (hK35 : ∀ (x1 : Int32) (x2 : Int32) (x3 : Int32) (u : MS), K35 x1 x2 x3 u → RR l D clX (tysX cs) Ev "DeckFront$Tape" b_T_takeName 4 w_T_takeName (rmD (d + 1)) (some .boolean) (wdS o a cs) (pI post) 0 0 0 0 35 [(0, .ref o), (1, .int x1), (2, .int x2), (3, .int x3)] [] u) (x1 : Int32) (x2 : Int32) (x3 : Int32) (u : MS) (h : P_T_takeName_85 post K35 x1 x2 x3 u) : RR l D clX (tysX cs) Ev "DeckFront$Tape" b_T_takeName 4 w_T_takeName (rmD (d + 1)) (some .boolean) (wdS o a cs) (pI post) 0 0 0 0 85 [(0, .ref o), (1, .int x1), (2, .int x2), (3, .int x3)] [] u := by
  unfold P_T_takeName_85 at h
  refine x_aload_n (x := o) d_T_takeName_85 rfl ?_
  refine x_dup d_T_takeName_86 rfl ?_
  refine x_get (v := .int (gI u 5)) f_T_29 (eS_o _ _ _ _) rfl d_T_takeName_87 ?_
  refine x_iconst (v := 1) d_T_takeName_90 (by decide) ?_
  refine x_iadd d_T_takeName_91 ?_
  refine x_put f_T_29 fw_S_5 (eS_o _ _ _ _) rfl rfl (Nat.le_of_ble_eq_true rfl) (sS_5 _ _ _ _ _) d_T_takeName_92 ?_
  refine x_iinc (v := x3 + 1) (lv' := [(3, .int (x3 + 1)), (0, .ref o), (1, .int x1), (2, .int x2)]) d_T_takeName_95 rfl rfl (by decide) rfl ?_
  refine x_goto (tgt := 35) d_T_takeName_98 rfl ?_
  refine x_sub [1, 2, 3, 0] rfl ?_
  exact hK35 x1 x2 (x3 + 1) (sI u 5 ((gI u 5) + (1 : Int32))) h
def P_T_takeName_35 (post : Int32 → MS → Prop) : Nat → Int32 → Int32 → Int32 → MS → Prop
  | 0, _, _, _, _ => False
  | f + 1, x1, x2, x3, u => ((6 ≤ x3 → P_T_takeName_101 post x1 x2 u) ∧ (¬ 6 ≤ x3 → (((gI u 4) ≤ (gI u 5) → P_T_takeName_101 post x1 x2 u) ∧ (¬ (gI u 4) ≤ (gI u 5) → (vp_in (gI u 5) 80 ∧ ((¬ (isLet (gA u 0 (gI u 5).toNatClampNeg)) = 0 → P_T_takeName_85 post (fun zx1 zx2 zx3 zu => P_T_takeName_35 post f zx1 zx2 zx3 zu) x1 x2 x3 u) ∧ ((isLet (gA u 0 (gI u 5).toNatClampNeg)) = 0 → (vp_in (gI u 5) 80 ∧ ((¬ (isDig (gA u 0 (gI u 5).toNatClampNeg)) = 0 → P_T_takeName_85 post (fun zx1 zx2 zx3 zu => P_T_takeName_35 post f zx1 zx2 zx3 zu) x1 x2 x3 u) ∧ ((isDig (gA u 0 (gI u 5).toNatClampNeg)) = 0 → P_T_takeName_101 post x1 x2 u))))))))))
set_option maxHeartbeats 600000 in
set_option maxRecDepth 100000 in
theorem w_T_takeName_35 (l : Launch) (D : va_G) (cs : Nat → ClassId) (Ev : (Nat → Prop) → State → Prop) (hE : xEok Ev) (adK adV : Nat → Nat) (fm : Option Nat) (X : xEv adK adV fm Ev) (o : Nat) (a : Nat → Nat) (d : Nat) (post : Int32 → MS → Prop) : ∀ (f : Nat) (x1 : Int32) (x2 : Int32) (x3 : Int32) (u : MS), P_T_takeName_35 post  f x1 x2 x3 u → RR l D clX (tysX cs) Ev "DeckFront$Tape" b_T_takeName 4 w_T_takeName (rmD (d + 1)) (some .boolean) (wdS o a cs) (pI post) 0 0 0 0 35 [(0, .ref o), (1, .int x1), (2, .int x2), (3, .int x3)] [] u := by
  intro f
  induction f with
  | zero => intro x1 x2 x3 u h; exact h.elim
  | succ f ih =>
    intro x1 x2 x3 u h
    unfold P_T_takeName_35 at h
    refine x_iload_n (x := x3) d_T_takeName_35 rfl ?_
    refine x_bipush (v := 6) d_T_takeName_36 (by decide) ?_
    refine x_icmp_ge (tgt := 101) d_T_takeName_38 rfl (fun hc => ?_) (fun hc => ?_)
    · have h := h.1 hc
      refine x_sub [0, 1, 2] rfl ?_
      exact w_T_takeName_101 l D cs Ev hE adK adV fm X o a d post  x1 x2 u h
    · have h := h.2 hc
      refine x_aload_n (x := o) d_T_takeName_41 rfl ?_
      refine x_get (v := .int (gI u 5)) f_T_29 (eS_o _ _ _ _) rfl d_T_takeName_42 ?_
      refine x_aload_n (x := o) d_T_takeName_45 rfl ?_
      refine x_get (v := .int (gI u 4)) f_T_25 (eS_o _ _ _ _) rfl d_T_takeName_46 ?_
      refine x_icmp_ge (tgt := 101) d_T_takeName_49 rfl (fun hc => ?_) (fun hc => ?_)
      · have h := h.1 hc
        refine x_sub [0, 1, 2] rfl ?_
        exact w_T_takeName_101 l D cs Ev hE adK adV fm X o a d post  x1 x2 u h
      · have h := h.2 hc
        refine x_aload_n (x := o) d_T_takeName_52 rfl ?_
        refine x_get (v := .ref (a 0)) f_T_9 (eS_o _ _ _ _) rfl d_T_takeName_53 ?_
        refine x_aload_n (x := o) d_T_takeName_56 rfl ?_
        refine x_get (v := .int (gI u 5)) f_T_29 (eS_o _ _ _ _) rfl d_T_takeName_57 ?_
        refine x_cald (t0 := 1) (eS_0 _ _ _ _) rfl h.1 d_T_takeName_60 ?_
        have h := h.2
        refine x_callSN (st := []) (k_T_63 X) x_none (cf_D_isLetter l D cs Ev hE adK adV fm X (d + 0) (gA u 0 (gI u 5).toNatClampNeg)) hE (rmD_ok (by omega) (by decide)) rfl (Nat.le_of_ble_eq_true rfl) rfl d_T_takeName_61 (x_rI (fun x u1 h9 => ?_))
        obtain ⟨rfl, rfl⟩ := h9
        refine x_if_ne (tgt := 85) d_T_takeName_64 rfl (fun hc => ?_) (fun hc => ?_)
        · have h := h.1 hc
          exact w_T_takeName_85 l D cs Ev hE adK adV fm X o a d post (fun zx1 zx2 zx3 zu => P_T_takeName_35 post f zx1 zx2 zx3 zu) ih x1 x2 x3 u h
        · have h := h.2 hc
          refine x_aload_n (x := o) d_T_takeName_67 rfl ?_
          refine x_get (v := .ref (a 0)) f_T_9 (eS_o _ _ _ _) rfl d_T_takeName_68 ?_
          refine x_aload_n (x := o) d_T_takeName_71 rfl ?_
          refine x_get (v := .int (gI u 5)) f_T_29 (eS_o _ _ _ _) rfl d_T_takeName_72 ?_
          refine x_cald (t0 := 1) (eS_0 _ _ _ _) rfl h.1 d_T_takeName_75 ?_
          have h := h.2
          refine x_callSN (st := []) (k_T_59 X) x_none (cf_D_isDigit l D cs Ev hE adK adV fm X (d + 0) (gA u 0 (gI u 5).toNatClampNeg)) hE (rmD_ok (by omega) (by decide)) rfl (Nat.le_of_ble_eq_true rfl) rfl d_T_takeName_76 (x_rI (fun x u1 h9 => ?_))
          obtain ⟨rfl, rfl⟩ := h9
          refine x_if_ne (tgt := 85) d_T_takeName_79 rfl (fun hc => ?_) (fun hc => ?_)
          · have h := h.1 hc
            exact w_T_takeName_85 l D cs Ev hE adK adV fm X o a d post (fun zx1 zx2 zx3 zu => P_T_takeName_35 post f zx1 zx2 zx3 zu) ih x1 x2 x3 u h
          · have h := h.2 hc
            refine x_goto (tgt := 101) d_T_takeName_82 rfl ?_
            refine x_sub [0, 1, 2] rfl ?_
            exact w_T_takeName_101 l D cs Ev hE adK adV fm X o a d post  x1 x2 u h
def P_T_takeName (post : Int32 → MS → Prop) (a0 : Int32) (u : MS) : Prop := (∀ v1, v1 = (gI u 5) → (((gI u 4) ≤ (gI u 5) → post 0 u) ∧ (¬ (gI u 4) ≤ (gI u 5) → (vp_in (gI u 5) 80 ∧ ((¬ (isLet (gA u 0 (gI u 5).toNatClampNeg)) = 0 → (∃ g, P_T_takeName_35 post g a0 v1 0 u)) ∧ ((isLet (gA u 0 (gI u 5).toNatClampNeg)) = 0 → post 0 u))))))
set_option maxHeartbeats 600000 in
set_option maxRecDepth 100000 in
theorem c_T_takeName (l : Launch) (D : va_G) (cs : Nat → ClassId) (Ev : (Nat → Prop) → State → Prop) (hE : xEok Ev) (adK adV : Nat → Nat) (fm : Option Nat) (X : xEv adK adV fm Ev) (o : Nat) (a : Nat → Nat) (d : Nat) (post : Int32 → MS → Prop) (a0 : Int32) (u : MS) (h : P_T_takeName post a0 u) : xC l D clX (tysX cs) Ev y_T_takeName w_T_takeName (rmD (d + 1)) (wdS o a cs) [.ref o, .int a0] u (pI post) 0 0 := by
  unfold P_T_takeName at h
  refine xC.of (cc := b_T_takeName) (nL := 4) (ret := (some .boolean)) (by decide) rfl (Nat.le_of_ble_eq_true rfl) ?_
  show RR l D clX (tysX cs) Ev "DeckFront$Tape" b_T_takeName 4 w_T_takeName (rmD (d + 1)) (some .boolean) (wdS o a cs) (pI post) 0 0 0 0 0 [(0, .ref o), (1, .int a0)] [] u
  refine x_aload_n (x := o) d_T_takeName_0 rfl ?_
  refine x_get (v := .int (gI u 5)) f_T_29 (eS_o _ _ _ _) rfl d_T_takeName_1 ?_
  refine x_topI (fun v1 ev1 => ?_)
  have h := h v1 ev1
  refine x_istore_n (lv' := [(2, .int v1), (0, .ref o), (1, .int a0)]) d_T_takeName_4 (by decide) rfl ?_
  refine x_aload_n (x := o) d_T_takeName_5 rfl ?_
  refine x_get (v := .int (gI u 5)) f_T_29 (eS_o _ _ _ _) rfl d_T_takeName_6 ?_
  refine x_aload_n (x := o) d_T_takeName_9 rfl ?_
  refine x_get (v := .int (gI u 4)) f_T_25 (eS_o _ _ _ _) rfl d_T_takeName_10 ?_
  refine x_icmp_ge (tgt := 31) d_T_takeName_13 rfl (fun hc => ?_) (fun hc => ?_)
  · have h := h.1 hc
    refine x_iconst (v := 0) d_T_takeName_31 (by decide) ?_
    refine x_zret rfl d_T_takeName_32 ⟨_, rfl, ?_⟩
    exact h
  · have h := h.2 hc
    refine x_aload_n (x := o) d_T_takeName_16 rfl ?_
    refine x_get (v := .ref (a 0)) f_T_9 (eS_o _ _ _ _) rfl d_T_takeName_17 ?_
    refine x_aload_n (x := o) d_T_takeName_20 rfl ?_
    refine x_get (v := .int (gI u 5)) f_T_29 (eS_o _ _ _ _) rfl d_T_takeName_21 ?_
    refine x_cald (t0 := 1) (eS_0 _ _ _ _) rfl h.1 d_T_takeName_24 ?_
    have h := h.2
    refine x_callSN (st := []) (k_T_63 X) x_none (cf_D_isLetter l D cs Ev hE adK adV fm X (d + 0) (gA u 0 (gI u 5).toNatClampNeg)) hE (rmD_ok (by omega) (by decide)) rfl (Nat.le_of_ble_eq_true rfl) rfl d_T_takeName_25 (x_rI (fun x u1 h9 => ?_))
    obtain ⟨rfl, rfl⟩ := h9
    refine x_if_ne (tgt := 33) d_T_takeName_28 rfl (fun hc => ?_) (fun hc => ?_)
    · have h := h.1 hc
      refine x_iconst (v := 0) d_T_takeName_33 (by decide) ?_
      refine x_istore_n (lv' := [(3, .int 0), (2, .int v1), (0, .ref o), (1, .int a0)]) d_T_takeName_34 (by decide) rfl ?_
      refine x_sub [2, 3, 1, 0] rfl ?_
      obtain ⟨f9, h⟩ := h
      exact w_T_takeName_35 l D cs Ev hE adK adV fm X o a d post  f9 a0 v1 0 u h
    · have h := h.2 hc
      refine x_iconst (v := 0) d_T_takeName_31 (by decide) ?_
      refine x_zret rfl d_T_takeName_32 ⟨_, rfl, ?_⟩
      exact h
def P_T_takeQuote_18 (post : Int32 → MS → Prop) : Nat → Int32 → MS → Prop
  | 0, _, _ => False
  | f + 1, x1, u => (((gI u 4) ≤ x1 → post 0 u) ∧ (¬ (gI u 4) ≤ x1 → (vp_in x1 80 ∧ ((¬ (gA u 0 x1.toNatClampNeg) = 39 → P_T_takeQuote_18 post f (x1 + 1) u) ∧ ((gA u 0 x1.toNatClampNeg) = 39 → post 1 (sI u 5 (x1 + (1 : Int32))))))))
set_option maxHeartbeats 600000 in
set_option maxRecDepth 100000 in
theorem w_T_takeQuote_18 (l : Launch) (D : va_G) (cs : Nat → ClassId) (Ev : (Nat → Prop) → State → Prop) (hE : xEok Ev) (adK adV : Nat → Nat) (fm : Option Nat) (X : xEv adK adV fm Ev) (o : Nat) (a : Nat → Nat) (d : Nat) (post : Int32 → MS → Prop) : ∀ (f : Nat) (x1 : Int32) (u : MS), P_T_takeQuote_18 post  f x1 u → RR l D clX (tysX cs) Ev "DeckFront$Tape" b_T_takeQuote 2 w_T_takeQuote (rmD (d + 1)) (some .boolean) (wdS o a cs) (pI post) 0 0 0 0 18 [(0, .ref o), (1, .int x1)] [] u := by
  intro f
  induction f with
  | zero => intro x1 u h; exact h.elim
  | succ f ih =>
    intro x1 u h
    unfold P_T_takeQuote_18 at h
    refine x_iload_n (x := x1) d_T_takeQuote_18 rfl ?_
    refine x_aload_n (x := o) d_T_takeQuote_19 rfl ?_
    refine x_get (v := .int (gI u 4)) f_T_25 (eS_o _ _ _ _) rfl d_T_takeQuote_20 ?_
    refine x_icmp_ge (tgt := 52) d_T_takeQuote_23 rfl (fun hc => ?_) (fun hc => ?_)
    · have h := h.1 hc
      refine x_iconst (v := 0) d_T_takeQuote_52 (by decide) ?_
      refine x_zret rfl d_T_takeQuote_53 ⟨_, rfl, ?_⟩
      exact h
    · have h := h.2 hc
      refine x_aload_n (x := o) d_T_takeQuote_26 rfl ?_
      refine x_get (v := .ref (a 0)) f_T_9 (eS_o _ _ _ _) rfl d_T_takeQuote_27 ?_
      refine x_iload_n (x := x1) d_T_takeQuote_30 rfl ?_
      refine x_cald (t0 := 1) (eS_0 _ _ _ _) rfl h.1 d_T_takeQuote_31 ?_
      have h := h.2
      refine x_bipush (v := 39) d_T_takeQuote_32 (by decide) ?_
      refine x_icmp_ne (tgt := 46) d_T_takeQuote_34 rfl (fun hc => ?_) (fun hc => ?_)
      · have h := h.1 hc
        refine x_iinc (v := x1 + 1) (lv' := [(1, .int (x1 + 1)), (0, .ref o)]) d_T_takeQuote_46 rfl rfl (by decide) rfl ?_
        refine x_goto (tgt := 18) d_T_takeQuote_49 rfl ?_
        refine x_sub [1, 0] rfl ?_
        exact ih (x1 + 1) u h
      · have h := h.2 hc
        refine x_aload_n (x := o) d_T_takeQuote_37 rfl ?_
        refine x_iload_n (x := x1) d_T_takeQuote_38 rfl ?_
        refine x_iconst (v := 1) d_T_takeQuote_39 (by decide) ?_
        refine x_iadd d_T_takeQuote_40 ?_
        refine x_put f_T_29 fw_S_5 (eS_o _ _ _ _) rfl rfl (Nat.le_of_ble_eq_true rfl) (sS_5 _ _ _ _ _) d_T_takeQuote_41 ?_
        refine x_iconst (v := 1) d_T_takeQuote_44 (by decide) ?_
        refine x_zret rfl d_T_takeQuote_45 ⟨_, rfl, ?_⟩
        exact h
def P_T_takeQuote (post : Int32 → MS → Prop) (u : MS) : Prop := P_T_isNext (fun r2 u1 => ((¬ r2 = 0 → (∀ v3, v3 = ((gI u1 5) + (1 : Int32)) → (∃ g, P_T_takeQuote_18 post g v3 u1))) ∧ (r2 = 0 → post 0 u1))) (39 : Int32) u
set_option maxHeartbeats 600000 in
set_option maxRecDepth 100000 in
theorem c_T_takeQuote (l : Launch) (D : va_G) (cs : Nat → ClassId) (Ev : (Nat → Prop) → State → Prop) (hE : xEok Ev) (adK adV : Nat → Nat) (fm : Option Nat) (X : xEv adK adV fm Ev) (o : Nat) (a : Nat → Nat) (d : Nat) (post : Int32 → MS → Prop) (u : MS) (h : P_T_takeQuote post  u) : xC l D clX (tysX cs) Ev y_T_takeQuote w_T_takeQuote (rmD (d + 1)) (wdS o a cs) [.ref o] u (pI post) 0 0 := by
  unfold P_T_takeQuote at h
  refine xC.of (cc := b_T_takeQuote) (nL := 2) (ret := (some .boolean)) (by decide) rfl (Nat.le_of_ble_eq_true rfl) ?_
  show RR l D clX (tysX cs) Ev "DeckFront$Tape" b_T_takeQuote 2 w_T_takeQuote (rmD (d + 1)) (some .boolean) (wdS o a cs) (pI post) 0 0 0 0 0 [(0, .ref o)] [] u
  refine x_aload_n (x := o) d_T_takeQuote_0 rfl ?_
  refine x_bipush (v := 39) d_T_takeQuote_1 (by decide) ?_
  refine x_callV (st := []) k_T_55 rfl (eS_o _ _ _ _) x_id (c_T_isNext l D cs Ev hE adK adV fm X o a (d + 0) _ (39 : Int32) u h) hE (rmD_ok (by omega) (by decide)) rfl (Nat.le_of_ble_eq_true rfl) rfl d_T_takeQuote_3 (x_rI (fun r2 u1 h => ?_))
  refine x_if_ne (tgt := 11) d_T_takeQuote_6 rfl (fun hc => ?_) (fun hc => ?_)
  · have h := h.1 hc
    refine x_aload_n (x := o) d_T_takeQuote_11 rfl ?_
    refine x_get (v := .int (gI u1 5)) f_T_29 (eS_o _ _ _ _) rfl d_T_takeQuote_12 ?_
    refine x_iconst (v := 1) d_T_takeQuote_15 (by decide) ?_
    refine x_iadd d_T_takeQuote_16 ?_
    refine x_topI (fun v3 ev3 => ?_)
    have h := h v3 ev3
    refine x_istore_n (lv' := [(1, .int v3), (0, .ref o)]) d_T_takeQuote_17 (by decide) rfl ?_
    refine x_sub [1, 0] rfl ?_
    obtain ⟨f9, h⟩ := h
    exact w_T_takeQuote_18 l D cs Ev hE adK adV fm X o a d post  f9 v3 u1 h
  · have h := h.2 hc
    refine x_iconst (v := 0) d_T_takeQuote_9 (by decide) ?_
    refine x_zret rfl d_T_takeQuote_10 ⟨_, rfl, ?_⟩
    exact h
def P_T_digitsEnd_2 (post : Int32 → MS → Prop) : Nat → Int32 → MS → Prop
  | 0, _, _ => False
  | f + 1, x2, u => (((gI u 4) ≤ x2 → post x2 u) ∧ (¬ (gI u 4) ≤ x2 → (vp_in x2 80 ∧ (((isDig (gA u 0 x2.toNatClampNeg)) = 0 → post x2 u) ∧ (¬ (isDig (gA u 0 x2.toNatClampNeg)) = 0 → P_T_digitsEnd_2 post f (x2 + 1) u)))))
set_option maxHeartbeats 600000 in
set_option maxRecDepth 100000 in
theorem w_T_digitsEnd_2 (l : Launch) (D : va_G) (cs : Nat → ClassId) (Ev : (Nat → Prop) → State → Prop) (hE : xEok Ev) (adK adV : Nat → Nat) (fm : Option Nat) (X : xEv adK adV fm Ev) (o : Nat) (a : Nat → Nat) (d : Nat) (post : Int32 → MS → Prop) : ∀ (f : Nat) (x2 : Int32) (u : MS), P_T_digitsEnd_2 post  f x2 u → RR l D clX (tysX cs) Ev "DeckFront$Tape" b_T_digitsEnd 3 w_T_digitsEnd (rmD (d + 1)) (some .int) (wdS o a cs) (pI post) 0 0 0 0 2 [(0, .ref o), (2, .int x2)] [] u := by
  intro f
  induction f with
  | zero => intro x2 u h; exact h.elim
  | succ f ih =>
    intro x2 u h
    unfold P_T_digitsEnd_2 at h
    refine x_iload_n (x := x2) d_T_digitsEnd_2 rfl ?_
    refine x_aload_n (x := o) d_T_digitsEnd_3 rfl ?_
    refine x_get (v := .int (gI u 4)) f_T_25 (eS_o _ _ _ _) rfl d_T_digitsEnd_4 ?_
    refine x_icmp_ge (tgt := 28) d_T_digitsEnd_7 rfl (fun hc => ?_) (fun hc => ?_)
    · have h := h.1 hc
      refine x_iload_n (x := x2) d_T_digitsEnd_28 rfl ?_
      refine x_iret d_T_digitsEnd_29 ⟨_, rfl, ?_⟩
      exact h
    · have h := h.2 hc
      refine x_aload_n (x := o) d_T_digitsEnd_10 rfl ?_
      refine x_get (v := .ref (a 0)) f_T_9 (eS_o _ _ _ _) rfl d_T_digitsEnd_11 ?_
      refine x_iload_n (x := x2) d_T_digitsEnd_14 rfl ?_
      refine x_cald (t0 := 1) (eS_0 _ _ _ _) rfl h.1 d_T_digitsEnd_15 ?_
      have h := h.2
      refine x_callSN (st := []) (k_T_59 X) x_none (cf_D_isDigit l D cs Ev hE adK adV fm X (d + 0) (gA u 0 x2.toNatClampNeg)) hE (rmD_ok (by omega) (by decide)) rfl (Nat.le_of_ble_eq_true rfl) rfl d_T_digitsEnd_16 (x_rI (fun x u1 h9 => ?_))
      obtain ⟨rfl, rfl⟩ := h9
      refine x_if_eq (tgt := 28) d_T_digitsEnd_19 rfl (fun hc => ?_) (fun hc => ?_)
      · have h := h.1 hc
        refine x_iload_n (x := x2) d_T_digitsEnd_28 rfl ?_
        refine x_iret d_T_digitsEnd_29 ⟨_, rfl, ?_⟩
        exact h
      · have h := h.2 hc
        refine x_iinc (v := x2 + 1) (lv' := [(2, .int (x2 + 1)), (0, .ref o)]) d_T_digitsEnd_22 rfl rfl (by decide) rfl ?_
        refine x_goto (tgt := 2) d_T_digitsEnd_25 rfl ?_
        refine x_sub [1, 0] rfl ?_
        exact ih (x2 + 1) u h
def P_T_digitsEnd (post : Int32 → MS → Prop) (a0 : Int32) (u : MS) : Prop := (∃ g, P_T_digitsEnd_2 post g a0 u)
set_option maxHeartbeats 600000 in
set_option maxRecDepth 100000 in
theorem c_T_digitsEnd (l : Launch) (D : va_G) (cs : Nat → ClassId) (Ev : (Nat → Prop) → State → Prop) (hE : xEok Ev) (adK adV : Nat → Nat) (fm : Option Nat) (X : xEv adK adV fm Ev) (o : Nat) (a : Nat → Nat) (d : Nat) (post : Int32 → MS → Prop) (a0 : Int32) (u : MS) (h : P_T_digitsEnd post a0 u) : xC l D clX (tysX cs) Ev y_T_digitsEnd w_T_digitsEnd (rmD (d + 1)) (wdS o a cs) [.ref o, .int a0] u (pI post) 0 0 := by
  unfold P_T_digitsEnd at h
  refine xC.of (cc := b_T_digitsEnd) (nL := 3) (ret := (some .int)) (by decide) rfl (Nat.le_of_ble_eq_true rfl) ?_
  show RR l D clX (tysX cs) Ev "DeckFront$Tape" b_T_digitsEnd 3 w_T_digitsEnd (rmD (d + 1)) (some .int) (wdS o a cs) (pI post) 0 0 0 0 0 [(0, .ref o), (1, .int a0)] [] u
  refine x_iload_n (x := a0) d_T_digitsEnd_0 rfl ?_
  refine x_istore_n (lv' := [(2, .int a0), (0, .ref o), (1, .int a0)]) d_T_digitsEnd_1 (by decide) rfl ?_
  refine x_sub [1, 0] rfl ?_
  obtain ⟨f9, h⟩ := h
  exact w_T_digitsEnd_2 l D cs Ev hE adK adV fm X o a d post  f9 a0 u h
def P_T_standsLogicalWord (post : Int32 → MS → Prop) (a0 : Int32) (u : MS) : Prop := P_T_stands (fun r2 u1 => ((¬ r2 = 0 → post 1 u1) ∧ (r2 = 0 → P_T_stands (fun r4 u3 => ((¬ r4 = 0 → post 1 u3) ∧ (r4 = 0 → P_T_stands (fun r6 u5 => ((¬ r6 = 0 → post 1 u5) ∧ (r6 = 0 → P_T_stands (fun r8 u7 => ((¬ r8 = 0 → post 1 u7) ∧ (r8 = 0 → P_T_stands (fun r10 u9 => ((¬ r10 = 0 → post 1 u9) ∧ (r10 = 0 → P_T_stands (fun r12 u11 => ((¬ r12 = 0 → post 1 u11) ∧ (r12 = 0 → P_T_stands (fun r14 u13 => ((¬ r14 = 0 → post 1 u13) ∧ (r14 = 0 → P_T_stands (fun r16 u15 => ((¬ r16 = 0 → post 1 u15) ∧ (r16 = 0 → P_T_stands (fun r18 u17 => ((¬ r18 = 0 → post 1 u17) ∧ (r18 = 0 → P_T_stands (fun r20 u19 => ((¬ r20 = 0 → post 1 u19) ∧ (r20 = 0 → P_T_stands (fun r22 u21 => ((r22 = 0 → post 0 u21) ∧ (¬ r22 = 0 → post 1 u21))) 16 a0 u19))) 15 a0 u17))) 14 a0 u15))) 13 a0 u13))) 12 a0 u11))) 11 a0 u9))) 10 a0 u7))) 9 a0 u5))) 8 a0 u3))) 7 a0 u1))) 6 a0 u
set_option maxHeartbeats 600000 in
set_option maxRecDepth 100000 in
theorem c_T_standsLogicalWord (l : Launch) (D : va_G) (cs : Nat → ClassId) (Ev : (Nat → Prop) → State → Prop) (hE : xEok Ev) (adK adV : Nat → Nat) (fm : Option Nat) (X : xEv adK adV fm Ev) (o : Nat) (a : Nat → Nat) (d : Nat) (post : Int32 → MS → Prop) (a0 : Int32) (u : MS) (h : P_T_standsLogicalWord post a0 u) : xC l D clX (tysX cs) Ev y_T_standsLogicalWord w_T_standsLogicalWord (rmD (d + 5)) (wdS o a cs) [.ref o, .int a0] u (pI post) 0 0 := by
  unfold P_T_standsLogicalWord at h
  refine xC.of (cc := b_T_standsLogicalWord) (nL := 2) (ret := (some .boolean)) (by decide) rfl (Nat.le_of_ble_eq_true rfl) ?_
  show RR l D clX (tysX cs) Ev "DeckFront$Tape" b_T_standsLogicalWord 2 w_T_standsLogicalWord (rmD (d + 5)) (some .boolean) (wdS o a cs) (pI post) 0 0 0 0 0 [(0, .ref o), (1, .int a0)] [] u
  refine x_aload_n (x := o) d_T_standsLogicalWord_0 rfl ?_
  refine x_iload_n (x := a0) d_T_standsLogicalWord_1 rfl ?_
  refine x_ldcS (fun A s h9 => ((X A s h9).2.1 6 (by decide)).1) d_T_standsLogicalWord_2 ?_
  refine x_callV (st := []) k_T_51 rfl (eS_o _ _ _ _) x_id (c_T_stands l D cs Ev hE adK adV fm X o a 6 (by decide) (d + 0) _ a0 u h) hE (rmD_ok (by omega) (by decide)) rfl (Nat.le_of_ble_eq_true rfl) rfl d_T_standsLogicalWord_4 (x_rI (fun r2 u1 h => ?_))
  refine x_if_ne (tgt := 110) d_T_standsLogicalWord_7 rfl (fun hc => ?_) (fun hc => ?_)
  · have h := h.1 hc
    refine x_iconst (v := 1) d_T_standsLogicalWord_110 (by decide) ?_
    refine x_goto (tgt := 115) d_T_standsLogicalWord_111 rfl ?_
    refine x_zret rfl d_T_standsLogicalWord_115 ⟨_, rfl, ?_⟩
    exact h
  · have h := h.2 hc
    refine x_aload_n (x := o) d_T_standsLogicalWord_10 rfl ?_
    refine x_iload_n (x := a0) d_T_standsLogicalWord_11 rfl ?_
    refine x_ldcS (fun A s h9 => ((X A s h9).2.1 7 (by decide)).1) d_T_standsLogicalWord_12 ?_
    refine x_callV (st := []) k_T_51 rfl (eS_o _ _ _ _) x_id (c_T_stands l D cs Ev hE adK adV fm X o a 7 (by decide) (d + 0) _ a0 u1 h) hE (rmD_ok (by omega) (by decide)) rfl (Nat.le_of_ble_eq_true rfl) rfl d_T_standsLogicalWord_14 (x_rI (fun r4 u3 h => ?_))
    refine x_if_ne (tgt := 110) d_T_standsLogicalWord_17 rfl (fun hc => ?_) (fun hc => ?_)
    · have h := h.1 hc
      refine x_iconst (v := 1) d_T_standsLogicalWord_110 (by decide) ?_
      refine x_goto (tgt := 115) d_T_standsLogicalWord_111 rfl ?_
      refine x_zret rfl d_T_standsLogicalWord_115 ⟨_, rfl, ?_⟩
      exact h
    · have h := h.2 hc
      refine x_aload_n (x := o) d_T_standsLogicalWord_20 rfl ?_
      refine x_iload_n (x := a0) d_T_standsLogicalWord_21 rfl ?_
      refine x_ldcS (fun A s h9 => ((X A s h9).2.1 8 (by decide)).1) d_T_standsLogicalWord_22 ?_
      refine x_callV (st := []) k_T_51 rfl (eS_o _ _ _ _) x_id (c_T_stands l D cs Ev hE adK adV fm X o a 8 (by decide) (d + 0) _ a0 u3 h) hE (rmD_ok (by omega) (by decide)) rfl (Nat.le_of_ble_eq_true rfl) rfl d_T_standsLogicalWord_24 (x_rI (fun r6 u5 h => ?_))
      refine x_if_ne (tgt := 110) d_T_standsLogicalWord_27 rfl (fun hc => ?_) (fun hc => ?_)
      · have h := h.1 hc
        refine x_iconst (v := 1) d_T_standsLogicalWord_110 (by decide) ?_
        refine x_goto (tgt := 115) d_T_standsLogicalWord_111 rfl ?_
        refine x_zret rfl d_T_standsLogicalWord_115 ⟨_, rfl, ?_⟩
        exact h
      · have h := h.2 hc
        refine x_aload_n (x := o) d_T_standsLogicalWord_30 rfl ?_
        refine x_iload_n (x := a0) d_T_standsLogicalWord_31 rfl ?_
        refine x_ldcS (fun A s h9 => ((X A s h9).2.1 9 (by decide)).1) d_T_standsLogicalWord_32 ?_
        refine x_callV (st := []) k_T_51 rfl (eS_o _ _ _ _) x_id (c_T_stands l D cs Ev hE adK adV fm X o a 9 (by decide) (d + 0) _ a0 u5 h) hE (rmD_ok (by omega) (by decide)) rfl (Nat.le_of_ble_eq_true rfl) rfl d_T_standsLogicalWord_34 (x_rI (fun r8 u7 h => ?_))
        refine x_if_ne (tgt := 110) d_T_standsLogicalWord_37 rfl (fun hc => ?_) (fun hc => ?_)
        · have h := h.1 hc
          refine x_iconst (v := 1) d_T_standsLogicalWord_110 (by decide) ?_
          refine x_goto (tgt := 115) d_T_standsLogicalWord_111 rfl ?_
          refine x_zret rfl d_T_standsLogicalWord_115 ⟨_, rfl, ?_⟩
          exact h
        · have h := h.2 hc
          refine x_aload_n (x := o) d_T_standsLogicalWord_40 rfl ?_
          refine x_iload_n (x := a0) d_T_standsLogicalWord_41 rfl ?_
          refine x_ldcS (fun A s h9 => ((X A s h9).2.1 10 (by decide)).1) d_T_standsLogicalWord_42 ?_
          refine x_callV (st := []) k_T_51 rfl (eS_o _ _ _ _) x_id (c_T_stands l D cs Ev hE adK adV fm X o a 10 (by decide) (d + 0) _ a0 u7 h) hE (rmD_ok (by omega) (by decide)) rfl (Nat.le_of_ble_eq_true rfl) rfl d_T_standsLogicalWord_44 (x_rI (fun r10 u9 h => ?_))
          refine x_if_ne (tgt := 110) d_T_standsLogicalWord_47 rfl (fun hc => ?_) (fun hc => ?_)
          · have h := h.1 hc
            refine x_iconst (v := 1) d_T_standsLogicalWord_110 (by decide) ?_
            refine x_goto (tgt := 115) d_T_standsLogicalWord_111 rfl ?_
            refine x_zret rfl d_T_standsLogicalWord_115 ⟨_, rfl, ?_⟩
            exact h
          · have h := h.2 hc
            refine x_aload_n (x := o) d_T_standsLogicalWord_50 rfl ?_
            refine x_iload_n (x := a0) d_T_standsLogicalWord_51 rfl ?_
            refine x_ldcS (fun A s h9 => ((X A s h9).2.1 11 (by decide)).1) d_T_standsLogicalWord_52 ?_
            refine x_callV (st := []) k_T_51 rfl (eS_o _ _ _ _) x_id (c_T_stands l D cs Ev hE adK adV fm X o a 11 (by decide) (d + 0) _ a0 u9 h) hE (rmD_ok (by omega) (by decide)) rfl (Nat.le_of_ble_eq_true rfl) rfl d_T_standsLogicalWord_54 (x_rI (fun r12 u11 h => ?_))
            refine x_if_ne (tgt := 110) d_T_standsLogicalWord_57 rfl (fun hc => ?_) (fun hc => ?_)
            · have h := h.1 hc
              refine x_iconst (v := 1) d_T_standsLogicalWord_110 (by decide) ?_
              refine x_goto (tgt := 115) d_T_standsLogicalWord_111 rfl ?_
              refine x_zret rfl d_T_standsLogicalWord_115 ⟨_, rfl, ?_⟩
              exact h
            · have h := h.2 hc
              refine x_aload_n (x := o) d_T_standsLogicalWord_60 rfl ?_
              refine x_iload_n (x := a0) d_T_standsLogicalWord_61 rfl ?_
              refine x_ldcS (fun A s h9 => ((X A s h9).2.1 12 (by decide)).1) d_T_standsLogicalWord_62 ?_
              refine x_callV (st := []) k_T_51 rfl (eS_o _ _ _ _) x_id (c_T_stands l D cs Ev hE adK adV fm X o a 12 (by decide) (d + 0) _ a0 u11 h) hE (rmD_ok (by omega) (by decide)) rfl (Nat.le_of_ble_eq_true rfl) rfl d_T_standsLogicalWord_64 (x_rI (fun r14 u13 h => ?_))
              refine x_if_ne (tgt := 110) d_T_standsLogicalWord_67 rfl (fun hc => ?_) (fun hc => ?_)
              · have h := h.1 hc
                refine x_iconst (v := 1) d_T_standsLogicalWord_110 (by decide) ?_
                refine x_goto (tgt := 115) d_T_standsLogicalWord_111 rfl ?_
                refine x_zret rfl d_T_standsLogicalWord_115 ⟨_, rfl, ?_⟩
                exact h
              · have h := h.2 hc
                refine x_aload_n (x := o) d_T_standsLogicalWord_70 rfl ?_
                refine x_iload_n (x := a0) d_T_standsLogicalWord_71 rfl ?_
                refine x_ldcS (fun A s h9 => ((X A s h9).2.1 13 (by decide)).1) d_T_standsLogicalWord_72 ?_
                refine x_callV (st := []) k_T_51 rfl (eS_o _ _ _ _) x_id (c_T_stands l D cs Ev hE adK adV fm X o a 13 (by decide) (d + 0) _ a0 u13 h) hE (rmD_ok (by omega) (by decide)) rfl (Nat.le_of_ble_eq_true rfl) rfl d_T_standsLogicalWord_74 (x_rI (fun r16 u15 h => ?_))
                refine x_if_ne (tgt := 110) d_T_standsLogicalWord_77 rfl (fun hc => ?_) (fun hc => ?_)
                · have h := h.1 hc
                  refine x_iconst (v := 1) d_T_standsLogicalWord_110 (by decide) ?_
                  refine x_goto (tgt := 115) d_T_standsLogicalWord_111 rfl ?_
                  refine x_zret rfl d_T_standsLogicalWord_115 ⟨_, rfl, ?_⟩
                  exact h
                · have h := h.2 hc
                  refine x_aload_n (x := o) d_T_standsLogicalWord_80 rfl ?_
                  refine x_iload_n (x := a0) d_T_standsLogicalWord_81 rfl ?_
                  refine x_ldcS (fun A s h9 => ((X A s h9).2.1 14 (by decide)).1) d_T_standsLogicalWord_82 ?_
                  refine x_callV (st := []) k_T_51 rfl (eS_o _ _ _ _) x_id (c_T_stands l D cs Ev hE adK adV fm X o a 14 (by decide) (d + 0) _ a0 u15 h) hE (rmD_ok (by omega) (by decide)) rfl (Nat.le_of_ble_eq_true rfl) rfl d_T_standsLogicalWord_84 (x_rI (fun r18 u17 h => ?_))
                  refine x_if_ne (tgt := 110) d_T_standsLogicalWord_87 rfl (fun hc => ?_) (fun hc => ?_)
                  · have h := h.1 hc
                    refine x_iconst (v := 1) d_T_standsLogicalWord_110 (by decide) ?_
                    refine x_goto (tgt := 115) d_T_standsLogicalWord_111 rfl ?_
                    refine x_zret rfl d_T_standsLogicalWord_115 ⟨_, rfl, ?_⟩
                    exact h
                  · have h := h.2 hc
                    refine x_aload_n (x := o) d_T_standsLogicalWord_90 rfl ?_
                    refine x_iload_n (x := a0) d_T_standsLogicalWord_91 rfl ?_
                    refine x_ldcS (fun A s h9 => ((X A s h9).2.1 15 (by decide)).1) d_T_standsLogicalWord_92 ?_
                    refine x_callV (st := []) k_T_51 rfl (eS_o _ _ _ _) x_id (c_T_stands l D cs Ev hE adK adV fm X o a 15 (by decide) (d + 0) _ a0 u17 h) hE (rmD_ok (by omega) (by decide)) rfl (Nat.le_of_ble_eq_true rfl) rfl d_T_standsLogicalWord_94 (x_rI (fun r20 u19 h => ?_))
                    refine x_if_ne (tgt := 110) d_T_standsLogicalWord_97 rfl (fun hc => ?_) (fun hc => ?_)
                    · have h := h.1 hc
                      refine x_iconst (v := 1) d_T_standsLogicalWord_110 (by decide) ?_
                      refine x_goto (tgt := 115) d_T_standsLogicalWord_111 rfl ?_
                      refine x_zret rfl d_T_standsLogicalWord_115 ⟨_, rfl, ?_⟩
                      exact h
                    · have h := h.2 hc
                      refine x_aload_n (x := o) d_T_standsLogicalWord_100 rfl ?_
                      refine x_iload_n (x := a0) d_T_standsLogicalWord_101 rfl ?_
                      refine x_ldcS (fun A s h9 => ((X A s h9).2.1 16 (by decide)).1) d_T_standsLogicalWord_102 ?_
                      refine x_callV (st := []) k_T_51 rfl (eS_o _ _ _ _) x_id (c_T_stands l D cs Ev hE adK adV fm X o a 16 (by decide) (d + 0) _ a0 u19 h) hE (rmD_ok (by omega) (by decide)) rfl (Nat.le_of_ble_eq_true rfl) rfl d_T_standsLogicalWord_104 (x_rI (fun r22 u21 h => ?_))
                      refine x_if_eq (tgt := 114) d_T_standsLogicalWord_107 rfl (fun hc => ?_) (fun hc => ?_)
                      · have h := h.1 hc
                        refine x_iconst (v := 0) d_T_standsLogicalWord_114 (by decide) ?_
                        refine x_zret rfl d_T_standsLogicalWord_115 ⟨_, rfl, ?_⟩
                        exact h
                      · have h := h.2 hc
                        refine x_iconst (v := 1) d_T_standsLogicalWord_110 (by decide) ?_
                        refine x_goto (tgt := 115) d_T_standsLogicalWord_111 rfl ?_
                        refine x_zret rfl d_T_standsLogicalWord_115 ⟨_, rfl, ?_⟩
                        exact h
def P_T_takeDecimal_77 (post : Int32 → MS → Prop) (x1 : Int32) (s0 : Int32) (u : MS) : Prop := (narrow .boolean (.int s0) = .int s0 ∧ post s0 (sI u 5 x1))
set_option maxHeartbeats 600000 in
set_option maxRecDepth 100000 in
theorem w_T_takeDecimal_77 (l : Launch) (D : va_G) (cs : Nat → ClassId) (Ev : (Nat → Prop) → State → Prop) (hE : xEok Ev) (adK adV : Nat → Nat) (fm : Option Nat) (X : xEv adK adV fm Ev) (o : Nat) (a : Nat → Nat) (d : Nat) (post : Int32 → MS → Prop) (x1 : Int32) (s0 : Int32) (u : MS) (h : P_T_takeDecimal_77 post  x1 s0 u) : RR l D clX (tysX cs) Ev "DeckFront$Tape" b_T_takeDecimal 4 w_T_takeDecimal (rmD (d + 6)) (some .boolean) (wdS o a cs) (pI post) 0 0 0 0 77 [(0, .ref o), (1, .int x1)] [.int s0] u := by
  unfold P_T_takeDecimal_77 at h
  refine x_istore_n (lv' := [(3, .int s0), (0, .ref o), (1, .int x1)]) d_T_takeDecimal_77 (by decide) rfl ?_
  refine x_aload_n (x := o) d_T_takeDecimal_78 rfl ?_
  refine x_iload_n (x := x1) d_T_takeDecimal_79 rfl ?_
  refine x_put f_T_29 fw_S_5 (eS_o _ _ _ _) rfl rfl (Nat.le_of_ble_eq_true rfl) (sS_5 _ _ _ _ _) d_T_takeDecimal_80 ?_
  refine x_iload_n (x := s0) d_T_takeDecimal_83 rfl ?_
  refine x_zret h.1 d_T_takeDecimal_84 ⟨_, rfl, ?_⟩
  exact h.2
def P_T_takeDecimal_64 (post : Int32 → MS → Prop) (x1 : Int32) (u : MS) : Prop := ((x1 ≤ (gI u 5) → P_T_takeDecimal_77 post x1 0 u) ∧ (¬ x1 ≤ (gI u 5) → P_T_takeDecimal_77 post x1 1 u))
set_option maxHeartbeats 600000 in
set_option maxRecDepth 100000 in
theorem w_T_takeDecimal_64 (l : Launch) (D : va_G) (cs : Nat → ClassId) (Ev : (Nat → Prop) → State → Prop) (hE : xEok Ev) (adK adV : Nat → Nat) (fm : Option Nat) (X : xEv adK adV fm Ev) (o : Nat) (a : Nat → Nat) (d : Nat) (post : Int32 → MS → Prop) (x1 : Int32) (u : MS) (h : P_T_takeDecimal_64 post  x1 u) : RR l D clX (tysX cs) Ev "DeckFront$Tape" b_T_takeDecimal 4 w_T_takeDecimal (rmD (d + 6)) (some .boolean) (wdS o a cs) (pI post) 0 0 0 0 64 [(0, .ref o), (1, .int x1)] [] u := by
  unfold P_T_takeDecimal_64 at h
  refine x_iload_n (x := x1) d_T_takeDecimal_64 rfl ?_
  refine x_aload_n (x := o) d_T_takeDecimal_65 rfl ?_
  refine x_get (v := .int (gI u 5)) f_T_29 (eS_o _ _ _ _) rfl d_T_takeDecimal_66 ?_
  refine x_icmp_le (tgt := 76) d_T_takeDecimal_69 rfl (fun hc => ?_) (fun hc => ?_)
  · have h := h.1 hc
    refine x_iconst (v := 0) d_T_takeDecimal_76 (by decide) ?_
    exact w_T_takeDecimal_77 l D cs Ev hE adK adV fm X o a d post  x1 0 u h
  · have h := h.2 hc
    refine x_iconst (v := 1) d_T_takeDecimal_72 (by decide) ?_
    refine x_goto (tgt := 77) d_T_takeDecimal_73 rfl ?_
    exact w_T_takeDecimal_77 l D cs Ev hE adK adV fm X o a d post  x1 1 u h
def P_T_takeDecimal_62 (post : Int32 → MS → Prop) (x3 : Int32) (u : MS) : Prop := P_T_takeDecimal_64 post x3 u
set_option maxHeartbeats 600000 in
set_option maxRecDepth 100000 in
theorem w_T_takeDecimal_62 (l : Launch) (D : va_G) (cs : Nat → ClassId) (Ev : (Nat → Prop) → State → Prop) (hE : xEok Ev) (adK adV : Nat → Nat) (fm : Option Nat) (X : xEv adK adV fm Ev) (o : Nat) (a : Nat → Nat) (d : Nat) (post : Int32 → MS → Prop) (x3 : Int32) (u : MS) (h : P_T_takeDecimal_62 post  x3 u) : RR l D clX (tysX cs) Ev "DeckFront$Tape" b_T_takeDecimal 4 w_T_takeDecimal (rmD (d + 6)) (some .boolean) (wdS o a cs) (pI post) 0 0 0 0 62 [(0, .ref o), (3, .int x3)] [] u := by
  unfold P_T_takeDecimal_62 at h
  refine x_iload_n (x := x3) d_T_takeDecimal_62 rfl ?_
  refine x_istore_n (lv' := [(1, .int x3), (0, .ref o), (3, .int x3)]) d_T_takeDecimal_63 (by decide) rfl ?_
  refine x_sub [1, 0] rfl ?_
  exact w_T_takeDecimal_64 l D cs Ev hE adK adV fm X o a d post  x3 u h
def P_T_takeDecimal_22 (post : Int32 → MS → Prop) (x1 : Int32) (s0 : Int32) (u : MS) : Prop := P_T_stands (fun r4 u3 => ((r4 = 0 → P_T_takeDecimal_64 post x1 u3) ∧ (¬ r4 = 0 → P_T_standsLogicalWord (fun r6 u5 => ((¬ r6 = 0 → P_T_takeDecimal_64 post x1 u5) ∧ (r6 = 0 → P_T_digitsEnd (fun r8 u7 => ((¬ s0 = 0 → P_T_takeDecimal_62 post r8 u7) ∧ (s0 = 0 → ((¬ r8 = (x1 + (1 : Int32)) → P_T_takeDecimal_62 post r8 u7) ∧ (r8 = (x1 + (1 : Int32)) → post 0 u7))))) (x1 + (1 : Int32)) u5))) x1 u3))) 5 x1 u
set_option maxHeartbeats 600000 in
set_option maxRecDepth 100000 in
theorem w_T_takeDecimal_22 (l : Launch) (D : va_G) (cs : Nat → ClassId) (Ev : (Nat → Prop) → State → Prop) (hE : xEok Ev) (adK adV : Nat → Nat) (fm : Option Nat) (X : xEv adK adV fm Ev) (o : Nat) (a : Nat → Nat) (d : Nat) (post : Int32 → MS → Prop) (x1 : Int32) (s0 : Int32) (u : MS) (h : P_T_takeDecimal_22 post  x1 s0 u) : RR l D clX (tysX cs) Ev "DeckFront$Tape" b_T_takeDecimal 4 w_T_takeDecimal (rmD (d + 6)) (some .boolean) (wdS o a cs) (pI post) 0 0 0 0 22 [(0, .ref o), (1, .int x1)] [.int s0] u := by
  unfold P_T_takeDecimal_22 at h
  refine x_istore_n (lv' := [(2, .int s0), (0, .ref o), (1, .int x1)]) d_T_takeDecimal_22 (by decide) rfl ?_
  refine x_aload_n (x := o) d_T_takeDecimal_23 rfl ?_
  refine x_iload_n (x := x1) d_T_takeDecimal_24 rfl ?_
  refine x_ldcS (fun A s h9 => ((X A s h9).2.1 5 (by decide)).1) d_T_takeDecimal_25 ?_
  refine x_callV (st := []) k_T_51 rfl (eS_o _ _ _ _) x_id (c_T_stands l D cs Ev hE adK adV fm X o a 5 (by decide) (d + 1) _ x1 u h) hE (rmD_ok (by omega) (by decide)) rfl (Nat.le_of_ble_eq_true rfl) rfl d_T_takeDecimal_27 (x_rI (fun r4 u3 h => ?_))
  refine x_if_eq (tgt := 64) d_T_takeDecimal_30 rfl (fun hc => ?_) (fun hc => ?_)
  · have h := h.1 hc
    refine x_sub [1, 2] rfl ?_
    exact w_T_takeDecimal_64 l D cs Ev hE adK adV fm X o a d post  x1 u3 h
  · have h := h.2 hc
    refine x_aload_n (x := o) d_T_takeDecimal_33 rfl ?_
    refine x_iload_n (x := x1) d_T_takeDecimal_34 rfl ?_
    refine x_callV (st := []) k_T_72 rfl (eS_o _ _ _ _) x_id (c_T_standsLogicalWord l D cs Ev hE adK adV fm X o a (d + 0) _ x1 u3 h) hE (rmD_ok (by omega) (by decide)) rfl (Nat.le_of_ble_eq_true rfl) rfl d_T_takeDecimal_35 (x_rI (fun r6 u5 h => ?_))
    refine x_if_ne (tgt := 64) d_T_takeDecimal_38 rfl (fun hc => ?_) (fun hc => ?_)
    · have h := h.1 hc
      refine x_sub [1, 2] rfl ?_
      exact w_T_takeDecimal_64 l D cs Ev hE adK adV fm X o a d post  x1 u5 h
    · have h := h.2 hc
      refine x_aload_n (x := o) d_T_takeDecimal_41 rfl ?_
      refine x_iload_n (x := x1) d_T_takeDecimal_42 rfl ?_
      refine x_iconst (v := 1) d_T_takeDecimal_43 (by decide) ?_
      refine x_iadd d_T_takeDecimal_44 ?_
      refine x_callV (st := []) k_T_66 rfl (eS_o _ _ _ _) x_id (c_T_digitsEnd l D cs Ev hE adK adV fm X o a (d + 4) _ (x1 + (1 : Int32)) u5 h) hE (rmD_ok (by omega) (by decide)) rfl (Nat.le_of_ble_eq_true rfl) rfl d_T_takeDecimal_45 (x_rI (fun r8 u7 h => ?_))
      refine x_istore_n (lv' := [(3, .int r8), (2, .int s0), (0, .ref o), (1, .int x1)]) d_T_takeDecimal_48 (by decide) rfl ?_
      refine x_iload_n (x := s0) d_T_takeDecimal_49 rfl ?_
      refine x_if_ne (tgt := 62) d_T_takeDecimal_50 rfl (fun hc => ?_) (fun hc => ?_)
      · have h := h.1 hc
        refine x_sub [2, 0] rfl ?_
        exact w_T_takeDecimal_62 l D cs Ev hE adK adV fm X o a d post  r8 u7 h
      · have h := h.2 hc
        refine x_iload_n (x := r8) d_T_takeDecimal_53 rfl ?_
        refine x_iload_n (x := x1) d_T_takeDecimal_54 rfl ?_
        refine x_iconst (v := 1) d_T_takeDecimal_55 (by decide) ?_
        refine x_iadd d_T_takeDecimal_56 ?_
        refine x_icmp_ne (tgt := 62) d_T_takeDecimal_57 rfl (fun hc => ?_) (fun hc => ?_)
        · have h := h.1 hc
          refine x_sub [2, 0] rfl ?_
          exact w_T_takeDecimal_62 l D cs Ev hE adK adV fm X o a d post  r8 u7 h
        · have h := h.2 hc
          refine x_iconst (v := 0) d_T_takeDecimal_60 (by decide) ?_
          refine x_zret rfl d_T_takeDecimal_61 ⟨_, rfl, ?_⟩
          exact h
def P_T_takeDecimal (post : Int32 → MS → Prop) (u : MS) : Prop := P_T_digitsEnd (fun r2 u1 => ((r2 ≤ (gI u1 5) → P_T_takeDecimal_22 post r2 0 u1) ∧ (¬ r2 ≤ (gI u1 5) → P_T_takeDecimal_22 post r2 1 u1))) (gI u 5) u
set_option maxHeartbeats 600000 in
set_option maxRecDepth 100000 in
theorem c_T_takeDecimal (l : Launch) (D : va_G) (cs : Nat → ClassId) (Ev : (Nat → Prop) → State → Prop) (hE : xEok Ev) (adK adV : Nat → Nat) (fm : Option Nat) (X : xEv adK adV fm Ev) (o : Nat) (a : Nat → Nat) (d : Nat) (post : Int32 → MS → Prop) (u : MS) (h : P_T_takeDecimal post  u) : xC l D clX (tysX cs) Ev y_T_takeDecimal w_T_takeDecimal (rmD (d + 6)) (wdS o a cs) [.ref o] u (pI post) 0 0 := by
  unfold P_T_takeDecimal at h
  refine xC.of (cc := b_T_takeDecimal) (nL := 4) (ret := (some .boolean)) (by decide) rfl (Nat.le_of_ble_eq_true rfl) ?_
  show RR l D clX (tysX cs) Ev "DeckFront$Tape" b_T_takeDecimal 4 w_T_takeDecimal (rmD (d + 6)) (some .boolean) (wdS o a cs) (pI post) 0 0 0 0 0 [(0, .ref o)] [] u
  refine x_aload_n (x := o) d_T_takeDecimal_0 rfl ?_
  refine x_aload_n (x := o) d_T_takeDecimal_1 rfl ?_
  refine x_get (v := .int (gI u 5)) f_T_29 (eS_o _ _ _ _) rfl d_T_takeDecimal_2 ?_
  refine x_callV (st := []) k_T_66 rfl (eS_o _ _ _ _) x_id (c_T_digitsEnd l D cs Ev hE adK adV fm X o a (d + 4) _ (gI u 5) u h) hE (rmD_ok (by omega) (by decide)) rfl (Nat.le_of_ble_eq_true rfl) rfl d_T_takeDecimal_5 (x_rI (fun r2 u1 h => ?_))
  refine x_istore_n (lv' := [(1, .int r2), (0, .ref o)]) d_T_takeDecimal_8 (by decide) rfl ?_
  refine x_iload_n (x := r2) d_T_takeDecimal_9 rfl ?_
  refine x_aload_n (x := o) d_T_takeDecimal_10 rfl ?_
  refine x_get (v := .int (gI u1 5)) f_T_29 (eS_o _ _ _ _) rfl d_T_takeDecimal_11 ?_
  refine x_icmp_le (tgt := 21) d_T_takeDecimal_14 rfl (fun hc => ?_) (fun hc => ?_)
  · have h := h.1 hc
    refine x_iconst (v := 0) d_T_takeDecimal_21 (by decide) ?_
    refine x_sub [1, 0] rfl ?_
    exact w_T_takeDecimal_22 l D cs Ev hE adK adV fm X o a d post  r2 0 u1 h
  · have h := h.2 hc
    refine x_iconst (v := 1) d_T_takeDecimal_17 (by decide) ?_
    refine x_goto (tgt := 22) d_T_takeDecimal_18 rfl ?_
    refine x_sub [1, 0] rfl ?_
    exact w_T_takeDecimal_22 l D cs Ev hE adK adV fm X o a d post  r2 1 u1 h
def P_T_takeExponent_50 (post : Int32 → MS → Prop) (s0 : Int32) (u : MS) : Prop := P_T_digitsEnd (fun r6 u5 => ((r6 ≤ s0 → post 1 (sI u5 5 (gI u5 5))) ∧ (¬ r6 ≤ s0 → post 1 (sI u5 5 r6)))) s0 u
set_option maxHeartbeats 600000 in
set_option maxRecDepth 100000 in
theorem w_T_takeExponent_50 (l : Launch) (D : va_G) (cs : Nat → ClassId) (Ev : (Nat → Prop) → State → Prop) (hE : xEok Ev) (adK adV : Nat → Nat) (fm : Option Nat) (X : xEv adK adV fm Ev) (o : Nat) (a : Nat → Nat) (d : Nat) (post : Int32 → MS → Prop) (s0 : Int32) (u : MS) (h : P_T_takeExponent_50 post  s0 u) : RR l D clX (tysX cs) Ev "DeckFront$Tape" b_T_takeExponent 3 w_T_takeExponent (rmD (d + 5)) (some .boolean) (wdS o a cs) (pI post) 0 0 0 0 50 [(0, .ref o)] [.int s0] u := by
  unfold P_T_takeExponent_50 at h
  refine x_istore_n (lv' := [(1, .int s0), (0, .ref o)]) d_T_takeExponent_50 (by decide) rfl ?_
  refine x_aload_n (x := o) d_T_takeExponent_51 rfl ?_
  refine x_iload_n (x := s0) d_T_takeExponent_52 rfl ?_
  refine x_callV (st := []) k_T_66 rfl (eS_o _ _ _ _) x_id (c_T_digitsEnd l D cs Ev hE adK adV fm X o a (d + 3) _ s0 u h) hE (rmD_ok (by omega) (by decide)) rfl (Nat.le_of_ble_eq_true rfl) rfl d_T_takeExponent_53 (x_rI (fun r6 u5 h => ?_))
  refine x_istore_n (lv' := [(2, .int r6), (1, .int s0), (0, .ref o)]) d_T_takeExponent_56 (by decide) rfl ?_
  refine x_aload_n (x := o) d_T_takeExponent_57 rfl ?_
  refine x_iload_n (x := r6) d_T_takeExponent_58 rfl ?_
  refine x_iload_n (x := s0) d_T_takeExponent_59 rfl ?_
  refine x_icmp_le (tgt := 67) d_T_takeExponent_60 rfl (fun hc => ?_) (fun hc => ?_)
  · have h := h.1 hc
    refine x_aload_n (x := o) d_T_takeExponent_67 rfl ?_
    refine x_get (v := .int (gI u5 5)) f_T_29 (eS_o _ _ _ _) rfl d_T_takeExponent_68 ?_
    refine x_put f_T_29 fw_S_5 (eS_o _ _ _ _) rfl rfl (Nat.le_of_ble_eq_true rfl) (sS_5 _ _ _ _ _) d_T_takeExponent_71 ?_
    refine x_iconst (v := 1) d_T_takeExponent_74 (by decide) ?_
    refine x_zret rfl d_T_takeExponent_75 ⟨_, rfl, ?_⟩
    exact h
  · have h := h.2 hc
    refine x_iload_n (x := r6) d_T_takeExponent_63 rfl ?_
    refine x_goto (tgt := 71) d_T_takeExponent_64 rfl ?_
    refine x_put f_T_29 fw_S_5 (eS_o _ _ _ _) rfl rfl (Nat.le_of_ble_eq_true rfl) (sS_5 _ _ _ _ _) d_T_takeExponent_71 ?_
    refine x_iconst (v := 1) d_T_takeExponent_74 (by decide) ?_
    refine x_zret rfl d_T_takeExponent_75 ⟨_, rfl, ?_⟩
    exact h
def P_T_takeExponent_35 (post : Int32 → MS → Prop) (u : MS) : Prop := P_T_takeExponent_50 post ((gI u 5) + (2 : Int32)) u
set_option maxHeartbeats 600000 in
set_option maxRecDepth 100000 in
theorem w_T_takeExponent_35 (l : Launch) (D : va_G) (cs : Nat → ClassId) (Ev : (Nat → Prop) → State → Prop) (hE : xEok Ev) (adK adV : Nat → Nat) (fm : Option Nat) (X : xEv adK adV fm Ev) (o : Nat) (a : Nat → Nat) (d : Nat) (post : Int32 → MS → Prop) (u : MS) (h : P_T_takeExponent_35 post   u) : RR l D clX (tysX cs) Ev "DeckFront$Tape" b_T_takeExponent 3 w_T_takeExponent (rmD (d + 5)) (some .boolean) (wdS o a cs) (pI post) 0 0 0 0 35 [(0, .ref o)] [] u := by
  unfold P_T_takeExponent_35 at h
  refine x_aload_n (x := o) d_T_takeExponent_35 rfl ?_
  refine x_get (v := .int (gI u 5)) f_T_29 (eS_o _ _ _ _) rfl d_T_takeExponent_36 ?_
  refine x_iconst (v := 2) d_T_takeExponent_39 (by decide) ?_
  refine x_iadd d_T_takeExponent_40 ?_
  refine x_goto (tgt := 50) d_T_takeExponent_41 rfl ?_
  exact w_T_takeExponent_50 l D cs Ev hE adK adV fm X o a d post  ((gI u 5) + (2 : Int32)) u h
def P_T_takeExponent (post : Int32 → MS → Prop) (u : MS) : Prop := P_T_isNext (fun r2 u1 => ((r2 = 0 → post 1 u1) ∧ (¬ r2 = 0 → P_T_stands (fun r4 u3 => ((¬ r4 = 0 → P_T_takeExponent_35 post u3) ∧ (r4 = 0 → P_T_stands (fun r8 u7 => ((r8 = 0 → P_T_takeExponent_50 post ((gI u7 5) + (1 : Int32)) u7) ∧ (¬ r8 = 0 → P_T_takeExponent_35 post u7))) 18 (gI u3 5) u3))) 17 (gI u1 5) u1))) (69 : Int32) u
set_option maxHeartbeats 600000 in
set_option maxRecDepth 100000 in
theorem c_T_takeExponent (l : Launch) (D : va_G) (cs : Nat → ClassId) (Ev : (Nat → Prop) → State → Prop) (hE : xEok Ev) (adK adV : Nat → Nat) (fm : Option Nat) (X : xEv adK adV fm Ev) (o : Nat) (a : Nat → Nat) (d : Nat) (post : Int32 → MS → Prop) (u : MS) (h : P_T_takeExponent post  u) : xC l D clX (tysX cs) Ev y_T_takeExponent w_T_takeExponent (rmD (d + 5)) (wdS o a cs) [.ref o] u (pI post) 0 0 := by
  unfold P_T_takeExponent at h
  refine xC.of (cc := b_T_takeExponent) (nL := 3) (ret := (some .boolean)) (by decide) rfl (Nat.le_of_ble_eq_true rfl) ?_
  show RR l D clX (tysX cs) Ev "DeckFront$Tape" b_T_takeExponent 3 w_T_takeExponent (rmD (d + 5)) (some .boolean) (wdS o a cs) (pI post) 0 0 0 0 0 [(0, .ref o)] [] u
  refine x_aload_n (x := o) d_T_takeExponent_0 rfl ?_
  refine x_bipush (v := 69) d_T_takeExponent_1 (by decide) ?_
  refine x_callV (st := []) k_T_55 rfl (eS_o _ _ _ _) x_id (c_T_isNext l D cs Ev hE adK adV fm X o a (d + 4) _ (69 : Int32) u h) hE (rmD_ok (by omega) (by decide)) rfl (Nat.le_of_ble_eq_true rfl) rfl d_T_takeExponent_3 (x_rI (fun r2 u1 h => ?_))
  refine x_if_eq (tgt := 74) d_T_takeExponent_6 rfl (fun hc => ?_) (fun hc => ?_)
  · have h := h.1 hc
    refine x_iconst (v := 1) d_T_takeExponent_74 (by decide) ?_
    refine x_zret rfl d_T_takeExponent_75 ⟨_, rfl, ?_⟩
    exact h
  · have h := h.2 hc
    refine x_aload_n (x := o) d_T_takeExponent_9 rfl ?_
    refine x_aload_n (x := o) d_T_takeExponent_10 rfl ?_
    refine x_get (v := .int (gI u1 5)) f_T_29 (eS_o _ _ _ _) rfl d_T_takeExponent_11 ?_
    refine x_ldcS (fun A s h9 => ((X A s h9).2.1 17 (by decide)).1) d_T_takeExponent_14 ?_
    refine x_callV (st := []) k_T_51 rfl (eS_o _ _ _ _) x_id (c_T_stands l D cs Ev hE adK adV fm X o a 17 (by decide) (d + 0) _ (gI u1 5) u1 h) hE (rmD_ok (by omega) (by decide)) rfl (Nat.le_of_ble_eq_true rfl) rfl d_T_takeExponent_16 (x_rI (fun r4 u3 h => ?_))
    refine x_if_ne (tgt := 35) d_T_takeExponent_19 rfl (fun hc => ?_) (fun hc => ?_)
    · have h := h.1 hc
      exact w_T_takeExponent_35 l D cs Ev hE adK adV fm X o a d post  u3 h
    · have h := h.2 hc
      refine x_aload_n (x := o) d_T_takeExponent_22 rfl ?_
      refine x_aload_n (x := o) d_T_takeExponent_23 rfl ?_
      refine x_get (v := .int (gI u3 5)) f_T_29 (eS_o _ _ _ _) rfl d_T_takeExponent_24 ?_
      refine x_ldcS (fun A s h9 => ((X A s h9).2.1 18 (by decide)).1) d_T_takeExponent_27 ?_
      refine x_callV (st := []) k_T_51 rfl (eS_o _ _ _ _) x_id (c_T_stands l D cs Ev hE adK adV fm X o a 18 (by decide) (d + 0) _ (gI u3 5) u3 h) hE (rmD_ok (by omega) (by decide)) rfl (Nat.le_of_ble_eq_true rfl) rfl d_T_takeExponent_29 (x_rI (fun r8 u7 h => ?_))
      refine x_if_eq (tgt := 44) d_T_takeExponent_32 rfl (fun hc => ?_) (fun hc => ?_)
      · have h := h.1 hc
        refine x_aload_n (x := o) d_T_takeExponent_44 rfl ?_
        refine x_get (v := .int (gI u7 5)) f_T_29 (eS_o _ _ _ _) rfl d_T_takeExponent_45 ?_
        refine x_iconst (v := 1) d_T_takeExponent_48 (by decide) ?_
        refine x_iadd d_T_takeExponent_49 ?_
        exact w_T_takeExponent_50 l D cs Ev hE adK adV fm X o a d post  ((gI u7 5) + (1 : Int32)) u7 h
      · have h := h.2 hc
        exact w_T_takeExponent_35 l D cs Ev hE adK adV fm X o a d post  u7 h
def P_T_close (post : MS → Prop) (a0 : Int32) (u : MS) : Prop := (((gI u 5) ≤ 0 → post u) ∧ (¬ (gI u 5) ≤ 0 → (vp_in ((gI u 5) - (1 : Int32)) 80 ∧ (vp_in ((gI u 5) - (1 : Int32)) 80 ∧ post (sA u 2 ((gI u 5) - (1 : Int32)).toNatClampNeg ((gA u 2 ((gI u 5) - (1 : Int32)).toNatClampNeg) + a0))))))
set_option maxHeartbeats 600000 in
set_option maxRecDepth 100000 in
theorem c_T_close (l : Launch) (D : va_G) (cs : Nat → ClassId) (Ev : (Nat → Prop) → State → Prop) (hE : xEok Ev) (adK adV : Nat → Nat) (fm : Option Nat) (X : xEv adK adV fm Ev) (o : Nat) (a : Nat → Nat) (d : Nat) (post : MS → Prop) (a0 : Int32) (u : MS) (h : P_T_close post a0 u) : xC l D clX (tysX cs) Ev y_T_close w_T_close (rmD (d + 0)) (wdS o a cs) [.ref o, .int a0] u (pV post) 0 0 := by
  unfold P_T_close at h
  refine xC.of (cc := b_T_close) (nL := 2) (ret := none) (by decide) rfl (Nat.le_of_ble_eq_true rfl) ?_
  show RR l D clX (tysX cs) Ev "DeckFront$Tape" b_T_close 2 w_T_close (rmD (d + 0)) none (wdS o a cs) (pV post) 0 0 0 0 0 [(0, .ref o), (1, .int a0)] [] u
  refine x_aload_n (x := o) d_T_close_0 rfl ?_
  refine x_get (v := .int (gI u 5)) f_T_29 (eS_o _ _ _ _) rfl d_T_close_1 ?_
  refine x_if_le (tgt := 22) d_T_close_4 rfl (fun hc => ?_) (fun hc => ?_)
  · have h := h.1 hc
    refine x_vret d_T_close_22 ⟨rfl, ?_⟩
    exact h
  · have h := h.2 hc
    refine x_aload_n (x := o) d_T_close_7 rfl ?_
    refine x_get (v := .ref (a 2)) f_T_19 (eS_o _ _ _ _) rfl d_T_close_8 ?_
    refine x_aload_n (x := o) d_T_close_11 rfl ?_
    refine x_get (v := .int (gI u 5)) f_T_29 (eS_o _ _ _ _) rfl d_T_close_12 ?_
    refine x_iconst (v := 1) d_T_close_15 (by decide) ?_
    refine x_isub d_T_close_16 ?_
    refine x_dup2 d_T_close_17 rfl rfl ?_
    refine x_iald (t0 := 0) (eS_2 _ _ _ _) rfl h.1 d_T_close_18 ?_
    have h := h.2
    refine x_iload_n (x := a0) d_T_close_19 rfl ?_
    refine x_iadd d_T_close_20 ?_
    refine x_iast (t0 := 0) (eS_2 _ _ _ _) rfl h.1 (sS_2 _ _ _ _ _ _) d_T_close_21 ?_
    have h := h.2
    refine x_vret d_T_close_22 ⟨rfl, ?_⟩
    exact h
def P_T_signShown_62 (post : Int32 → MS → Prop) (K4 : Int32 → Int32 → MS → Prop) (x2 : Int32) (x3 : Int32) (u : MS) : Prop := (vp_in x3 80 ∧ (((gA u 2 x3.toNatClampNeg) ≤ x2 → (vp_in x3 80 ∧ (∀ v2, v2 = (x2 - (gA u 2 x3.toNatClampNeg)) → K4 v2 (x3 + 1) u))) ∧ (¬ (gA u 2 x3.toNatClampNeg) ≤ x2 → post 41 u)))
set_option maxHeartbeats 600000 in
set_option maxRecDepth 100000 in
theorem w_T_signShown_62 (l : Launch) (D : va_G) (cs : Nat → ClassId) (Ev : (Nat → Prop) → State → Prop) (hE : xEok Ev) (adK adV : Nat → Nat) (fm : Option Nat) (X : xEv adK adV fm Ev) (o : Nat) (a : Nat → Nat) (d : Nat) (post : Int32 → MS → Prop) (K4 : Int32 → Int32 → MS → Prop) (hK4 : ∀ (x2 : Int32) (x3 : Int32) (u : MS), K4 x2 x3 u → RR l D clX (tysX cs) Ev "DeckFront$Tape" b_T_signShown 4 w_T_signShown (rmD (d + 0)) (some .int) (wdS o a cs) (pI post) 0 0 0 0 4 [(0, .ref o), (2, .int x2), (3, .int x3)] [] u) (x2 : Int32) (x3 : Int32) (u : MS) (h : P_T_signShown_62 post K4 x2 x3 u) : RR l D clX (tysX cs) Ev "DeckFront$Tape" b_T_signShown 4 w_T_signShown (rmD (d + 0)) (some .int) (wdS o a cs) (pI post) 0 0 0 0 62 [(0, .ref o), (2, .int x2), (3, .int x3)] [] u := by
  unfold P_T_signShown_62 at h
  refine x_iload_n (x := x2) d_T_signShown_62 rfl ?_
  refine x_aload_n (x := o) d_T_signShown_63 rfl ?_
  refine x_get (v := .ref (a 2)) f_T_19 (eS_o _ _ _ _) rfl d_T_signShown_64 ?_
  refine x_iload_n (x := x3) d_T_signShown_67 rfl ?_
  refine x_iald (t0 := 0) (eS_2 _ _ _ _) rfl h.1 d_T_signShown_68 ?_
  have h := h.2
  refine x_icmp_ge (tgt := 75) d_T_signShown_69 rfl (fun hc => ?_) (fun hc => ?_)
  · have h := h.1 hc
    refine x_iload_n (x := x2) d_T_signShown_75 rfl ?_
    refine x_aload_n (x := o) d_T_signShown_76 rfl ?_
    refine x_get (v := .ref (a 2)) f_T_19 (eS_o _ _ _ _) rfl d_T_signShown_77 ?_
    refine x_iload_n (x := x3) d_T_signShown_80 rfl ?_
    refine x_iald (t0 := 0) (eS_2 _ _ _ _) rfl h.1 d_T_signShown_81 ?_
    have h := h.2
    refine x_isub d_T_signShown_82 ?_
    refine x_topI (fun v2 ev2 => ?_)
    have h := h v2 ev2
    refine x_istore_n (lv' := [(2, .int v2), (0, .ref o), (3, .int x3)]) d_T_signShown_83 (by decide) rfl ?_
    refine x_iinc (v := x3 + 1) (lv' := [(3, .int (x3 + 1)), (2, .int v2), (0, .ref o)]) d_T_signShown_84 rfl rfl (by decide) rfl ?_
    refine x_goto (tgt := 4) d_T_signShown_87 rfl ?_
    refine x_sub [2, 1, 0] rfl ?_
    exact hK4 v2 (x3 + 1) u h
  · have h := h.2 hc
    refine x_bipush (v := 41) d_T_signShown_72 (by decide) ?_
    refine x_iret d_T_signShown_74 ⟨_, rfl, ?_⟩
    exact h
def P_T_signShown_4 (post : Int32 → MS → Prop) : Nat → Int32 → Int32 → MS → Prop
  | 0, _, _, _ => False
  | f + 1, x2, x3, u => (((gI u 4) ≤ x3 → post (-1) u) ∧ (¬ (gI u 4) ≤ x3 → ((x2 < 0 → post (-1) u) ∧ (¬ x2 < 0 → (vp_in x3 80 ∧ (((gA u 1 x3.toNatClampNeg) ≤ x2 → (vp_in x3 80 ∧ (∀ v1, v1 = (x2 - (gA u 1 x3.toNatClampNeg)) → (vp_in x3 80 ∧ (((gA u 3 x3.toNatClampNeg) = 5 → P_T_signShown_62 post (fun zx2 zx3 zu => P_T_signShown_4 post f zx2 zx3 zu) v1 x3 u) ∧ (¬ (gA u 3 x3.toNatClampNeg) = 5 → ((¬ v1 = 0 → P_T_signShown_62 post (fun zx2 zx3 zu => P_T_signShown_4 post f zx2 zx3 zu) (v1 + (-1)) x3 u) ∧ (v1 = 0 → (vp_in x3 80 ∧ post (gA u 0 x3.toNatClampNeg) u))))))))) ∧ (¬ (gA u 1 x3.toNatClampNeg) ≤ x2 → post 40 u)))))))
set_option maxHeartbeats 600000 in
set_option maxRecDepth 100000 in
theorem w_T_signShown_4 (l : Launch) (D : va_G) (cs : Nat → ClassId) (Ev : (Nat → Prop) → State → Prop) (hE : xEok Ev) (adK adV : Nat → Nat) (fm : Option Nat) (X : xEv adK adV fm Ev) (o : Nat) (a : Nat → Nat) (d : Nat) (post : Int32 → MS → Prop) : ∀ (f : Nat) (x2 : Int32) (x3 : Int32) (u : MS), P_T_signShown_4 post  f x2 x3 u → RR l D clX (tysX cs) Ev "DeckFront$Tape" b_T_signShown 4 w_T_signShown (rmD (d + 0)) (some .int) (wdS o a cs) (pI post) 0 0 0 0 4 [(0, .ref o), (2, .int x2), (3, .int x3)] [] u := by
  intro f
  induction f with
  | zero => intro x2 x3 u h; exact h.elim
  | succ f ih =>
    intro x2 x3 u h
    unfold P_T_signShown_4 at h
    refine x_iload_n (x := x3) d_T_signShown_4 rfl ?_
    refine x_aload_n (x := o) d_T_signShown_5 rfl ?_
    refine x_get (v := .int (gI u 4)) f_T_25 (eS_o _ _ _ _) rfl d_T_signShown_6 ?_
    refine x_icmp_ge (tgt := 90) d_T_signShown_9 rfl (fun hc => ?_) (fun hc => ?_)
    · have h := h.1 hc
      refine x_iconst (v := (-1)) d_T_signShown_90 (by decide) ?_
      refine x_iret d_T_signShown_91 ⟨_, rfl, ?_⟩
      exact h
    · have h := h.2 hc
      refine x_iload_n (x := x2) d_T_signShown_12 rfl ?_
      refine x_if_lt (tgt := 90) d_T_signShown_13 rfl (fun hc => ?_) (fun hc => ?_)
      · have h := h.1 hc
        refine x_iconst (v := (-1)) d_T_signShown_90 (by decide) ?_
        refine x_iret d_T_signShown_91 ⟨_, rfl, ?_⟩
        exact h
      · have h := h.2 hc
        refine x_iload_n (x := x2) d_T_signShown_16 rfl ?_
        refine x_aload_n (x := o) d_T_signShown_17 rfl ?_
        refine x_get (v := .ref (a 1)) f_T_15 (eS_o _ _ _ _) rfl d_T_signShown_18 ?_
        refine x_iload_n (x := x3) d_T_signShown_21 rfl ?_
        refine x_iald (t0 := 0) (eS_1 _ _ _ _) rfl h.1 d_T_signShown_22 ?_
        have h := h.2
        refine x_icmp_ge (tgt := 29) d_T_signShown_23 rfl (fun hc => ?_) (fun hc => ?_)
        · have h := h.1 hc
          refine x_iload_n (x := x2) d_T_signShown_29 rfl ?_
          refine x_aload_n (x := o) d_T_signShown_30 rfl ?_
          refine x_get (v := .ref (a 1)) f_T_15 (eS_o _ _ _ _) rfl d_T_signShown_31 ?_
          refine x_iload_n (x := x3) d_T_signShown_34 rfl ?_
          refine x_iald (t0 := 0) (eS_1 _ _ _ _) rfl h.1 d_T_signShown_35 ?_
          have h := h.2
          refine x_isub d_T_signShown_36 ?_
          refine x_topI (fun v1 ev1 => ?_)
          have h := h v1 ev1
          refine x_istore_n (lv' := [(2, .int v1), (0, .ref o), (3, .int x3)]) d_T_signShown_37 (by decide) rfl ?_
          refine x_aload_n (x := o) d_T_signShown_38 rfl ?_
          refine x_get (v := .ref (a 3)) f_T_22 (eS_o _ _ _ _) rfl d_T_signShown_39 ?_
          refine x_iload_n (x := x3) d_T_signShown_42 rfl ?_
          refine x_iald (t0 := 0) (eS_3 _ _ _ _) rfl h.1 d_T_signShown_43 ?_
          have h := h.2
          refine x_iconst (v := 5) d_T_signShown_44 (by decide) ?_
          refine x_icmp_eq (tgt := 62) d_T_signShown_45 rfl (fun hc => ?_) (fun hc => ?_)
          · have h := h.1 hc
            refine x_sub [1, 0, 2] rfl ?_
            exact w_T_signShown_62 l D cs Ev hE adK adV fm X o a d post (fun zx2 zx3 zu => P_T_signShown_4 post f zx2 zx3 zu) ih v1 x3 u h
          · have h := h.2 hc
            refine x_iload_n (x := v1) d_T_signShown_48 rfl ?_
            refine x_if_ne (tgt := 59) d_T_signShown_49 rfl (fun hc => ?_) (fun hc => ?_)
            · have h := h.1 hc
              refine x_iinc (v := v1 + (-1)) (lv' := [(2, .int (v1 + (-1))), (0, .ref o), (3, .int x3)]) d_T_signShown_59 rfl rfl (by decide) rfl ?_
              refine x_sub [1, 0, 2] rfl ?_
              exact w_T_signShown_62 l D cs Ev hE adK adV fm X o a d post (fun zx2 zx3 zu => P_T_signShown_4 post f zx2 zx3 zu) ih (v1 + (-1)) x3 u h
            · have h := h.2 hc
              refine x_aload_n (x := o) d_T_signShown_52 rfl ?_
              refine x_get (v := .ref (a 0)) f_T_9 (eS_o _ _ _ _) rfl d_T_signShown_53 ?_
              refine x_iload_n (x := x3) d_T_signShown_56 rfl ?_
              refine x_cald (t0 := 1) (eS_0 _ _ _ _) rfl h.1 d_T_signShown_57 ?_
              have h := h.2
              refine x_iret d_T_signShown_58 ⟨_, rfl, ?_⟩
              exact h
        · have h := h.2 hc
          refine x_bipush (v := 40) d_T_signShown_26 (by decide) ?_
          refine x_iret d_T_signShown_28 ⟨_, rfl, ?_⟩
          exact h
def P_T_signShown (post : Int32 → MS → Prop) (a0 : Int32) (u : MS) : Prop := (∃ g, P_T_signShown_4 post g a0 0 u)
set_option maxHeartbeats 600000 in
set_option maxRecDepth 100000 in
theorem c_T_signShown (l : Launch) (D : va_G) (cs : Nat → ClassId) (Ev : (Nat → Prop) → State → Prop) (hE : xEok Ev) (adK adV : Nat → Nat) (fm : Option Nat) (X : xEv adK adV fm Ev) (o : Nat) (a : Nat → Nat) (d : Nat) (post : Int32 → MS → Prop) (a0 : Int32) (u : MS) (h : P_T_signShown post a0 u) : xC l D clX (tysX cs) Ev y_T_signShown w_T_signShown (rmD (d + 0)) (wdS o a cs) [.ref o, .int a0] u (pI post) 0 0 := by
  unfold P_T_signShown at h
  refine xC.of (cc := b_T_signShown) (nL := 4) (ret := (some .int)) (by decide) rfl (Nat.le_of_ble_eq_true rfl) ?_
  show RR l D clX (tysX cs) Ev "DeckFront$Tape" b_T_signShown 4 w_T_signShown (rmD (d + 0)) (some .int) (wdS o a cs) (pI post) 0 0 0 0 0 [(0, .ref o), (1, .int a0)] [] u
  refine x_iload_n (x := a0) d_T_signShown_0 rfl ?_
  refine x_istore_n (lv' := [(2, .int a0), (0, .ref o), (1, .int a0)]) d_T_signShown_1 (by decide) rfl ?_
  refine x_iconst (v := 0) d_T_signShown_2 (by decide) ?_
  refine x_istore_n (lv' := [(3, .int 0), (2, .int a0), (0, .ref o), (1, .int a0)]) d_T_signShown_3 (by decide) rfl ?_
  refine x_sub [2, 1, 0] rfl ?_
  obtain ⟨f9, h⟩ := h
  exact w_T_signShown_4 l D cs Ev hE adK adV fm X o a d post  f9 a0 0 u h
def P_T_nameAt_52 (post : Int64 → MS → Prop) (K5 : Int32 → Int64 → Int32 → MS → Prop) (x1 : Int32) (x2 : Int64) (x4 : Int32) (u : MS) : Prop := (vp_in x4 80 ∧ (∀ v1, v1 = ((x2 <<< ((8 : Int32).toInt64 &&& 63)) ||| ((gA u 0 x4.toNatClampNeg).toInt64)) → K5 x1 v1 (x4 + 1) u))
set_option maxHeartbeats 600000 in
set_option maxRecDepth 100000 in
theorem w_T_nameAt_52 (l : Launch) (D : va_G) (cs : Nat → ClassId) (Ev : (Nat → Prop) → State → Prop) (hE : xEok Ev) (adK adV : Nat → Nat) (fm : Option Nat) (X : xEv adK adV fm Ev) (o : Nat) (a : Nat → Nat) (d : Nat) (post : Int64 → MS → Prop) (K5 : Int32 → Int64 → Int32 → MS → Prop) (hK5 : ∀ (x1 : Int32) (x2 : Int64) (x4 : Int32) (u : MS), K5 x1 x2 x4 u → RR l D clX (tysX cs) Ev "DeckFront$Tape" b_T_nameAt 5 w_T_nameAt (rmD (d + 1)) (some .long) (wdS o a cs) (pJ post) 0 0 0 0 5 [(0, .ref o), (1, .int x1), (2, .long x2), (4, .int x4)] [] u) (x1 : Int32) (x2 : Int64) (x4 : Int32) (u : MS) (h : P_T_nameAt_52 post K5 x1 x2 x4 u) : RR l D clX (tysX cs) Ev "DeckFront$Tape" b_T_nameAt 5 w_T_nameAt (rmD (d + 1)) (some .long) (wdS o a cs) (pJ post) 0 0 0 0 52 [(0, .ref o), (1, .int x1), (2, .long x2), (4, .int x4)] [] u := by
  unfold P_T_nameAt_52 at h
  refine x_lload_n (x := x2) d_T_nameAt_52 rfl ?_
  refine x_bipush (v := 8) d_T_nameAt_53 (by decide) ?_
  refine x_lshl d_T_nameAt_55 ?_
  refine x_aload_n (x := o) d_T_nameAt_56 rfl ?_
  refine x_get (v := .ref (a 0)) f_T_9 (eS_o _ _ _ _) rfl d_T_nameAt_57 ?_
  refine x_iload (x := x4) d_T_nameAt_60 rfl ?_
  refine x_cald (t0 := 1) (eS_0 _ _ _ _) rfl h.1 d_T_nameAt_62 ?_
  have h := h.2
  refine x_i2l d_T_nameAt_63 ?_
  refine x_lor d_T_nameAt_64 ?_
  refine x_topJ (fun v1 ev1 => ?_)
  have h := h v1 ev1
  refine x_lstore_n (lv' := [(2, .long v1), (0, .ref o), (1, .int x1), (4, .int x4)]) d_T_nameAt_65 (by decide) rfl ?_
  refine x_iinc (v := x4 + 1) (lv' := [(4, .int (x4 + 1)), (2, .long v1), (0, .ref o), (1, .int x1)]) d_T_nameAt_66 rfl rfl (by decide) rfl ?_
  refine x_goto (tgt := 5) d_T_nameAt_69 rfl ?_
  refine x_sub [2, 3, 1, 0] rfl ?_
  exact hK5 x1 v1 (x4 + 1) u h
def P_T_nameAt_5 (post : Int64 → MS → Prop) : Nat → Int32 → Int64 → Int32 → MS → Prop
  | 0, _, _, _, _ => False
  | f + 1, x1, x2, x4, u => (((x1 + (6 : Int32)) ≤ x4 → post x2 u) ∧ (¬ (x1 + (6 : Int32)) ≤ x4 → (((gI u 4) ≤ x4 → post x2 u) ∧ (¬ (gI u 4) ≤ x4 → (vp_in x4 80 ∧ ((¬ (isLet (gA u 0 x4.toNatClampNeg)) = 0 → P_T_nameAt_52 post (fun zx1 zx2 zx4 zu => P_T_nameAt_5 post f zx1 zx2 zx4 zu) x1 x2 x4 u) ∧ ((isLet (gA u 0 x4.toNatClampNeg)) = 0 → (vp_in x4 80 ∧ ((¬ (isDig (gA u 0 x4.toNatClampNeg)) = 0 → P_T_nameAt_52 post (fun zx1 zx2 zx4 zu => P_T_nameAt_5 post f zx1 zx2 zx4 zu) x1 x2 x4 u) ∧ ((isDig (gA u 0 x4.toNatClampNeg)) = 0 → post x2 u))))))))))
set_option maxHeartbeats 600000 in
set_option maxRecDepth 100000 in
theorem w_T_nameAt_5 (l : Launch) (D : va_G) (cs : Nat → ClassId) (Ev : (Nat → Prop) → State → Prop) (hE : xEok Ev) (adK adV : Nat → Nat) (fm : Option Nat) (X : xEv adK adV fm Ev) (o : Nat) (a : Nat → Nat) (d : Nat) (post : Int64 → MS → Prop) : ∀ (f : Nat) (x1 : Int32) (x2 : Int64) (x4 : Int32) (u : MS), P_T_nameAt_5 post  f x1 x2 x4 u → RR l D clX (tysX cs) Ev "DeckFront$Tape" b_T_nameAt 5 w_T_nameAt (rmD (d + 1)) (some .long) (wdS o a cs) (pJ post) 0 0 0 0 5 [(0, .ref o), (1, .int x1), (2, .long x2), (4, .int x4)] [] u := by
  intro f
  induction f with
  | zero => intro x1 x2 x4 u h; exact h.elim
  | succ f ih =>
    intro x1 x2 x4 u h
    unfold P_T_nameAt_5 at h
    refine x_iload (x := x4) d_T_nameAt_5 rfl ?_
    refine x_iload_n (x := x1) d_T_nameAt_7 rfl ?_
    refine x_bipush (v := 6) d_T_nameAt_8 (by decide) ?_
    refine x_iadd d_T_nameAt_10 ?_
    refine x_icmp_ge (tgt := 72) d_T_nameAt_11 rfl (fun hc => ?_) (fun hc => ?_)
    · have h := h.1 hc
      refine x_lload_n (x := x2) d_T_nameAt_72 rfl ?_
      refine x_lret d_T_nameAt_73 ⟨_, rfl, ?_⟩
      exact h
    · have h := h.2 hc
      refine x_iload (x := x4) d_T_nameAt_14 rfl ?_
      refine x_aload_n (x := o) d_T_nameAt_16 rfl ?_
      refine x_get (v := .int (gI u 4)) f_T_25 (eS_o _ _ _ _) rfl d_T_nameAt_17 ?_
      refine x_icmp_ge (tgt := 72) d_T_nameAt_20 rfl (fun hc => ?_) (fun hc => ?_)
      · have h := h.1 hc
        refine x_lload_n (x := x2) d_T_nameAt_72 rfl ?_
        refine x_lret d_T_nameAt_73 ⟨_, rfl, ?_⟩
        exact h
      · have h := h.2 hc
        refine x_aload_n (x := o) d_T_nameAt_23 rfl ?_
        refine x_get (v := .ref (a 0)) f_T_9 (eS_o _ _ _ _) rfl d_T_nameAt_24 ?_
        refine x_iload (x := x4) d_T_nameAt_27 rfl ?_
        refine x_cald (t0 := 1) (eS_0 _ _ _ _) rfl h.1 d_T_nameAt_29 ?_
        have h := h.2
        refine x_callSN (st := []) (k_T_63 X) x_none (cf_D_isLetter l D cs Ev hE adK adV fm X (d + 0) (gA u 0 x4.toNatClampNeg)) hE (rmD_ok (by omega) (by decide)) rfl (Nat.le_of_ble_eq_true rfl) rfl d_T_nameAt_30 (x_rI (fun x u1 h9 => ?_))
        obtain ⟨rfl, rfl⟩ := h9
        refine x_if_ne (tgt := 52) d_T_nameAt_33 rfl (fun hc => ?_) (fun hc => ?_)
        · have h := h.1 hc
          exact w_T_nameAt_52 l D cs Ev hE adK adV fm X o a d post (fun zx1 zx2 zx4 zu => P_T_nameAt_5 post f zx1 zx2 zx4 zu) ih x1 x2 x4 u h
        · have h := h.2 hc
          refine x_aload_n (x := o) d_T_nameAt_36 rfl ?_
          refine x_get (v := .ref (a 0)) f_T_9 (eS_o _ _ _ _) rfl d_T_nameAt_37 ?_
          refine x_iload (x := x4) d_T_nameAt_40 rfl ?_
          refine x_cald (t0 := 1) (eS_0 _ _ _ _) rfl h.1 d_T_nameAt_42 ?_
          have h := h.2
          refine x_callSN (st := []) (k_T_59 X) x_none (cf_D_isDigit l D cs Ev hE adK adV fm X (d + 0) (gA u 0 x4.toNatClampNeg)) hE (rmD_ok (by omega) (by decide)) rfl (Nat.le_of_ble_eq_true rfl) rfl d_T_nameAt_43 (x_rI (fun x u1 h9 => ?_))
          obtain ⟨rfl, rfl⟩ := h9
          refine x_if_ne (tgt := 52) d_T_nameAt_46 rfl (fun hc => ?_) (fun hc => ?_)
          · have h := h.1 hc
            exact w_T_nameAt_52 l D cs Ev hE adK adV fm X o a d post (fun zx1 zx2 zx4 zu => P_T_nameAt_5 post f zx1 zx2 zx4 zu) ih x1 x2 x4 u h
          · have h := h.2 hc
            refine x_goto (tgt := 72) d_T_nameAt_49 rfl ?_
            refine x_lload_n (x := x2) d_T_nameAt_72 rfl ?_
            refine x_lret d_T_nameAt_73 ⟨_, rfl, ?_⟩
            exact h
def P_T_nameAt (post : Int64 → MS → Prop) (a0 : Int32) (u : MS) : Prop := (∃ g, P_T_nameAt_5 post g a0 0 a0 u)
set_option maxHeartbeats 600000 in
set_option maxRecDepth 100000 in
theorem c_T_nameAt (l : Launch) (D : va_G) (cs : Nat → ClassId) (Ev : (Nat → Prop) → State → Prop) (hE : xEok Ev) (adK adV : Nat → Nat) (fm : Option Nat) (X : xEv adK adV fm Ev) (o : Nat) (a : Nat → Nat) (d : Nat) (post : Int64 → MS → Prop) (a0 : Int32) (u : MS) (h : P_T_nameAt post a0 u) : xC l D clX (tysX cs) Ev y_T_nameAt w_T_nameAt (rmD (d + 1)) (wdS o a cs) [.ref o, .int a0] u (pJ post) 0 0 := by
  unfold P_T_nameAt at h
  refine xC.of (cc := b_T_nameAt) (nL := 5) (ret := (some .long)) (by decide) rfl (Nat.le_of_ble_eq_true rfl) ?_
  show RR l D clX (tysX cs) Ev "DeckFront$Tape" b_T_nameAt 5 w_T_nameAt (rmD (d + 1)) (some .long) (wdS o a cs) (pJ post) 0 0 0 0 0 [(0, .ref o), (1, .int a0)] [] u
  refine x_lconst (v := 0) d_T_nameAt_0 (by decide) ?_
  refine x_lstore_n (lv' := [(2, .long 0), (0, .ref o), (1, .int a0)]) d_T_nameAt_1 (by decide) rfl ?_
  refine x_iload_n (x := a0) d_T_nameAt_2 rfl ?_
  refine x_istore (lv' := [(4, .int a0), (2, .long 0), (0, .ref o), (1, .int a0)]) d_T_nameAt_3 (by decide) rfl ?_
  refine x_sub [2, 3, 1, 0] rfl ?_
  obtain ⟨f9, h⟩ := h
  exact w_T_nameAt_5 l D cs Ev hE adK adV fm X o a d post  f9 a0 0 a0 u h
def P_T_kindHere_82 (post : Int32 → MS → Prop) (K5 : Int64 → Int32 → Int32 → MS → Prop) (x1 : Int64) (x3 : Int32) (x4 : Int32) (u : MS) : Prop := K5 x1 x3 (x4 + 1) u
set_option maxHeartbeats 600000 in
set_option maxRecDepth 100000 in
theorem w_T_kindHere_82 (l : Launch) (D : va_G) (cs : Nat → ClassId) (Ev : (Nat → Prop) → State → Prop) (hE : xEok Ev) (adK adV : Nat → Nat) (fm : Option Nat) (X : xEv adK adV fm Ev) (o : Nat) (a : Nat → Nat) (d : Nat) (post : Int32 → MS → Prop) (K5 : Int64 → Int32 → Int32 → MS → Prop) (hK5 : ∀ (x1 : Int64) (x3 : Int32) (x4 : Int32) (u : MS), K5 x1 x3 x4 u → RR l D clX (tysX cs) Ev "DeckFront$Tape" b_T_kindHere 6 w_T_kindHere (rmD (d + 2)) (some .int) (wdS o a cs) (pI post) 0 0 0 0 5 [(0, .ref o), (1, .long x1), (3, .int x3), (4, .int x4)] [] u) (x1 : Int64) (x3 : Int32) (x4 : Int32) (u : MS) (h : P_T_kindHere_82 post K5 x1 x3 x4 u) : RR l D clX (tysX cs) Ev "DeckFront$Tape" b_T_kindHere 6 w_T_kindHere (rmD (d + 2)) (some .int) (wdS o a cs) (pI post) 0 0 0 0 82 [(0, .ref o), (1, .long x1), (3, .int x3), (4, .int x4)] [] u := by
  unfold P_T_kindHere_82 at h
  refine x_iinc (v := x4 + 1) (lv' := [(4, .int (x4 + 1)), (0, .ref o), (1, .long x1), (3, .int x3)]) d_T_kindHere_82 rfl rfl (by decide) rfl ?_
  refine x_goto (tgt := 5) d_T_kindHere_85 rfl ?_
  refine x_sub [1, 2, 3, 0] rfl ?_
  exact hK5 x1 x3 (x4 + 1) u h
def P_T_kindHere_63 (post : Int32 → MS → Prop) (K5 : Int64 → Int32 → Int32 → MS → Prop) (x1 : Int64) (x3 : Int32) (x4 : Int32) (u : MS) : Prop := P_T_nameAt (fun r2 u1 => ((¬ (lg_cmp r2 x1) = 0 → P_T_kindHere_82 post K5 x1 x3 x4 u1) ∧ ((lg_cmp r2 x1) = 0 → (vp_in x4 80 ∧ (∀ v3, v3 = (gA u1 3 x4.toNatClampNeg) → P_T_kindHere_82 post K5 x1 v3 x4 u1))))) x4 u
set_option maxHeartbeats 600000 in
set_option maxRecDepth 100000 in
theorem w_T_kindHere_63 (l : Launch) (D : va_G) (cs : Nat → ClassId) (Ev : (Nat → Prop) → State → Prop) (hE : xEok Ev) (adK adV : Nat → Nat) (fm : Option Nat) (X : xEv adK adV fm Ev) (o : Nat) (a : Nat → Nat) (d : Nat) (post : Int32 → MS → Prop) (K5 : Int64 → Int32 → Int32 → MS → Prop) (hK5 : ∀ (x1 : Int64) (x3 : Int32) (x4 : Int32) (u : MS), K5 x1 x3 x4 u → RR l D clX (tysX cs) Ev "DeckFront$Tape" b_T_kindHere 6 w_T_kindHere (rmD (d + 2)) (some .int) (wdS o a cs) (pI post) 0 0 0 0 5 [(0, .ref o), (1, .long x1), (3, .int x3), (4, .int x4)] [] u) (x1 : Int64) (x3 : Int32) (x4 : Int32) (u : MS) (h : P_T_kindHere_63 post K5 x1 x3 x4 u) : RR l D clX (tysX cs) Ev "DeckFront$Tape" b_T_kindHere 6 w_T_kindHere (rmD (d + 2)) (some .int) (wdS o a cs) (pI post) 0 0 0 0 63 [(0, .ref o), (1, .long x1), (3, .int x3), (4, .int x4)] [] u := by
  unfold P_T_kindHere_63 at h
  refine x_aload_n (x := o) d_T_kindHere_63 rfl ?_
  refine x_iload (x := x4) d_T_kindHere_64 rfl ?_
  refine x_callV (st := []) k_T_101 rfl (eS_o _ _ _ _) x_id (c_T_nameAt l D cs Ev hE adK adV fm X o a (d + 0) _ x4 u h) hE (rmD_ok (by omega) (by decide)) rfl (Nat.le_of_ble_eq_true rfl) rfl d_T_kindHere_66 (x_rJ (fun r2 u1 h => ?_))
  refine x_lload_n (x := x1) d_T_kindHere_69 rfl ?_
  refine x_lcmp d_T_kindHere_70 ?_
  refine x_if_ne (tgt := 82) d_T_kindHere_71 rfl (fun hc => ?_) (fun hc => ?_)
  · have h := h.1 hc
    exact w_T_kindHere_82 l D cs Ev hE adK adV fm X o a d post K5 hK5 x1 x3 x4 u1 h
  · have h := h.2 hc
    refine x_aload_n (x := o) d_T_kindHere_74 rfl ?_
    refine x_get (v := .ref (a 3)) f_T_22 (eS_o _ _ _ _) rfl d_T_kindHere_75 ?_
    refine x_iload (x := x4) d_T_kindHere_78 rfl ?_
    refine x_iald (t0 := 0) (eS_3 _ _ _ _) rfl h.1 d_T_kindHere_80 ?_
    have h := h.2
    refine x_topI (fun v3 ev3 => ?_)
    have h := h v3 ev3
    refine x_istore_n (lv' := [(3, .int v3), (0, .ref o), (1, .long x1), (4, .int x4)]) d_T_kindHere_81 (by decide) rfl ?_
    refine x_sub [1, 2, 0, 3] rfl ?_
    exact w_T_kindHere_82 l D cs Ev hE adK adV fm X o a d post K5 hK5 x1 v3 x4 u1 h
def P_T_kindHere_41 (post : Int32 → MS → Prop) (K5 : Int64 → Int32 → Int32 → MS → Prop) (x1 : Int64) (x3 : Int32) (x4 : Int32) (s0 : Int32) (u : MS) : Prop := ((s0 = 0 → P_T_kindHere_82 post K5 x1 x3 x4 u) ∧ (¬ s0 = 0 → ((x3 = 0 → P_T_kindHere_63 post K5 x1 x3 x4 u) ∧ (¬ x3 = 0 → (vp_in x4 80 ∧ ((x3 ≤ (gA u 3 x4.toNatClampNeg) → P_T_kindHere_82 post K5 x1 x3 x4 u) ∧ (¬ x3 ≤ (gA u 3 x4.toNatClampNeg) → P_T_kindHere_63 post K5 x1 x3 x4 u)))))))
set_option maxHeartbeats 600000 in
set_option maxRecDepth 100000 in
theorem w_T_kindHere_41 (l : Launch) (D : va_G) (cs : Nat → ClassId) (Ev : (Nat → Prop) → State → Prop) (hE : xEok Ev) (adK adV : Nat → Nat) (fm : Option Nat) (X : xEv adK adV fm Ev) (o : Nat) (a : Nat → Nat) (d : Nat) (post : Int32 → MS → Prop) (K5 : Int64 → Int32 → Int32 → MS → Prop) (hK5 : ∀ (x1 : Int64) (x3 : Int32) (x4 : Int32) (u : MS), K5 x1 x3 x4 u → RR l D clX (tysX cs) Ev "DeckFront$Tape" b_T_kindHere 6 w_T_kindHere (rmD (d + 2)) (some .int) (wdS o a cs) (pI post) 0 0 0 0 5 [(0, .ref o), (1, .long x1), (3, .int x3), (4, .int x4)] [] u) (x1 : Int64) (x3 : Int32) (x4 : Int32) (s0 : Int32) (u : MS) (h : P_T_kindHere_41 post K5 x1 x3 x4 s0 u) : RR l D clX (tysX cs) Ev "DeckFront$Tape" b_T_kindHere 6 w_T_kindHere (rmD (d + 2)) (some .int) (wdS o a cs) (pI post) 0 0 0 0 41 [(0, .ref o), (1, .long x1), (3, .int x3), (4, .int x4)] [.int s0] u := by
  unfold P_T_kindHere_41 at h
  refine x_istore (lv' := [(5, .int s0), (0, .ref o), (1, .long x1), (3, .int x3), (4, .int x4)]) d_T_kindHere_41 (by decide) rfl ?_
  refine x_iload (x := s0) d_T_kindHere_43 rfl ?_
  refine x_if_eq (tgt := 82) d_T_kindHere_45 rfl (fun hc => ?_) (fun hc => ?_)
  · have h := h.1 hc
    refine x_sub [1, 2, 3, 4] rfl ?_
    exact w_T_kindHere_82 l D cs Ev hE adK adV fm X o a d post K5 hK5 x1 x3 x4 u h
  · have h := h.2 hc
    refine x_iload_n (x := x3) d_T_kindHere_48 rfl ?_
    refine x_if_eq (tgt := 63) d_T_kindHere_49 rfl (fun hc => ?_) (fun hc => ?_)
    · have h := h.1 hc
      refine x_sub [1, 2, 3, 4] rfl ?_
      exact w_T_kindHere_63 l D cs Ev hE adK adV fm X o a d post K5 hK5 x1 x3 x4 u h
    · have h := h.2 hc
      refine x_aload_n (x := o) d_T_kindHere_52 rfl ?_
      refine x_get (v := .ref (a 3)) f_T_22 (eS_o _ _ _ _) rfl d_T_kindHere_53 ?_
      refine x_iload (x := x4) d_T_kindHere_56 rfl ?_
      refine x_iald (t0 := 0) (eS_3 _ _ _ _) rfl h.1 d_T_kindHere_58 ?_
      have h := h.2
      refine x_iload_n (x := x3) d_T_kindHere_59 rfl ?_
      refine x_icmp_ge (tgt := 82) d_T_kindHere_60 rfl (fun hc => ?_) (fun hc => ?_)
      · have h := h.1 hc
        refine x_sub [1, 2, 3, 4] rfl ?_
        exact w_T_kindHere_82 l D cs Ev hE adK adV fm X o a d post K5 hK5 x1 x3 x4 u h
      · have h := h.2 hc
        refine x_sub [1, 2, 3, 4] rfl ?_
        exact w_T_kindHere_63 l D cs Ev hE adK adV fm X o a d post K5 hK5 x1 x3 x4 u h
def P_T_kindHere_40 (post : Int32 → MS → Prop) (K5 : Int64 → Int32 → Int32 → MS → Prop) (x1 : Int64) (x3 : Int32) (x4 : Int32) (u : MS) : Prop := P_T_kindHere_41 post K5 x1 x3 x4 0 u
set_option maxHeartbeats 600000 in
set_option maxRecDepth 100000 in
theorem w_T_kindHere_40 (l : Launch) (D : va_G) (cs : Nat → ClassId) (Ev : (Nat → Prop) → State → Prop) (hE : xEok Ev) (adK adV : Nat → Nat) (fm : Option Nat) (X : xEv adK adV fm Ev) (o : Nat) (a : Nat → Nat) (d : Nat) (post : Int32 → MS → Prop) (K5 : Int64 → Int32 → Int32 → MS → Prop) (hK5 : ∀ (x1 : Int64) (x3 : Int32) (x4 : Int32) (u : MS), K5 x1 x3 x4 u → RR l D clX (tysX cs) Ev "DeckFront$Tape" b_T_kindHere 6 w_T_kindHere (rmD (d + 2)) (some .int) (wdS o a cs) (pI post) 0 0 0 0 5 [(0, .ref o), (1, .long x1), (3, .int x3), (4, .int x4)] [] u) (x1 : Int64) (x3 : Int32) (x4 : Int32) (u : MS) (h : P_T_kindHere_40 post K5 x1 x3 x4 u) : RR l D clX (tysX cs) Ev "DeckFront$Tape" b_T_kindHere 6 w_T_kindHere (rmD (d + 2)) (some .int) (wdS o a cs) (pI post) 0 0 0 0 40 [(0, .ref o), (1, .long x1), (3, .int x3), (4, .int x4)] [] u := by
  unfold P_T_kindHere_40 at h
  refine x_iconst (v := 0) d_T_kindHere_40 (by decide) ?_
  exact w_T_kindHere_41 l D cs Ev hE adK adV fm X o a d post K5 hK5 x1 x3 x4 0 u h
def P_T_kindHere_5 (post : Int32 → MS → Prop) : Nat → Int64 → Int32 → Int32 → MS → Prop
  | 0, _, _, _, _ => False
  | f + 1, x1, x3, x4, u => (((gI u 4) ≤ x4 → post x3 u) ∧ (¬ (gI u 4) ≤ x4 → (vp_in x4 80 ∧ (((gA u 3 x4.toNatClampNeg) < 1 → P_T_kindHere_40 post (fun zx1 zx3 zx4 zu => P_T_kindHere_5 post f zx1 zx3 zx4 zu) x1 x3 x4 u) ∧ (¬ (gA u 3 x4.toNatClampNeg) < 1 → (vp_in x4 80 ∧ ((4 < (gA u 3 x4.toNatClampNeg) → P_T_kindHere_40 post (fun zx1 zx3 zx4 zu => P_T_kindHere_5 post f zx1 zx3 zx4 zu) x1 x3 x4 u) ∧ (¬ 4 < (gA u 3 x4.toNatClampNeg) → P_T_kindHere_41 post (fun zx1 zx3 zx4 zu => P_T_kindHere_5 post f zx1 zx3 zx4 zu) x1 x3 x4 1 u))))))))
set_option maxHeartbeats 600000 in
set_option maxRecDepth 100000 in
theorem w_T_kindHere_5 (l : Launch) (D : va_G) (cs : Nat → ClassId) (Ev : (Nat → Prop) → State → Prop) (hE : xEok Ev) (adK adV : Nat → Nat) (fm : Option Nat) (X : xEv adK adV fm Ev) (o : Nat) (a : Nat → Nat) (d : Nat) (post : Int32 → MS → Prop) : ∀ (f : Nat) (x1 : Int64) (x3 : Int32) (x4 : Int32) (u : MS), P_T_kindHere_5 post  f x1 x3 x4 u → RR l D clX (tysX cs) Ev "DeckFront$Tape" b_T_kindHere 6 w_T_kindHere (rmD (d + 2)) (some .int) (wdS o a cs) (pI post) 0 0 0 0 5 [(0, .ref o), (1, .long x1), (3, .int x3), (4, .int x4)] [] u := by
  intro f
  induction f with
  | zero => intro x1 x3 x4 u h; exact h.elim
  | succ f ih =>
    intro x1 x3 x4 u h
    unfold P_T_kindHere_5 at h
    refine x_iload (x := x4) d_T_kindHere_5 rfl ?_
    refine x_aload_n (x := o) d_T_kindHere_7 rfl ?_
    refine x_get (v := .int (gI u 4)) f_T_25 (eS_o _ _ _ _) rfl d_T_kindHere_8 ?_
    refine x_icmp_ge (tgt := 88) d_T_kindHere_11 rfl (fun hc => ?_) (fun hc => ?_)
    · have h := h.1 hc
      refine x_iload_n (x := x3) d_T_kindHere_88 rfl ?_
      refine x_iret d_T_kindHere_89 ⟨_, rfl, ?_⟩
      exact h
    · have h := h.2 hc
      refine x_aload_n (x := o) d_T_kindHere_14 rfl ?_
      refine x_get (v := .ref (a 3)) f_T_22 (eS_o _ _ _ _) rfl d_T_kindHere_15 ?_
      refine x_iload (x := x4) d_T_kindHere_18 rfl ?_
      refine x_iald (t0 := 0) (eS_3 _ _ _ _) rfl h.1 d_T_kindHere_20 ?_
      have h := h.2
      refine x_iconst (v := 1) d_T_kindHere_21 (by decide) ?_
      refine x_icmp_lt (tgt := 40) d_T_kindHere_22 rfl (fun hc => ?_) (fun hc => ?_)
      · have h := h.1 hc
        exact w_T_kindHere_40 l D cs Ev hE adK adV fm X o a d post (fun zx1 zx3 zx4 zu => P_T_kindHere_5 post f zx1 zx3 zx4 zu) ih x1 x3 x4 u h
      · have h := h.2 hc
        refine x_aload_n (x := o) d_T_kindHere_25 rfl ?_
        refine x_get (v := .ref (a 3)) f_T_22 (eS_o _ _ _ _) rfl d_T_kindHere_26 ?_
        refine x_iload (x := x4) d_T_kindHere_29 rfl ?_
        refine x_iald (t0 := 0) (eS_3 _ _ _ _) rfl h.1 d_T_kindHere_31 ?_
        have h := h.2
        refine x_iconst (v := 4) d_T_kindHere_32 (by decide) ?_
        refine x_icmp_gt (tgt := 40) d_T_kindHere_33 rfl (fun hc => ?_) (fun hc => ?_)
        · have h := h.1 hc
          exact w_T_kindHere_40 l D cs Ev hE adK adV fm X o a d post (fun zx1 zx3 zx4 zu => P_T_kindHere_5 post f zx1 zx3 zx4 zu) ih x1 x3 x4 u h
        · have h := h.2 hc
          refine x_iconst (v := 1) d_T_kindHere_36 (by decide) ?_
          refine x_goto (tgt := 41) d_T_kindHere_37 rfl ?_
          exact w_T_kindHere_41 l D cs Ev hE adK adV fm X o a d post (fun zx1 zx3 zx4 zu => P_T_kindHere_5 post f zx1 zx3 zx4 zu) ih x1 x3 x4 1 u h
def P_T_kindHere (post : Int32 → MS → Prop) (a0 : Int64) (u : MS) : Prop := (∃ g, P_T_kindHere_5 post g a0 0 0 u)
set_option maxHeartbeats 600000 in
set_option maxRecDepth 100000 in
theorem c_T_kindHere (l : Launch) (D : va_G) (cs : Nat → ClassId) (Ev : (Nat → Prop) → State → Prop) (hE : xEok Ev) (adK adV : Nat → Nat) (fm : Option Nat) (X : xEv adK adV fm Ev) (o : Nat) (a : Nat → Nat) (d : Nat) (post : Int32 → MS → Prop) (a0 : Int64) (u : MS) (h : P_T_kindHere post a0 u) : xC l D clX (tysX cs) Ev y_T_kindHere w_T_kindHere (rmD (d + 2)) (wdS o a cs) [.ref o, .long a0] u (pI post) 0 0 := by
  unfold P_T_kindHere at h
  refine xC.of (cc := b_T_kindHere) (nL := 6) (ret := (some .int)) (by decide) rfl (Nat.le_of_ble_eq_true rfl) ?_
  show RR l D clX (tysX cs) Ev "DeckFront$Tape" b_T_kindHere 6 w_T_kindHere (rmD (d + 2)) (some .int) (wdS o a cs) (pI post) 0 0 0 0 0 [(0, .ref o), (1, .long a0)] [] u
  refine x_iconst (v := 0) d_T_kindHere_0 (by decide) ?_
  refine x_istore_n (lv' := [(3, .int 0), (0, .ref o), (1, .long a0)]) d_T_kindHere_1 (by decide) rfl ?_
  refine x_iconst (v := 0) d_T_kindHere_2 (by decide) ?_
  refine x_istore (lv' := [(4, .int 0), (3, .int 0), (0, .ref o), (1, .long a0)]) d_T_kindHere_3 (by decide) rfl ?_
  refine x_sub [2, 3, 1, 0] rfl ?_
  obtain ⟨f9, h⟩ := h
  exact w_T_kindHere_5 l D cs Ev hE adK adV fm X o a d post  f9 a0 0 0 u h
def P_T_numberAt_4 (post : Int32 → MS → Prop) : Nat → Int32 → Int32 → Int32 → MS → Prop
  | 0, _, _, _, _ => False
  | f + 1, x1, x2, x3, u => (((x1 + (5 : Int32)) ≤ x3 → post x2 u) ∧ (¬ (x1 + (5 : Int32)) ≤ x3 → (((gI u 4) ≤ x3 → post x2 u) ∧ (¬ (gI u 4) ≤ x3 → (vp_in x3 80 ∧ (((isDig (gA u 0 x3.toNatClampNeg)) = 0 → post x2 u) ∧ (¬ (isDig (gA u 0 x3.toNatClampNeg)) = 0 → (vp_in x3 80 ∧ (∀ v1, v1 = (((x2 * (10 : Int32)) + (gA u 0 x3.toNatClampNeg)) - (48 : Int32)) → P_T_numberAt_4 post f x1 v1 (x3 + 1) u)))))))))
set_option maxHeartbeats 600000 in
set_option maxRecDepth 100000 in
theorem w_T_numberAt_4 (l : Launch) (D : va_G) (cs : Nat → ClassId) (Ev : (Nat → Prop) → State → Prop) (hE : xEok Ev) (adK adV : Nat → Nat) (fm : Option Nat) (X : xEv adK adV fm Ev) (o : Nat) (a : Nat → Nat) (d : Nat) (post : Int32 → MS → Prop) : ∀ (f : Nat) (x1 : Int32) (x2 : Int32) (x3 : Int32) (u : MS), P_T_numberAt_4 post  f x1 x2 x3 u → RR l D clX (tysX cs) Ev "DeckFront$Tape" b_T_numberAt 4 w_T_numberAt (rmD (d + 1)) (some .int) (wdS o a cs) (pI post) 0 0 0 0 4 [(0, .ref o), (1, .int x1), (2, .int x2), (3, .int x3)] [] u := by
  intro f
  induction f with
  | zero => intro x1 x2 x3 u h; exact h.elim
  | succ f ih =>
    intro x1 x2 x3 u h
    unfold P_T_numberAt_4 at h
    refine x_iload_n (x := x3) d_T_numberAt_4 rfl ?_
    refine x_iload_n (x := x1) d_T_numberAt_5 rfl ?_
    refine x_iconst (v := 5) d_T_numberAt_6 (by decide) ?_
    refine x_iadd d_T_numberAt_7 ?_
    refine x_icmp_ge (tgt := 52) d_T_numberAt_8 rfl (fun hc => ?_) (fun hc => ?_)
    · have h := h.1 hc
      refine x_iload_n (x := x2) d_T_numberAt_52 rfl ?_
      refine x_iret d_T_numberAt_53 ⟨_, rfl, ?_⟩
      exact h
    · have h := h.2 hc
      refine x_iload_n (x := x3) d_T_numberAt_11 rfl ?_
      refine x_aload_n (x := o) d_T_numberAt_12 rfl ?_
      refine x_get (v := .int (gI u 4)) f_T_25 (eS_o _ _ _ _) rfl d_T_numberAt_13 ?_
      refine x_icmp_ge (tgt := 52) d_T_numberAt_16 rfl (fun hc => ?_) (fun hc => ?_)
      · have h := h.1 hc
        refine x_iload_n (x := x2) d_T_numberAt_52 rfl ?_
        refine x_iret d_T_numberAt_53 ⟨_, rfl, ?_⟩
        exact h
      · have h := h.2 hc
        refine x_aload_n (x := o) d_T_numberAt_19 rfl ?_
        refine x_get (v := .ref (a 0)) f_T_9 (eS_o _ _ _ _) rfl d_T_numberAt_20 ?_
        refine x_iload_n (x := x3) d_T_numberAt_23 rfl ?_
        refine x_cald (t0 := 1) (eS_0 _ _ _ _) rfl h.1 d_T_numberAt_24 ?_
        have h := h.2
        refine x_callSN (st := []) (k_T_59 X) x_none (cf_D_isDigit l D cs Ev hE adK adV fm X (d + 0) (gA u 0 x3.toNatClampNeg)) hE (rmD_ok (by omega) (by decide)) rfl (Nat.le_of_ble_eq_true rfl) rfl d_T_numberAt_25 (x_rI (fun x u1 h9 => ?_))
        obtain ⟨rfl, rfl⟩ := h9
        refine x_if_eq (tgt := 52) d_T_numberAt_28 rfl (fun hc => ?_) (fun hc => ?_)
        · have h := h.1 hc
          refine x_iload_n (x := x2) d_T_numberAt_52 rfl ?_
          refine x_iret d_T_numberAt_53 ⟨_, rfl, ?_⟩
          exact h
        · have h := h.2 hc
          refine x_iload_n (x := x2) d_T_numberAt_31 rfl ?_
          refine x_bipush (v := 10) d_T_numberAt_32 (by decide) ?_
          refine x_imul d_T_numberAt_34 ?_
          refine x_aload_n (x := o) d_T_numberAt_35 rfl ?_
          refine x_get (v := .ref (a 0)) f_T_9 (eS_o _ _ _ _) rfl d_T_numberAt_36 ?_
          refine x_iload_n (x := x3) d_T_numberAt_39 rfl ?_
          refine x_cald (t0 := 1) (eS_0 _ _ _ _) rfl h.1 d_T_numberAt_40 ?_
          have h := h.2
          refine x_iadd d_T_numberAt_41 ?_
          refine x_bipush (v := 48) d_T_numberAt_42 (by decide) ?_
          refine x_isub d_T_numberAt_44 ?_
          refine x_topI (fun v1 ev1 => ?_)
          have h := h v1 ev1
          refine x_istore_n (lv' := [(2, .int v1), (0, .ref o), (1, .int x1), (3, .int x3)]) d_T_numberAt_45 (by decide) rfl ?_
          refine x_iinc (v := x3 + 1) (lv' := [(3, .int (x3 + 1)), (2, .int v1), (0, .ref o), (1, .int x1)]) d_T_numberAt_46 rfl rfl (by decide) rfl ?_
          refine x_goto (tgt := 4) d_T_numberAt_49 rfl ?_
          refine x_sub [2, 3, 1, 0] rfl ?_
          exact ih x1 v1 (x3 + 1) u h
def P_T_numberAt (post : Int32 → MS → Prop) (a0 : Int32) (u : MS) : Prop := (∃ g, P_T_numberAt_4 post g a0 0 a0 u)
set_option maxHeartbeats 600000 in
set_option maxRecDepth 100000 in
theorem c_T_numberAt (l : Launch) (D : va_G) (cs : Nat → ClassId) (Ev : (Nat → Prop) → State → Prop) (hE : xEok Ev) (adK adV : Nat → Nat) (fm : Option Nat) (X : xEv adK adV fm Ev) (o : Nat) (a : Nat → Nat) (d : Nat) (post : Int32 → MS → Prop) (a0 : Int32) (u : MS) (h : P_T_numberAt post a0 u) : xC l D clX (tysX cs) Ev y_T_numberAt w_T_numberAt (rmD (d + 1)) (wdS o a cs) [.ref o, .int a0] u (pI post) 0 0 := by
  unfold P_T_numberAt at h
  refine xC.of (cc := b_T_numberAt) (nL := 4) (ret := (some .int)) (by decide) rfl (Nat.le_of_ble_eq_true rfl) ?_
  show RR l D clX (tysX cs) Ev "DeckFront$Tape" b_T_numberAt 4 w_T_numberAt (rmD (d + 1)) (some .int) (wdS o a cs) (pI post) 0 0 0 0 0 [(0, .ref o), (1, .int a0)] [] u
  refine x_iconst (v := 0) d_T_numberAt_0 (by decide) ?_
  refine x_istore_n (lv' := [(2, .int 0), (0, .ref o), (1, .int a0)]) d_T_numberAt_1 (by decide) rfl ?_
  refine x_iload_n (x := a0) d_T_numberAt_2 rfl ?_
  refine x_istore_n (lv' := [(3, .int a0), (2, .int 0), (0, .ref o), (1, .int a0)]) d_T_numberAt_3 (by decide) rfl ?_
  refine x_sub [2, 3, 1, 0] rfl ?_
  obtain ⟨f9, h⟩ := h
  exact w_T_numberAt_4 l D cs Ev hE adK adV fm X o a d post  f9 a0 0 a0 u h
