abbrev wd0 : Unit → va_W := fun _ => []
def P_M_isLetter (post : Int32 → Unit → Prop) (a0 : Int32) (u : Unit) : Prop := ((a0 < 65 → post 0 u) ∧ (¬ a0 < 65 → ((90 < a0 → post 0 u) ∧ (¬ 90 < a0 → post 1 u))))
set_option maxHeartbeats 4000000 in
set_option maxRecDepth 100000 in
theorem c_M_isLetter (l : Launch) (D : va_G) (cs : Nat → ClassId) (Ev : (Nat → Prop) → State → Prop) (hE : xEok Ev) (d : Nat) (post : Int32 → Unit → Prop) (a0 : Int32) (u : Unit) (h : P_M_isLetter post a0 u) : xC l D clX (tysX cs) Ev y_M_isLetter w_M_isLetter (rmD (d + 0)) wd0 [.int a0] u (pI post) 0 0 := by
  unfold P_M_isLetter at h
  refine xC.of (cc := b_M_isLetter) (nL := 1) (ret := (some .boolean)) (by decide) rfl (Nat.le_of_ble_eq_true rfl) ?_
  show RR l D clX (tysX cs) Ev "DeckFrontModel" b_M_isLetter 1 w_M_isLetter (rmD (d + 0)) (some .boolean) wd0 (pI post) 0 0 0 0 0 [(0, .int a0)] [] u
  refine x_iload_n (x := a0) d_M_isLetter_0 rfl ?_
  refine x_bipush (v := 65) d_M_isLetter_1 (by decide) ?_
  refine x_icmp_lt (tgt := 16) d_M_isLetter_3 rfl (fun hc => ?_) (fun hc => ?_)
  · have h := h.1 hc
    refine x_iconst (v := 0) d_M_isLetter_16 (by decide) ?_
    refine x_zret rfl d_M_isLetter_17 ⟨_, rfl, ?_⟩
    exact h
  · have h := h.2 hc
    refine x_iload_n (x := a0) d_M_isLetter_6 rfl ?_
    refine x_bipush (v := 90) d_M_isLetter_7 (by decide) ?_
    refine x_icmp_gt (tgt := 16) d_M_isLetter_9 rfl (fun hc => ?_) (fun hc => ?_)
    · have h := h.1 hc
      refine x_iconst (v := 0) d_M_isLetter_16 (by decide) ?_
      refine x_zret rfl d_M_isLetter_17 ⟨_, rfl, ?_⟩
      exact h
    · have h := h.2 hc
      refine x_iconst (v := 1) d_M_isLetter_12 (by decide) ?_
      refine x_goto (tgt := 17) d_M_isLetter_13 rfl ?_
      refine x_zret rfl d_M_isLetter_17 ⟨_, rfl, ?_⟩
      exact h
def P_M_isDigit (post : Int32 → Unit → Prop) (a0 : Int32) (u : Unit) : Prop := ((a0 < 48 → post 0 u) ∧ (¬ a0 < 48 → ((57 < a0 → post 0 u) ∧ (¬ 57 < a0 → post 1 u))))
set_option maxHeartbeats 4000000 in
set_option maxRecDepth 100000 in
theorem c_M_isDigit (l : Launch) (D : va_G) (cs : Nat → ClassId) (Ev : (Nat → Prop) → State → Prop) (hE : xEok Ev) (d : Nat) (post : Int32 → Unit → Prop) (a0 : Int32) (u : Unit) (h : P_M_isDigit post a0 u) : xC l D clX (tysX cs) Ev y_M_isDigit w_M_isDigit (rmD (d + 0)) wd0 [.int a0] u (pI post) 0 0 := by
  unfold P_M_isDigit at h
  refine xC.of (cc := b_M_isDigit) (nL := 1) (ret := (some .boolean)) (by decide) rfl (Nat.le_of_ble_eq_true rfl) ?_
  show RR l D clX (tysX cs) Ev "DeckFrontModel" b_M_isDigit 1 w_M_isDigit (rmD (d + 0)) (some .boolean) wd0 (pI post) 0 0 0 0 0 [(0, .int a0)] [] u
  refine x_iload_n (x := a0) d_M_isDigit_0 rfl ?_
  refine x_bipush (v := 48) d_M_isDigit_1 (by decide) ?_
  refine x_icmp_lt (tgt := 16) d_M_isDigit_3 rfl (fun hc => ?_) (fun hc => ?_)
  · have h := h.1 hc
    refine x_iconst (v := 0) d_M_isDigit_16 (by decide) ?_
    refine x_zret rfl d_M_isDigit_17 ⟨_, rfl, ?_⟩
    exact h
  · have h := h.2 hc
    refine x_iload_n (x := a0) d_M_isDigit_6 rfl ?_
    refine x_bipush (v := 57) d_M_isDigit_7 (by decide) ?_
    refine x_icmp_gt (tgt := 16) d_M_isDigit_9 rfl (fun hc => ?_) (fun hc => ?_)
    · have h := h.1 hc
      refine x_iconst (v := 0) d_M_isDigit_16 (by decide) ?_
      refine x_zret rfl d_M_isDigit_17 ⟨_, rfl, ?_⟩
      exact h
    · have h := h.2 hc
      refine x_iconst (v := 1) d_M_isDigit_12 (by decide) ?_
      refine x_goto (tgt := 17) d_M_isDigit_13 rfl ?_
      refine x_zret rfl d_M_isDigit_17 ⟨_, rfl, ?_⟩
      exact h
def isLet (x : Int32) : Int32 := if x < 65 then 0 else if 90 < x then 0 else 1
def isDig (x : Int32) : Int32 := if x < 48 then 0 else if 57 < x then 0 else 1
theorem cf_M_isLetter (l : Launch) (D : va_G) (cs : Nat → ClassId) (Ev : (Nat → Prop) → State → Prop) (hE : xEok Ev) (d : Nat) (x : Int32) : xC l D clX (tysX cs) Ev y_M_isLetter w_M_isLetter (rmD (d + 0)) wd0 [.int x] () (pI (fun r u1 => r = isLet x ∧ u1 = ())) 0 0 := by
  refine c_M_isLetter l D cs Ev hE d _ x () ?_
  unfold P_M_isLetter isLet
  exact ⟨fun h => ⟨by rw [if_pos h], rfl⟩, fun h => ⟨fun h2 => ⟨by rw [if_neg h, if_pos h2], rfl⟩, fun h2 => ⟨by rw [if_neg h, if_neg h2], rfl⟩⟩⟩
theorem cf_M_isDigit (l : Launch) (D : va_G) (cs : Nat → ClassId) (Ev : (Nat → Prop) → State → Prop) (hE : xEok Ev) (d : Nat) (x : Int32) : xC l D clX (tysX cs) Ev y_M_isDigit w_M_isDigit (rmD (d + 0)) wd0 [.int x] () (pI (fun r u1 => r = isDig x ∧ u1 = ())) 0 0 := by
  refine c_M_isDigit l D cs Ev hE d _ x () ?_
  unfold P_M_isDigit isDig
  exact ⟨fun h => ⟨by rw [if_pos h], rfl⟩, fun h => ⟨fun h2 => ⟨by rw [if_neg h, if_pos h2], rfl⟩, fun h2 => ⟨by rw [if_neg h, if_neg h2], rfl⟩⟩⟩
def P_M_at (post : Int32 → MS → Prop) (a0 : Int32) (u : MS) : Prop := (((gI u 8) ≤ a0 → post 0 u) ∧ (¬ (gI u 8) ≤ a0 → (vp_in a0 1920 ∧ post (gA u 6 a0.toNatClampNeg) u)))
set_option maxHeartbeats 4000000 in
set_option maxRecDepth 100000 in
theorem c_M_at (l : Launch) (D : va_G) (cs : Nat → ClassId) (Ev : (Nat → Prop) → State → Prop) (hE : xEok Ev) (o : Nat) (a : Nat → Nat) (d : Nat) (post : Int32 → MS → Prop) (a0 : Int32) (u : MS) (h : P_M_at post a0 u) : xC l D clX (tysX cs) Ev y_M_at w_M_at (rmD (d + 0)) (wdM o a cs) [.ref o, .int a0] u (pI post) 0 0 := by
  unfold P_M_at at h
  refine xC.of (cc := b_M_at) (nL := 2) (ret := (some .int)) (by decide) rfl (Nat.le_of_ble_eq_true rfl) ?_
  show RR l D clX (tysX cs) Ev "DeckFrontModel" b_M_at 2 w_M_at (rmD (d + 0)) (some .int) (wdM o a cs) (pI post) 0 0 0 0 0 [(0, .ref o), (1, .int a0)] [] u
  refine x_iload_n (x := a0) d_M_at_0 rfl ?_
  refine x_aload_n (x := o) d_M_at_1 rfl ?_
  refine x_get (v := .int (gI u 8)) f_M_116 (eM_o _ _ _ _) rfl d_M_at_2 ?_
  refine x_icmp_ge (tgt := 17) d_M_at_5 rfl (fun hc => ?_) (fun hc => ?_)
  · have h := h.1 hc
    refine x_iconst (v := 0) d_M_at_17 (by decide) ?_
    refine x_iret d_M_at_18 ⟨_, rfl, ?_⟩
    exact h
  · have h := h.2 hc
    refine x_aload_n (x := o) d_M_at_8 rfl ?_
    refine x_get (v := .ref (a 6)) f_M_20 (eM_o _ _ _ _) rfl d_M_at_9 ?_
    refine x_iload_n (x := a0) d_M_at_12 rfl ?_
    refine x_cald (t0 := 1) (eM_6 _ _ _ _) rfl h.1 d_M_at_13 ?_
    have h := h.2
    refine x_goto (tgt := 18) d_M_at_14 rfl ?_
    refine x_iret d_M_at_18 ⟨_, rfl, ?_⟩
    exact h
def P_M_put (post : MS → Prop) (a0 : Int32) (u : MS) : Prop := (vp_in (gI u 10) 600 ∧ post (sI (sA u 11 (gI u 10).toNatClampNeg (vp_nar .char ((a0.toUInt32 % 65536).toInt32))) 10 ((gI u 10) + (1 : Int32))))
set_option maxHeartbeats 4000000 in
set_option maxRecDepth 100000 in
theorem c_M_put (l : Launch) (D : va_G) (cs : Nat → ClassId) (Ev : (Nat → Prop) → State → Prop) (hE : xEok Ev) (o : Nat) (a : Nat → Nat) (d : Nat) (post : MS → Prop) (a0 : Int32) (u : MS) (h : P_M_put post a0 u) : xC l D clX (tysX cs) Ev y_M_put w_M_put (rmD (d + 0)) (wdM o a cs) [.ref o, .int a0] u (pV post) 0 0 := by
  unfold P_M_put at h
  refine xC.of (cc := b_M_put) (nL := 2) (ret := none) (by decide) rfl (Nat.le_of_ble_eq_true rfl) ?_
  show RR l D clX (tysX cs) Ev "DeckFrontModel" b_M_put 2 w_M_put (rmD (d + 0)) none (wdM o a cs) (pV post) 0 0 0 0 0 [(0, .ref o), (1, .int a0)] [] u
  refine x_aload_n (x := o) d_M_put_0 rfl ?_
  refine x_get (v := .ref (a 11)) f_M_23 (eM_o _ _ _ _) rfl d_M_put_1 ?_
  refine x_aload_n (x := o) d_M_put_4 rfl ?_
  refine x_get (v := .int (gI u 10)) f_M_119 (eM_o _ _ _ _) rfl d_M_put_5 ?_
  refine x_iload_n (x := a0) d_M_put_8 rfl ?_
  refine x_i2c d_M_put_9 ?_
  refine x_cast (t0 := 1) (eM_11 _ _ _ _) rfl h.1 (sM_11 _ _ _ _ _ _) d_M_put_10 ?_
  have h := h.2
  refine x_aload_n (x := o) d_M_put_11 rfl ?_
  refine x_dup d_M_put_12 rfl ?_
  refine x_get (v := .int (gI u 10)) f_M_119 (eM_o _ _ _ _) rfl d_M_put_13 ?_
  refine x_iconst (v := 1) d_M_put_16 (by decide) ?_
  refine x_iadd d_M_put_17 ?_
  refine x_put f_M_119 fw_M_10 (eM_o _ _ _ _) rfl rfl (Nat.le_of_ble_eq_true rfl) (sM_10 _ _ _ _ _) d_M_put_18 ?_
  refine x_vret d_M_put_21 ⟨rfl, ?_⟩
  exact h
def P_M_thrown (post : Int32 → MS → Prop) (u : MS) : Prop := post (gI u 0) u
set_option maxHeartbeats 4000000 in
set_option maxRecDepth 100000 in
theorem c_M_thrown (l : Launch) (D : va_G) (cs : Nat → ClassId) (Ev : (Nat → Prop) → State → Prop) (hE : xEok Ev) (o : Nat) (a : Nat → Nat) (d : Nat) (post : Int32 → MS → Prop) (u : MS) (h : P_M_thrown post  u) : xC l D clX (tysX cs) Ev y_M_thrown w_M_thrown (rmD (d + 0)) (wdM o a cs) [.ref o] u (pI post) 0 0 := by
  unfold P_M_thrown at h
  refine xC.of (cc := b_M_thrown) (nL := 1) (ret := (some .int)) (by decide) rfl (Nat.le_of_ble_eq_true rfl) ?_
  show RR l D clX (tysX cs) Ev "DeckFrontModel" b_M_thrown 1 w_M_thrown (rmD (d + 0)) (some .int) (wdM o a cs) (pI post) 0 0 0 0 0 [(0, .ref o)] [] u
  refine x_aload_n (x := o) d_M_thrown_0 rfl ?_
  refine x_get (v := .int (gI u 0)) f_M_82 (eM_o _ _ _ _) rfl d_M_thrown_1 ?_
  refine x_iret d_M_thrown_4 ⟨_, rfl, ?_⟩
  exact h
def P_M_there (post : Int32 → MS → Prop) (a0 : Int32) (u : MS) : Prop := ((a0 < 0 → post 0 u) ∧ (¬ a0 < 0 → (((gI u 3) ≤ a0 → post 0 u) ∧ (¬ (gI u 3) ≤ a0 → post 1 u))))
set_option maxHeartbeats 4000000 in
set_option maxRecDepth 100000 in
theorem c_M_there (l : Launch) (D : va_G) (cs : Nat → ClassId) (Ev : (Nat → Prop) → State → Prop) (hE : xEok Ev) (o : Nat) (a : Nat → Nat) (d : Nat) (post : Int32 → MS → Prop) (a0 : Int32) (u : MS) (h : P_M_there post a0 u) : xC l D clX (tysX cs) Ev y_M_there w_M_there (rmD (d + 0)) (wdM o a cs) [.ref o, .int a0] u (pI post) 0 0 := by
  unfold P_M_there at h
  refine xC.of (cc := b_M_there) (nL := 2) (ret := (some .boolean)) (by decide) rfl (Nat.le_of_ble_eq_true rfl) ?_
  show RR l D clX (tysX cs) Ev "DeckFrontModel" b_M_there 2 w_M_there (rmD (d + 0)) (some .boolean) (wdM o a cs) (pI post) 0 0 0 0 0 [(0, .ref o), (1, .int a0)] [] u
  refine x_iload_n (x := a0) d_M_there_0 rfl ?_
  refine x_if_lt (tgt := 16) d_M_there_1 rfl (fun hc => ?_) (fun hc => ?_)
  · have h := h.1 hc
    refine x_iconst (v := 0) d_M_there_16 (by decide) ?_
    refine x_zret rfl d_M_there_17 ⟨_, rfl, ?_⟩
    exact h
  · have h := h.2 hc
    refine x_iload_n (x := a0) d_M_there_4 rfl ?_
    refine x_aload_n (x := o) d_M_there_5 rfl ?_
    refine x_get (v := .int (gI u 3)) f_M_99 (eM_o _ _ _ _) rfl d_M_there_6 ?_
    refine x_icmp_ge (tgt := 16) d_M_there_9 rfl (fun hc => ?_) (fun hc => ?_)
    · have h := h.1 hc
      refine x_iconst (v := 0) d_M_there_16 (by decide) ?_
      refine x_zret rfl d_M_there_17 ⟨_, rfl, ?_⟩
      exact h
    · have h := h.2 hc
      refine x_iconst (v := 1) d_M_there_12 (by decide) ?_
      refine x_goto (tgt := 17) d_M_there_13 rfl ?_
      refine x_zret rfl d_M_there_17 ⟨_, rfl, ?_⟩
      exact h
def P_M_putPart_2 (post : MS → Prop) : Nat → Int32 → Int32 → MS → Prop
  | 0, _, _, _ => False
  | f + 1, x2, x3, u => ((x2 ≤ x3 → post u) ∧ (¬ x2 ≤ x3 → (vp_in x3 1920 ∧ P_M_put (fun u1 => P_M_putPart_2 post f x2 (x3 + 1) u1) (gA u 6 x3.toNatClampNeg) u)))
set_option maxHeartbeats 4000000 in
set_option maxRecDepth 100000 in
theorem w_M_putPart_2 (l : Launch) (D : va_G) (cs : Nat → ClassId) (Ev : (Nat → Prop) → State → Prop) (hE : xEok Ev) (o : Nat) (a : Nat → Nat) (d : Nat) (post : MS → Prop) : ∀ (f : Nat) (x2 : Int32) (x3 : Int32) (u : MS), P_M_putPart_2 post  f x2 x3 u → RR l D clX (tysX cs) Ev "DeckFrontModel" b_M_putPart 4 w_M_putPart (rmD (d + 1)) none (wdM o a cs) (pV post) 0 0 0 0 2 [(0, .ref o), (2, .int x2), (3, .int x3)] [] u := by
  intro f
  induction f with
  | zero => intro x2 x3 u h; exact h.elim
  | succ f ih =>
    intro x2 x3 u h
    unfold P_M_putPart_2 at h
    refine x_iload_n (x := x3) d_M_putPart_2 rfl ?_
    refine x_iload_n (x := x2) d_M_putPart_3 rfl ?_
    refine x_icmp_ge (tgt := 23) d_M_putPart_4 rfl (fun hc => ?_) (fun hc => ?_)
    · have h := h.1 hc
      refine x_vret d_M_putPart_23 ⟨rfl, ?_⟩
      exact h
    · have h := h.2 hc
      refine x_aload_n (x := o) d_M_putPart_7 rfl ?_
      refine x_aload_n (x := o) d_M_putPart_8 rfl ?_
      refine x_get (v := .ref (a 6)) f_M_20 (eM_o _ _ _ _) rfl d_M_putPart_9 ?_
      refine x_iload_n (x := x3) d_M_putPart_12 rfl ?_
      refine x_cald (t0 := 1) (eM_6 _ _ _ _) rfl h.1 d_M_putPart_13 ?_
      have h := h.2
      refine x_callV (st := []) k_M_122 rfl (eM_o _ _ _ _) x_id (c_M_put l D cs Ev hE o a (d + 0) _ (gA u 6 x3.toNatClampNeg) u h) hE (rmD_ok (by omega) (by decide)) rfl (Nat.le_of_ble_eq_true rfl) rfl d_M_putPart_14 (x_rV (fun u1 h => ?_))
      refine x_iinc (v := x3 + 1) (lv' := [(3, .int (x3 + 1)), (0, .ref o), (2, .int x2)]) d_M_putPart_17 rfl rfl (by decide) rfl ?_
      refine x_goto (tgt := 2) d_M_putPart_20 rfl ?_
      refine x_sub [1, 2, 0] rfl ?_
      exact ih x2 (x3 + 1) u1 h
def P_M_putPart (post : MS → Prop) (a0 : Int32) (a1 : Int32) (u : MS) : Prop := (∃ f, P_M_putPart_2 post f a1 a0 u)
set_option maxHeartbeats 4000000 in
set_option maxRecDepth 100000 in
theorem c_M_putPart (l : Launch) (D : va_G) (cs : Nat → ClassId) (Ev : (Nat → Prop) → State → Prop) (hE : xEok Ev) (o : Nat) (a : Nat → Nat) (d : Nat) (post : MS → Prop) (a0 : Int32) (a1 : Int32) (u : MS) (h : P_M_putPart post a0 a1 u) : xC l D clX (tysX cs) Ev y_M_putPart w_M_putPart (rmD (d + 1)) (wdM o a cs) [.ref o, .int a0, .int a1] u (pV post) 0 0 := by
  unfold P_M_putPart at h
  refine xC.of (cc := b_M_putPart) (nL := 4) (ret := none) (by decide) rfl (Nat.le_of_ble_eq_true rfl) ?_
  show RR l D clX (tysX cs) Ev "DeckFrontModel" b_M_putPart 4 w_M_putPart (rmD (d + 1)) none (wdM o a cs) (pV post) 0 0 0 0 0 [(0, .ref o), (1, .int a0), (2, .int a1)] [] u
  refine x_iload_n (x := a0) d_M_putPart_0 rfl ?_
  refine x_istore_n (lv' := [(3, .int a0), (0, .ref o), (1, .int a0), (2, .int a1)]) d_M_putPart_1 (by decide) rfl ?_
  refine x_sub [1, 3, 0] rfl ?_
  obtain ⟨f9, h⟩ := h
  exact w_M_putPart_2 l D cs Ev hE o a d post  f9 a1 a0 u h
def P_M_label (post : Int32 → MS → Prop) (a0 : Int32) (u : MS) : Prop := P_M_there (fun r2 u1 => ((r2 = 0 → post (-1) u1) ∧ (¬ r2 = 0 → (vp_in a0 24 ∧ post (gA u1 4 a0.toNatClampNeg) u1)))) a0 (sI u 0 (0 : Int32))
set_option maxHeartbeats 4000000 in
set_option maxRecDepth 100000 in
theorem c_M_label (l : Launch) (D : va_G) (cs : Nat → ClassId) (Ev : (Nat → Prop) → State → Prop) (hE : xEok Ev) (o : Nat) (a : Nat → Nat) (d : Nat) (post : Int32 → MS → Prop) (a0 : Int32) (u : MS) (h : P_M_label post a0 u) : xC l D clX (tysX cs) Ev y_M_label w_M_label (rmD (d + 1)) (wdM o a cs) [.ref o, .int a0] u (pI post) 0 0 := by
  unfold P_M_label at h
  refine xC.of (cc := b_M_label) (nL := 2) (ret := (some .int)) (by decide) rfl (Nat.le_of_ble_eq_true rfl) ?_
  show RR l D clX (tysX cs) Ev "DeckFrontModel" b_M_label 2 w_M_label (rmD (d + 1)) (some .int) (wdM o a cs) (pI post) 0 0 0 0 0 [(0, .ref o), (1, .int a0)] [] u
  refine x_aload_n (x := o) d_M_label_0 rfl ?_
  refine x_iconst (v := 0) d_M_label_1 (by decide) ?_
  refine x_put f_M_82 fw_M_0 (eM_o _ _ _ _) rfl rfl (Nat.le_of_ble_eq_true rfl) (sM_0 _ _ _ _ _) d_M_label_2 ?_
  refine x_aload_n (x := o) d_M_label_5 rfl ?_
  refine x_iload_n (x := a0) d_M_label_6 rfl ?_
  refine x_callV (st := []) k_M_113 rfl (eM_o _ _ _ _) x_id (c_M_there l D cs Ev hE o a (d + 0) _ a0 (sI u 0 (0 : Int32)) h) hE (rmD_ok (by omega) (by decide)) rfl (Nat.le_of_ble_eq_true rfl) rfl d_M_label_7 (x_rI (fun r2 u1 h => ?_))
  refine x_if_eq (tgt := 22) d_M_label_10 rfl (fun hc => ?_) (fun hc => ?_)
  · have h := h.1 hc
    refine x_iconst (v := (-1)) d_M_label_22 (by decide) ?_
    refine x_iret d_M_label_23 ⟨_, rfl, ?_⟩
    exact h
  · have h := h.2 hc
    refine x_aload_n (x := o) d_M_label_13 rfl ?_
    refine x_get (v := .ref (a 4)) f_M_13 (eM_o _ _ _ _) rfl d_M_label_14 ?_
    refine x_iload_n (x := a0) d_M_label_17 rfl ?_
    refine x_iald (t0 := 0) (eM_4 _ _ _ _) rfl h.1 d_M_label_18 ?_
    have h := h.2
    refine x_goto (tgt := 23) d_M_label_19 rfl ?_
    refine x_iret d_M_label_23 ⟨_, rfl, ?_⟩
    exact h
