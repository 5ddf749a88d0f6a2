def P_U_innermost (post : Int32 → XS → Prop) (u : XS) : Prop := (((gI u.2.2.1 1) ≤ 0 → post 0 u) ∧ (¬ (gI u.2.2.1 1) ≤ 0 → (vp_in ((gI u.2.2.1 1) - (1 : Int32)) 24 ∧ post (gA u.2.2.1 0 ((gI u.2.2.1 1) - (1 : Int32)).toNatClampNeg) u)))
set_option maxHeartbeats 600000 in
set_option maxRecDepth 100000 in
theorem c_U_innermost (l : Launch) (D : va_G) (cs : Nat → ClassId) (Ev : (Nat → Prop) → State → Prop) (hE : xEok Ev) (adK adV : Nat → Nat) (fm : Option Nat) (X : xEv adK adV fm Ev) (ad to : Nat → Nat) (ta : Nat → Nat → Nat) (d : Nat) (post : Int32 → XS → Prop) (u : XS) (h : P_U_innermost post  u) : xC l D clX (tysX cs) Ev y_U_innermost w_U_innermost (rmD (d + 0)) (wdX ad to ta cs) [.ref (ad 5)] u (pI post) 0 0 := by
  unfold P_U_innermost at h
  refine xC.of (cc := b_U_innermost) (nL := 1) (ret := (some .int)) (by decide) rfl (Nat.le_of_ble_eq_true rfl) ?_
  show RR l D clX (tysX cs) Ev "DeckFront$Structure" b_U_innermost 1 w_U_innermost (rmD (d + 0)) (some .int) (wdX ad to ta cs) (pI post) 0 0 0 0 0 [(0, .ref (ad 5))] [] u
  refine x_aload_n (x := (ad 5)) d_U_innermost_0 rfl ?_
  refine x_get (v := .int (gI u.2.2.1 1)) f_U_15 (eX_5 ad to ta cs u.1 u.2.1 u.2.2.1 u.2.2.2) rfl d_U_innermost_1 ?_
  refine x_if_le (tgt := 21) d_U_innermost_4 rfl (fun hc => ?_) (fun hc => ?_)
  · have h := h.1 hc
    refine x_iconst (v := 0) d_U_innermost_21 (by decide) ?_
    refine x_iret d_U_innermost_22 ⟨_, rfl, ?_⟩
    exact h
  · have h := h.2 hc
    refine x_aload_n (x := (ad 5)) d_U_innermost_7 rfl ?_
    refine x_get (v := .ref (ad 6)) f_U_9 (eX_5 ad to ta cs u.1 u.2.1 u.2.2.1 u.2.2.2) rfl d_U_innermost_8 ?_
    refine x_aload_n (x := (ad 5)) d_U_innermost_11 rfl ?_
    refine x_get (v := .int (gI u.2.2.1 1)) f_U_15 (eX_5 ad to ta cs u.1 u.2.1 u.2.2.1 u.2.2.2) rfl d_U_innermost_12 ?_
    refine x_iconst (v := 1) d_U_innermost_15 (by decide) ?_
    refine x_isub d_U_innermost_16 ?_
    refine x_iald (t0 := 0) (eX_6 ad to ta cs u.1 u.2.1 u.2.2.1 u.2.2.2) rfl h.1 d_U_innermost_17 ?_
    have h := h.2
    refine x_goto (tgt := 22) d_U_innermost_18 rfl ?_
    refine x_iret d_U_innermost_22 ⟨_, rfl, ?_⟩
    exact h
def P_U_isOpen_2 (post : Int32 → XS → Prop) : Nat → Int32 → Int32 → XS → Prop
  | 0, _, _, _ => False
  | f + 1, x1, x2, u => (((gI u.2.2.1 1) ≤ x2 → post 0 u) ∧ (¬ (gI u.2.2.1 1) ≤ x2 → (vp_in x2 24 ∧ ((¬ (gA u.2.2.1 0 x2.toNatClampNeg) = x1 → P_U_isOpen_2 post f x1 (x2 + 1) u) ∧ ((gA u.2.2.1 0 x2.toNatClampNeg) = x1 → post 1 u)))))
set_option maxHeartbeats 600000 in
set_option maxRecDepth 100000 in
theorem w_U_isOpen_2 (l : Launch) (D : va_G) (cs : Nat → ClassId) (Ev : (Nat → Prop) → State → Prop) (hE : xEok Ev) (adK adV : Nat → Nat) (fm : Option Nat) (X : xEv adK adV fm Ev) (ad to : Nat → Nat) (ta : Nat → Nat → Nat) (d : Nat) (post : Int32 → XS → Prop) : ∀ (f : Nat) (x1 : Int32) (x2 : Int32) (u : XS), P_U_isOpen_2 post  f x1 x2 u → RR l D clX (tysX cs) Ev "DeckFront$Structure" b_U_isOpen 3 w_U_isOpen (rmD (d + 0)) (some .boolean) (wdX ad to ta cs) (pI post) 0 0 0 0 2 [(0, .ref (ad 5)), (1, .int x1), (2, .int x2)] [] u := by
  intro f
  induction f with
  | zero => intro x1 x2 u h; exact h.elim
  | succ f ih =>
    intro x1 x2 u h
    unfold P_U_isOpen_2 at h
    refine x_iload_n (x := x2) d_U_isOpen_2 rfl ?_
    refine x_aload_n (x := (ad 5)) d_U_isOpen_3 rfl ?_
    refine x_get (v := .int (gI u.2.2.1 1)) f_U_15 (eX_5 ad to ta cs u.1 u.2.1 u.2.2.1 u.2.2.2) rfl d_U_isOpen_4 ?_
    refine x_icmp_ge (tgt := 28) d_U_isOpen_7 rfl (fun hc => ?_) (fun hc => ?_)
    · have h := h.1 hc
      refine x_iconst (v := 0) d_U_isOpen_28 (by decide) ?_
      refine x_zret rfl d_U_isOpen_29 ⟨_, rfl, ?_⟩
      exact h
    · have h := h.2 hc
      refine x_aload_n (x := (ad 5)) d_U_isOpen_10 rfl ?_
      refine x_get (v := .ref (ad 6)) f_U_9 (eX_5 ad to ta cs u.1 u.2.1 u.2.2.1 u.2.2.2) rfl d_U_isOpen_11 ?_
      refine x_iload_n (x := x2) d_U_isOpen_14 rfl ?_
      refine x_iald (t0 := 0) (eX_6 ad to ta cs u.1 u.2.1 u.2.2.1 u.2.2.2) rfl h.1 d_U_isOpen_15 ?_
      have h := h.2
      refine x_iload_n (x := x1) d_U_isOpen_16 rfl ?_
      refine x_icmp_ne (tgt := 22) d_U_isOpen_17 rfl (fun hc => ?_) (fun hc => ?_)
      · have h := h.1 hc
        refine x_iinc (v := x2 + 1) (lv' := [(2, .int (x2 + 1)), (0, .ref (ad 5)), (1, .int x1)]) d_U_isOpen_22 rfl rfl (by decide) rfl ?_
        refine x_goto (tgt := 2) d_U_isOpen_25 rfl ?_
        refine x_sub [1, 2, 0] rfl ?_
        exact ih x1 (x2 + 1) u h
      · have h := h.2 hc
        refine x_iconst (v := 1) d_U_isOpen_20 (by decide) ?_
        refine x_zret rfl d_U_isOpen_21 ⟨_, rfl, ?_⟩
        exact h
def P_U_isOpen (post : Int32 → XS → Prop) (a0 : Int32) (u : XS) : Prop := (∃ g, P_U_isOpen_2 post g a0 0 u)
set_option maxHeartbeats 600000 in
set_option maxRecDepth 100000 in
theorem c_U_isOpen (l : Launch) (D : va_G) (cs : Nat → ClassId) (Ev : (Nat → Prop) → State → Prop) (hE : xEok Ev) (adK adV : Nat → Nat) (fm : Option Nat) (X : xEv adK adV fm Ev) (ad to : Nat → Nat) (ta : Nat → Nat → Nat) (d : Nat) (post : Int32 → XS → Prop) (a0 : Int32) (u : XS) (h : P_U_isOpen post a0 u) : xC l D clX (tysX cs) Ev y_U_isOpen w_U_isOpen (rmD (d + 0)) (wdX ad to ta cs) [.ref (ad 5), .int a0] u (pI post) 0 0 := by
  unfold P_U_isOpen at h
  refine xC.of (cc := b_U_isOpen) (nL := 3) (ret := (some .boolean)) (by decide) rfl (Nat.le_of_ble_eq_true rfl) ?_
  show RR l D clX (tysX cs) Ev "DeckFront$Structure" b_U_isOpen 3 w_U_isOpen (rmD (d + 0)) (some .boolean) (wdX ad to ta cs) (pI post) 0 0 0 0 0 [(0, .ref (ad 5)), (1, .int a0)] [] u
  refine x_iconst (v := 0) d_U_isOpen_0 (by decide) ?_
  refine x_istore_n (lv' := [(2, .int 0), (0, .ref (ad 5)), (1, .int a0)]) d_U_isOpen_1 (by decide) rfl ?_
  refine x_sub [1, 2, 0] rfl ?_
  obtain ⟨f9, h⟩ := h
  exact w_U_isOpen_2 l D cs Ev hE adK adV fm X ad to ta d post  f9 a0 0 u h
def P_U_branchFits (post : Int32 → XS → Prop) (j : Nat) (u : XS) : Prop := P_U_innermost (fun r2 u1 => ((r2 = (-1) → post 1 u1) ∧ (¬ r2 = (-1) → P_U_innermost (fun r4 u3 => ((¬ r4 = (-2) → post 0 u3) ∧ (r4 = (-2) → (j < 24 ∧ ((¬ (gI (u3.2.2.2 j) 8) = 7 → post 0 u3) ∧ ((gI (u3.2.2.2 j) 8) = 7 → post 1 u3)))))) u1))) u
set_option maxHeartbeats 600000 in
set_option maxRecDepth 100000 in
theorem c_U_branchFits (l : Launch) (D : va_G) (cs : Nat → ClassId) (Ev : (Nat → Prop) → State → Prop) (hE : xEok Ev) (adK adV : Nat → Nat) (fm : Option Nat) (X : xEv adK adV fm Ev) (ad to : Nat → Nat) (ta : Nat → Nat → Nat) (j : Nat) (d : Nat) (post : Int32 → XS → Prop) (u : XS) (h : P_U_branchFits post j  u) : xC l D clX (tysX cs) Ev y_U_branchFits w_U_branchFits (rmD (d + 1)) (wdX ad to ta cs) [.ref (ad 5), .ref (to j)] u (pI post) 0 0 := by
  unfold P_U_branchFits at h
  refine xC.of (cc := b_U_branchFits) (nL := 2) (ret := (some .boolean)) (by decide) rfl (Nat.le_of_ble_eq_true rfl) ?_
  show RR l D clX (tysX cs) Ev "DeckFront$Structure" b_U_branchFits 2 w_U_branchFits (rmD (d + 1)) (some .boolean) (wdX ad to ta cs) (pI post) 0 0 0 0 0 [(0, .ref (ad 5)), (1, .ref (to j))] [] u
  refine x_aload_n (x := (ad 5)) d_U_branchFits_0 rfl ?_
  refine x_callV (st := []) k_U_65 rfl (eX_5 ad to ta cs u.1 u.2.1 u.2.2.1 u.2.2.2) x_id (c_U_innermost l D cs Ev hE adK adV fm X ad to ta (d + 0) _ u h) hE (rmD_ok (by omega) (by decide)) rfl (Nat.le_of_ble_eq_true rfl) rfl d_U_branchFits_1 (x_rI (fun r2 u1 h => ?_))
  refine x_iconst (v := (-1)) d_U_branchFits_4 (by decide) ?_
  refine x_icmp_eq (tgt := 26) d_U_branchFits_5 rfl (fun hc => ?_) (fun hc => ?_)
  · have h := h.1 hc
    refine x_iconst (v := 1) d_U_branchFits_26 (by decide) ?_
    refine x_goto (tgt := 31) d_U_branchFits_27 rfl ?_
    refine x_zret rfl d_U_branchFits_31 ⟨_, rfl, ?_⟩
    exact h
  · have h := h.2 hc
    refine x_aload_n (x := (ad 5)) d_U_branchFits_8 rfl ?_
    refine x_callV (st := []) k_U_65 rfl (eX_5 ad to ta cs u1.1 u1.2.1 u1.2.2.1 u1.2.2.2) x_id (c_U_innermost l D cs Ev hE adK adV fm X ad to ta (d + 0) _ u1 h) hE (rmD_ok (by omega) (by decide)) rfl (Nat.le_of_ble_eq_true rfl) rfl d_U_branchFits_9 (x_rI (fun r4 u3 h => ?_))
    refine x_bipush (v := (-2)) d_U_branchFits_12 (by decide) ?_
    refine x_icmp_ne (tgt := 30) d_U_branchFits_14 rfl (fun hc => ?_) (fun hc => ?_)
    · have h := h.1 hc
      refine x_iconst (v := 0) d_U_branchFits_30 (by decide) ?_
      refine x_zret rfl d_U_branchFits_31 ⟨_, rfl, ?_⟩
      exact h
    · have h := h.2 hc
      refine x_aload_n (x := (to j)) d_U_branchFits_17 rfl ?_
      refine x_getM (v := .int (gI (u3.2.2.2 j) 8)) f_U_38 (mem_row ad to ta cs u3.1 u3.2.1 u3.2.2.1 u3.2.2.2 j h.1) rfl d_U_branchFits_18 ?_
      have h := h.2
      refine x_bipush (v := 7) d_U_branchFits_21 (by decide) ?_
      refine x_icmp_ne (tgt := 30) d_U_branchFits_23 rfl (fun hc => ?_) (fun hc => ?_)
      · have h := h.1 hc
        refine x_iconst (v := 0) d_U_branchFits_30 (by decide) ?_
        refine x_zret rfl d_U_branchFits_31 ⟨_, rfl, ?_⟩
        exact h
      · have h := h.2 hc
        refine x_iconst (v := 1) d_U_branchFits_26 (by decide) ?_
        refine x_goto (tgt := 31) d_U_branchFits_27 rfl ?_
        refine x_zret rfl d_U_branchFits_31 ⟨_, rfl, ?_⟩
        exact h
def P_U_endWhatEnds_26 (post : XS → Prop) (j : Nat) : Nat → Nat → XS → Prop
  | 0, _, _ => False
  | f + 1, y1, u => (((gI u.2.2.1 1) ≤ 0 → post u) ∧ (¬ (gI u.2.2.1 1) ≤ 0 → (vp_in ((gI u.2.2.1 1) - (1 : Int32)) 24 ∧ (y1 < 24 ∧ ((¬ (gA u.2.2.1 0 ((gI u.2.2.1 1) - (1 : Int32)).toNatClampNeg) = (gI (u.2.2.2 y1) 7) → post u) ∧ ((gA u.2.2.1 0 ((gI u.2.2.1 1) - (1 : Int32)).toNatClampNeg) = (gI (u.2.2.2 y1) 7) → P_U_endWhatEnds_26 post j f y1 (u.1, u.2.1, (sI u.2.2.1 1 ((gI u.2.2.1 1) - (1 : Int32))), u.2.2.2)))))))
set_option maxHeartbeats 600000 in
set_option maxRecDepth 100000 in
theorem w_U_endWhatEnds_26 (l : Launch) (D : va_G) (cs : Nat → ClassId) (Ev : (Nat → Prop) → State → Prop) (hE : xEok Ev) (adK adV : Nat → Nat) (fm : Option Nat) (X : xEv adK adV fm Ev) (ad to : Nat → Nat) (ta : Nat → Nat → Nat) (j : Nat) (d : Nat) (post : XS → Prop) : ∀ (f : Nat) (y1 : Nat) (u : XS), P_U_endWhatEnds_26 post j  f y1 u → RR l D clX (tysX cs) Ev "DeckFront$Structure" b_U_endWhatEnds 2 w_U_endWhatEnds (rmD (d + 0)) none (wdX ad to ta cs) (pV post) 0 0 0 0 26 [(0, .ref (ad 5)), (1, .ref (to y1))] [] u := by
  intro f
  induction f with
  | zero => intro y1 u h; exact h.elim
  | succ f ih =>
    intro y1 u h
    unfold P_U_endWhatEnds_26 at h
    refine x_aload_n (x := (ad 5)) d_U_endWhatEnds_26 rfl ?_
    refine x_get (v := .int (gI u.2.2.1 1)) f_U_15 (eX_5 ad to ta cs u.1 u.2.1 u.2.2.1 u.2.2.2) rfl d_U_endWhatEnds_27 ?_
    refine x_if_le (tgt := 64) d_U_endWhatEnds_30 rfl (fun hc => ?_) (fun hc => ?_)
    · have h := h.1 hc
      refine x_vret d_U_endWhatEnds_64 ⟨rfl, ?_⟩
      exact h
    · have h := h.2 hc
      refine x_aload_n (x := (ad 5)) d_U_endWhatEnds_33 rfl ?_
      refine x_get (v := .ref (ad 6)) f_U_9 (eX_5 ad to ta cs u.1 u.2.1 u.2.2.1 u.2.2.2) rfl d_U_endWhatEnds_34 ?_
      refine x_aload_n (x := (ad 5)) d_U_endWhatEnds_37 rfl ?_
      refine x_get (v := .int (gI u.2.2.1 1)) f_U_15 (eX_5 ad to ta cs u.1 u.2.1 u.2.2.1 u.2.2.2) rfl d_U_endWhatEnds_38 ?_
      refine x_iconst (v := 1) d_U_endWhatEnds_41 (by decide) ?_
      refine x_isub d_U_endWhatEnds_42 ?_
      refine x_iald (t0 := 0) (eX_6 ad to ta cs u.1 u.2.1 u.2.2.1 u.2.2.2) rfl h.1 d_U_endWhatEnds_43 ?_
      have h := h.2
      refine x_aload_n (x := (to y1)) d_U_endWhatEnds_44 rfl ?_
      refine x_getM (v := .int (gI (u.2.2.2 y1) 7)) f_U_43 (mem_row ad to ta cs u.1 u.2.1 u.2.2.1 u.2.2.2 y1 h.1) rfl d_U_endWhatEnds_45 ?_
      have h := h.2
      refine x_icmp_ne (tgt := 64) d_U_endWhatEnds_48 rfl (fun hc => ?_) (fun hc => ?_)
      · have h := h.1 hc
        refine x_vret d_U_endWhatEnds_64 ⟨rfl, ?_⟩
        exact h
      · have h := h.2 hc
        refine x_aload_n (x := (ad 5)) d_U_endWhatEnds_51 rfl ?_
        refine x_dup d_U_endWhatEnds_52 rfl ?_
        refine x_get (v := .int (gI u.2.2.1 1)) f_U_15 (eX_5 ad to ta cs u.1 u.2.1 u.2.2.1 u.2.2.2) rfl d_U_endWhatEnds_53 ?_
        refine x_iconst (v := 1) d_U_endWhatEnds_56 (by decide) ?_
        refine x_isub d_U_endWhatEnds_57 ?_
        refine x_put f_U_15 fw_U_1 (eX_5 ad to ta cs u.1 u.2.1 u.2.2.1 u.2.2.2) rfl rfl (Nat.le_of_ble_eq_true rfl) (sX_U1 ad to ta cs u.1 u.2.1 u.2.2.1 u.2.2.2 _) d_U_endWhatEnds_58 ?_
        refine x_goto (tgt := 26) d_U_endWhatEnds_61 rfl ?_
        exact ih y1 (u.1, u.2.1, (sI u.2.2.1 1 ((gI u.2.2.1 1) - (1 : Int32))), u.2.2.2) h
def P_U_endWhatEnds (post : XS → Prop) (j : Nat) (u : XS) : Prop := (j < 24 ∧ ((¬ (gI (u.2.2.2 j) 8) = 7 → (∃ g, P_U_endWhatEnds_26 post j g j u)) ∧ ((gI (u.2.2.2 j) 8) = 7 → (((gI u.2.2.1 1) ≤ 0 → (∃ g, P_U_endWhatEnds_26 post j g j u)) ∧ (¬ (gI u.2.2.1 1) ≤ 0 → (∃ g, P_U_endWhatEnds_26 post j g j (u.1, u.2.1, (sI u.2.2.1 1 ((gI u.2.2.1 1) - (1 : Int32))), u.2.2.2)))))))
set_option maxHeartbeats 600000 in
set_option maxRecDepth 100000 in
theorem c_U_endWhatEnds (l : Launch) (D : va_G) (cs : Nat → ClassId) (Ev : (Nat → Prop) → State → Prop) (hE : xEok Ev) (adK adV : Nat → Nat) (fm : Option Nat) (X : xEv adK adV fm Ev) (ad to : Nat → Nat) (ta : Nat → Nat → Nat) (j : Nat) (d : Nat) (post : XS → Prop) (u : XS) (h : P_U_endWhatEnds post j  u) : xC l D clX (tysX cs) Ev y_U_endWhatEnds w_U_endWhatEnds (rmD (d + 0)) (wdX ad to ta cs) [.ref (ad 5), .ref (to j)] u (pV post) 0 0 := by
  unfold P_U_endWhatEnds at h
  refine xC.of (cc := b_U_endWhatEnds) (nL := 2) (ret := none) (by decide) rfl (Nat.le_of_ble_eq_true rfl) ?_
  show RR l D clX (tysX cs) Ev "DeckFront$Structure" b_U_endWhatEnds 2 w_U_endWhatEnds (rmD (d + 0)) none (wdX ad to ta cs) (pV post) 0 0 0 0 0 [(0, .ref (ad 5)), (1, .ref (to j))] [] u
  refine x_aload_n (x := (to j)) d_U_endWhatEnds_0 rfl ?_
  refine x_getM (v := .int (gI (u.2.2.2 j) 8)) f_U_38 (mem_row ad to ta cs u.1 u.2.1 u.2.2.1 u.2.2.2 j h.1) rfl d_U_endWhatEnds_1 ?_
  have h := h.2
  refine x_bipush (v := 7) d_U_endWhatEnds_4 (by decide) ?_
  refine x_icmp_ne (tgt := 26) d_U_endWhatEnds_6 rfl (fun hc => ?_) (fun hc => ?_)
  · have h := h.1 hc
    obtain ⟨f9, h⟩ := h
    exact w_U_endWhatEnds_26 l D cs Ev hE adK adV fm X ad to ta j d post  f9 j u h
  · have h := h.2 hc
    refine x_aload_n (x := (ad 5)) d_U_endWhatEnds_9 rfl ?_
    refine x_get (v := .int (gI u.2.2.1 1)) f_U_15 (eX_5 ad to ta cs u.1 u.2.1 u.2.2.1 u.2.2.2) rfl d_U_endWhatEnds_10 ?_
    refine x_if_le (tgt := 26) d_U_endWhatEnds_13 rfl (fun hc => ?_) (fun hc => ?_)
    · have h := h.1 hc
      obtain ⟨f9, h⟩ := h
      exact w_U_endWhatEnds_26 l D cs Ev hE adK adV fm X ad to ta j d post  f9 j u h
    · have h := h.2 hc
      refine x_aload_n (x := (ad 5)) d_U_endWhatEnds_16 rfl ?_
      refine x_dup d_U_endWhatEnds_17 rfl ?_
      refine x_get (v := .int (gI u.2.2.1 1)) f_U_15 (eX_5 ad to ta cs u.1 u.2.1 u.2.2.1 u.2.2.2) rfl d_U_endWhatEnds_18 ?_
      refine x_iconst (v := 1) d_U_endWhatEnds_21 (by decide) ?_
      refine x_isub d_U_endWhatEnds_22 ?_
      refine x_put f_U_15 fw_U_1 (eX_5 ad to ta cs u.1 u.2.1 u.2.2.1 u.2.2.2) rfl rfl (Nat.le_of_ble_eq_true rfl) (sX_U1 ad to ta cs u.1 u.2.1 u.2.2.1 u.2.2.2 _) d_U_endWhatEnds_23 ?_
      obtain ⟨f9, h⟩ := h
      exact w_U_endWhatEnds_26 l D cs Ev hE adK adV fm X ad to ta j d post  f9 j (u.1, u.2.1, (sI u.2.2.1 1 ((gI u.2.2.1 1) - (1 : Int32))), u.2.2.2) h
def P_U_hasItsLabels_75 (post : Int32 → XS → Prop) (K34 : Nat → Int32 → XS → Prop) (y3 : Nat) (x4 : Int32) (u : XS) : Prop := K34 y3 (x4 + 1) u
set_option maxHeartbeats 600000 in
set_option maxRecDepth 100000 in
theorem w_U_hasItsLabels_75 (l : Launch) (D : va_G) (cs : Nat → ClassId) (Ev : (Nat → Prop) → State → Prop) (hE : xEok Ev) (adK adV : Nat → Nat) (fm : Option Nat) (X : xEv adK adV fm Ev) (ad to : Nat → Nat) (ta : Nat → Nat → Nat) (d : Nat) (post : Int32 → XS → Prop) (K34 : Nat → Int32 → XS → Prop) (hK34 : ∀ (y3 : Nat) (x4 : Int32) (u : XS), K34 y3 x4 u → RR l D clX (tysX cs) Ev "DeckFront$Structure" b_U_hasItsLabels 5 w_U_hasItsLabels (rmD (d + 3)) (some .boolean) (wdX ad to ta cs) (pI post) 0 0 0 0 34 [(1, .ref (ad 3)), (3, .ref (to y3)), (4, .int x4)] [] u) (y3 : Nat) (x4 : Int32) (u : XS) (h : P_U_hasItsLabels_75 post K34 y3 x4 u) : RR l D clX (tysX cs) Ev "DeckFront$Structure" b_U_hasItsLabels 5 w_U_hasItsLabels (rmD (d + 3)) (some .boolean) (wdX ad to ta cs) (pI post) 0 0 0 0 75 [(1, .ref (ad 3)), (3, .ref (to y3)), (4, .int x4)] [] u := by
  unfold P_U_hasItsLabels_75 at h
  refine x_iinc (v := x4 + 1) (lv' := [(4, .int (x4 + 1)), (1, .ref (ad 3)), (3, .ref (to y3))]) d_U_hasItsLabels_75 rfl rfl (by decide) rfl ?_
  refine x_goto (tgt := 34) d_U_hasItsLabels_78 rfl ?_
  refine x_sub [1, 2, 0] rfl ?_
  exact hK34 y3 (x4 + 1) u h
def P_U_hasItsLabels_34 (post : Int32 → XS → Prop) : Nat → Nat → Int32 → XS → Prop
  | 0, _, _, _ => False
  | f + 1, y3, x4, u => (y3 < 24 ∧ (((gI (u.2.2.2 y3) 4) ≤ x4 → post 1 u) ∧ (¬ (gI (u.2.2.2 y3) 4) ≤ x4 → (y3 < 24 ∧ ((y3 < 24 ∧ vp_in x4 80) ∧ ((¬ (gA (u.2.2.2 y3) 3 x4.toNatClampNeg) = 6 → P_U_hasItsLabels_75 post (fun zy3 zx4 zu => P_U_hasItsLabels_34 post f zy3 zx4 zu) y3 x4 u) ∧ ((gA (u.2.2.2 y3) 3 x4.toNatClampNeg) = 6 → (y3 < 24 ∧ P_T_numberAt (fun r2 u1 => P_K_hasNumber (fun r4 u3 => ((¬ r4 = 0 → P_U_hasItsLabels_75 post (fun zy3 zx4 zu => P_U_hasItsLabels_34 post f zy3 zx4 zu) y3 x4 u3) ∧ (r4 = 0 → post 0 u3))) r2 (0 : Int32) (gI u.2.1 1) (u.1, u.2.1, u.2.2.1, (va_up u.2.2.2 y3 u1))) x4 (u.2.2.2 y3)))))))))
set_option maxHeartbeats 600000 in
set_option maxRecDepth 100000 in
theorem w_U_hasItsLabels_34 (l : Launch) (D : va_G) (cs : Nat → ClassId) (Ev : (Nat → Prop) → State → Prop) (hE : xEok Ev) (adK adV : Nat → Nat) (fm : Option Nat) (X : xEv adK adV fm Ev) (ad to : Nat → Nat) (ta : Nat → Nat → Nat) (d : Nat) (post : Int32 → XS → Prop) : ∀ (f : Nat) (y3 : Nat) (x4 : Int32) (u : XS), P_U_hasItsLabels_34 post  f y3 x4 u → RR l D clX (tysX cs) Ev "DeckFront$Structure" b_U_hasItsLabels 5 w_U_hasItsLabels (rmD (d + 3)) (some .boolean) (wdX ad to ta cs) (pI post) 0 0 0 0 34 [(1, .ref (ad 3)), (3, .ref (to y3)), (4, .int x4)] [] u := by
  intro f
  induction f with
  | zero => intro y3 x4 u h; exact h.elim
  | succ f ih =>
    intro y3 x4 u h
    unfold P_U_hasItsLabels_34 at h
    refine x_iload (x := x4) d_U_hasItsLabels_34 rfl ?_
    refine x_aload_n (x := (to y3)) d_U_hasItsLabels_36 rfl ?_
    refine x_getM (v := .int (gI (u.2.2.2 y3) 4)) f_U_86 (mem_row ad to ta cs u.1 u.2.1 u.2.2.1 u.2.2.2 y3 h.1) rfl d_U_hasItsLabels_37 ?_
    have h := h.2
    refine x_icmp_ge (tgt := 81) d_U_hasItsLabels_40 rfl (fun hc => ?_) (fun hc => ?_)
    · have h := h.1 hc
      refine x_iconst (v := 1) d_U_hasItsLabels_81 (by decide) ?_
      refine x_zret rfl d_U_hasItsLabels_82 ⟨_, rfl, ?_⟩
      exact h
    · have h := h.2 hc
      refine x_aload_n (x := (to y3)) d_U_hasItsLabels_43 rfl ?_
      refine x_getM (v := .ref (ta y3 3)) f_U_89 (mem_row ad to ta cs u.1 u.2.1 u.2.2.1 u.2.2.2 y3 h.1) rfl d_U_hasItsLabels_44 ?_
      have h := h.2
      refine x_iload (x := x4) d_U_hasItsLabels_47 rfl ?_
      obtain ⟨q9, e9⟩ := mem_ix (mem_rowA ad to ta cs u.1 u.2.1 u.2.2.1 u.2.2.2 y3 h.1.1)
      refine x_iald (t0 := 0) e9 rfl h.1.2 d_U_hasItsLabels_49 ?_
      have h := h.2
      refine x_bipush (v := 6) d_U_hasItsLabels_50 (by decide) ?_
      refine x_icmp_ne (tgt := 75) d_U_hasItsLabels_52 rfl (fun hc => ?_) (fun hc => ?_)
      · have h := h.1 hc
        exact w_U_hasItsLabels_75 l D cs Ev hE adK adV fm X ad to ta d post (fun zy3 zx4 zu => P_U_hasItsLabels_34 post f zy3 zx4 zu) ih y3 x4 u h
      · have h := h.2 hc
        refine x_aload_n (x := (ad 3)) d_U_hasItsLabels_55 rfl ?_
        refine x_aload_n (x := (to y3)) d_U_hasItsLabels_56 rfl ?_
        refine x_iload (x := x4) d_U_hasItsLabels_57 rfl ?_
        obtain ⟨hj9, h⟩ := h
        obtain ⟨q9, e9⟩ := mem_ix (mem_row ad to ta cs u.1 u.2.1 u.2.2.1 u.2.2.2 y3 hj9)
        refine x_callU (st := [.ref (ad 3)]) k_U_92 rfl e9 (lensT ad to ta cs u.1 u.2.1 u.2.2.1 u.2.2.2 y3 hj9) (c_T_numberAt l D cs Ev hE adK adV fm X (to y3) (ta y3) (d + 1) _ x4 (u.2.2.2 y3) h) hE (rmD_ok (by omega) (by decide)) rfl (Nat.le_of_ble_eq_true rfl) rfl d_U_hasItsLabels_59 (x_rI (fun r2 u1 h => ?_))
        refine x_iconst (v := 0) d_U_hasItsLabels_62 (by decide) ?_
        refine x_aload_n (x := (ad 3)) d_U_hasItsLabels_63 rfl ?_
        refine x_get (v := .int (gI u.2.1 1)) f_U_25 (eX_3 ad to ta cs u.1 u.2.1 u.2.2.1 (va_up u.2.2.2 y3 u1)) rfl d_U_hasItsLabels_64 ?_
        refine x_callV (st := []) k_U_46 rfl (eX_3 ad to ta cs u.1 u.2.1 u.2.2.1 (va_up u.2.2.2 y3 u1)) x_id (c_K_hasNumber l D cs Ev hE adK adV fm X ad to ta (d + 2) _ r2 (0 : Int32) (gI u.2.1 1) (u.1, u.2.1, u.2.2.1, (va_up u.2.2.2 y3 u1)) h) hE (rmD_ok (by omega) (by decide)) rfl (Nat.le_of_ble_eq_true rfl) rfl d_U_hasItsLabels_67 (x_rI (fun r4 u3 h => ?_))
        refine x_if_ne (tgt := 75) d_U_hasItsLabels_70 rfl (fun hc => ?_) (fun hc => ?_)
        · have h := h.1 hc
          exact w_U_hasItsLabels_75 l D cs Ev hE adK adV fm X ad to ta d post (fun zy3 zx4 zu => P_U_hasItsLabels_34 post f zy3 zx4 zu) ih y3 x4 u3 h
        · have h := h.2 hc
          refine x_iconst (v := 0) d_U_hasItsLabels_73 (by decide) ?_
          refine x_zret rfl d_U_hasItsLabels_74 ⟨_, rfl, ?_⟩
          exact h
def P_U_hasItsLabels (post : Int32 → XS → Prop) (a1 : Int32) (u : XS) : Prop := (vp_in a1 24 ∧ (a1.toNatClampNeg < 24 ∧ ((¬ (gI (u.2.2.2 a1.toNatClampNeg) 8) = 1 → (∃ g, P_U_hasItsLabels_34 post g a1.toNatClampNeg 0 u)) ∧ ((gI (u.2.2.2 a1.toNatClampNeg) 8) = 1 → (a1.toNatClampNeg < 24 ∧ P_S_loopNumber (fun r6 u5 => P_K_hasNumber (fun r8 u7 => (narrow .boolean (.int r8) = .int r8 ∧ post r8 u7)) r6 (a1 + (1 : Int32)) (gI u.2.1 1) (u.1, u.2.1, u.2.2.1, (va_up u.2.2.2 a1.toNatClampNeg u5))) (u.2.2.2 a1.toNatClampNeg))))))
set_option maxHeartbeats 600000 in
set_option maxRecDepth 100000 in
theorem c_U_hasItsLabels (l : Launch) (D : va_G) (cs : Nat → ClassId) (Ev : (Nat → Prop) → State → Prop) (hE : xEok Ev) (adK adV : Nat → Nat) (fm : Option Nat) (X : xEv adK adV fm Ev) (ad to : Nat → Nat) (ta : Nat → Nat → Nat) (d : Nat) (post : Int32 → XS → Prop) (a1 : Int32) (u : XS) (h : P_U_hasItsLabels post a1 u) : xC l D clX (tysX cs) Ev y_U_hasItsLabels w_U_hasItsLabels (rmD (d + 3)) (wdX ad to ta cs) [.ref (ad 5), .ref (ad 3), .int a1] u (pI post) 0 0 := by
  unfold P_U_hasItsLabels at h
  refine xC.of (cc := b_U_hasItsLabels) (nL := 5) (ret := (some .boolean)) (by decide) rfl (Nat.le_of_ble_eq_true rfl) ?_
  show RR l D clX (tysX cs) Ev "DeckFront$Structure" b_U_hasItsLabels 5 w_U_hasItsLabels (rmD (d + 3)) (some .boolean) (wdX ad to ta cs) (pI post) 0 0 0 0 0 [(0, .ref (ad 5)), (1, .ref (ad 3)), (2, .int a1)] [] u
  refine x_aload_n (x := (ad 3)) d_U_hasItsLabels_0 rfl ?_
  refine x_get (v := .ref (ad 4)) f_U_34 (eX_3 ad to ta cs u.1 u.2.1 u.2.2.1 u.2.2.2) rfl d_U_hasItsLabels_1 ?_
  refine x_iload_n (x := a1) d_U_hasItsLabels_4 rfl ?_
  refine x_aald (t0 := 4) (eX_4 ad to ta cs u.1 u.2.1 u.2.2.1 u.2.2.2) rfl h.1 d_U_hasItsLabels_5 ?_
  have h := h.2
  refine x_astore_n (lv' := [(3, .ref (to a1.toNatClampNeg)), (0, .ref (ad 5)), (1, .ref (ad 3)), (2, .int a1)]) d_U_hasItsLabels_6 (by decide) rfl ?_
  refine x_aload_n (x := (to a1.toNatClampNeg)) d_U_hasItsLabels_7 rfl ?_
  refine x_getM (v := .int (gI (u.2.2.2 a1.toNatClampNeg) 8)) f_U_38 (mem_row ad to ta cs u.1 u.2.1 u.2.2.1 u.2.2.2 a1.toNatClampNeg h.1) rfl d_U_hasItsLabels_8 ?_
  have h := h.2
  refine x_iconst (v := 1) d_U_hasItsLabels_11 (by decide) ?_
  refine x_icmp_ne (tgt := 31) d_U_hasItsLabels_12 rfl (fun hc => ?_) (fun hc => ?_)
  · have h := h.1 hc
    refine x_iconst (v := 0) d_U_hasItsLabels_31 (by decide) ?_
    refine x_istore (lv' := [(4, .int 0), (3, .ref (to a1.toNatClampNeg)), (0, .ref (ad 5)), (1, .ref (ad 3)), (2, .int a1)]) d_U_hasItsLabels_32 (by decide) rfl ?_
    refine x_sub [3, 1, 0] rfl ?_
    obtain ⟨f9, h⟩ := h
    exact w_U_hasItsLabels_34 l D cs Ev hE adK adV fm X ad to ta d post  f9 a1.toNatClampNeg 0 u h
  · have h := h.2 hc
    refine x_aload_n (x := (ad 3)) d_U_hasItsLabels_15 rfl ?_
    refine x_aload_n (x := (to a1.toNatClampNeg)) d_U_hasItsLabels_16 rfl ?_
    obtain ⟨hj9, h⟩ := h
    obtain ⟨q9, e9⟩ := mem_ix (mem_row ad to ta cs u.1 u.2.1 u.2.2.1 u.2.2.2 a1.toNatClampNeg hj9)
    refine x_callV (st := [.ref (ad 3)]) k_U_83 rfl e9 (lensT ad to ta cs u.1 u.2.1 u.2.2.1 u.2.2.2 a1.toNatClampNeg hj9) (c_S_loopNumber l D cs Ev hE adK adV fm X (to a1.toNatClampNeg) (ta a1.toNatClampNeg) (d + 0) _ (u.2.2.2 a1.toNatClampNeg) h) hE (rmD_ok (by omega) (by decide)) rfl (Nat.le_of_ble_eq_true rfl) rfl d_U_hasItsLabels_17 (x_rI (fun r6 u5 h => ?_))
    refine x_iload_n (x := a1) d_U_hasItsLabels_20 rfl ?_
    refine x_iconst (v := 1) d_U_hasItsLabels_21 (by decide) ?_
    refine x_iadd d_U_hasItsLabels_22 ?_
    refine x_aload_n (x := (ad 3)) d_U_hasItsLabels_23 rfl ?_
    refine x_get (v := .int (gI u.2.1 1)) f_U_25 (eX_3 ad to ta cs u.1 u.2.1 u.2.2.1 (va_up u.2.2.2 a1.toNatClampNeg u5)) rfl d_U_hasItsLabels_24 ?_
    refine x_callV (st := []) k_U_46 rfl (eX_3 ad to ta cs u.1 u.2.1 u.2.2.1 (va_up u.2.2.2 a1.toNatClampNeg u5)) x_id (c_K_hasNumber l D cs Ev hE adK adV fm X ad to ta (d + 2) _ r6 (a1 + (1 : Int32)) (gI u.2.1 1) (u.1, u.2.1, u.2.2.1, (va_up u.2.2.2 a1.toNatClampNeg u5)) h) hE (rmD_ok (by omega) (by decide)) rfl (Nat.le_of_ble_eq_true rfl) rfl d_U_hasItsLabels_27 (x_rI (fun r8 u7 h => ?_))
    refine x_zret h.1 d_U_hasItsLabels_30 ⟨_, rfl, ?_⟩
    exact h.2
def P_U_openWhatOpens_78 (post : XS → Prop) (j : Nat) (s0 : Int32) (s1 : Int32) (u : XS) : Prop := (vp_in s1 24 ∧ post (u.1, u.2.1, (sI (sA u.2.2.1 0 s1.toNatClampNeg s0) 1 ((gI u.2.2.1 1) + (1 : Int32))), u.2.2.2))
set_option maxHeartbeats 600000 in
set_option maxRecDepth 100000 in
theorem w_U_openWhatOpens_78 (l : Launch) (D : va_G) (cs : Nat → ClassId) (Ev : (Nat → Prop) → State → Prop) (hE : xEok Ev) (adK adV : Nat → Nat) (fm : Option Nat) (X : xEv adK adV fm Ev) (ad to : Nat → Nat) (ta : Nat → Nat → Nat) (j : Nat) (d : Nat) (post : XS → Prop) (s0 : Int32) (s1 : Int32) (u : XS) (h : P_U_openWhatOpens_78 post j  s0 s1 u) : RR l D clX (tysX cs) Ev "DeckFront$Structure" b_U_openWhatOpens 2 w_U_openWhatOpens (rmD (d + 3)) none (wdX ad to ta cs) (pV post) 0 0 0 0 78 [(0, .ref (ad 5))] [.int s0, .int s1, .ref (ad 6)] u := by
  unfold P_U_openWhatOpens_78 at h
  refine x_iast (t0 := 0) (eX_6 ad to ta cs u.1 u.2.1 u.2.2.1 u.2.2.2) rfl h.1 (sX_Ua ad to ta cs u.1 u.2.1 u.2.2.1 u.2.2.2 _ _) d_U_openWhatOpens_78 ?_
  have h := h.2
  refine x_aload_n (x := (ad 5)) d_U_openWhatOpens_79 rfl ?_
  refine x_dup d_U_openWhatOpens_80 rfl ?_
  refine x_get (v := .int (gI u.2.2.1 1)) f_U_15 (eX_5 ad to ta cs u.1 u.2.1 (sA u.2.2.1 0 s1.toNatClampNeg s0) u.2.2.2) rfl d_U_openWhatOpens_81 ?_
  refine x_iconst (v := 1) d_U_openWhatOpens_84 (by decide) ?_
  refine x_iadd d_U_openWhatOpens_85 ?_
  refine x_put f_U_15 fw_U_1 (eX_5 ad to ta cs u.1 u.2.1 (sA u.2.2.1 0 s1.toNatClampNeg s0) u.2.2.2) rfl rfl (Nat.le_of_ble_eq_true rfl) (sX_U1 ad to ta cs u.1 u.2.1 (sA u.2.2.1 0 s1.toNatClampNeg s0) u.2.2.2 _) d_U_openWhatOpens_86 ?_
  refine x_vret d_U_openWhatOpens_89 ⟨rfl, ?_⟩
  exact h
def P_U_openWhatOpens_45 (post : XS → Prop) (j : Nat) (y1 : Nat) (u : XS) : Prop := ((24 ≤ (gI u.2.2.1 1) → post u) ∧ (¬ 24 ≤ (gI u.2.2.1 1) → (y1 < 24 ∧ ((¬ (gI (u.2.2.2 y1) 8) = 1 → P_U_openWhatOpens_78 post j (-1) (gI u.2.2.1 1) u) ∧ ((gI (u.2.2.2 y1) 8) = 1 → (y1 < 24 ∧ P_S_loopNumber (fun r2 u1 => P_U_openWhatOpens_78 post j r2 (gI u.2.2.1 1) (u.1, u.2.1, u.2.2.1, (va_up u.2.2.2 y1 u1))) (u.2.2.2 y1)))))))
set_option maxHeartbeats 600000 in
set_option maxRecDepth 100000 in
theorem w_U_openWhatOpens_45 (l : Launch) (D : va_G) (cs : Nat → ClassId) (Ev : (Nat → Prop) → State → Prop) (hE : xEok Ev) (adK adV : Nat → Nat) (fm : Option Nat) (X : xEv adK adV fm Ev) (ad to : Nat → Nat) (ta : Nat → Nat → Nat) (j : Nat) (d : Nat) (post : XS → Prop) (y1 : Nat) (u : XS) (h : P_U_openWhatOpens_45 post j  y1 u) : RR l D clX (tysX cs) Ev "DeckFront$Structure" b_U_openWhatOpens 2 w_U_openWhatOpens (rmD (d + 3)) none (wdX ad to ta cs) (pV post) 0 0 0 0 45 [(0, .ref (ad 5)), (1, .ref (to y1))] [] u := by
  unfold P_U_openWhatOpens_45 at h
  refine x_aload_n (x := (ad 5)) d_U_openWhatOpens_45 rfl ?_
  refine x_get (v := .int (gI u.2.2.1 1)) f_U_15 (eX_5 ad to ta cs u.1 u.2.1 u.2.2.1 u.2.2.2) rfl d_U_openWhatOpens_46 ?_
  refine x_bipush (v := 24) d_U_openWhatOpens_49 (by decide) ?_
  refine x_icmp_ge (tgt := 89) d_U_openWhatOpens_51 rfl (fun hc => ?_) (fun hc => ?_)
  · have h := h.1 hc
    refine x_vret d_U_openWhatOpens_89 ⟨rfl, ?_⟩
    exact h
  · have h := h.2 hc
    refine x_aload_n (x := (ad 5)) d_U_openWhatOpens_54 rfl ?_
    refine x_get (v := .ref (ad 6)) f_U_9 (eX_5 ad to ta cs u.1 u.2.1 u.2.2.1 u.2.2.2) rfl d_U_openWhatOpens_55 ?_
    refine x_aload_n (x := (ad 5)) d_U_openWhatOpens_58 rfl ?_
    refine x_get (v := .int (gI u.2.2.1 1)) f_U_15 (eX_5 ad to ta cs u.1 u.2.1 u.2.2.1 u.2.2.2) rfl d_U_openWhatOpens_59 ?_
    refine x_aload_n (x := (to y1)) d_U_openWhatOpens_62 rfl ?_
    refine x_getM (v := .int (gI (u.2.2.2 y1) 8)) f_U_38 (mem_row ad to ta cs u.1 u.2.1 u.2.2.1 u.2.2.2 y1 h.1) rfl d_U_openWhatOpens_63 ?_
    have h := h.2
    refine x_iconst (v := 1) d_U_openWhatOpens_66 (by decide) ?_
    refine x_icmp_ne (tgt := 77) d_U_openWhatOpens_67 rfl (fun hc => ?_) (fun hc => ?_)
    · have h := h.1 hc
      refine x_iconst (v := (-1)) d_U_openWhatOpens_77 (by decide) ?_
      refine x_sub [0] rfl ?_
      exact w_U_openWhatOpens_78 l D cs Ev hE adK adV fm X ad to ta j d post  (-1) (gI u.2.2.1 1) u h
    · have h := h.2 hc
      refine x_aload_n (x := (to y1)) d_U_openWhatOpens_70 rfl ?_
      obtain ⟨hj9, h⟩ := h
      obtain ⟨q9, e9⟩ := mem_ix (mem_row ad to ta cs u.1 u.2.1 u.2.2.1 u.2.2.2 y1 hj9)
      refine x_callV (st := [.int (gI u.2.2.1 1), .ref (ad 6)]) k_U_83 rfl e9 (lensT ad to ta cs u.1 u.2.1 u.2.2.1 u.2.2.2 y1 hj9) (c_S_loopNumber l D cs Ev hE adK adV fm X (to y1) (ta y1) (d + 0) _ (u.2.2.2 y1) h) hE (rmD_ok (by omega) (by decide)) rfl (Nat.le_of_ble_eq_true rfl) rfl d_U_openWhatOpens_71 (x_rI (fun r2 u1 h => ?_))
      refine x_goto (tgt := 78) d_U_openWhatOpens_74 rfl ?_
      refine x_sub [0] rfl ?_
      exact w_U_openWhatOpens_78 l D cs Ev hE adK adV fm X ad to ta j d post  r2 (gI u.2.2.1 1) (u.1, u.2.1, u.2.2.1, (va_up u.2.2.2 y1 u1)) h
def P_U_openWhatOpens_29 (post : XS → Prop) (j : Nat) (y1 : Nat) (u : XS) : Prop := (y1 < 24 ∧ (((gI (u.2.2.2 y1) 8) = 1 → P_U_openWhatOpens_45 post j y1 u) ∧ (¬ (gI (u.2.2.2 y1) 8) = 1 → (y1 < 24 ∧ ((¬ (gI (u.2.2.2 y1) 8) = 3 → post u) ∧ ((gI (u.2.2.2 y1) 8) = 3 → P_U_openWhatOpens_45 post j y1 u))))))
set_option maxHeartbeats 600000 in
set_option maxRecDepth 100000 in
theorem w_U_openWhatOpens_29 (l : Launch) (D : va_G) (cs : Nat → ClassId) (Ev : (Nat → Prop) → State → Prop) (hE : xEok Ev) (adK adV : Nat → Nat) (fm : Option Nat) (X : xEv adK adV fm Ev) (ad to : Nat → Nat) (ta : Nat → Nat → Nat) (j : Nat) (d : Nat) (post : XS → Prop) (y1 : Nat) (u : XS) (h : P_U_openWhatOpens_29 post j  y1 u) : RR l D clX (tysX cs) Ev "DeckFront$Structure" b_U_openWhatOpens 2 w_U_openWhatOpens (rmD (d + 3)) none (wdX ad to ta cs) (pV post) 0 0 0 0 29 [(0, .ref (ad 5)), (1, .ref (to y1))] [] u := by
  unfold P_U_openWhatOpens_29 at h
  refine x_aload_n (x := (to y1)) d_U_openWhatOpens_29 rfl ?_
  refine x_getM (v := .int (gI (u.2.2.2 y1) 8)) f_U_38 (mem_row ad to ta cs u.1 u.2.1 u.2.2.1 u.2.2.2 y1 h.1) rfl d_U_openWhatOpens_30 ?_
  have h := h.2
  refine x_iconst (v := 1) d_U_openWhatOpens_33 (by decide) ?_
  refine x_icmp_eq (tgt := 45) d_U_openWhatOpens_34 rfl (fun hc => ?_) (fun hc => ?_)
  · have h := h.1 hc
    exact w_U_openWhatOpens_45 l D cs Ev hE adK adV fm X ad to ta j d post  y1 u h
  · have h := h.2 hc
    refine x_aload_n (x := (to y1)) d_U_openWhatOpens_37 rfl ?_
    refine x_getM (v := .int (gI (u.2.2.2 y1) 8)) f_U_38 (mem_row ad to ta cs u.1 u.2.1 u.2.2.1 u.2.2.2 y1 h.1) rfl d_U_openWhatOpens_38 ?_
    have h := h.2
    refine x_iconst (v := 3) d_U_openWhatOpens_41 (by decide) ?_
    refine x_icmp_ne (tgt := 89) d_U_openWhatOpens_42 rfl (fun hc => ?_) (fun hc => ?_)
    · have h := h.1 hc
      refine x_vret d_U_openWhatOpens_89 ⟨rfl, ?_⟩
      exact h
    · have h := h.2 hc
      exact w_U_openWhatOpens_45 l D cs Ev hE adK adV fm X ad to ta j d post  y1 u h
def P_U_openWhatOpens (post : XS → Prop) (j : Nat) (u : XS) : Prop := (j < 24 ∧ ((¬ (gI (u.2.2.2 j) 8) = 6 → P_U_openWhatOpens_29 post j j u) ∧ ((gI (u.2.2.2 j) 8) = 6 → (((gI u.2.2.1 1) ≤ 0 → P_U_openWhatOpens_29 post j j u) ∧ (¬ (gI u.2.2.1 1) ≤ 0 → (vp_in ((gI u.2.2.1 1) - (1 : Int32)) 24 ∧ P_U_openWhatOpens_29 post j j (u.1, u.2.1, (sA u.2.2.1 0 ((gI u.2.2.1 1) - (1 : Int32)).toNatClampNeg (-2 : Int32)), u.2.2.2)))))))
set_option maxHeartbeats 600000 in
set_option maxRecDepth 100000 in
theorem c_U_openWhatOpens (l : Launch) (D : va_G) (cs : Nat → ClassId) (Ev : (Nat → Prop) → State → Prop) (hE : xEok Ev) (adK adV : Nat → Nat) (fm : Option Nat) (X : xEv adK adV fm Ev) (ad to : Nat → Nat) (ta : Nat → Nat → Nat) (j : Nat) (d : Nat) (post : XS → Prop) (u : XS) (h : P_U_openWhatOpens post j  u) : xC l D clX (tysX cs) Ev y_U_openWhatOpens w_U_openWhatOpens (rmD (d + 3)) (wdX ad to ta cs) [.ref (ad 5), .ref (to j)] u (pV post) 0 0 := by
  unfold P_U_openWhatOpens at h
  refine xC.of (cc := b_U_openWhatOpens) (nL := 2) (ret := none) (by decide) rfl (Nat.le_of_ble_eq_true rfl) ?_
  show RR l D clX (tysX cs) Ev "DeckFront$Structure" b_U_openWhatOpens 2 w_U_openWhatOpens (rmD (d + 3)) none (wdX ad to ta cs) (pV post) 0 0 0 0 0 [(0, .ref (ad 5)), (1, .ref (to j))] [] u
  refine x_aload_n (x := (to j)) d_U_openWhatOpens_0 rfl ?_
  refine x_getM (v := .int (gI (u.2.2.2 j) 8)) f_U_38 (mem_row ad to ta cs u.1 u.2.1 u.2.2.1 u.2.2.2 j h.1) rfl d_U_openWhatOpens_1 ?_
  have h := h.2
  refine x_bipush (v := 6) d_U_openWhatOpens_4 (by decide) ?_
  refine x_icmp_ne (tgt := 29) d_U_openWhatOpens_6 rfl (fun hc => ?_) (fun hc => ?_)
  · have h := h.1 hc
    exact w_U_openWhatOpens_29 l D cs Ev hE adK adV fm X ad to ta j d post  j u h
  · have h := h.2 hc
    refine x_aload_n (x := (ad 5)) d_U_openWhatOpens_9 rfl ?_
    refine x_get (v := .int (gI u.2.2.1 1)) f_U_15 (eX_5 ad to ta cs u.1 u.2.1 u.2.2.1 u.2.2.2) rfl d_U_openWhatOpens_10 ?_
    refine x_if_le (tgt := 29) d_U_openWhatOpens_13 rfl (fun hc => ?_) (fun hc => ?_)
    · have h := h.1 hc
      exact w_U_openWhatOpens_29 l D cs Ev hE adK adV fm X ad to ta j d post  j u h
    · have h := h.2 hc
      refine x_aload_n (x := (ad 5)) d_U_openWhatOpens_16 rfl ?_
      refine x_get (v := .ref (ad 6)) f_U_9 (eX_5 ad to ta cs u.1 u.2.1 u.2.2.1 u.2.2.2) rfl d_U_openWhatOpens_17 ?_
      refine x_aload_n (x := (ad 5)) d_U_openWhatOpens_20 rfl ?_
      refine x_get (v := .int (gI u.2.2.1 1)) f_U_15 (eX_5 ad to ta cs u.1 u.2.1 u.2.2.1 u.2.2.2) rfl d_U_openWhatOpens_21 ?_
      refine x_iconst (v := 1) d_U_openWhatOpens_24 (by decide) ?_
      refine x_isub d_U_openWhatOpens_25 ?_
      refine x_bipush (v := (-2)) d_U_openWhatOpens_26 (by decide) ?_
      refine x_iast (t0 := 0) (eX_6 ad to ta cs u.1 u.2.1 u.2.2.1 u.2.2.2) rfl h.1 (sX_Ua ad to ta cs u.1 u.2.1 u.2.2.1 u.2.2.2 _ _) d_U_openWhatOpens_28 ?_
      have h := h.2
      exact w_U_openWhatOpens_29 l D cs Ev hE adK adV fm X ad to ta j d post  j (u.1, u.2.1, (sA u.2.2.1 0 ((gI u.2.2.1 1) - (1 : Int32)).toNatClampNeg (-2 : Int32)), u.2.2.2) h
def P_U_faultOf_181 (post : Int32 → XS → Prop) (y3 : Nat) (u : XS) : Prop := P_U_openWhatOpens (fun u12 => post 0 u12) y3 u
set_option maxHeartbeats 600000 in
set_option maxRecDepth 100000 in
theorem w_U_faultOf_181 (l : Launch) (D : va_G) (cs : Nat → ClassId) (Ev : (Nat → Prop) → State → Prop) (hE : xEok Ev) (adK adV : Nat → Nat) (fm : Option Nat) (X : xEv adK adV fm Ev) (ad to : Nat → Nat) (ta : Nat → Nat → Nat) (d : Nat) (post : Int32 → XS → Prop) (y3 : Nat) (u : XS) (h : P_U_faultOf_181 post  y3 u) : RR l D clX (tysX cs) Ev "DeckFront$Structure" b_U_faultOf 5 w_U_faultOf (rmD (d + 4)) (some .int) (wdX ad to ta cs) (pI post) 0 0 0 0 181 [(0, .ref (ad 5)), (3, .ref (to y3))] [] u := by
  unfold P_U_faultOf_181 at h
  refine x_aload_n (x := (ad 5)) d_U_faultOf_181 rfl ?_
  refine x_aload_n (x := (to y3)) d_U_faultOf_182 rfl ?_
  refine x_callV (st := []) k_U_80 rfl (eX_5 ad to ta cs u.1 u.2.1 u.2.2.1 u.2.2.2) x_id (c_U_openWhatOpens l D cs Ev hE adK adV fm X ad to ta y3 (d + 0) _ u h) hE (rmD_ok (by omega) (by decide)) rfl (Nat.le_of_ble_eq_true rfl) rfl d_U_faultOf_183 (x_rV (fun u12 h => ?_))
  refine x_iconst (v := 0) d_U_faultOf_186 (by decide) ?_
  refine x_iret d_U_faultOf_187 ⟨_, rfl, ?_⟩
  exact h
def P_U_faultOf_154 (post : Int32 → XS → Prop) (y3 : Nat) (x4 : Int32) (s0 : Int32) (u : XS) : Prop := ((s0 = x4 → (y3 < 24 ∧ ((¬ (gI (u.2.2.2 y3) 8) = 14 → P_U_faultOf_181 post y3 u) ∧ ((gI (u.2.2.2 y3) 8) = 14 → (((gI u.2.2.1 1) ≤ 0 → P_U_faultOf_181 post y3 u) ∧ (¬ (gI u.2.2.1 1) ≤ 0 → post 8 u)))))) ∧ (¬ s0 = x4 → post 7 u))
set_option maxHeartbeats 600000 in
set_option maxRecDepth 100000 in
theorem w_U_faultOf_154 (l : Launch) (D : va_G) (cs : Nat → ClassId) (Ev : (Nat → Prop) → State → Prop) (hE : xEok Ev) (adK adV : Nat → Nat) (fm : Option Nat) (X : xEv adK adV fm Ev) (ad to : Nat → Nat) (ta : Nat → Nat → Nat) (d : Nat) (post : Int32 → XS → Prop) (y3 : Nat) (x4 : Int32) (s0 : Int32) (u : XS) (h : P_U_faultOf_154 post  y3 x4 s0 u) : RR l D clX (tysX cs) Ev "DeckFront$Structure" b_U_faultOf 5 w_U_faultOf (rmD (d + 4)) (some .int) (wdX ad to ta cs) (pI post) 0 0 0 0 154 [(0, .ref (ad 5)), (3, .ref (to y3)), (4, .int x4)] [.int s0] u := by
  unfold P_U_faultOf_154 at h
  refine x_iload (x := x4) d_U_faultOf_154 rfl ?_
  refine x_icmp_eq (tgt := 162) d_U_faultOf_156 rfl (fun hc => ?_) (fun hc => ?_)
  · have h := h.1 hc
    refine x_aload_n (x := (to y3)) d_U_faultOf_162 rfl ?_
    refine x_getM (v := .int (gI (u.2.2.2 y3) 8)) f_U_38 (mem_row ad to ta cs u.1 u.2.1 u.2.2.1 u.2.2.2 y3 h.1) rfl d_U_faultOf_163 ?_
    have h := h.2
    refine x_bipush (v := 14) d_U_faultOf_166 (by decide) ?_
    refine x_icmp_ne (tgt := 181) d_U_faultOf_168 rfl (fun hc => ?_) (fun hc => ?_)
    · have h := h.1 hc
      refine x_sub [0, 1] rfl ?_
      exact w_U_faultOf_181 l D cs Ev hE adK adV fm X ad to ta d post  y3 u h
    · have h := h.2 hc
      refine x_aload_n (x := (ad 5)) d_U_faultOf_171 rfl ?_
      refine x_get (v := .int (gI u.2.2.1 1)) f_U_15 (eX_5 ad to ta cs u.1 u.2.1 u.2.2.1 u.2.2.2) rfl d_U_faultOf_172 ?_
      refine x_if_le (tgt := 181) d_U_faultOf_175 rfl (fun hc => ?_) (fun hc => ?_)
      · have h := h.1 hc
        refine x_sub [0, 1] rfl ?_
        exact w_U_faultOf_181 l D cs Ev hE adK adV fm X ad to ta d post  y3 u h
      · have h := h.2 hc
        refine x_bipush (v := 8) d_U_faultOf_178 (by decide) ?_
        refine x_iret d_U_faultOf_180 ⟨_, rfl, ?_⟩
        exact h
  · have h := h.2 hc
    refine x_bipush (v := 7) d_U_faultOf_159 (by decide) ?_
    refine x_iret d_U_faultOf_161 ⟨_, rfl, ?_⟩
    exact h
def P_U_faultOf_138 (post : Int32 → XS → Prop) (y3 : Nat) (s0 : Int32) (u : XS) : Prop := (y3 < 24 ∧ ((¬ (gI (u.2.2.2 y3) 8) = 14 → P_U_faultOf_154 post y3 s0 0 u) ∧ ((gI (u.2.2.2 y3) 8) = 14 → P_U_faultOf_154 post y3 s0 1 u)))
set_option maxHeartbeats 600000 in
set_option maxRecDepth 100000 in
theorem w_U_faultOf_138 (l : Launch) (D : va_G) (cs : Nat → ClassId) (Ev : (Nat → Prop) → State → Prop) (hE : xEok Ev) (adK adV : Nat → Nat) (fm : Option Nat) (X : xEv adK adV fm Ev) (ad to : Nat → Nat) (ta : Nat → Nat → Nat) (d : Nat) (post : Int32 → XS → Prop) (y3 : Nat) (s0 : Int32) (u : XS) (h : P_U_faultOf_138 post  y3 s0 u) : RR l D clX (tysX cs) Ev "DeckFront$Structure" b_U_faultOf 5 w_U_faultOf (rmD (d + 4)) (some .int) (wdX ad to ta cs) (pI post) 0 0 0 0 138 [(0, .ref (ad 5)), (3, .ref (to y3))] [.int s0] u := by
  unfold P_U_faultOf_138 at h
  refine x_istore (lv' := [(4, .int s0), (0, .ref (ad 5)), (3, .ref (to y3))]) d_U_faultOf_138 (by decide) rfl ?_
  refine x_aload_n (x := (to y3)) d_U_faultOf_140 rfl ?_
  refine x_getM (v := .int (gI (u.2.2.2 y3) 8)) f_U_38 (mem_row ad to ta cs u.1 u.2.1 u.2.2.1 u.2.2.2 y3 h.1) rfl d_U_faultOf_141 ?_
  have h := h.2
  refine x_bipush (v := 14) d_U_faultOf_144 (by decide) ?_
  refine x_icmp_ne (tgt := 153) d_U_faultOf_146 rfl (fun hc => ?_) (fun hc => ?_)
  · have h := h.1 hc
    refine x_iconst (v := 0) d_U_faultOf_153 (by decide) ?_
    refine x_sub [1, 2, 0] rfl ?_
    exact w_U_faultOf_154 l D cs Ev hE adK adV fm X ad to ta d post  y3 s0 0 u h
  · have h := h.2 hc
    refine x_iconst (v := 1) d_U_faultOf_149 (by decide) ?_
    refine x_goto (tgt := 154) d_U_faultOf_150 rfl ?_
    refine x_sub [1, 2, 0] rfl ?_
    exact w_U_faultOf_154 l D cs Ev hE adK adV fm X ad to ta d post  y3 s0 1 u h
def P_U_faultOf_106 (post : Int32 → XS → Prop) (x2 : Int32) (y3 : Nat) (u : XS) : Prop := P_U_endWhatEnds (fun u9 => P_U_hasItsLabels (fun r11 u10 => ((¬ r11 = 0 → ((¬ x2 = ((gI u10.2.1 1) - (1 : Int32)) → P_U_faultOf_138 post y3 0 u10) ∧ (x2 = ((gI u10.2.1 1) - (1 : Int32)) → P_U_faultOf_138 post y3 1 u10))) ∧ (r11 = 0 → post 6 u10))) x2 u9) y3 u
set_option maxHeartbeats 600000 in
set_option maxRecDepth 100000 in
theorem w_U_faultOf_106 (l : Launch) (D : va_G) (cs : Nat → ClassId) (Ev : (Nat → Prop) → State → Prop) (hE : xEok Ev) (adK adV : Nat → Nat) (fm : Option Nat) (X : xEv adK adV fm Ev) (ad to : Nat → Nat) (ta : Nat → Nat → Nat) (d : Nat) (post : Int32 → XS → Prop) (x2 : Int32) (y3 : Nat) (u : XS) (h : P_U_faultOf_106 post  x2 y3 u) : RR l D clX (tysX cs) Ev "DeckFront$Structure" b_U_faultOf 5 w_U_faultOf (rmD (d + 4)) (some .int) (wdX ad to ta cs) (pI post) 0 0 0 0 106 [(0, .ref (ad 5)), (1, .ref (ad 3)), (2, .int x2), (3, .ref (to y3))] [] u := by
  unfold P_U_faultOf_106 at h
  refine x_aload_n (x := (ad 5)) d_U_faultOf_106 rfl ?_
  refine x_aload_n (x := (to y3)) d_U_faultOf_107 rfl ?_
  refine x_callV (st := []) k_U_72 rfl (eX_5 ad to ta cs u.1 u.2.1 u.2.2.1 u.2.2.2) x_id (c_U_endWhatEnds l D cs Ev hE adK adV fm X ad to ta y3 (d + 3) _ u h) hE (rmD_ok (by omega) (by decide)) rfl (Nat.le_of_ble_eq_true rfl) rfl d_U_faultOf_108 (x_rV (fun u9 h => ?_))
  refine x_aload_n (x := (ad 5)) d_U_faultOf_111 rfl ?_
  refine x_aload_n (x := (ad 3)) d_U_faultOf_112 rfl ?_
  refine x_iload_n (x := x2) d_U_faultOf_113 rfl ?_
  refine x_callV (st := []) k_U_76 rfl (eX_5 ad to ta cs u9.1 u9.2.1 u9.2.2.1 u9.2.2.2) x_id (c_U_hasItsLabels l D cs Ev hE adK adV fm X ad to ta (d + 0) _ x2 u9 h) hE (rmD_ok (by omega) (by decide)) rfl (Nat.le_of_ble_eq_true rfl) rfl d_U_faultOf_114 (x_rI (fun r11 u10 h => ?_))
  refine x_if_ne (tgt := 123) d_U_faultOf_117 rfl (fun hc => ?_) (fun hc => ?_)
  · have h := h.1 hc
    refine x_iload_n (x := x2) d_U_faultOf_123 rfl ?_
    refine x_aload_n (x := (ad 3)) d_U_faultOf_124 rfl ?_
    refine x_get (v := .int (gI u10.2.1 1)) f_U_25 (eX_3 ad to ta cs u10.1 u10.2.1 u10.2.2.1 u10.2.2.2) rfl d_U_faultOf_125 ?_
    refine x_iconst (v := 1) d_U_faultOf_128 (by decide) ?_
    refine x_isub d_U_faultOf_129 ?_
    refine x_icmp_ne (tgt := 137) d_U_faultOf_130 rfl (fun hc => ?_) (fun hc => ?_)
    · have h := h.1 hc
      refine x_iconst (v := 0) d_U_faultOf_137 (by decide) ?_
      refine x_sub [0, 3] rfl ?_
      exact w_U_faultOf_138 l D cs Ev hE adK adV fm X ad to ta d post  y3 0 u10 h
    · have h := h.2 hc
      refine x_iconst (v := 1) d_U_faultOf_133 (by decide) ?_
      refine x_goto (tgt := 138) d_U_faultOf_134 rfl ?_
      refine x_sub [0, 3] rfl ?_
      exact w_U_faultOf_138 l D cs Ev hE adK adV fm X ad to ta d post  y3 1 u10 h
  · have h := h.2 hc
    refine x_bipush (v := 6) d_U_faultOf_120 (by decide) ?_
    refine x_iret d_U_faultOf_122 ⟨_, rfl, ?_⟩
    exact h
def P_U_faultOf_75 (post : Int32 → XS → Prop) (x2 : Int32) (y3 : Nat) (u : XS) : Prop := (y3 < 24 ∧ P_U_isOpen (fun r8 u7 => ((r8 = 0 → P_U_faultOf_106 post x2 y3 u7) ∧ (¬ r8 = 0 → P_U_innermost (fun r14 u13 => (y3 < 24 ∧ ((¬ r14 = (gI (u13.2.2.2 y3) 7) → post 5 u13) ∧ (r14 = (gI (u13.2.2.2 y3) 7) → (y3 < 24 ∧ P_S_mayEndLoop (fun r16 u15 => ((¬ r16 = 0 → P_U_faultOf_106 post x2 y3 (u13.1, u13.2.1, u13.2.2.1, (va_up u13.2.2.2 y3 u15))) ∧ (r16 = 0 → post 5 (u13.1, u13.2.1, u13.2.2.1, (va_up u13.2.2.2 y3 u15))))) (u13.2.2.2 y3)))))) u7))) (gI (u.2.2.2 y3) 7) u)
set_option maxHeartbeats 600000 in
set_option maxRecDepth 100000 in
theorem w_U_faultOf_75 (l : Launch) (D : va_G) (cs : Nat → ClassId) (Ev : (Nat → Prop) → State → Prop) (hE : xEok Ev) (adK adV : Nat → Nat) (fm : Option Nat) (X : xEv adK adV fm Ev) (ad to : Nat → Nat) (ta : Nat → Nat → Nat) (d : Nat) (post : Int32 → XS → Prop) (x2 : Int32) (y3 : Nat) (u : XS) (h : P_U_faultOf_75 post  x2 y3 u) : RR l D clX (tysX cs) Ev "DeckFront$Structure" b_U_faultOf 5 w_U_faultOf (rmD (d + 4)) (some .int) (wdX ad to ta cs) (pI post) 0 0 0 0 75 [(0, .ref (ad 5)), (1, .ref (ad 3)), (2, .int x2), (3, .ref (to y3))] [] u := by
  unfold P_U_faultOf_75 at h
  refine x_aload_n (x := (ad 5)) d_U_faultOf_75 rfl ?_
  refine x_aload_n (x := (to y3)) d_U_faultOf_76 rfl ?_
  refine x_getM (v := .int (gI (u.2.2.2 y3) 7)) f_U_43 (mem_row ad to ta cs u.1 u.2.1 u.2.2.1 u.2.2.2 y3 h.1) rfl d_U_faultOf_77 ?_
  have h := h.2
  refine x_callV (st := []) k_U_61 rfl (eX_5 ad to ta cs u.1 u.2.1 u.2.2.1 u.2.2.2) x_id (c_U_isOpen l D cs Ev hE adK adV fm X ad to ta (d + 3) _ (gI (u.2.2.2 y3) 7) u h) hE (rmD_ok (by omega) (by decide)) rfl (Nat.le_of_ble_eq_true rfl) rfl d_U_faultOf_80 (x_rI (fun r8 u7 h => ?_))
  refine x_if_eq (tgt := 106) d_U_faultOf_83 rfl (fun hc => ?_) (fun hc => ?_)
  · have h := h.1 hc
    exact w_U_faultOf_106 l D cs Ev hE adK adV fm X ad to ta d post  x2 y3 u7 h
  · have h := h.2 hc
    refine x_aload_n (x := (ad 5)) d_U_faultOf_86 rfl ?_
    refine x_callV (st := []) k_U_65 rfl (eX_5 ad to ta cs u7.1 u7.2.1 u7.2.2.1 u7.2.2.2) x_id (c_U_innermost l D cs Ev hE adK adV fm X ad to ta (d + 3) _ u7 h) hE (rmD_ok (by omega) (by decide)) rfl (Nat.le_of_ble_eq_true rfl) rfl d_U_faultOf_87 (x_rI (fun r14 u13 h => ?_))
    refine x_aload_n (x := (to y3)) d_U_faultOf_90 rfl ?_
    refine x_getM (v := .int (gI (u13.2.2.2 y3) 7)) f_U_43 (mem_row ad to ta cs u13.1 u13.2.1 u13.2.2.1 u13.2.2.2 y3 h.1) rfl d_U_faultOf_91 ?_
    have h := h.2
    refine x_icmp_ne (tgt := 104) d_U_faultOf_94 rfl (fun hc => ?_) (fun hc => ?_)
    · have h := h.1 hc
      refine x_iconst (v := 5) d_U_faultOf_104 (by decide) ?_
      refine x_iret d_U_faultOf_105 ⟨_, rfl, ?_⟩
      exact h
    · have h := h.2 hc
      refine x_aload_n (x := (to y3)) d_U_faultOf_97 rfl ?_
      obtain ⟨hj9, h⟩ := h
      obtain ⟨q9, e9⟩ := mem_ix (mem_row ad to ta cs u13.1 u13.2.1 u13.2.2.1 u13.2.2.2 y3 hj9)
      refine x_callV (st := []) k_U_69 rfl e9 (lensT ad to ta cs u13.1 u13.2.1 u13.2.2.1 u13.2.2.2 y3 hj9) (c_S_mayEndLoop l D cs Ev hE adK adV fm X (to y3) (ta y3) (d + 2) _ (u13.2.2.2 y3) h) hE (rmD_ok (by omega) (by decide)) rfl (Nat.le_of_ble_eq_true rfl) rfl d_U_faultOf_98 (x_rI (fun r16 u15 h => ?_))
      refine x_if_ne (tgt := 106) d_U_faultOf_101 rfl (fun hc => ?_) (fun hc => ?_)
      · have h := h.1 hc
        exact w_U_faultOf_106 l D cs Ev hE adK adV fm X ad to ta d post  x2 y3 (u13.1, u13.2.1, u13.2.2.1, (va_up u13.2.2.2 y3 u15)) h
      · have h := h.2 hc
        refine x_iconst (v := 5) d_U_faultOf_104 (by decide) ?_
        refine x_iret d_U_faultOf_105 ⟨_, rfl, ?_⟩
        exact h
def P_U_faultOf_58 (post : Int32 → XS → Prop) (x2 : Int32) (y3 : Nat) (u : XS) : Prop := (y3 < 24 ∧ P_S_isBranch (fun r6 u5 => ((r6 = 0 → P_U_faultOf_75 post x2 y3 (u.1, u.2.1, u.2.2.1, (va_up u.2.2.2 y3 u5))) ∧ (¬ r6 = 0 → P_U_branchFits (fun r18 u17 => ((¬ r18 = 0 → P_U_faultOf_75 post x2 y3 u17) ∧ (r18 = 0 → post 4 u17))) y3 (u.1, u.2.1, u.2.2.1, (va_up u.2.2.2 y3 u5))))) (u.2.2.2 y3))
set_option maxHeartbeats 600000 in
set_option maxRecDepth 100000 in
theorem w_U_faultOf_58 (l : Launch) (D : va_G) (cs : Nat → ClassId) (Ev : (Nat → Prop) → State → Prop) (hE : xEok Ev) (adK adV : Nat → Nat) (fm : Option Nat) (X : xEv adK adV fm Ev) (ad to : Nat → Nat) (ta : Nat → Nat → Nat) (d : Nat) (post : Int32 → XS → Prop) (x2 : Int32) (y3 : Nat) (u : XS) (h : P_U_faultOf_58 post  x2 y3 u) : RR l D clX (tysX cs) Ev "DeckFront$Structure" b_U_faultOf 5 w_U_faultOf (rmD (d + 4)) (some .int) (wdX ad to ta cs) (pI post) 0 0 0 0 58 [(0, .ref (ad 5)), (1, .ref (ad 3)), (2, .int x2), (3, .ref (to y3))] [] u := by
  unfold P_U_faultOf_58 at h
  refine x_aload_n (x := (to y3)) d_U_faultOf_58 rfl ?_
  obtain ⟨hj9, h⟩ := h
  obtain ⟨q9, e9⟩ := mem_ix (mem_row ad to ta cs u.1 u.2.1 u.2.2.1 u.2.2.2 y3 hj9)
  refine x_callV (st := []) k_U_54 rfl e9 (lensT ad to ta cs u.1 u.2.1 u.2.2.1 u.2.2.2 y3 hj9) (c_S_isBranch l D cs Ev hE adK adV fm X (to y3) (ta y3) (d + 3) _ (u.2.2.2 y3) h) hE (rmD_ok (by omega) (by decide)) rfl (Nat.le_of_ble_eq_true rfl) rfl d_U_faultOf_59 (x_rI (fun r6 u5 h => ?_))
  refine x_if_eq (tgt := 75) d_U_faultOf_62 rfl (fun hc => ?_) (fun hc => ?_)
  · have h := h.1 hc
    exact w_U_faultOf_75 l D cs Ev hE adK adV fm X ad to ta d post  x2 y3 (u.1, u.2.1, u.2.2.1, (va_up u.2.2.2 y3 u5)) h
  · have h := h.2 hc
    refine x_aload_n (x := (ad 5)) d_U_faultOf_65 rfl ?_
    refine x_aload_n (x := (to y3)) d_U_faultOf_66 rfl ?_
    refine x_callV (st := []) k_U_57 rfl (eX_5 ad to ta cs u.1 u.2.1 u.2.2.1 (va_up u.2.2.2 y3 u5)) x_id (c_U_branchFits l D cs Ev hE adK adV fm X ad to ta y3 (d + 2) _ (u.1, u.2.1, u.2.2.1, (va_up u.2.2.2 y3 u5)) h) hE (rmD_ok (by omega) (by decide)) rfl (Nat.le_of_ble_eq_true rfl) rfl d_U_faultOf_67 (x_rI (fun r18 u17 h => ?_))
    refine x_if_ne (tgt := 75) d_U_faultOf_70 rfl (fun hc => ?_) (fun hc => ?_)
    · have h := h.1 hc
      exact w_U_faultOf_75 l D cs Ev hE adK adV fm X ad to ta d post  x2 y3 u17 h
    · have h := h.2 hc
      refine x_iconst (v := 4) d_U_faultOf_73 (by decide) ?_
      refine x_iret d_U_faultOf_74 ⟨_, rfl, ?_⟩
      exact h
def P_U_faultOf (post : Int32 → XS → Prop) (a1 : Int32) (u : XS) : Prop := (vp_in a1 24 ∧ (a1.toNatClampNeg < 24 ∧ ((¬ (gI (u.2.2.2 a1.toNatClampNeg) 8) = 0 → (a1.toNatClampNeg < 24 ∧ P_K_hasNumber (fun r2 u1 => ((r2 = 0 → (a1.toNatClampNeg < 24 ∧ P_S_declares (fun r4 u3 => ((r4 = 0 → P_U_faultOf_58 post a1 a1.toNatClampNeg (u1.1, u1.2.1, u1.2.2.1, (va_up u1.2.2.2 a1.toNatClampNeg u3))) ∧ (¬ r4 = 0 → ((a1 ≤ 0 → P_U_faultOf_58 post a1 a1.toNatClampNeg (u1.1, u1.2.1, u1.2.2.1, (va_up u1.2.2.2 a1.toNatClampNeg u3))) ∧ (¬ a1 ≤ 0 → (vp_in (a1 - (1 : Int32)) 24 ∧ ((a1 - (1 : Int32)).toNatClampNeg < 24 ∧ P_S_declares (fun r20 u19 => ((¬ r20 = 0 → P_U_faultOf_58 post a1 a1.toNatClampNeg (u1.1, u1.2.1, u1.2.2.1, (va_up (va_up u1.2.2.2 a1.toNatClampNeg u3) ((a1 - (1 : Int32)).toNatClampNeg) u19))) ∧ (r20 = 0 → post 3 (u1.1, u1.2.1, u1.2.2.1, (va_up (va_up u1.2.2.2 a1.toNatClampNeg u3) ((a1 - (1 : Int32)).toNatClampNeg) u19))))) ((va_up u1.2.2.2 a1.toNatClampNeg u3) ((a1 - (1 : Int32)).toNatClampNeg))))))))) (u1.2.2.2 a1.toNatClampNeg))) ∧ (¬ r2 = 0 → post 2 u1))) (gI (u.2.2.2 a1.toNatClampNeg) 7) (0 : Int32) a1 u)) ∧ ((gI (u.2.2.2 a1.toNatClampNeg) 8) = 0 → post 1 u))))
set_option maxHeartbeats 600000 in
set_option maxRecDepth 100000 in
theorem c_U_faultOf (l : Launch) (D : va_G) (cs : Nat → ClassId) (Ev : (Nat → Prop) → State → Prop) (hE : xEok Ev) (adK adV : Nat → Nat) (fm : Option Nat) (X : xEv adK adV fm Ev) (ad to : Nat → Nat) (ta : Nat → Nat → Nat) (d : Nat) (post : Int32 → XS → Prop) (a1 : Int32) (u : XS) (h : P_U_faultOf post a1 u) : xC l D clX (tysX cs) Ev y_U_faultOf w_U_faultOf (rmD (d + 4)) (wdX ad to ta cs) [.ref (ad 5), .ref (ad 3), .int a1] u (pI post) 0 0 := by
  unfold P_U_faultOf at h
  refine xC.of (cc := b_U_faultOf) (nL := 5) (ret := (some .int)) (by decide) rfl (Nat.le_of_ble_eq_true rfl) ?_
  show RR l D clX (tysX cs) Ev "DeckFront$Structure" b_U_faultOf 5 w_U_faultOf (rmD (d + 4)) (some .int) (wdX ad to ta cs) (pI post) 0 0 0 0 0 [(0, .ref (ad 5)), (1, .ref (ad 3)), (2, .int a1)] [] u
  refine x_aload_n (x := (ad 3)) d_U_faultOf_0 rfl ?_
  refine x_get (v := .ref (ad 4)) f_U_34 (eX_3 ad to ta cs u.1 u.2.1 u.2.2.1 u.2.2.2) rfl d_U_faultOf_1 ?_
  refine x_iload_n (x := a1) d_U_faultOf_4 rfl ?_
  refine x_aald (t0 := 4) (eX_4 ad to ta cs u.1 u.2.1 u.2.2.1 u.2.2.2) rfl h.1 d_U_faultOf_5 ?_
  have h := h.2
  refine x_astore_n (lv' := [(3, .ref (to a1.toNatClampNeg)), (0, .ref (ad 5)), (1, .ref (ad 3)), (2, .int a1)]) d_U_faultOf_6 (by decide) rfl ?_
  refine x_aload_n (x := (to a1.toNatClampNeg)) d_U_faultOf_7 rfl ?_
  refine x_getM (v := .int (gI (u.2.2.2 a1.toNatClampNeg) 8)) f_U_38 (mem_row ad to ta cs u.1 u.2.1 u.2.2.1 u.2.2.2 a1.toNatClampNeg h.1) rfl d_U_faultOf_8 ?_
  have h := h.2
  refine x_if_ne (tgt := 16) d_U_faultOf_11 rfl (fun hc => ?_) (fun hc => ?_)
  · have h := h.1 hc
    refine x_aload_n (x := (ad 3)) d_U_faultOf_16 rfl ?_
    refine x_aload_n (x := (to a1.toNatClampNeg)) d_U_faultOf_17 rfl ?_
    refine x_getM (v := .int (gI (u.2.2.2 a1.toNatClampNeg) 7)) f_U_43 (mem_row ad to ta cs u.1 u.2.1 u.2.2.1 u.2.2.2 a1.toNatClampNeg h.1) rfl d_U_faultOf_18 ?_
    have h := h.2
    refine x_iconst (v := 0) d_U_faultOf_21 (by decide) ?_
    refine x_iload_n (x := a1) d_U_faultOf_22 rfl ?_
    refine x_callV (st := []) k_U_46 rfl (eX_3 ad to ta cs u.1 u.2.1 u.2.2.1 u.2.2.2) x_id (c_K_hasNumber l D cs Ev hE adK adV fm X ad to ta (d + 3) _ (gI (u.2.2.2 a1.toNatClampNeg) 7) (0 : Int32) a1 u h) hE (rmD_ok (by omega) (by decide)) rfl (Nat.le_of_ble_eq_true rfl) rfl d_U_faultOf_23 (x_rI (fun r2 u1 h => ?_))
    refine x_if_eq (tgt := 31) d_U_faultOf_26 rfl (fun hc => ?_) (fun hc => ?_)
    · have h := h.1 hc
      refine x_aload_n (x := (to a1.toNatClampNeg)) d_U_faultOf_31 rfl ?_
      obtain ⟨hj9, h⟩ := h
      obtain ⟨q9, e9⟩ := mem_ix (mem_row ad to ta cs u1.1 u1.2.1 u1.2.2.1 u1.2.2.2 a1.toNatClampNeg hj9)
      refine x_callV (st := []) k_U_50 rfl e9 (lensT ad to ta cs u1.1 u1.2.1 u1.2.2.1 u1.2.2.2 a1.toNatClampNeg hj9) (c_S_declares l D cs Ev hE adK adV fm X (to a1.toNatClampNeg) (ta a1.toNatClampNeg) (d + 3) _ (u1.2.2.2 a1.toNatClampNeg) h) hE (rmD_ok (by omega) (by decide)) rfl (Nat.le_of_ble_eq_true rfl) rfl d_U_faultOf_32 (x_rI (fun r4 u3 h => ?_))
      refine x_if_eq (tgt := 58) d_U_faultOf_35 rfl (fun hc => ?_) (fun hc => ?_)
      · have h := h.1 hc
        refine x_sub [1, 2, 3, 0] rfl ?_
        exact w_U_faultOf_58 l D cs Ev hE adK adV fm X ad to ta d post  a1 a1.toNatClampNeg (u1.1, u1.2.1, u1.2.2.1, (va_up u1.2.2.2 a1.toNatClampNeg u3)) h
      · have h := h.2 hc
        refine x_iload_n (x := a1) d_U_faultOf_38 rfl ?_
        refine x_if_le (tgt := 58) d_U_faultOf_39 rfl (fun hc => ?_) (fun hc => ?_)
        · have h := h.1 hc
          refine x_sub [1, 2, 3, 0] rfl ?_
          exact w_U_faultOf_58 l D cs Ev hE adK adV fm X ad to ta d post  a1 a1.toNatClampNeg (u1.1, u1.2.1, u1.2.2.1, (va_up u1.2.2.2 a1.toNatClampNeg u3)) h
        · have h := h.2 hc
          refine x_aload_n (x := (ad 3)) d_U_faultOf_42 rfl ?_
          refine x_get (v := .ref (ad 4)) f_U_34 (eX_3 ad to ta cs u1.1 u1.2.1 u1.2.2.1 (va_up u1.2.2.2 a1.toNatClampNeg u3)) rfl d_U_faultOf_43 ?_
          refine x_iload_n (x := a1) d_U_faultOf_46 rfl ?_
          refine x_iconst (v := 1) d_U_faultOf_47 (by decide) ?_
          refine x_isub d_U_faultOf_48 ?_
          refine x_aald (t0 := 4) (eX_4 ad to ta cs u1.1 u1.2.1 u1.2.2.1 (va_up u1.2.2.2 a1.toNatClampNeg u3)) rfl h.1 d_U_faultOf_49 ?_
          have h := h.2
          obtain ⟨hj9, h⟩ := h
          obtain ⟨q9, e9⟩ := mem_ix (mem_row ad to ta cs u1.1 u1.2.1 u1.2.2.1 (va_up u1.2.2.2 a1.toNatClampNeg u3) ((a1 - (1 : Int32)).toNatClampNeg) hj9)
          refine x_callV (st := []) k_U_50 rfl e9 (lensT ad to ta cs u1.1 u1.2.1 u1.2.2.1 (va_up u1.2.2.2 a1.toNatClampNeg u3) ((a1 - (1 : Int32)).toNatClampNeg) hj9) (c_S_declares l D cs Ev hE adK adV fm X (to ((a1 - (1 : Int32)).toNatClampNeg)) (ta ((a1 - (1 : Int32)).toNatClampNeg)) (d + 3) _ ((va_up u1.2.2.2 a1.toNatClampNeg u3) ((a1 - (1 : Int32)).toNatClampNeg)) h) hE (rmD_ok (by omega) (by decide)) rfl (Nat.le_of_ble_eq_true rfl) rfl d_U_faultOf_50 (x_rI (fun r20 u19 h => ?_))
          refine x_if_ne (tgt := 58) d_U_faultOf_53 rfl (fun hc => ?_) (fun hc => ?_)
          · have h := h.1 hc
            refine x_sub [1, 2, 3, 0] rfl ?_
            exact w_U_faultOf_58 l D cs Ev hE adK adV fm X ad to ta d post  a1 a1.toNatClampNeg (u1.1, u1.2.1, u1.2.2.1, (va_up (va_up u1.2.2.2 a1.toNatClampNeg u3) ((a1 - (1 : Int32)).toNatClampNeg) u19)) h
          · have h := h.2 hc
            refine x_iconst (v := 3) d_U_faultOf_56 (by decide) ?_
            refine x_iret d_U_faultOf_57 ⟨_, rfl, ?_⟩
            exact h
    · have h := h.2 hc
      refine x_iconst (v := 2) d_U_faultOf_29 (by decide) ?_
      refine x_iret d_U_faultOf_30 ⟨_, rfl, ?_⟩
      exact h
  · have h := h.2 hc
    refine x_iconst (v := 1) d_U_faultOf_14 (by decide) ?_
    refine x_iret d_U_faultOf_15 ⟨_, rfl, ?_⟩
    exact h
def P_U_look_54 (post : XS → Prop) (K17 : Int32 → XS → Prop) (x2 : Int32) (u : XS) : Prop := K17 (x2 + 1) u
set_option maxHeartbeats 600000 in
set_option maxRecDepth 100000 in
theorem w_U_look_54 (l : Launch) (D : va_G) (cs : Nat → ClassId) (Ev : (Nat → Prop) → State → Prop) (hE : xEok Ev) (adK adV : Nat → Nat) (fm : Option Nat) (X : xEv adK adV fm Ev) (ad to : Nat → Nat) (ta : Nat → Nat → Nat) (d : Nat) (post : XS → Prop) (K17 : Int32 → XS → Prop) (hK17 : ∀ (x2 : Int32) (u : XS), K17 x2 u → RR l D clX (tysX cs) Ev "DeckFront$Structure" b_U_look 3 w_U_look (rmD (d + 5)) none (wdX ad to ta cs) (pV post) 0 0 0 0 17 [(0, .ref (ad 5)), (1, .ref (ad 3)), (2, .int x2)] [] u) (x2 : Int32) (u : XS) (h : P_U_look_54 post K17 x2 u) : RR l D clX (tysX cs) Ev "DeckFront$Structure" b_U_look 3 w_U_look (rmD (d + 5)) none (wdX ad to ta cs) (pV post) 0 0 0 0 54 [(0, .ref (ad 5)), (1, .ref (ad 3)), (2, .int x2)] [] u := by
  unfold P_U_look_54 at h
  refine x_iinc (v := x2 + 1) (lv' := [(2, .int (x2 + 1)), (0, .ref (ad 5)), (1, .ref (ad 3))]) d_U_look_54 rfl rfl (by decide) rfl ?_
  refine x_goto (tgt := 17) d_U_look_57 rfl ?_
  refine x_sub [1, 2, 0] rfl ?_
  exact hK17 (x2 + 1) u h
def P_U_look_17 (post : XS → Prop) : Nat → Int32 → XS → Prop
  | 0, _, _ => False
  | f + 1, x2, u => (((gI u.2.1 1) ≤ x2 → post u) ∧ (¬ (gI u.2.1 1) ≤ x2 → ((¬ (gI u.2.2.1 2) = 0 → post u) ∧ ((gI u.2.2.1 2) = 0 → P_U_faultOf (fun r2 u1 => ((r2 = 0 → P_U_look_54 post (fun zx2 zu => P_U_look_17 post f zx2 zu) x2 (u1.1, u1.2.1, (sI u1.2.2.1 2 r2), u1.2.2.2)) ∧ (¬ r2 = 0 → P_U_look_54 post (fun zx2 zu => P_U_look_17 post f zx2 zu) x2 (u1.1, u1.2.1, (sI (sI u1.2.2.1 2 r2) 3 x2), u1.2.2.2)))) x2 u))))
set_option maxHeartbeats 600000 in
set_option maxRecDepth 100000 in
theorem w_U_look_17 (l : Launch) (D : va_G) (cs : Nat → ClassId) (Ev : (Nat → Prop) → State → Prop) (hE : xEok Ev) (adK adV : Nat → Nat) (fm : Option Nat) (X : xEv adK adV fm Ev) (ad to : Nat → Nat) (ta : Nat → Nat → Nat) (d : Nat) (post : XS → Prop) : ∀ (f : Nat) (x2 : Int32) (u : XS), P_U_look_17 post  f x2 u → RR l D clX (tysX cs) Ev "DeckFront$Structure" b_U_look 3 w_U_look (rmD (d + 5)) none (wdX ad to ta cs) (pV post) 0 0 0 0 17 [(0, .ref (ad 5)), (1, .ref (ad 3)), (2, .int x2)] [] u := by
  intro f
  induction f with
  | zero => intro x2 u h; exact h.elim
  | succ f ih =>
    intro x2 u h
    unfold P_U_look_17 at h
    refine x_iload_n (x := x2) d_U_look_17 rfl ?_
    refine x_aload_n (x := (ad 3)) d_U_look_18 rfl ?_
    refine x_get (v := .int (gI u.2.1 1)) f_U_25 (eX_3 ad to ta cs u.1 u.2.1 u.2.2.1 u.2.2.2) rfl d_U_look_19 ?_
    refine x_icmp_ge (tgt := 60) d_U_look_22 rfl (fun hc => ?_) (fun hc => ?_)
    · have h := h.1 hc
      refine x_vret d_U_look_60 ⟨rfl, ?_⟩
      exact h
    · have h := h.2 hc
      refine x_aload_n (x := (ad 5)) d_U_look_25 rfl ?_
      refine x_get (v := .int (gI u.2.2.1 2)) f_U_19 (eX_5 ad to ta cs u.1 u.2.1 u.2.2.1 u.2.2.2) rfl d_U_look_26 ?_
      refine x_if_ne (tgt := 60) d_U_look_29 rfl (fun hc => ?_) (fun hc => ?_)
      · have h := h.1 hc
        refine x_vret d_U_look_60 ⟨rfl, ?_⟩
        exact h
      · have h := h.2 hc
        refine x_aload_n (x := (ad 5)) d_U_look_32 rfl ?_
        refine x_aload_n (x := (ad 5)) d_U_look_33 rfl ?_
        refine x_aload_n (x := (ad 3)) d_U_look_34 rfl ?_
        refine x_iload_n (x := x2) d_U_look_35 rfl ?_
        refine x_callV (st := [.ref (ad 5)]) k_U_30 rfl (eX_5 ad to ta cs u.1 u.2.1 u.2.2.1 u.2.2.2) x_id (c_U_faultOf l D cs Ev hE adK adV fm X ad to ta (d + 0) _ x2 u h) hE (rmD_ok (by omega) (by decide)) rfl (Nat.le_of_ble_eq_true rfl) rfl d_U_look_36 (x_rI (fun r2 u1 h => ?_))
        refine x_put f_U_19 fw_U_2 (eX_5 ad to ta cs u1.1 u1.2.1 u1.2.2.1 u1.2.2.2) rfl rfl (Nat.le_of_ble_eq_true rfl) (sX_U2 ad to ta cs u1.1 u1.2.1 u1.2.2.1 u1.2.2.2 _) d_U_look_39 ?_
        refine x_aload_n (x := (ad 5)) d_U_look_42 rfl ?_
        refine x_get (v := .int r2) f_U_19 (eX_5 ad to ta cs u1.1 u1.2.1 (sI u1.2.2.1 2 r2) u1.2.2.2) rfl d_U_look_43 ?_
        refine x_if_eq (tgt := 54) d_U_look_46 rfl (fun hc => ?_) (fun hc => ?_)
        · have h := h.1 hc
          exact w_U_look_54 l D cs Ev hE adK adV fm X ad to ta d post (fun zx2 zu => P_U_look_17 post f zx2 zu) ih x2 (u1.1, u1.2.1, (sI u1.2.2.1 2 r2), u1.2.2.2) h
        · have h := h.2 hc
          refine x_aload_n (x := (ad 5)) d_U_look_49 rfl ?_
          refine x_iload_n (x := x2) d_U_look_50 rfl ?_
          refine x_put f_U_22 fw_U_3 (eX_5 ad to ta cs u1.1 u1.2.1 (sI u1.2.2.1 2 r2) u1.2.2.2) rfl rfl (Nat.le_of_ble_eq_true rfl) (sX_U3 ad to ta cs u1.1 u1.2.1 (sI u1.2.2.1 2 r2) u1.2.2.2 _) d_U_look_51 ?_
          exact w_U_look_54 l D cs Ev hE adK adV fm X ad to ta d post (fun zx2 zu => P_U_look_17 post f zx2 zu) ih x2 (u1.1, u1.2.1, (sI (sI u1.2.2.1 2 r2) 3 x2), u1.2.2.2) h
def P_U_look (post : XS → Prop) (u : XS) : Prop := (∃ g, P_U_look_17 post g 0 (u.1, u.2.1, (sI (sI (sI u.2.2.1 1 (0 : Int32)) 2 (0 : Int32)) 3 (-1 : Int32)), u.2.2.2))
set_option maxHeartbeats 600000 in
set_option maxRecDepth 100000 in
theorem c_U_look (l : Launch) (D : va_G) (cs : Nat → ClassId) (Ev : (Nat → Prop) → State → Prop) (hE : xEok Ev) (adK adV : Nat → Nat) (fm : Option Nat) (X : xEv adK adV fm Ev) (ad to : Nat → Nat) (ta : Nat → Nat → Nat) (d : Nat) (post : XS → Prop) (u : XS) (h : P_U_look post  u) : xC l D clX (tysX cs) Ev y_U_look w_U_look (rmD (d + 5)) (wdX ad to ta cs) [.ref (ad 5), .ref (ad 3)] u (pV post) 0 0 := by
  unfold P_U_look at h
  refine xC.of (cc := b_U_look) (nL := 3) (ret := none) (by decide) rfl (Nat.le_of_ble_eq_true rfl) ?_
  show RR l D clX (tysX cs) Ev "DeckFront$Structure" b_U_look 3 w_U_look (rmD (d + 5)) none (wdX ad to ta cs) (pV post) 0 0 0 0 0 [(0, .ref (ad 5)), (1, .ref (ad 3))] [] u
  refine x_aload_n (x := (ad 5)) d_U_look_0 rfl ?_
  refine x_iconst (v := 0) d_U_look_1 (by decide) ?_
  refine x_put f_U_15 fw_U_1 (eX_5 ad to ta cs u.1 u.2.1 u.2.2.1 u.2.2.2) rfl rfl (Nat.le_of_ble_eq_true rfl) (sX_U1 ad to ta cs u.1 u.2.1 u.2.2.1 u.2.2.2 _) d_U_look_2 ?_
  refine x_aload_n (x := (ad 5)) d_U_look_5 rfl ?_
  refine x_iconst (v := 0) d_U_look_6 (by decide) ?_
  refine x_put f_U_19 fw_U_2 (eX_5 ad to ta cs u.1 u.2.1 (sI u.2.2.1 1 (0 : Int32)) u.2.2.2) rfl rfl (Nat.le_of_ble_eq_true rfl) (sX_U2 ad to ta cs u.1 u.2.1 (sI u.2.2.1 1 (0 : Int32)) u.2.2.2 _) d_U_look_7 ?_
  refine x_aload_n (x := (ad 5)) d_U_look_10 rfl ?_
  refine x_iconst (v := (-1)) d_U_look_11 (by decide) ?_
  refine x_put f_U_22 fw_U_3 (eX_5 ad to ta cs u.1 u.2.1 (sI (sI u.2.2.1 1 (0 : Int32)) 2 (0 : Int32)) u.2.2.2) rfl rfl (Nat.le_of_ble_eq_true rfl) (sX_U3 ad to ta cs u.1 u.2.1 (sI (sI u.2.2.1 1 (0 : Int32)) 2 (0 : Int32)) u.2.2.2 _) d_U_look_12 ?_
  refine x_iconst (v := 0) d_U_look_15 (by decide) ?_
  refine x_istore_n (lv' := [(2, .int 0), (0, .ref (ad 5)), (1, .ref (ad 3))]) d_U_look_16 (by decide) rfl ?_
  refine x_sub [1, 2, 0] rfl ?_
  obtain ⟨f9, h⟩ := h
  exact w_U_look_17 l D cs Ev hE adK adV fm X ad to ta d post  f9 0 (u.1, u.2.1, (sI (sI (sI u.2.2.1 1 (0 : Int32)) 2 (0 : Int32)) 3 (-1 : Int32)), u.2.2.2) h
def P_D_write (post : Int32 → XS → Prop) (a0 : Int64) (u : XS) : Prop := P_C_append (fun r2 u1 => (narrow .boolean (.int r2) = .int r2 ∧ post r2 (u1, u.2.1, u.2.2.1, u.2.2.2))) a0 u.1
set_option maxHeartbeats 600000 in
set_option maxRecDepth 100000 in
theorem c_D_write (l : Launch) (D : va_G) (cs : Nat → ClassId) (Ev : (Nat → Prop) → State → Prop) (hE : xEok Ev) (adK adV : Nat → Nat) (fm : Option Nat) (X : xEv adK adV fm Ev) (ad to : Nat → Nat) (ta : Nat → Nat → Nat) (d : Nat) (post : Int32 → XS → Prop) (a0 : Int64) (u : XS) (h : P_D_write post a0 u) : xC l D clX (tysX cs) Ev y_D_write w_D_write (rmD (d + 6)) (wdX ad to ta cs) [.ref (ad 0), .long a0] u (pI post) 0 0 := by
  unfold P_D_write at h
  refine xC.of (cc := b_D_write) (nL := 3) (ret := (some .boolean)) (by decide) rfl (Nat.le_of_ble_eq_true rfl) ?_
  show RR l D clX (tysX cs) Ev "DeckFront" b_D_write 3 w_D_write (rmD (d + 6)) (some .boolean) (wdX ad to ta cs) (pI post) 0 0 0 0 0 [(0, .ref (ad 0)), (1, .long a0)] [] u
  refine x_aload_n (x := (ad 0)) d_D_write_0 rfl ?_
  refine x_get (v := .ref (ad 1)) f_D_10 (eX_0 ad to ta cs u.1 u.2.1 u.2.2.1 u.2.2.2) rfl d_D_write_1 ?_
  refine x_lload_n (x := a0) d_D_write_4 rfl ?_
  refine x_callV (st := []) k_D_30 rfl (eX_1 ad to ta cs u.1 u.2.1 u.2.2.1 u.2.2.2) (lensC ad to ta cs u.1 u.2.1 u.2.2.1 u.2.2.2) (c_C_append l D cs Ev hE adK adV fm X (ad 1) (fun _ => ad 2) (d + 0) _ a0 u.1 h) hE (rmD_ok (by omega) (by decide)) rfl (Nat.le_of_ble_eq_true rfl) rfl d_D_write_5 (x_rI (fun r2 u1 h => ?_))
  refine x_zret h.1 d_D_write_8 ⟨_, rfl, ?_⟩
  exact h.2
def P_D_card (post : Int32 → XS → Prop) (u : XS) : Prop := P_K_join (fun r2 u1 => ((¬ r2 = (-2) → ((¬ r2 = (-3) → P_K_find (fun q u3 => ((q = none → post r2 u3) ∧ (∀ j4, q = some j4 → (j4 < 24 ∧ P_S_recognise (fun u5 => post r2 (u3.1, u3.2.1, u3.2.2.1, (va_up u3.2.2.2 j4 u5))) (u3.2.2.2 j4))))) r2 ((sI u1.1 1 (0 : Int32)), u1.2.1, u1.2.2.1, u1.2.2.2)) ∧ (r2 = (-3) → False))) ∧ (r2 = (-2) → False))) u
set_option maxHeartbeats 600000 in
set_option maxRecDepth 100000 in
theorem c_D_card (l : Launch) (D : va_G) (cs : Nat → ClassId) (Ev : (Nat → Prop) → State → Prop) (hE : xEok Ev) (adK adV : Nat → Nat) (fm : Option Nat) (X : xEv adK adV fm Ev) (ad to : Nat → Nat) (ta : Nat → Nat → Nat) (d : Nat) (post : Int32 → XS → Prop) (u : XS) (h : P_D_card post  u) : xC l D clX (tysX cs) Ev y_D_card w_D_card (rmD (d + 782)) (wdX ad to ta cs) [.ref (ad 0)] u (pI post) 0 0 := by
  unfold P_D_card at h
  refine xC.of (cc := b_D_card) (nL := 3) (ret := (some .int)) (by decide) rfl (Nat.le_of_ble_eq_true rfl) ?_
  show RR l D clX (tysX cs) Ev "DeckFront" b_D_card 3 w_D_card (rmD (d + 782)) (some .int) (wdX ad to ta cs) (pI post) 0 0 0 0 0 [(0, .ref (ad 0))] [] u
  refine x_aload_n (x := (ad 0)) d_D_card_0 rfl ?_
  refine x_get (v := .ref (ad 3)) f_D_19 (eX_0 ad to ta cs u.1 u.2.1 u.2.2.1 u.2.2.2) rfl d_D_card_1 ?_
  refine x_aload_n (x := (ad 0)) d_D_card_4 rfl ?_
  refine x_get (v := .ref (ad 1)) f_D_10 (eX_0 ad to ta cs u.1 u.2.1 u.2.2.1 u.2.2.2) rfl d_D_card_5 ?_
  refine x_callV (st := []) k_D_34 rfl (eX_3 ad to ta cs u.1 u.2.1 u.2.2.1 u.2.2.2) x_id (c_K_join l D cs Ev hE adK adV fm X ad to ta (d + 778) _ u h) hE (rmD_ok (by omega) (by decide)) rfl (Nat.le_of_ble_eq_true rfl) rfl d_D_card_8 (x_rI (fun r2 u1 h => ?_))
  refine x_istore_n (lv' := [(1, .int r2), (0, .ref (ad 0))]) d_D_card_11 (by decide) rfl ?_
  refine x_aload_n (x := (ad 0)) d_D_card_12 rfl ?_
  refine x_get (v := .ref (ad 1)) f_D_10 (eX_0 ad to ta cs u1.1 u1.2.1 u1.2.2.1 u1.2.2.2) rfl d_D_card_13 ?_
  refine x_iconst (v := 0) d_D_card_16 (by decide) ?_
  refine x_put f_D_38 fw_C_1 (eX_1 ad to ta cs u1.1 u1.2.1 u1.2.2.1 u1.2.2.2) rfl rfl (Nat.le_of_ble_eq_true rfl) (sX_C1 ad to ta cs u1.1 u1.2.1 u1.2.2.1 u1.2.2.2 _) d_D_card_17 ?_
  refine x_iload_n (x := r2) d_D_card_20 rfl ?_
  refine x_bipush (v := (-2)) d_D_card_21 (by decide) ?_
  refine x_icmp_ne (tgt := 36) d_D_card_23 rfl (fun hc => ?_) (fun hc => ?_)
  · have h := h.1 hc
    refine x_iload_n (x := r2) d_D_card_36 rfl ?_
    refine x_bipush (v := (-3)) d_D_card_37 (by decide) ?_
    refine x_icmp_ne (tgt := 52) d_D_card_39 rfl (fun hc => ?_) (fun hc => ?_)
    · have h := h.1 hc
      refine x_aload_n (x := (ad 0)) d_D_card_52 rfl ?_
      refine x_get (v := .ref (ad 3)) f_D_19 (eX_0 ad to ta cs (sI u1.1 1 (0 : Int32)) u1.2.1 u1.2.2.1 u1.2.2.2) rfl d_D_card_53 ?_
      refine x_iload_n (x := r2) d_D_card_56 rfl ?_
      refine x_callV (st := []) k_D_54 rfl (eX_3 ad to ta cs (sI u1.1 1 (0 : Int32)) u1.2.1 u1.2.2.1 u1.2.2.2) x_id (c_K_find l D cs Ev hE adK adV fm X ad to ta (d + 781) _ r2 ((sI u1.1 1 (0 : Int32)), u1.2.1, u1.2.2.1, u1.2.2.2) h) hE (rmD_ok (by omega) (by decide)) rfl (Nat.le_of_ble_eq_true rfl) rfl d_D_card_57 (x_rF (fun u3 h => ?_) (fun j4 u3 h => ?_))
      · have h := h.1 rfl
        refine x_astore_nN (lv' := [(2, .null), (1, .int r2), (0, .ref (ad 0))]) d_D_card_60 (by decide) rfl ?_
        refine x_aload_nN d_D_card_61 rfl ?_
        refine x_ifnullN (tgt := 69) d_D_card_62 rfl ?_
        refine x_iload_n (x := r2) d_D_card_69 rfl ?_
        refine x_iret d_D_card_70 ⟨_, rfl, ?_⟩
        exact h
      · have h := h.2 j4 rfl
        refine x_astore_n (lv' := [(2, .ref (to j4)), (1, .int r2), (0, .ref (ad 0))]) d_D_card_60 (by decide) rfl ?_
        refine x_aload_n (x := (to j4)) d_D_card_61 rfl ?_
        refine x_ifnull d_D_card_62 ?_
        refine x_aload_n (x := (to j4)) d_D_card_65 rfl ?_
        obtain ⟨hj9, h⟩ := h
        obtain ⟨q9, e9⟩ := mem_ix (mem_row ad to ta cs u3.1 u3.2.1 u3.2.2.1 u3.2.2.2 j4 hj9)
        refine x_callV (st := []) k_D_58 rfl e9 (lensT ad to ta cs u3.1 u3.2.1 u3.2.2.1 u3.2.2.2 j4 hj9) (c_S_recognise l D cs Ev hE adK adV fm X (to j4) (ta j4) (d + 0) _ (u3.2.2.2 j4) h) hE (rmD_ok (by omega) (by decide)) rfl (Nat.le_of_ble_eq_true rfl) rfl d_D_card_66 (x_rV (fun u5 h => ?_))
        refine x_iload_n (x := r2) d_D_card_69 rfl ?_
        refine x_iret d_D_card_70 ⟨_, rfl, ?_⟩
        exact h
    · have h := h.2 hc
      exact h.elim
  · have h := h.2 hc
    exact h.elim
def P_D_clear (post : XS → Prop) (u : XS) : Prop := post (u.1, (sI u.2.1 1 (0 : Int32)), u.2.2.1, u.2.2.2)
set_option maxHeartbeats 600000 in
set_option maxRecDepth 100000 in
theorem c_D_clear (l : Launch) (D : va_G) (cs : Nat → ClassId) (Ev : (Nat → Prop) → State → Prop) (hE : xEok Ev) (adK adV : Nat → Nat) (fm : Option Nat) (X : xEv adK adV fm Ev) (ad to : Nat → Nat) (ta : Nat → Nat → Nat) (d : Nat) (post : XS → Prop) (u : XS) (h : P_D_clear post  u) : xC l D clX (tysX cs) Ev y_D_clear w_D_clear (rmD (d + 0)) (wdX ad to ta cs) [.ref (ad 0)] u (pV post) 0 0 := by
  unfold P_D_clear at h
  refine xC.of (cc := b_D_clear) (nL := 1) (ret := none) (by decide) rfl (Nat.le_of_ble_eq_true rfl) ?_
  show RR l D clX (tysX cs) Ev "DeckFront" b_D_clear 1 w_D_clear (rmD (d + 0)) none (wdX ad to ta cs) (pV post) 0 0 0 0 0 [(0, .ref (ad 0))] [] u
  refine x_aload_n (x := (ad 0)) d_D_clear_0 rfl ?_
  refine x_get (v := .ref (ad 3)) f_D_19 (eX_0 ad to ta cs u.1 u.2.1 u.2.2.1 u.2.2.2) rfl d_D_clear_1 ?_
  refine x_iconst (v := 0) d_D_clear_4 (by decide) ?_
  refine x_put f_D_63 fw_K_1 (eX_3 ad to ta cs u.1 u.2.1 u.2.2.1 u.2.2.2) rfl rfl (Nat.le_of_ble_eq_true rfl) (sX_K1 ad to ta cs u.1 u.2.1 u.2.2.1 u.2.2.2 _) d_D_clear_5 ?_
  refine x_vret d_D_clear_8 ⟨rfl, ?_⟩
  exact h
def P_D_statements (post : Int32 → XS → Prop) (u : XS) : Prop := post (gI u.2.1 1) u
set_option maxHeartbeats 600000 in
set_option maxRecDepth 100000 in
theorem c_D_statements (l : Launch) (D : va_G) (cs : Nat → ClassId) (Ev : (Nat → Prop) → State → Prop) (hE : xEok Ev) (adK adV : Nat → Nat) (fm : Option Nat) (X : xEv adK adV fm Ev) (ad to : Nat → Nat) (ta : Nat → Nat → Nat) (d : Nat) (post : Int32 → XS → Prop) (u : XS) (h : P_D_statements post  u) : xC l D clX (tysX cs) Ev y_D_statements w_D_statements (rmD (d + 0)) (wdX ad to ta cs) [.ref (ad 0)] u (pI post) 0 0 := by
  unfold P_D_statements at h
  refine xC.of (cc := b_D_statements) (nL := 1) (ret := (some .int)) (by decide) rfl (Nat.le_of_ble_eq_true rfl) ?_
  show RR l D clX (tysX cs) Ev "DeckFront" b_D_statements 1 w_D_statements (rmD (d + 0)) (some .int) (wdX ad to ta cs) (pI post) 0 0 0 0 0 [(0, .ref (ad 0))] [] u
  refine x_aload_n (x := (ad 0)) d_D_statements_0 rfl ?_
  refine x_get (v := .ref (ad 3)) f_D_19 (eX_0 ad to ta cs u.1 u.2.1 u.2.2.1 u.2.2.2) rfl d_D_statements_1 ?_
  refine x_get (v := .int (gI u.2.1 1)) f_D_63 (eX_3 ad to ta cs u.1 u.2.1 u.2.2.1 u.2.2.2) rfl d_D_statements_4 ?_
  refine x_iret d_D_statements_7 ⟨_, rfl, ?_⟩
  exact h
def P_D_label (post : Int32 → XS → Prop) (a0 : Int32) (u : XS) : Prop := P_K_find (fun q u1 => ((q = none → post (-1) u1) ∧ (∀ j2, q = some j2 → (j2 < 24 ∧ post (gI (u1.2.2.2 j2) 7) u1)))) a0 u
set_option maxHeartbeats 600000 in
set_option maxRecDepth 100000 in
theorem c_D_label (l : Launch) (D : va_G) (cs : Nat → ClassId) (Ev : (Nat → Prop) → State → Prop) (hE : xEok Ev) (adK adV : Nat → Nat) (fm : Option Nat) (X : xEv adK adV fm Ev) (ad to : Nat → Nat) (ta : Nat → Nat → Nat) (d : Nat) (post : Int32 → XS → Prop) (a0 : Int32) (u : XS) (h : P_D_label post a0 u) : xC l D clX (tysX cs) Ev y_D_label w_D_label (rmD (d + 1)) (wdX ad to ta cs) [.ref (ad 0), .int a0] u (pI post) 0 0 := by
  unfold P_D_label at h
  refine xC.of (cc := b_D_label) (nL := 3) (ret := (some .int)) (by decide) rfl (Nat.le_of_ble_eq_true rfl) ?_
  show RR l D clX (tysX cs) Ev "DeckFront" b_D_label 3 w_D_label (rmD (d + 1)) (some .int) (wdX ad to ta cs) (pI post) 0 0 0 0 0 [(0, .ref (ad 0)), (1, .int a0)] [] u
  refine x_aload_n (x := (ad 0)) d_D_label_0 rfl ?_
  refine x_get (v := .ref (ad 3)) f_D_19 (eX_0 ad to ta cs u.1 u.2.1 u.2.2.1 u.2.2.2) rfl d_D_label_1 ?_
  refine x_iload_n (x := a0) d_D_label_4 rfl ?_
  refine x_callV (st := []) k_D_54 rfl (eX_3 ad to ta cs u.1 u.2.1 u.2.2.1 u.2.2.2) x_id (c_K_find l D cs Ev hE adK adV fm X ad to ta (d + 0) _ a0 u h) hE (rmD_ok (by omega) (by decide)) rfl (Nat.le_of_ble_eq_true rfl) rfl d_D_label_5 (x_rF (fun u1 h => ?_) (fun j2 u1 h => ?_))
  · have h := h.1 rfl
    refine x_astore_nN (lv' := [(2, .null), (0, .ref (ad 0)), (1, .int a0)]) d_D_label_8 (by decide) rfl ?_
    refine x_aload_nN d_D_label_9 rfl ?_
    refine x_ifnonnullN d_D_label_10 ?_
    refine x_iconst (v := (-1)) d_D_label_13 (by decide) ?_
    refine x_goto (tgt := 21) d_D_label_14 rfl ?_
    refine x_iret d_D_label_21 ⟨_, rfl, ?_⟩
    exact h
  · have h := h.2 j2 rfl
    refine x_astore_n (lv' := [(2, .ref (to j2)), (0, .ref (ad 0)), (1, .int a0)]) d_D_label_8 (by decide) rfl ?_
    refine x_aload_n (x := (to j2)) d_D_label_9 rfl ?_
    refine x_ifnonnull (tgt := 17) d_D_label_10 rfl ?_
    refine x_aload_n (x := (to j2)) d_D_label_17 rfl ?_
    refine x_getM (v := .int (gI (u1.2.2.2 j2) 7)) f_D_66 (mem_row ad to ta cs u1.1 u1.2.1 u1.2.2.1 u1.2.2.2 j2 h.1) rfl d_D_label_18 ?_
    have h := h.2
    refine x_iret d_D_label_21 ⟨_, rfl, ?_⟩
    exact h
def P_D_what (post : Int32 → XS → Prop) (a0 : Int32) (u : XS) : Prop := P_K_find (fun q u1 => ((q = none → post (-1) u1) ∧ (∀ j2, q = some j2 → (j2 < 24 ∧ post (gI (u1.2.2.2 j2) 8) u1)))) a0 u
set_option maxHeartbeats 600000 in
set_option maxRecDepth 100000 in
theorem c_D_what (l : Launch) (D : va_G) (cs : Nat → ClassId) (Ev : (Nat → Prop) → State → Prop) (hE : xEok Ev) (adK adV : Nat → Nat) (fm : Option Nat) (X : xEv adK adV fm Ev) (ad to : Nat → Nat) (ta : Nat → Nat → Nat) (d : Nat) (post : Int32 → XS → Prop) (a0 : Int32) (u : XS) (h : P_D_what post a0 u) : xC l D clX (tysX cs) Ev y_D_what w_D_what (rmD (d + 1)) (wdX ad to ta cs) [.ref (ad 0), .int a0] u (pI post) 0 0 := by
  unfold P_D_what at h
  refine xC.of (cc := b_D_what) (nL := 3) (ret := (some .int)) (by decide) rfl (Nat.le_of_ble_eq_true rfl) ?_
  show RR l D clX (tysX cs) Ev "DeckFront" b_D_what 3 w_D_what (rmD (d + 1)) (some .int) (wdX ad to ta cs) (pI post) 0 0 0 0 0 [(0, .ref (ad 0)), (1, .int a0)] [] u
  refine x_aload_n (x := (ad 0)) d_D_what_0 rfl ?_
  refine x_get (v := .ref (ad 3)) f_D_19 (eX_0 ad to ta cs u.1 u.2.1 u.2.2.1 u.2.2.2) rfl d_D_what_1 ?_
  refine x_iload_n (x := a0) d_D_what_4 rfl ?_
  refine x_callV (st := []) k_D_54 rfl (eX_3 ad to ta cs u.1 u.2.1 u.2.2.1 u.2.2.2) x_id (c_K_find l D cs Ev hE adK adV fm X ad to ta (d + 0) _ a0 u h) hE (rmD_ok (by omega) (by decide)) rfl (Nat.le_of_ble_eq_true rfl) rfl d_D_what_5 (x_rF (fun u1 h => ?_) (fun j2 u1 h => ?_))
  · have h := h.1 rfl
    refine x_astore_nN (lv' := [(2, .null), (0, .ref (ad 0)), (1, .int a0)]) d_D_what_8 (by decide) rfl ?_
    refine x_aload_nN d_D_what_9 rfl ?_
    refine x_ifnonnullN d_D_what_10 ?_
    refine x_iconst (v := (-1)) d_D_what_13 (by decide) ?_
    refine x_goto (tgt := 21) d_D_what_14 rfl ?_
    refine x_iret d_D_what_21 ⟨_, rfl, ?_⟩
    exact h
  · have h := h.2 j2 rfl
    refine x_astore_n (lv' := [(2, .ref (to j2)), (0, .ref (ad 0)), (1, .int a0)]) d_D_what_8 (by decide) rfl ?_
    refine x_aload_n (x := (to j2)) d_D_what_9 rfl ?_
    refine x_ifnonnull (tgt := 17) d_D_what_10 rfl ?_
    refine x_aload_n (x := (to j2)) d_D_what_17 rfl ?_
    refine x_getM (v := .int (gI (u1.2.2.2 j2) 8)) f_D_69 (mem_row ad to ta cs u1.1 u1.2.1 u1.2.2.1 u1.2.2.2 j2 h.1) rfl d_D_what_18 ?_
    have h := h.2
    refine x_iret d_D_what_21 ⟨_, rfl, ?_⟩
    exact h
def P_D_shown (post : Int32 → XS → Prop) (a0 : Int32) (a1 : Int32) (u : XS) : Prop := P_K_find (fun q u1 => ((q = none → post (-1) u1) ∧ (∀ j2, q = some j2 → (j2 < 24 ∧ P_T_signShown (fun r4 u3 => post r4 (u1.1, u1.2.1, u1.2.2.1, (va_up u1.2.2.2 j2 u3))) a1 (u1.2.2.2 j2))))) a0 u
set_option maxHeartbeats 600000 in
set_option maxRecDepth 100000 in
theorem c_D_shown (l : Launch) (D : va_G) (cs : Nat → ClassId) (Ev : (Nat → Prop) → State → Prop) (hE : xEok Ev) (adK adV : Nat → Nat) (fm : Option Nat) (X : xEv adK adV fm Ev) (ad to : Nat → Nat) (ta : Nat → Nat → Nat) (d : Nat) (post : Int32 → XS → Prop) (a0 : Int32) (a1 : Int32) (u : XS) (h : P_D_shown post a0 a1 u) : xC l D clX (tysX cs) Ev y_D_shown w_D_shown (rmD (d + 1)) (wdX ad to ta cs) [.ref (ad 0), .int a0, .int a1] u (pI post) 0 0 := by
  unfold P_D_shown at h
  refine xC.of (cc := b_D_shown) (nL := 4) (ret := (some .int)) (by decide) rfl (Nat.le_of_ble_eq_true rfl) ?_
  show RR l D clX (tysX cs) Ev "DeckFront" b_D_shown 4 w_D_shown (rmD (d + 1)) (some .int) (wdX ad to ta cs) (pI post) 0 0 0 0 0 [(0, .ref (ad 0)), (1, .int a0), (2, .int a1)] [] u
  refine x_aload_n (x := (ad 0)) d_D_shown_0 rfl ?_
  refine x_get (v := .ref (ad 3)) f_D_19 (eX_0 ad to ta cs u.1 u.2.1 u.2.2.1 u.2.2.2) rfl d_D_shown_1 ?_
  refine x_iload_n (x := a0) d_D_shown_4 rfl ?_
  refine x_callV (st := []) k_D_54 rfl (eX_3 ad to ta cs u.1 u.2.1 u.2.2.1 u.2.2.2) x_id (c_K_find l D cs Ev hE adK adV fm X ad to ta (d + 0) _ a0 u h) hE (rmD_ok (by omega) (by decide)) rfl (Nat.le_of_ble_eq_true rfl) rfl d_D_shown_5 (x_rF (fun u1 h => ?_) (fun j2 u1 h => ?_))
  · have h := h.1 rfl
    refine x_astore_nN (lv' := [(3, .null), (0, .ref (ad 0)), (1, .int a0), (2, .int a1)]) d_D_shown_8 (by decide) rfl ?_
    refine x_aload_nN d_D_shown_9 rfl ?_
    refine x_ifnonnullN d_D_shown_10 ?_
    refine x_iconst (v := (-1)) d_D_shown_13 (by decide) ?_
    refine x_goto (tgt := 22) d_D_shown_14 rfl ?_
    refine x_iret d_D_shown_22 ⟨_, rfl, ?_⟩
    exact h
  · have h := h.2 j2 rfl
    refine x_astore_n (lv' := [(3, .ref (to j2)), (0, .ref (ad 0)), (1, .int a0), (2, .int a1)]) d_D_shown_8 (by decide) rfl ?_
    refine x_aload_n (x := (to j2)) d_D_shown_9 rfl ?_
    refine x_ifnonnull (tgt := 17) d_D_shown_10 rfl ?_
    refine x_aload_n (x := (to j2)) d_D_shown_17 rfl ?_
    refine x_iload_n (x := a1) d_D_shown_18 rfl ?_
    obtain ⟨hj9, h⟩ := h
    obtain ⟨q9, e9⟩ := mem_ix (mem_row ad to ta cs u1.1 u1.2.1 u1.2.2.1 u1.2.2.2 j2 hj9)
    refine x_callU (st := []) k_D_72 rfl e9 (lensT ad to ta cs u1.1 u1.2.1 u1.2.2.1 u1.2.2.2 j2 hj9) (c_T_signShown l D cs Ev hE adK adV fm X (to j2) (ta j2) (d + 0) _ a1 (u1.2.2.2 j2) h) hE (rmD_ok (by omega) (by decide)) rfl (Nat.le_of_ble_eq_true rfl) rfl d_D_shown_19 (x_rI (fun r4 u3 h => ?_))
    refine x_iret d_D_shown_22 ⟨_, rfl, ?_⟩
    exact h
def P_D_kind (post : Int32 → XS → Prop) (a0 : Int64) (u : XS) : Prop := P_D_nameOf (fun r2 u1 => ((¬ (lg_cmp r2 0) = 0 → P_K_kindOf (fun r4 u3 => post r4 u3) r2 u) ∧ ((lg_cmp r2 0) = 0 → post 0 u))) a0 ()
set_option maxHeartbeats 600000 in
set_option maxRecDepth 100000 in
theorem c_D_kind (l : Launch) (D : va_G) (cs : Nat → ClassId) (Ev : (Nat → Prop) → State → Prop) (hE : xEok Ev) (adK adV : Nat → Nat) (fm : Option Nat) (X : xEv adK adV fm Ev) (ad to : Nat → Nat) (ta : Nat → Nat → Nat) (d : Nat) (post : Int32 → XS → Prop) (a0 : Int64) (u : XS) (h : P_D_kind post a0 u) : xC l D clX (tysX cs) Ev y_D_kind w_D_kind (rmD (d + 4)) (wdX ad to ta cs) [.ref (ad 0), .long a0] u (pI post) 0 0 := by
  unfold P_D_kind at h
  refine xC.of (cc := b_D_kind) (nL := 5) (ret := (some .int)) (by decide) rfl (Nat.le_of_ble_eq_true rfl) ?_
  show RR l D clX (tysX cs) Ev "DeckFront" b_D_kind 5 w_D_kind (rmD (d + 4)) (some .int) (wdX ad to ta cs) (pI post) 0 0 0 0 0 [(0, .ref (ad 0)), (1, .long a0)] [] u
  refine x_lload_n (x := a0) d_D_kind_0 rfl ?_
  refine x_callS (st := []) k_D_76 x_none (c_D_nameOf l D cs Ev hE adK adV fm X (d + 2) _ a0 () h) hE (rmD_ok (by omega) (by decide)) rfl (Nat.le_of_ble_eq_true rfl) rfl d_D_kind_1 (x_rJ (fun r2 u1 h => ?_))
  refine x_lstore_n (lv' := [(3, .long r2), (0, .ref (ad 0)), (1, .long a0)]) d_D_kind_4 (by decide) rfl ?_
  refine x_lload_n (x := r2) d_D_kind_5 rfl ?_
  refine x_lconst (v := 0) d_D_kind_6 (by decide) ?_
  refine x_lcmp d_D_kind_7 ?_
  refine x_if_ne (tgt := 15) d_D_kind_8 rfl (fun hc => ?_) (fun hc => ?_)
  · have h := h.1 hc
    refine x_aload_n (x := (ad 0)) d_D_kind_15 rfl ?_
    refine x_get (v := .ref (ad 3)) f_D_19 (eX_0 ad to ta cs u.1 u.2.1 u.2.2.1 u.2.2.2) rfl d_D_kind_16 ?_
    refine x_lload_n (x := r2) d_D_kind_19 rfl ?_
    refine x_callV (st := []) k_D_80 rfl (eX_3 ad to ta cs u.1 u.2.1 u.2.2.1 u.2.2.2) x_id (c_K_kindOf l D cs Ev hE adK adV fm X ad to ta (d + 0) _ r2 u h) hE (rmD_ok (by omega) (by decide)) rfl (Nat.le_of_ble_eq_true rfl) rfl d_D_kind_20 (x_rI (fun r4 u3 h => ?_))
    refine x_iret d_D_kind_23 ⟨_, rfl, ?_⟩
    exact h
  · have h := h.2 hc
    refine x_iconst (v := 0) d_D_kind_11 (by decide) ?_
    refine x_goto (tgt := 23) d_D_kind_12 rfl ?_
    refine x_iret d_D_kind_23 ⟨_, rfl, ?_⟩
    exact h
def P_D_type (post : Int32 → XS → Prop) (a0 : Int64) (u : XS) : Prop := P_D_nameOf (fun r2 u1 => ((¬ (lg_cmp r2 0) = 0 → P_K_typeOf (fun r4 u3 => post r4 u3) r2 u) ∧ ((lg_cmp r2 0) = 0 → post 0 u))) a0 ()
set_option maxHeartbeats 600000 in
set_option maxRecDepth 100000 in
theorem c_D_type (l : Launch) (D : va_G) (cs : Nat → ClassId) (Ev : (Nat → Prop) → State → Prop) (hE : xEok Ev) (adK adV : Nat → Nat) (fm : Option Nat) (X : xEv adK adV fm Ev) (ad to : Nat → Nat) (ta : Nat → Nat → Nat) (d : Nat) (post : Int32 → XS → Prop) (a0 : Int64) (u : XS) (h : P_D_type post a0 u) : xC l D clX (tysX cs) Ev y_D_type w_D_type (rmD (d + 4)) (wdX ad to ta cs) [.ref (ad 0), .long a0] u (pI post) 0 0 := by
  unfold P_D_type at h
  refine xC.of (cc := b_D_type) (nL := 5) (ret := (some .int)) (by decide) rfl (Nat.le_of_ble_eq_true rfl) ?_
  show RR l D clX (tysX cs) Ev "DeckFront" b_D_type 5 w_D_type (rmD (d + 4)) (some .int) (wdX ad to ta cs) (pI post) 0 0 0 0 0 [(0, .ref (ad 0)), (1, .long a0)] [] u
  refine x_lload_n (x := a0) d_D_type_0 rfl ?_
  refine x_callS (st := []) k_D_76 x_none (c_D_nameOf l D cs Ev hE adK adV fm X (d + 2) _ a0 () h) hE (rmD_ok (by omega) (by decide)) rfl (Nat.le_of_ble_eq_true rfl) rfl d_D_type_1 (x_rJ (fun r2 u1 h => ?_))
  refine x_lstore_n (lv' := [(3, .long r2), (0, .ref (ad 0)), (1, .long a0)]) d_D_type_4 (by decide) rfl ?_
  refine x_lload_n (x := r2) d_D_type_5 rfl ?_
  refine x_lconst (v := 0) d_D_type_6 (by decide) ?_
  refine x_lcmp d_D_type_7 ?_
  refine x_if_ne (tgt := 15) d_D_type_8 rfl (fun hc => ?_) (fun hc => ?_)
  · have h := h.1 hc
    refine x_aload_n (x := (ad 0)) d_D_type_15 rfl ?_
    refine x_get (v := .ref (ad 3)) f_D_19 (eX_0 ad to ta cs u.1 u.2.1 u.2.2.1 u.2.2.2) rfl d_D_type_16 ?_
    refine x_lload_n (x := r2) d_D_type_19 rfl ?_
    refine x_callV (st := []) k_D_84 rfl (eX_3 ad to ta cs u.1 u.2.1 u.2.2.1 u.2.2.2) x_id (c_K_typeOf l D cs Ev hE adK adV fm X ad to ta (d + 0) _ r2 u h) hE (rmD_ok (by omega) (by decide)) rfl (Nat.le_of_ble_eq_true rfl) rfl d_D_type_20 (x_rI (fun r4 u3 h => ?_))
    refine x_iret d_D_type_23 ⟨_, rfl, ?_⟩
    exact h
  · have h := h.2 hc
    refine x_iconst (v := 0) d_D_type_11 (by decide) ?_
    refine x_goto (tgt := 23) d_D_type_12 rfl ?_
    refine x_iret d_D_type_23 ⟨_, rfl, ?_⟩
    exact h
def P_D_fault (post : Int32 → XS → Prop) (u : XS) : Prop := P_U_look (fun u1 => post (gI u1.2.2.1 2) u1) u
set_option maxHeartbeats 600000 in
set_option maxRecDepth 100000 in
theorem c_D_fault (l : Launch) (D : va_G) (cs : Nat → ClassId) (Ev : (Nat → Prop) → State → Prop) (hE : xEok Ev) (adK adV : Nat → Nat) (fm : Option Nat) (X : xEv adK adV fm Ev) (ad to : Nat → Nat) (ta : Nat → Nat → Nat) (d : Nat) (post : Int32 → XS → Prop) (u : XS) (h : P_D_fault post  u) : xC l D clX (tysX cs) Ev y_D_fault w_D_fault (rmD (d + 6)) (wdX ad to ta cs) [.ref (ad 0)] u (pI post) 0 0 := by
  unfold P_D_fault at h
  refine xC.of (cc := b_D_fault) (nL := 1) (ret := (some .int)) (by decide) rfl (Nat.le_of_ble_eq_true rfl) ?_
  show RR l D clX (tysX cs) Ev "DeckFront" b_D_fault 1 w_D_fault (rmD (d + 6)) (some .int) (wdX ad to ta cs) (pI post) 0 0 0 0 0 [(0, .ref (ad 0))] [] u
  refine x_aload_n (x := (ad 0)) d_D_fault_0 rfl ?_
  refine x_get (v := .ref (ad 5)) f_D_26 (eX_0 ad to ta cs u.1 u.2.1 u.2.2.1 u.2.2.2) rfl d_D_fault_1 ?_
  refine x_aload_n (x := (ad 0)) d_D_fault_4 rfl ?_
  refine x_get (v := .ref (ad 3)) f_D_19 (eX_0 ad to ta cs u.1 u.2.1 u.2.2.1 u.2.2.2) rfl d_D_fault_5 ?_
  refine x_callV (st := []) k_D_87 rfl (eX_5 ad to ta cs u.1 u.2.1 u.2.2.1 u.2.2.2) x_id (c_U_look l D cs Ev hE adK adV fm X ad to ta (d + 0) _ u h) hE (rmD_ok (by omega) (by decide)) rfl (Nat.le_of_ble_eq_true rfl) rfl d_D_fault_8 (x_rV (fun u1 h => ?_))
  refine x_aload_n (x := (ad 0)) d_D_fault_11 rfl ?_
  refine x_get (v := .ref (ad 5)) f_D_26 (eX_0 ad to ta cs u1.1 u1.2.1 u1.2.2.1 u1.2.2.2) rfl d_D_fault_12 ?_
  refine x_get (v := .int (gI u1.2.2.1 2)) f_D_91 (eX_5 ad to ta cs u1.1 u1.2.1 u1.2.2.1 u1.2.2.2) rfl d_D_fault_15 ?_
  refine x_iret d_D_fault_18 ⟨_, rfl, ?_⟩
  exact h
def P_D_faultAt (post : Int32 → XS → Prop) (u : XS) : Prop := P_U_look (fun u1 => post (gI u1.2.2.1 3) u1) u
set_option maxHeartbeats 600000 in
set_option maxRecDepth 100000 in
theorem c_D_faultAt (l : Launch) (D : va_G) (cs : Nat → ClassId) (Ev : (Nat → Prop) → State → Prop) (hE : xEok Ev) (adK adV : Nat → Nat) (fm : Option Nat) (X : xEv adK adV fm Ev) (ad to : Nat → Nat) (ta : Nat → Nat → Nat) (d : Nat) (post : Int32 → XS → Prop) (u : XS) (h : P_D_faultAt post  u) : xC l D clX (tysX cs) Ev y_D_faultAt w_D_faultAt (rmD (d + 6)) (wdX ad to ta cs) [.ref (ad 0)] u (pI post) 0 0 := by
  unfold P_D_faultAt at h
  refine xC.of (cc := b_D_faultAt) (nL := 1) (ret := (some .int)) (by decide) rfl (Nat.le_of_ble_eq_true rfl) ?_
  show RR l D clX (tysX cs) Ev "DeckFront" b_D_faultAt 1 w_D_faultAt (rmD (d + 6)) (some .int) (wdX ad to ta cs) (pI post) 0 0 0 0 0 [(0, .ref (ad 0))] [] u
  refine x_aload_n (x := (ad 0)) d_D_faultAt_0 rfl ?_
  refine x_get (v := .ref (ad 5)) f_D_26 (eX_0 ad to ta cs u.1 u.2.1 u.2.2.1 u.2.2.2) rfl d_D_faultAt_1 ?_
  refine x_aload_n (x := (ad 0)) d_D_faultAt_4 rfl ?_
  refine x_get (v := .ref (ad 3)) f_D_19 (eX_0 ad to ta cs u.1 u.2.1 u.2.2.1 u.2.2.2) rfl d_D_faultAt_5 ?_
  refine x_callV (st := []) k_D_87 rfl (eX_5 ad to ta cs u.1 u.2.1 u.2.2.1 u.2.2.2) x_id (c_U_look l D cs Ev hE adK adV fm X ad to ta (d + 0) _ u h) hE (rmD_ok (by omega) (by decide)) rfl (Nat.le_of_ble_eq_true rfl) rfl d_D_faultAt_8 (x_rV (fun u1 h => ?_))
  refine x_aload_n (x := (ad 0)) d_D_faultAt_11 rfl ?_
  refine x_get (v := .ref (ad 5)) f_D_26 (eX_0 ad to ta cs u1.1 u1.2.1 u1.2.2.1 u1.2.2.2) rfl d_D_faultAt_12 ?_
  refine x_get (v := .int (gI u1.2.2.1 3)) f_D_94 (eX_5 ad to ta cs u1.1 u1.2.1 u1.2.2.1 u1.2.2.2) rfl d_D_faultAt_15 ?_
  refine x_iret d_D_faultAt_18 ⟨_, rfl, ?_⟩
  exact h
