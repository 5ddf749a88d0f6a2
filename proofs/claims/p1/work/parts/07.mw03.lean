def P_M_at (post : Int32 → MS → Prop) (a0 : Int32) (u : MS) : Prop := (((gI u 8) ≤ a0 → post 0 u) ∧ (¬ (gI u 8) ≤ a0 → (vp_in a0 1920 ∧ post (gA u 6 a0.toNatClampNeg) u)))
set_option maxHeartbeats 600000 in
set_option maxRecDepth 100000 in
theorem c_M_at (l : Launch) (D : va_G) (cs : Nat → ClassId) (Ev : (Nat → Prop) → State → Prop) (hE : xEok Ev) (o : Nat) (a : Nat → Nat) (d : Nat) (post : Int32 → MS → Prop) (a0 : Int32) (u : MS) (h : P_M_at post a0 u) : xC l D clX (tysX cs) Ev y_M_at w_M_at (rmD (d + 0)) (wdM o a cs) [.ref o, .int a0] u (pI post) 0 0 := by
  unfold P_M_at at h
  refine xC.of (cc := b_M_at) (nL := 2) (ret := (some .int)) (by decide) rfl (Nat.le_of_ble_eq_true rfl) ?_
  show RR l D clX (tysX cs) Ev "DeckFrontModel" b_M_at 2 w_M_at (rmD (d + 0)) (some .int) (wdM o a cs) (pI post) 0 0 0 0 0 [(0, .ref o), (1, .int a0)] [] u
  refine x_iload_n (x := a0) d_M_at_0 rfl ?_
  refine x_aload_n (x := o) d_M_at_1 rfl ?_
  refine x_get (v := .int (gI u 8)) f_M_116 (eM_o _ _ _ _) rfl d_M_at_2 ?_
  refine x_icmp_ge (tgt := 17) d_M_at_5 rfl (fun hc => ?_) (fun hc => ?_)
  · have h := h.1 hc
    refine x_iconst (v := 0) d_M_at_17 (by decide) ?_
    refine x_iret d_M_at_18 ⟨_, rfl, ?_⟩
    exact h
  · have h := h.2 hc
    refine x_aload_n (x := o) d_M_at_8 rfl ?_
    refine x_get (v := .ref (a 6)) f_M_20 (eM_o _ _ _ _) rfl d_M_at_9 ?_
    refine x_iload_n (x := a0) d_M_at_12 rfl ?_
    refine x_cald (t0 := 1) (eM_6 _ _ _ _) rfl h.1 d_M_at_13 ?_
    have h := h.2
    refine x_goto (tgt := 18) d_M_at_14 rfl ?_
    refine x_iret d_M_at_18 ⟨_, rfl, ?_⟩
    exact h
def vAt (u : MS) (k : Int32) : Int32 := if gI u 8 ≤ k then 0 else gA u 6 k.toNatClampNeg
def qAt (u : MS) (k : Int32) : Prop := ¬ gI u 8 ≤ k → vp_in k 1920
theorem cf_M_at (l : Launch) (D : va_G) (cs : Nat → ClassId) (Ev : (Nat → Prop) → State → Prop) (hE : xEok Ev) (o : Nat) (a : Nat → Nat) (d : Nat) (k : Int32) (u : MS) (hq : qAt u k) : xC l D clX (tysX cs) Ev y_M_at w_M_at (rmD (d + 0)) (wdM o a cs) [.ref o, .int k] u (pI (fun r u1 => r = vAt u k ∧ u = u1)) 0 0 := by
  refine c_M_at l D cs Ev hE o a d _ k u ?_
  unfold P_M_at vAt
  exact ⟨fun h => ⟨by rw [if_pos h], rfl⟩, fun h => ⟨hq h, by rw [if_neg h], rfl⟩⟩
def P_M_put (post : MS → Prop) (a0 : Int32) (u : MS) : Prop := (vp_in (gI u 10) 600 ∧ post (sI (sA u 11 (gI u 10).toNatClampNeg (vp_nar .char ((a0.toUInt32 % 65536).toInt32))) 10 ((gI u 10) + (1 : Int32))))
set_option maxHeartbeats 600000 in
set_option maxRecDepth 100000 in
theorem c_M_put (l : Launch) (D : va_G) (cs : Nat → ClassId) (Ev : (Nat → Prop) → State → Prop) (hE : xEok Ev) (o : Nat) (a : Nat → Nat) (d : Nat) (post : MS → Prop) (a0 : Int32) (u : MS) (h : P_M_put post a0 u) : xC l D clX (tysX cs) Ev y_M_put w_M_put (rmD (d + 0)) (wdM o a cs) [.ref o, .int a0] u (pV post) 0 0 := by
  unfold P_M_put at h
  refine xC.of (cc := b_M_put) (nL := 2) (ret := none) (by decide) rfl (Nat.le_of_ble_eq_true rfl) ?_
  show RR l D clX (tysX cs) Ev "DeckFrontModel" b_M_put 2 w_M_put (rmD (d + 0)) none (wdM o a cs) (pV post) 0 0 0 0 0 [(0, .ref o), (1, .int a0)] [] u
  refine x_aload_n (x := o) d_M_put_0 rfl ?_
  refine x_get (v := .ref (a 11)) f_M_23 (eM_o _ _ _ _) rfl d_M_put_1 ?_
  refine x_aload_n (x := o) d_M_put_4 rfl ?_
  refine x_get (v := .int (gI u 10)) f_M_119 (eM_o _ _ _ _) rfl d_M_put_5 ?_
  refine x_iload_n (x := a0) d_M_put_8 rfl ?_
  refine x_i2c d_M_put_9 ?_
  refine x_cast (t0 := 1) (eM_11 _ _ _ _) rfl h.1 (sM_11 _ _ _ _ _ _) d_M_put_10 ?_
  have h := h.2
  refine x_aload_n (x := o) d_M_put_11 rfl ?_
  refine x_dup d_M_put_12 rfl ?_
  refine x_get (v := .int (gI u 10)) f_M_119 (eM_o _ _ _ _) rfl d_M_put_13 ?_
  refine x_iconst (v := 1) d_M_put_16 (by decide) ?_
  refine x_iadd d_M_put_17 ?_
  refine x_put f_M_119 fw_M_10 (eM_o _ _ _ _) rfl rfl (Nat.le_of_ble_eq_true rfl) (sM_10 _ _ _ _ _) d_M_put_18 ?_
  refine x_vret d_M_put_21 ⟨rfl, ?_⟩
  exact h
def mPut (u : MS) (c : Int32) : MS := sI (sA u 11 (gI u 10).toNatClampNeg (vp_nar .char ((c.toUInt32 % 65536).toInt32))) 10 ((gI u 10) + (1 : Int32))
theorem cf_M_put (l : Launch) (D : va_G) (cs : Nat → ClassId) (Ev : (Nat → Prop) → State → Prop) (hE : xEok Ev) (o : Nat) (a : Nat → Nat) (d : Nat) (c : Int32) (u : MS) (hq : vp_in (gI u 10) 600) : xC l D clX (tysX cs) Ev y_M_put w_M_put (rmD (d + 0)) (wdM o a cs) [.ref o, .int c] u (pV (fun u1 => mPut u c = u1)) 0 0 := by
  refine c_M_put l D cs Ev hE o a d _ c u ?_
  exact ⟨hq, rfl⟩
def P_M_putPart_2 (post : MS → Prop) : Nat → Int32 → Int32 → MS → Prop
  | 0, _, _, _ => False
  | f + 1, x2, x3, u => ((x2 ≤ x3 → post u) ∧ (¬ x2 ≤ x3 → (vp_in x3 1920 ∧ (vp_in (gI u 10) 600 ∧ P_M_putPart_2 post f x2 (x3 + 1) (mPut u (gA u 6 x3.toNatClampNeg))))))
set_option maxHeartbeats 600000 in
set_option maxRecDepth 100000 in
theorem w_M_putPart_2 (l : Launch) (D : va_G) (cs : Nat → ClassId) (Ev : (Nat → Prop) → State → Prop) (hE : xEok Ev) (o : Nat) (a : Nat → Nat) (d : Nat) (post : MS → Prop) : ∀ (f : Nat) (x2 : Int32) (x3 : Int32) (u : MS), P_M_putPart_2 post  f x2 x3 u → RR l D clX (tysX cs) Ev "DeckFrontModel" b_M_putPart 4 w_M_putPart (rmD (d + 1)) none (wdM o a cs) (pV post) 0 0 0 0 2 [(0, .ref o), (2, .int x2), (3, .int x3)] [] u := by
  intro f
  induction f with
  | zero => intro x2 x3 u h; exact h.elim
  | succ f ih =>
    intro x2 x3 u h
    unfold P_M_putPart_2 at h
    refine x_iload_n (x := x3) d_M_putPart_2 rfl ?_
    refine x_iload_n (x := x2) d_M_putPart_3 rfl ?_
    refine x_icmp_ge (tgt := 23) d_M_putPart_4 rfl (fun hc => ?_) (fun hc => ?_)
    · have h := h.1 hc
      refine x_vret d_M_putPart_23 ⟨rfl, ?_⟩
      exact h
    · have h := h.2 hc
      refine x_aload_n (x := o) d_M_putPart_7 rfl ?_
      refine x_aload_n (x := o) d_M_putPart_8 rfl ?_
      refine x_get (v := .ref (a 6)) f_M_20 (eM_o _ _ _ _) rfl d_M_putPart_9 ?_
      refine x_iload_n (x := x3) d_M_putPart_12 rfl ?_
      refine x_cald (t0 := 1) (eM_6 _ _ _ _) rfl h.1 d_M_putPart_13 ?_
      have h := h.2
      refine x_callV (st := []) k_M_122 rfl (eM_o _ _ _ _) x_id (cf_M_put l D cs Ev hE o a (d + 0) (gA u 6 x3.toNatClampNeg) u h.1) hE (rmD_ok (by omega) (by decide)) rfl (Nat.le_of_ble_eq_true rfl) rfl d_M_putPart_14 (x_rV (fun u1 h9 => ?_))
      subst h9
      have h := h.2
      refine x_iinc (v := x3 + 1) (lv' := [(3, .int (x3 + 1)), (0, .ref o), (2, .int x2)]) d_M_putPart_17 rfl rfl (by decide) rfl ?_
      refine x_goto (tgt := 2) d_M_putPart_20 rfl ?_
      refine x_sub [1, 2, 0] rfl ?_
      exact ih x2 (x3 + 1) (mPut u (gA u 6 x3.toNatClampNeg)) h
def P_M_putPart (post : MS → Prop) (a0 : Int32) (a1 : Int32) (u : MS) : Prop := (∃ g, P_M_putPart_2 post g a1 a0 u)
set_option maxHeartbeats 600000 in
set_option maxRecDepth 100000 in
theorem c_M_putPart (l : Launch) (D : va_G) (cs : Nat → ClassId) (Ev : (Nat → Prop) → State → Prop) (hE : xEok Ev) (o : Nat) (a : Nat → Nat) (d : Nat) (post : MS → Prop) (a0 : Int32) (a1 : Int32) (u : MS) (h : P_M_putPart post a0 a1 u) : xC l D clX (tysX cs) Ev y_M_putPart w_M_putPart (rmD (d + 1)) (wdM o a cs) [.ref o, .int a0, .int a1] u (pV post) 0 0 := by
  unfold P_M_putPart at h
  refine xC.of (cc := b_M_putPart) (nL := 4) (ret := none) (by decide) rfl (Nat.le_of_ble_eq_true rfl) ?_
  show RR l D clX (tysX cs) Ev "DeckFrontModel" b_M_putPart 4 w_M_putPart (rmD (d + 1)) none (wdM o a cs) (pV post) 0 0 0 0 0 [(0, .ref o), (1, .int a0), (2, .int a1)] [] u
  refine x_iload_n (x := a0) d_M_putPart_0 rfl ?_
  refine x_istore_n (lv' := [(3, .int a0), (0, .ref o), (1, .int a0), (2, .int a1)]) d_M_putPart_1 (by decide) rfl ?_
  refine x_sub [1, 3, 0] rfl ?_
  obtain ⟨f9, h⟩ := h
  exact w_M_putPart_2 l D cs Ev hE o a d post  f9 a1 a0 u h
def P_M_word_28 (post : Int32 → MS → Prop) : Nat → Int64 → Int32 → Int32 → MS → Prop
  | 0, _, _, _, _ => False
  | f + 1, x1, x3, x4, u => ((x3 ≤ x4 → P_M_putPart (fun u1 => post 1 (sI u1 9 ((gI u1 9) + x3))) (gI u 9) ((gI u 9) + x3) u) ∧ (¬ x3 ≤ x4 → (qAt u ((gI u 9) + x4) ∧ (((vAt u ((gI u 9) + x4)) = (((x1 >>> (((8 : Int32) * ((x3 - (1 : Int32)) - x4)).toInt64 &&& 63)) &&& (255 : Int64)).toInt32) → P_M_word_28 post f x1 x3 (x4 + 1) u) ∧ (¬ (vAt u ((gI u 9) + x4)) = (((x1 >>> (((8 : Int32) * ((x3 - (1 : Int32)) - x4)).toInt64 &&& 63)) &&& (255 : Int64)).toInt32) → post 0 u)))))
set_option maxHeartbeats 600000 in
set_option maxRecDepth 100000 in
theorem w_M_word_28 (l : Launch) (D : va_G) (cs : Nat → ClassId) (Ev : (Nat → Prop) → State → Prop) (hE : xEok Ev) (o : Nat) (a : Nat → Nat) (d : Nat) (post : Int32 → MS → Prop) : ∀ (f : Nat) (x1 : Int64) (x3 : Int32) (x4 : Int32) (u : MS), P_M_word_28 post  f x1 x3 x4 u → RR l D clX (tysX cs) Ev "DeckFrontModel" b_M_word 5 w_M_word (rmD (d + 2)) (some .boolean) (wdM o a cs) (pI post) 0 0 0 0 28 [(0, .ref o), (1, .long x1), (3, .int x3), (4, .int x4)] [] u := by
  intro f
  induction f with
  | zero => intro x1 x3 x4 u h; exact h.elim
  | succ f ih =>
    intro x1 x3 x4 u h
    unfold P_M_word_28 at h
    refine x_iload (x := x4) d_M_word_28 rfl ?_
    refine x_iload_n (x := x3) d_M_word_30 rfl ?_
    refine x_icmp_ge (tgt := 72) d_M_word_31 rfl (fun hc => ?_) (fun hc => ?_)
    · have h := h.1 hc
      refine x_aload_n (x := o) d_M_word_72 rfl ?_
      refine x_aload_n (x := o) d_M_word_73 rfl ?_
      refine x_get (v := .int (gI u 9)) f_M_126 (eM_o _ _ _ _) rfl d_M_word_74 ?_
      refine x_aload_n (x := o) d_M_word_77 rfl ?_
      refine x_get (v := .int (gI u 9)) f_M_126 (eM_o _ _ _ _) rfl d_M_word_78 ?_
      refine x_iload_n (x := x3) d_M_word_81 rfl ?_
      refine x_iadd d_M_word_82 ?_
      refine x_callV (st := []) k_M_134 rfl (eM_o _ _ _ _) x_id (c_M_putPart l D cs Ev hE o a (d + 0) _ (gI u 9) ((gI u 9) + x3) u h) hE (rmD_ok (by omega) (by decide)) rfl (Nat.le_of_ble_eq_true rfl) rfl d_M_word_83 (x_rV (fun u1 h => ?_))
      refine x_aload_n (x := o) d_M_word_86 rfl ?_
      refine x_dup d_M_word_87 rfl ?_
      refine x_get (v := .int (gI u1 9)) f_M_126 (eM_o _ _ _ _) rfl d_M_word_88 ?_
      refine x_iload_n (x := x3) d_M_word_91 rfl ?_
      refine x_iadd d_M_word_92 ?_
      refine x_put f_M_126 fw_M_9 (eM_o _ _ _ _) rfl rfl (Nat.le_of_ble_eq_true rfl) (sM_9 _ _ _ _ _) d_M_word_93 ?_
      refine x_iconst (v := 1) d_M_word_96 (by decide) ?_
      refine x_zret rfl d_M_word_97 ⟨_, rfl, ?_⟩
      exact h
    · have h := h.2 hc
      refine x_aload_n (x := o) d_M_word_34 rfl ?_
      refine x_aload_n (x := o) d_M_word_35 rfl ?_
      refine x_get (v := .int (gI u 9)) f_M_126 (eM_o _ _ _ _) rfl d_M_word_36 ?_
      refine x_iload (x := x4) d_M_word_39 rfl ?_
      refine x_iadd d_M_word_41 ?_
      refine x_callV (st := []) k_M_129 rfl (eM_o _ _ _ _) x_id (cf_M_at l D cs Ev hE o a (d + 1) ((gI u 9) + x4) u h.1) hE (rmD_ok (by omega) (by decide)) rfl (Nat.le_of_ble_eq_true rfl) rfl d_M_word_42 (x_rI (fun x u1 h9 => ?_))
      obtain ⟨rfl, rfl⟩ := h9
      have h := h.2
      refine x_lload_n (x := x1) d_M_word_45 rfl ?_
      refine x_bipush (v := 8) d_M_word_46 (by decide) ?_
      refine x_iload_n (x := x3) d_M_word_48 rfl ?_
      refine x_iconst (v := 1) d_M_word_49 (by decide) ?_
      refine x_isub d_M_word_50 ?_
      refine x_iload (x := x4) d_M_word_51 rfl ?_
      refine x_isub d_M_word_53 ?_
      refine x_imul d_M_word_54 ?_
      refine x_lshr d_M_word_55 ?_
      refine x_ldc2 (v := 255) (cG tw_930) d_M_word_56 ?_
      refine x_land d_M_word_59 ?_
      refine x_l2i d_M_word_60 ?_
      refine x_icmp_eq (tgt := 66) d_M_word_61 rfl (fun hc => ?_) (fun hc => ?_)
      · have h := h.1 hc
        refine x_iinc (v := x4 + 1) (lv' := [(4, .int (x4 + 1)), (0, .ref o), (1, .long x1), (3, .int x3)]) d_M_word_66 rfl rfl (by decide) rfl ?_
        refine x_goto (tgt := 28) d_M_word_69 rfl ?_
        refine x_sub [1, 2, 3, 0] rfl ?_
        exact ih x1 x3 (x4 + 1) u h
      · have h := h.2 hc
        refine x_iconst (v := 0) d_M_word_64 (by decide) ?_
        refine x_zret rfl d_M_word_65 ⟨_, rfl, ?_⟩
        exact h
def P_M_word_25 (post : Int32 → MS → Prop) (x1 : Int64) (x3 : Int32) (u : MS) : Prop := (∃ g, P_M_word_28 post g x1 x3 0 u)
set_option maxHeartbeats 600000 in
set_option maxRecDepth 100000 in
theorem w_M_word_25 (l : Launch) (D : va_G) (cs : Nat → ClassId) (Ev : (Nat → Prop) → State → Prop) (hE : xEok Ev) (o : Nat) (a : Nat → Nat) (d : Nat) (post : Int32 → MS → Prop) (x1 : Int64) (x3 : Int32) (u : MS) (h : P_M_word_25 post  x1 x3 u) : RR l D clX (tysX cs) Ev "DeckFrontModel" b_M_word 5 w_M_word (rmD (d + 2)) (some .boolean) (wdM o a cs) (pI post) 0 0 0 0 25 [(0, .ref o), (1, .long x1), (3, .int x3)] [] u := by
  unfold P_M_word_25 at h
  refine x_iconst (v := 0) d_M_word_25 (by decide) ?_
  refine x_istore (lv' := [(4, .int 0), (0, .ref o), (1, .long x1), (3, .int x3)]) d_M_word_26 (by decide) rfl ?_
  refine x_sub [1, 2, 3, 0] rfl ?_
  obtain ⟨f9, h⟩ := h
  exact w_M_word_28 l D cs Ev hE o a d post  f9 x1 x3 0 u h
def P_M_word_2 (post : Int32 → MS → Prop) : Nat → Int64 → Int32 → MS → Prop
  | 0, _, _, _ => False
  | f + 1, x1, x3, u => ((8 ≤ x3 → P_M_word_25 post x1 x3 u) ∧ (¬ 8 ≤ x3 → (((lg_cmp (x1 >>> (((8 : Int32) * x3).toInt64 &&& 63)) 0) = 0 → P_M_word_25 post x1 x3 u) ∧ (¬ (lg_cmp (x1 >>> (((8 : Int32) * x3).toInt64 &&& 63)) 0) = 0 → P_M_word_2 post f x1 (x3 + 1) u))))
set_option maxHeartbeats 600000 in
set_option maxRecDepth 100000 in
theorem w_M_word_2 (l : Launch) (D : va_G) (cs : Nat → ClassId) (Ev : (Nat → Prop) → State → Prop) (hE : xEok Ev) (o : Nat) (a : Nat → Nat) (d : Nat) (post : Int32 → MS → Prop) : ∀ (f : Nat) (x1 : Int64) (x3 : Int32) (u : MS), P_M_word_2 post  f x1 x3 u → RR l D clX (tysX cs) Ev "DeckFrontModel" b_M_word 5 w_M_word (rmD (d + 2)) (some .boolean) (wdM o a cs) (pI post) 0 0 0 0 2 [(0, .ref o), (1, .long x1), (3, .int x3)] [] u := by
  intro f
  induction f with
  | zero => intro x1 x3 u h; exact h.elim
  | succ f ih =>
    intro x1 x3 u h
    unfold P_M_word_2 at h
    refine x_iload_n (x := x3) d_M_word_2 rfl ?_
    refine x_bipush (v := 8) d_M_word_3 (by decide) ?_
    refine x_icmp_ge (tgt := 25) d_M_word_5 rfl (fun hc => ?_) (fun hc => ?_)
    · have h := h.1 hc
      exact w_M_word_25 l D cs Ev hE o a d post  x1 x3 u h
    · have h := h.2 hc
      refine x_lload_n (x := x1) d_M_word_8 rfl ?_
      refine x_bipush (v := 8) d_M_word_9 (by decide) ?_
      refine x_iload_n (x := x3) d_M_word_11 rfl ?_
      refine x_imul d_M_word_12 ?_
      refine x_lshr d_M_word_13 ?_
      refine x_lconst (v := 0) d_M_word_14 (by decide) ?_
      refine x_lcmp d_M_word_15 ?_
      refine x_if_eq (tgt := 25) d_M_word_16 rfl (fun hc => ?_) (fun hc => ?_)
      · have h := h.1 hc
        exact w_M_word_25 l D cs Ev hE o a d post  x1 x3 u h
      · have h := h.2 hc
        refine x_iinc (v := x3 + 1) (lv' := [(3, .int (x3 + 1)), (0, .ref o), (1, .long x1)]) d_M_word_19 rfl rfl (by decide) rfl ?_
        refine x_goto (tgt := 2) d_M_word_22 rfl ?_
        refine x_sub [1, 2, 0] rfl ?_
        exact ih x1 (x3 + 1) u h
def P_M_word (post : Int32 → MS → Prop) (a0 : Int64) (u : MS) : Prop := (∃ g, P_M_word_2 post g a0 0 u)
set_option maxHeartbeats 600000 in
set_option maxRecDepth 100000 in
theorem c_M_word (l : Launch) (D : va_G) (cs : Nat → ClassId) (Ev : (Nat → Prop) → State → Prop) (hE : xEok Ev) (o : Nat) (a : Nat → Nat) (d : Nat) (post : Int32 → MS → Prop) (a0 : Int64) (u : MS) (h : P_M_word post a0 u) : xC l D clX (tysX cs) Ev y_M_word w_M_word (rmD (d + 2)) (wdM o a cs) [.ref o, .long a0] u (pI post) 0 0 := by
  unfold P_M_word at h
  refine xC.of (cc := b_M_word) (nL := 5) (ret := (some .boolean)) (by decide) rfl (Nat.le_of_ble_eq_true rfl) ?_
  show RR l D clX (tysX cs) Ev "DeckFrontModel" b_M_word 5 w_M_word (rmD (d + 2)) (some .boolean) (wdM o a cs) (pI post) 0 0 0 0 0 [(0, .ref o), (1, .long a0)] [] u
  refine x_iconst (v := 0) d_M_word_0 (by decide) ?_
  refine x_istore_n (lv' := [(3, .int 0), (0, .ref o), (1, .long a0)]) d_M_word_1 (by decide) rfl ?_
  refine x_sub [1, 2, 0] rfl ?_
  obtain ⟨f9, h⟩ := h
  exact w_M_word_2 l D cs Ev hE o a d post  f9 a0 0 u h
def P_M_sign (post : Int32 → MS → Prop) (a0 : Int32) (u : MS) : Prop := (qAt u (gI u 9) ∧ (((vAt u (gI u 9)) = a0 → (vp_in (gI u 10) 600 ∧ post 1 (sI (mPut u a0) 9 ((gI (mPut u a0) 9) + (1 : Int32))))) ∧ (¬ (vAt u (gI u 9)) = a0 → post 0 u)))
set_option maxHeartbeats 600000 in
set_option maxRecDepth 100000 in
theorem c_M_sign (l : Launch) (D : va_G) (cs : Nat → ClassId) (Ev : (Nat → Prop) → State → Prop) (hE : xEok Ev) (o : Nat) (a : Nat → Nat) (d : Nat) (post : Int32 → MS → Prop) (a0 : Int32) (u : MS) (h : P_M_sign post a0 u) : xC l D clX (tysX cs) Ev y_M_sign w_M_sign (rmD (d + 1)) (wdM o a cs) [.ref o, .int a0] u (pI post) 0 0 := by
  unfold P_M_sign at h
  refine xC.of (cc := b_M_sign) (nL := 2) (ret := (some .boolean)) (by decide) rfl (Nat.le_of_ble_eq_true rfl) ?_
  show RR l D clX (tysX cs) Ev "DeckFrontModel" b_M_sign 2 w_M_sign (rmD (d + 1)) (some .boolean) (wdM o a cs) (pI post) 0 0 0 0 0 [(0, .ref o), (1, .int a0)] [] u
  refine x_aload_n (x := o) d_M_sign_0 rfl ?_
  refine x_aload_n (x := o) d_M_sign_1 rfl ?_
  refine x_get (v := .int (gI u 9)) f_M_126 (eM_o _ _ _ _) rfl d_M_sign_2 ?_
  refine x_callV (st := []) k_M_129 rfl (eM_o _ _ _ _) x_id (cf_M_at l D cs Ev hE o a (d + 0) (gI u 9) u h.1) hE (rmD_ok (by omega) (by decide)) rfl (Nat.le_of_ble_eq_true rfl) rfl d_M_sign_5 (x_rI (fun x u1 h9 => ?_))
  obtain ⟨rfl, rfl⟩ := h9
  have h := h.2
  refine x_iload_n (x := a0) d_M_sign_8 rfl ?_
  refine x_icmp_eq (tgt := 14) d_M_sign_9 rfl (fun hc => ?_) (fun hc => ?_)
  · have h := h.1 hc
    refine x_aload_n (x := o) d_M_sign_14 rfl ?_
    refine x_iload_n (x := a0) d_M_sign_15 rfl ?_
    refine x_callV (st := []) k_M_122 rfl (eM_o _ _ _ _) x_id (cf_M_put l D cs Ev hE o a (d + 0) a0 u h.1) hE (rmD_ok (by omega) (by decide)) rfl (Nat.le_of_ble_eq_true rfl) rfl d_M_sign_16 (x_rV (fun u1 h9 => ?_))
    subst h9
    have h := h.2
    refine x_aload_n (x := o) d_M_sign_19 rfl ?_
    refine x_dup d_M_sign_20 rfl ?_
    refine x_get (v := .int (gI (mPut u a0) 9)) f_M_126 (eM_o _ _ _ _) rfl d_M_sign_21 ?_
    refine x_iconst (v := 1) d_M_sign_24 (by decide) ?_
    refine x_iadd d_M_sign_25 ?_
    refine x_put f_M_126 fw_M_9 (eM_o _ _ _ _) rfl rfl (Nat.le_of_ble_eq_true rfl) (sM_9 _ _ _ _ _) d_M_sign_26 ?_
    refine x_iconst (v := 1) d_M_sign_29 (by decide) ?_
    refine x_zret rfl d_M_sign_30 ⟨_, rfl, ?_⟩
    exact h
  · have h := h.2 hc
    refine x_iconst (v := 0) d_M_sign_12 (by decide) ?_
    refine x_zret rfl d_M_sign_13 ⟨_, rfl, ?_⟩
    exact h
def P_M_comma (post : MS → Prop) (u : MS) : Prop := (qAt u (gI u 9) ∧ ((¬ (vAt u (gI u 9)) = 44 → post (sI u 9 (gI u 9))) ∧ ((vAt u (gI u 9)) = 44 → post (sI u 9 ((gI u 9) + (1 : Int32))))))
set_option maxHeartbeats 600000 in
set_option maxRecDepth 100000 in
theorem c_M_comma (l : Launch) (D : va_G) (cs : Nat → ClassId) (Ev : (Nat → Prop) → State → Prop) (hE : xEok Ev) (o : Nat) (a : Nat → Nat) (d : Nat) (post : MS → Prop) (u : MS) (h : P_M_comma post  u) : xC l D clX (tysX cs) Ev y_M_comma w_M_comma (rmD (d + 1)) (wdM o a cs) [.ref o] u (pV post) 0 0 := by
  unfold P_M_comma at h
  refine xC.of (cc := b_M_comma) (nL := 1) (ret := none) (by decide) rfl (Nat.le_of_ble_eq_true rfl) ?_
  show RR l D clX (tysX cs) Ev "DeckFrontModel" b_M_comma 1 w_M_comma (rmD (d + 1)) none (wdM o a cs) (pV post) 0 0 0 0 0 [(0, .ref o)] [] u
  refine x_aload_n (x := o) d_M_comma_0 rfl ?_
  refine x_aload_n (x := o) d_M_comma_1 rfl ?_
  refine x_aload_n (x := o) d_M_comma_2 rfl ?_
  refine x_get (v := .int (gI u 9)) f_M_126 (eM_o _ _ _ _) rfl d_M_comma_3 ?_
  refine x_callV (st := [.ref o]) k_M_129 rfl (eM_o _ _ _ _) x_id (cf_M_at l D cs Ev hE o a (d + 0) (gI u 9) u h.1) hE (rmD_ok (by omega) (by decide)) rfl (Nat.le_of_ble_eq_true rfl) rfl d_M_comma_6 (x_rI (fun x u1 h9 => ?_))
  obtain ⟨rfl, rfl⟩ := h9
  have h := h.2
  refine x_bipush (v := 44) d_M_comma_9 (by decide) ?_
  refine x_icmp_ne (tgt := 23) d_M_comma_11 rfl (fun hc => ?_) (fun hc => ?_)
  · have h := h.1 hc
    refine x_aload_n (x := o) d_M_comma_23 rfl ?_
    refine x_get (v := .int (gI u 9)) f_M_126 (eM_o _ _ _ _) rfl d_M_comma_24 ?_
    refine x_put f_M_126 fw_M_9 (eM_o _ _ _ _) rfl rfl (Nat.le_of_ble_eq_true rfl) (sM_9 _ _ _ _ _) d_M_comma_27 ?_
    refine x_vret d_M_comma_30 ⟨rfl, ?_⟩
    exact h
  · have h := h.2 hc
    refine x_aload_n (x := o) d_M_comma_14 rfl ?_
    refine x_get (v := .int (gI u 9)) f_M_126 (eM_o _ _ _ _) rfl d_M_comma_15 ?_
    refine x_iconst (v := 1) d_M_comma_18 (by decide) ?_
    refine x_iadd d_M_comma_19 ?_
    refine x_goto (tgt := 27) d_M_comma_20 rfl ?_
    refine x_put f_M_126 fw_M_9 (eM_o _ _ _ _) rfl rfl (Nat.le_of_ble_eq_true rfl) (sM_9 _ _ _ _ _) d_M_comma_27 ?_
    refine x_vret d_M_comma_30 ⟨rfl, ?_⟩
    exact h
def P_M_digits_98 (post : Int32 → MS → Prop) (K67 : Int32 → Int32 → MS → Prop) (x2 : Int32) (x4 : Int32) (u : MS) : Prop := (∀ v1, v1 = (x4 / (10 : Int32)) → K67 x2 v1 u)
set_option maxHeartbeats 600000 in
set_option maxRecDepth 100000 in
theorem w_M_digits_98 (l : Launch) (D : va_G) (cs : Nat → ClassId) (Ev : (Nat → Prop) → State → Prop) (hE : xEok Ev) (o : Nat) (a : Nat → Nat) (d : Nat) (post : Int32 → MS → Prop) (K67 : Int32 → Int32 → MS → Prop) (hK67 : ∀ (x2 : Int32) (x4 : Int32) (u : MS), K67 x2 x4 u → RR l D clX (tysX cs) Ev "DeckFrontModel" b_M_digits 5 w_M_digits (rmD (d + 1)) (some .int) (wdM o a cs) (pI post) 0 0 0 0 67 [(0, .ref o), (2, .int x2), (4, .int x4)] [] u) (x2 : Int32) (x4 : Int32) (u : MS) (h : P_M_digits_98 post K67 x2 x4 u) : RR l D clX (tysX cs) Ev "DeckFrontModel" b_M_digits 5 w_M_digits (rmD (d + 1)) (some .int) (wdM o a cs) (pI post) 0 0 0 0 98 [(0, .ref o), (2, .int x2), (4, .int x4)] [] u := by
  unfold P_M_digits_98 at h
  refine x_iload (x := x4) d_M_digits_98 rfl ?_
  refine x_bipush (v := 10) d_M_digits_100 (by decide) ?_
  refine x_idiv d_M_digits_102 (by decide) ?_
  refine x_topI (fun v1 ev1 => ?_)
  have h := h v1 ev1
  refine x_istore (lv' := [(4, .int v1), (0, .ref o), (2, .int x2)]) d_M_digits_103 (by decide) rfl ?_
  refine x_goto (tgt := 67) d_M_digits_105 rfl ?_
  refine x_sub [1, 2, 0] rfl ?_
  exact hK67 x2 v1 u h
def P_M_digits_84 (post : Int32 → MS → Prop) (K67 : Int32 → Int32 → MS → Prop) (x2 : Int32) (x4 : Int32) (u : MS) : Prop := (¬ x4 = 0 ∧ (vp_in (gI u 10) 600 ∧ P_M_digits_98 post K67 x2 x4 (mPut u ((48 : Int32) + ((x2 / x4) - (x2 / x4) / (10 : Int32) * (10 : Int32))))))
set_option maxHeartbeats 600000 in
set_option maxRecDepth 100000 in
theorem w_M_digits_84 (l : Launch) (D : va_G) (cs : Nat → ClassId) (Ev : (Nat → Prop) → State → Prop) (hE : xEok Ev) (o : Nat) (a : Nat → Nat) (d : Nat) (post : Int32 → MS → Prop) (K67 : Int32 → Int32 → MS → Prop) (hK67 : ∀ (x2 : Int32) (x4 : Int32) (u : MS), K67 x2 x4 u → RR l D clX (tysX cs) Ev "DeckFrontModel" b_M_digits 5 w_M_digits (rmD (d + 1)) (some .int) (wdM o a cs) (pI post) 0 0 0 0 67 [(0, .ref o), (2, .int x2), (4, .int x4)] [] u) (x2 : Int32) (x4 : Int32) (u : MS) (h : P_M_digits_84 post K67 x2 x4 u) : RR l D clX (tysX cs) Ev "DeckFrontModel" b_M_digits 5 w_M_digits (rmD (d + 1)) (some .int) (wdM o a cs) (pI post) 0 0 0 0 84 [(0, .ref o), (2, .int x2), (4, .int x4)] [] u := by
  unfold P_M_digits_84 at h
  refine x_aload_n (x := o) d_M_digits_84 rfl ?_
  refine x_bipush (v := 48) d_M_digits_85 (by decide) ?_
  refine x_iload_n (x := x2) d_M_digits_87 rfl ?_
  refine x_iload (x := x4) d_M_digits_88 rfl ?_
  refine x_idiv d_M_digits_90 h.1 ?_
  have h := h.2
  refine x_bipush (v := 10) d_M_digits_91 (by decide) ?_
  refine x_irem d_M_digits_93 (by decide) ?_
  refine x_iadd d_M_digits_94 ?_
  refine x_callV (st := []) k_M_122 rfl (eM_o _ _ _ _) x_id (cf_M_put l D cs Ev hE o a (d + 0) ((48 : Int32) + ((x2 / x4) - (x2 / x4) / (10 : Int32) * (10 : Int32))) u h.1) hE (rmD_ok (by omega) (by decide)) rfl (Nat.le_of_ble_eq_true rfl) rfl d_M_digits_95 (x_rV (fun u1 h9 => ?_))
  subst h9
  have h := h.2
  exact w_M_digits_98 l D cs Ev hE o a d post K67 hK67 x2 x4 (mPut u ((48 : Int32) + ((x2 / x4) - (x2 / x4) / (10 : Int32) * (10 : Int32)))) h
def P_M_digits_67 (post : Int32 → MS → Prop) : Nat → Int32 → Int32 → MS → Prop
  | 0, _, _, _ => False
  | f + 1, x2, x4, u => ((x4 ≤ 0 → post x2 u) ∧ (¬ x4 ≤ 0 → ((x4 ≤ x2 → P_M_digits_84 post (fun zx2 zx4 zu => P_M_digits_67 post f zx2 zx4 zu) x2 x4 u) ∧ (¬ x4 ≤ x2 → ((¬ x4 = 1 → P_M_digits_98 post (fun zx2 zx4 zu => P_M_digits_67 post f zx2 zx4 zu) x2 x4 u) ∧ (x4 = 1 → P_M_digits_84 post (fun zx2 zx4 zu => P_M_digits_67 post f zx2 zx4 zu) x2 x4 u))))))
set_option maxHeartbeats 600000 in
set_option maxRecDepth 100000 in
theorem w_M_digits_67 (l : Launch) (D : va_G) (cs : Nat → ClassId) (Ev : (Nat → Prop) → State → Prop) (hE : xEok Ev) (o : Nat) (a : Nat → Nat) (d : Nat) (post : Int32 → MS → Prop) : ∀ (f : Nat) (x2 : Int32) (x4 : Int32) (u : MS), P_M_digits_67 post  f x2 x4 u → RR l D clX (tysX cs) Ev "DeckFrontModel" b_M_digits 5 w_M_digits (rmD (d + 1)) (some .int) (wdM o a cs) (pI post) 0 0 0 0 67 [(0, .ref o), (2, .int x2), (4, .int x4)] [] u := by
  intro f
  induction f with
  | zero => intro x2 x4 u h; exact h.elim
  | succ f ih =>
    intro x2 x4 u h
    unfold P_M_digits_67 at h
    refine x_iload (x := x4) d_M_digits_67 rfl ?_
    refine x_if_le (tgt := 108) d_M_digits_69 rfl (fun hc => ?_) (fun hc => ?_)
    · have h := h.1 hc
      refine x_iload_n (x := x2) d_M_digits_108 rfl ?_
      refine x_iret d_M_digits_109 ⟨_, rfl, ?_⟩
      exact h
    · have h := h.2 hc
      refine x_iload_n (x := x2) d_M_digits_72 rfl ?_
      refine x_iload (x := x4) d_M_digits_73 rfl ?_
      refine x_icmp_ge (tgt := 84) d_M_digits_75 rfl (fun hc => ?_) (fun hc => ?_)
      · have h := h.1 hc
        exact w_M_digits_84 l D cs Ev hE o a d post (fun zx2 zx4 zu => P_M_digits_67 post f zx2 zx4 zu) ih x2 x4 u h
      · have h := h.2 hc
        refine x_iload (x := x4) d_M_digits_78 rfl ?_
        refine x_iconst (v := 1) d_M_digits_80 (by decide) ?_
        refine x_icmp_ne (tgt := 98) d_M_digits_81 rfl (fun hc => ?_) (fun hc => ?_)
        · have h := h.1 hc
          exact w_M_digits_98 l D cs Ev hE o a d post (fun zx2 zx4 zu => P_M_digits_67 post f zx2 zx4 zu) ih x2 x4 u h
        · have h := h.2 hc
          exact w_M_digits_84 l D cs Ev hE o a d post (fun zx2 zx4 zu => P_M_digits_67 post f zx2 zx4 zu) ih x2 x4 u h
def P_M_digits_56 (post : Int32 → MS → Prop) (x2 : Int32) (x3 : Int32) (u : MS) : Prop := ((¬ x3 = 0 → (∃ g, P_M_digits_67 post g x2 10000 u)) ∧ (x3 = 0 → post (-1) u))
set_option maxHeartbeats 600000 in
set_option maxRecDepth 100000 in
theorem w_M_digits_56 (l : Launch) (D : va_G) (cs : Nat → ClassId) (Ev : (Nat → Prop) → State → Prop) (hE : xEok Ev) (o : Nat) (a : Nat → Nat) (d : Nat) (post : Int32 → MS → Prop) (x2 : Int32) (x3 : Int32) (u : MS) (h : P_M_digits_56 post  x2 x3 u) : RR l D clX (tysX cs) Ev "DeckFrontModel" b_M_digits 5 w_M_digits (rmD (d + 1)) (some .int) (wdM o a cs) (pI post) 0 0 0 0 56 [(0, .ref o), (2, .int x2), (3, .int x3)] [] u := by
  unfold P_M_digits_56 at h
  refine x_iload_n (x := x3) d_M_digits_56 rfl ?_
  refine x_if_ne (tgt := 62) d_M_digits_57 rfl (fun hc => ?_) (fun hc => ?_)
  · have h := h.1 hc
    refine x_sipush (v := 10000) d_M_digits_62 (by decide) ?_
    refine x_istore (lv' := [(4, .int 10000), (0, .ref o), (2, .int x2), (3, .int x3)]) d_M_digits_65 (by decide) rfl ?_
    refine x_sub [1, 2, 0] rfl ?_
    obtain ⟨f9, h⟩ := h
    exact w_M_digits_67 l D cs Ev hE o a d post  f9 x2 10000 u h
  · have h := h.2 hc
    refine x_iconst (v := (-1)) d_M_digits_60 (by decide) ?_
    refine x_iret d_M_digits_61 ⟨_, rfl, ?_⟩
    exact h
def P_M_digits_4 (post : Int32 → MS → Prop) : Nat → Int32 → Int32 → Int32 → MS → Prop
  | 0, _, _, _, _ => False
  | f + 1, x1, x2, x3, u => ((x1 ≤ x3 → P_M_digits_56 post x2 x3 u) ∧ (¬ x1 ≤ x3 → (qAt u (gI u 9) ∧ (((isDig (vAt u (gI u 9))) = 0 → P_M_digits_56 post x2 x3 u) ∧ (¬ (isDig (vAt u (gI u 9))) = 0 → (qAt u (gI u 9) ∧ (∀ v2, v2 = ((((10 : Int32) * x2) + (vAt u (gI u 9))) - (48 : Int32)) → P_M_digits_4 post f x1 v2 (x3 + 1) (sI u 9 ((gI u 9) + (1 : Int32))))))))))
set_option maxHeartbeats 600000 in
set_option maxRecDepth 100000 in
theorem w_M_digits_4 (l : Launch) (D : va_G) (cs : Nat → ClassId) (Ev : (Nat → Prop) → State → Prop) (hE : xEok Ev) (o : Nat) (a : Nat → Nat) (d : Nat) (post : Int32 → MS → Prop) : ∀ (f : Nat) (x1 : Int32) (x2 : Int32) (x3 : Int32) (u : MS), P_M_digits_4 post  f x1 x2 x3 u → RR l D clX (tysX cs) Ev "DeckFrontModel" b_M_digits 5 w_M_digits (rmD (d + 1)) (some .int) (wdM o a cs) (pI post) 0 0 0 0 4 [(0, .ref o), (1, .int x1), (2, .int x2), (3, .int x3)] [] u := by
  intro f
  induction f with
  | zero => intro x1 x2 x3 u h; exact h.elim
  | succ f ih =>
    intro x1 x2 x3 u h
    unfold P_M_digits_4 at h
    refine x_iload_n (x := x3) d_M_digits_4 rfl ?_
    refine x_iload_n (x := x1) d_M_digits_5 rfl ?_
    refine x_icmp_ge (tgt := 56) d_M_digits_6 rfl (fun hc => ?_) (fun hc => ?_)
    · have h := h.1 hc
      refine x_sub [0, 2, 3] rfl ?_
      exact w_M_digits_56 l D cs Ev hE o a d post  x2 x3 u h
    · have h := h.2 hc
      refine x_aload_n (x := o) d_M_digits_9 rfl ?_
      refine x_aload_n (x := o) d_M_digits_10 rfl ?_
      refine x_get (v := .int (gI u 9)) f_M_126 (eM_o _ _ _ _) rfl d_M_digits_11 ?_
      refine x_callV (st := []) k_M_129 rfl (eM_o _ _ _ _) x_id (cf_M_at l D cs Ev hE o a (d + 0) (gI u 9) u h.1) hE (rmD_ok (by omega) (by decide)) rfl (Nat.le_of_ble_eq_true rfl) rfl d_M_digits_14 (x_rI (fun x u1 h9 => ?_))
      obtain ⟨rfl, rfl⟩ := h9
      have h := h.2
      refine x_callS (st := []) k_M_90 x_none (cf_M_isDigit l D cs Ev hE (d + 0) (vAt u (gI u 9))) hE (rmD_ok (by omega) (by decide)) rfl (Nat.le_of_ble_eq_true rfl) rfl d_M_digits_17 (x_rI (fun x u1 h9 => ?_))
      obtain ⟨rfl, rfl⟩ := h9
      refine x_if_eq (tgt := 56) d_M_digits_20 rfl (fun hc => ?_) (fun hc => ?_)
      · have h := h.1 hc
        refine x_sub [0, 2, 3] rfl ?_
        exact w_M_digits_56 l D cs Ev hE o a d post  x2 x3 u h
      · have h := h.2 hc
        refine x_bipush (v := 10) d_M_digits_23 (by decide) ?_
        refine x_iload_n (x := x2) d_M_digits_25 rfl ?_
        refine x_imul d_M_digits_26 ?_
        refine x_aload_n (x := o) d_M_digits_27 rfl ?_
        refine x_aload_n (x := o) d_M_digits_28 rfl ?_
        refine x_get (v := .int (gI u 9)) f_M_126 (eM_o _ _ _ _) rfl d_M_digits_29 ?_
        refine x_callV (st := [.int ((10 : Int32) * x2)]) k_M_129 rfl (eM_o _ _ _ _) x_id (cf_M_at l D cs Ev hE o a (d + 0) (gI u 9) u h.1) hE (rmD_ok (by omega) (by decide)) rfl (Nat.le_of_ble_eq_true rfl) rfl d_M_digits_32 (x_rI (fun x u1 h9 => ?_))
        obtain ⟨rfl, rfl⟩ := h9
        have h := h.2
        refine x_iadd d_M_digits_35 ?_
        refine x_bipush (v := 48) d_M_digits_36 (by decide) ?_
        refine x_isub d_M_digits_38 ?_
        refine x_topI (fun v2 ev2 => ?_)
        have h := h v2 ev2
        refine x_istore_n (lv' := [(2, .int v2), (0, .ref o), (1, .int x1), (3, .int x3)]) d_M_digits_39 (by decide) rfl ?_
        refine x_aload_n (x := o) d_M_digits_40 rfl ?_
        refine x_dup d_M_digits_41 rfl ?_
        refine x_get (v := .int (gI u 9)) f_M_126 (eM_o _ _ _ _) rfl d_M_digits_42 ?_
        refine x_iconst (v := 1) d_M_digits_45 (by decide) ?_
        refine x_iadd d_M_digits_46 ?_
        refine x_put f_M_126 fw_M_9 (eM_o _ _ _ _) rfl rfl (Nat.le_of_ble_eq_true rfl) (sM_9 _ _ _ _ _) d_M_digits_47 ?_
        refine x_iinc (v := x3 + 1) (lv' := [(3, .int (x3 + 1)), (2, .int v2), (0, .ref o), (1, .int x1)]) d_M_digits_50 rfl rfl (by decide) rfl ?_
        refine x_goto (tgt := 4) d_M_digits_53 rfl ?_
        refine x_sub [2, 3, 1, 0] rfl ?_
        exact ih x1 v2 (x3 + 1) (sI u 9 ((gI u 9) + (1 : Int32))) h
def P_M_digits (post : Int32 → MS → Prop) (a0 : Int32) (u : MS) : Prop := (∃ g, P_M_digits_4 post g a0 0 0 u)
set_option maxHeartbeats 600000 in
set_option maxRecDepth 100000 in
theorem c_M_digits (l : Launch) (D : va_G) (cs : Nat → ClassId) (Ev : (Nat → Prop) → State → Prop) (hE : xEok Ev) (o : Nat) (a : Nat → Nat) (d : Nat) (post : Int32 → MS → Prop) (a0 : Int32) (u : MS) (h : P_M_digits post a0 u) : xC l D clX (tysX cs) Ev y_M_digits w_M_digits (rmD (d + 1)) (wdM o a cs) [.ref o, .int a0] u (pI post) 0 0 := by
  unfold P_M_digits at h
  refine xC.of (cc := b_M_digits) (nL := 5) (ret := (some .int)) (by decide) rfl (Nat.le_of_ble_eq_true rfl) ?_
  show RR l D clX (tysX cs) Ev "DeckFrontModel" b_M_digits 5 w_M_digits (rmD (d + 1)) (some .int) (wdM o a cs) (pI post) 0 0 0 0 0 [(0, .ref o), (1, .int a0)] [] u
  refine x_iconst (v := 0) d_M_digits_0 (by decide) ?_
  refine x_istore_n (lv' := [(2, .int 0), (0, .ref o), (1, .int a0)]) d_M_digits_1 (by decide) rfl ?_
  refine x_iconst (v := 0) d_M_digits_2 (by decide) ?_
  refine x_istore_n (lv' := [(3, .int 0), (2, .int 0), (0, .ref o), (1, .int a0)]) d_M_digits_3 (by decide) rfl ?_
  refine x_sub [2, 3, 1, 0] rfl ?_
  obtain ⟨f9, h⟩ := h
  exact w_M_digits_4 l D cs Ev hE o a d post  f9 a0 0 0 u h
def P_M_nameEnd_37 (post : Int32 → MS → Prop) (K2 : Int32 → Int32 → MS → Prop) (x1 : Int32) (x2 : Int32) (u : MS) : Prop := K2 x1 (x2 + 1) u
set_option maxHeartbeats 600000 in
set_option maxRecDepth 100000 in
theorem w_M_nameEnd_37 (l : Launch) (D : va_G) (cs : Nat → ClassId) (Ev : (Nat → Prop) → State → Prop) (hE : xEok Ev) (o : Nat) (a : Nat → Nat) (d : Nat) (post : Int32 → MS → Prop) (K2 : Int32 → Int32 → MS → Prop) (hK2 : ∀ (x1 : Int32) (x2 : Int32) (u : MS), K2 x1 x2 u → RR l D clX (tysX cs) Ev "DeckFrontModel" b_M_nameEnd 3 w_M_nameEnd (rmD (d + 1)) (some .int) (wdM o a cs) (pI post) 0 0 0 0 2 [(0, .ref o), (1, .int x1), (2, .int x2)] [] u) (x1 : Int32) (x2 : Int32) (u : MS) (h : P_M_nameEnd_37 post K2 x1 x2 u) : RR l D clX (tysX cs) Ev "DeckFrontModel" b_M_nameEnd 3 w_M_nameEnd (rmD (d + 1)) (some .int) (wdM o a cs) (pI post) 0 0 0 0 37 [(0, .ref o), (1, .int x1), (2, .int x2)] [] u := by
  unfold P_M_nameEnd_37 at h
  refine x_iinc (v := x2 + 1) (lv' := [(2, .int (x2 + 1)), (0, .ref o), (1, .int x1)]) d_M_nameEnd_37 rfl rfl (by decide) rfl ?_
  refine x_goto (tgt := 2) d_M_nameEnd_40 rfl ?_
  refine x_sub [1, 2, 0] rfl ?_
  exact hK2 x1 (x2 + 1) u h
def P_M_nameEnd_2 (post : Int32 → MS → Prop) : Nat → Int32 → Int32 → MS → Prop
  | 0, _, _, _ => False
  | f + 1, x1, x2, u => (((x1 + (6 : Int32)) ≤ x2 → post x2 u) ∧ (¬ (x1 + (6 : Int32)) ≤ x2 → (qAt u x2 ∧ ((¬ (isLet (vAt u x2)) = 0 → P_M_nameEnd_37 post (fun zx1 zx2 zu => P_M_nameEnd_2 post f zx1 zx2 zu) x1 x2 u) ∧ ((isLet (vAt u x2)) = 0 → ((x2 ≤ x1 → post x2 u) ∧ (¬ x2 ≤ x1 → (qAt u x2 ∧ (((isDig (vAt u x2)) = 0 → post x2 u) ∧ (¬ (isDig (vAt u x2)) = 0 → P_M_nameEnd_37 post (fun zx1 zx2 zu => P_M_nameEnd_2 post f zx1 zx2 zu) x1 x2 u))))))))))
set_option maxHeartbeats 600000 in
set_option maxRecDepth 100000 in
theorem w_M_nameEnd_2 (l : Launch) (D : va_G) (cs : Nat → ClassId) (Ev : (Nat → Prop) → State → Prop) (hE : xEok Ev) (o : Nat) (a : Nat → Nat) (d : Nat) (post : Int32 → MS → Prop) : ∀ (f : Nat) (x1 : Int32) (x2 : Int32) (u : MS), P_M_nameEnd_2 post  f x1 x2 u → RR l D clX (tysX cs) Ev "DeckFrontModel" b_M_nameEnd 3 w_M_nameEnd (rmD (d + 1)) (some .int) (wdM o a cs) (pI post) 0 0 0 0 2 [(0, .ref o), (1, .int x1), (2, .int x2)] [] u := by
  intro f
  induction f with
  | zero => intro x1 x2 u h; exact h.elim
  | succ f ih =>
    intro x1 x2 u h
    unfold P_M_nameEnd_2 at h
    refine x_iload_n (x := x2) d_M_nameEnd_2 rfl ?_
    refine x_iload_n (x := x1) d_M_nameEnd_3 rfl ?_
    refine x_bipush (v := 6) d_M_nameEnd_4 (by decide) ?_
    refine x_iadd d_M_nameEnd_6 ?_
    refine x_icmp_ge (tgt := 43) d_M_nameEnd_7 rfl (fun hc => ?_) (fun hc => ?_)
    · have h := h.1 hc
      refine x_iload_n (x := x2) d_M_nameEnd_43 rfl ?_
      refine x_iret d_M_nameEnd_44 ⟨_, rfl, ?_⟩
      exact h
    · have h := h.2 hc
      refine x_aload_n (x := o) d_M_nameEnd_10 rfl ?_
      refine x_iload_n (x := x2) d_M_nameEnd_11 rfl ?_
      refine x_callV (st := []) k_M_129 rfl (eM_o _ _ _ _) x_id (cf_M_at l D cs Ev hE o a (d + 0) x2 u h.1) hE (rmD_ok (by omega) (by decide)) rfl (Nat.le_of_ble_eq_true rfl) rfl d_M_nameEnd_12 (x_rI (fun x u1 h9 => ?_))
      obtain ⟨rfl, rfl⟩ := h9
      have h := h.2
      refine x_callS (st := []) k_M_86 x_none (cf_M_isLetter l D cs Ev hE (d + 0) (vAt u x2)) hE (rmD_ok (by omega) (by decide)) rfl (Nat.le_of_ble_eq_true rfl) rfl d_M_nameEnd_15 (x_rI (fun x u1 h9 => ?_))
      obtain ⟨rfl, rfl⟩ := h9
      refine x_if_ne (tgt := 37) d_M_nameEnd_18 rfl (fun hc => ?_) (fun hc => ?_)
      · have h := h.1 hc
        exact w_M_nameEnd_37 l D cs Ev hE o a d post (fun zx1 zx2 zu => P_M_nameEnd_2 post f zx1 zx2 zu) ih x1 x2 u h
      · have h := h.2 hc
        refine x_iload_n (x := x2) d_M_nameEnd_21 rfl ?_
        refine x_iload_n (x := x1) d_M_nameEnd_22 rfl ?_
        refine x_icmp_le (tgt := 43) d_M_nameEnd_23 rfl (fun hc => ?_) (fun hc => ?_)
        · have h := h.1 hc
          refine x_iload_n (x := x2) d_M_nameEnd_43 rfl ?_
          refine x_iret d_M_nameEnd_44 ⟨_, rfl, ?_⟩
          exact h
        · have h := h.2 hc
          refine x_aload_n (x := o) d_M_nameEnd_26 rfl ?_
          refine x_iload_n (x := x2) d_M_nameEnd_27 rfl ?_
          refine x_callV (st := []) k_M_129 rfl (eM_o _ _ _ _) x_id (cf_M_at l D cs Ev hE o a (d + 0) x2 u h.1) hE (rmD_ok (by omega) (by decide)) rfl (Nat.le_of_ble_eq_true rfl) rfl d_M_nameEnd_28 (x_rI (fun x u1 h9 => ?_))
          obtain ⟨rfl, rfl⟩ := h9
          have h := h.2
          refine x_callS (st := []) k_M_90 x_none (cf_M_isDigit l D cs Ev hE (d + 0) (vAt u x2)) hE (rmD_ok (by omega) (by decide)) rfl (Nat.le_of_ble_eq_true rfl) rfl d_M_nameEnd_31 (x_rI (fun x u1 h9 => ?_))
          obtain ⟨rfl, rfl⟩ := h9
          refine x_if_eq (tgt := 43) d_M_nameEnd_34 rfl (fun hc => ?_) (fun hc => ?_)
          · have h := h.1 hc
            refine x_iload_n (x := x2) d_M_nameEnd_43 rfl ?_
            refine x_iret d_M_nameEnd_44 ⟨_, rfl, ?_⟩
            exact h
          · have h := h.2 hc
            exact w_M_nameEnd_37 l D cs Ev hE o a d post (fun zx1 zx2 zu => P_M_nameEnd_2 post f zx1 zx2 zu) ih x1 x2 u h
def P_M_nameEnd (post : Int32 → MS → Prop) (a0 : Int32) (u : MS) : Prop := (∃ g, P_M_nameEnd_2 post g a0 a0 u)
set_option maxHeartbeats 600000 in
set_option maxRecDepth 100000 in
theorem c_M_nameEnd (l : Launch) (D : va_G) (cs : Nat → ClassId) (Ev : (Nat → Prop) → State → Prop) (hE : xEok Ev) (o : Nat) (a : Nat → Nat) (d : Nat) (post : Int32 → MS → Prop) (a0 : Int32) (u : MS) (h : P_M_nameEnd post a0 u) : xC l D clX (tysX cs) Ev y_M_nameEnd w_M_nameEnd (rmD (d + 1)) (wdM o a cs) [.ref o, .int a0] u (pI post) 0 0 := by
  unfold P_M_nameEnd at h
  refine xC.of (cc := b_M_nameEnd) (nL := 3) (ret := (some .int)) (by decide) rfl (Nat.le_of_ble_eq_true rfl) ?_
  show RR l D clX (tysX cs) Ev "DeckFrontModel" b_M_nameEnd 3 w_M_nameEnd (rmD (d + 1)) (some .int) (wdM o a cs) (pI post) 0 0 0 0 0 [(0, .ref o), (1, .int a0)] [] u
  refine x_iload_n (x := a0) d_M_nameEnd_0 rfl ?_
  refine x_istore_n (lv' := [(2, .int a0), (0, .ref o), (1, .int a0)]) d_M_nameEnd_1 (by decide) rfl ?_
  refine x_sub [1, 2, 0] rfl ?_
  obtain ⟨f9, h⟩ := h
  exact w_M_nameEnd_2 l D cs Ev hE o a d post  f9 a0 a0 u h
def P_M_use_6 (post : MS → Prop) : Nat → Int32 → Int32 → Int32 → Int64 → Int32 → MS → Prop
  | 0, _, _, _, _, _, _ => False
  | f + 1, x2, x3, x4, x5, x7, u => ((x2 ≤ x7 → (vp_in (gI u 12) 90 ∧ (vp_in (gI u 12) 90 ∧ (vp_in (gI u 12) 90 ∧ post (sI (sA (sA (sL u (gI u 12).toNatClampNeg x5) 14 (gI u 12).toNatClampNeg x3) 15 (gI u 12).toNatClampNeg x4) 12 ((gI u 12) + (1 : Int32))))))) ∧ (¬ x2 ≤ x7 → (vp_in x7 1920 ∧ (∀ v1, v1 = ((x5 <<< ((8 : Int32).toInt64 &&& 63)) ||| ((gA u 6 x7.toNatClampNeg).toInt64)) → P_M_use_6 post f x2 x3 x4 v1 (x7 + 1) u))))
set_option maxHeartbeats 600000 in
set_option maxRecDepth 100000 in
theorem w_M_use_6 (l : Launch) (D : va_G) (cs : Nat → ClassId) (Ev : (Nat → Prop) → State → Prop) (hE : xEok Ev) (o : Nat) (a : Nat → Nat) (d : Nat) (post : MS → Prop) : ∀ (f : Nat) (x2 : Int32) (x3 : Int32) (x4 : Int32) (x5 : Int64) (x7 : Int32) (u : MS), P_M_use_6 post  f x2 x3 x4 x5 x7 u → RR l D clX (tysX cs) Ev "DeckFrontModel" b_M_use 8 w_M_use (rmD (d + 0)) none (wdM o a cs) (pV post) 0 0 0 0 6 [(0, .ref o), (2, .int x2), (3, .int x3), (4, .int x4), (5, .long x5), (7, .int x7)] [] u := by
  intro f
  induction f with
  | zero => intro x2 x3 x4 x5 x7 u h; exact h.elim
  | succ f ih =>
    intro x2 x3 x4 x5 x7 u h
    unfold P_M_use_6 at h
    refine x_iload (x := x7) d_M_use_6 rfl ?_
    refine x_iload_n (x := x2) d_M_use_8 rfl ?_
    refine x_icmp_ge (tgt := 34) d_M_use_9 rfl (fun hc => ?_) (fun hc => ?_)
    · have h := h.1 hc
      refine x_aload_n (x := o) d_M_use_34 rfl ?_
      refine x_get (v := .ref (a 13)) f_M_26 (eM_o _ _ _ _) rfl d_M_use_35 ?_
      refine x_aload_n (x := o) d_M_use_38 rfl ?_
      refine x_get (v := .int (gI u 12)) f_M_138 (eM_o _ _ _ _) rfl d_M_use_39 ?_
      refine x_lload (x := x5) d_M_use_42 rfl ?_
      refine x_last (t0 := 2) (eM_13 _ _ _ _) rfl h.1 (sM_13 _ _ _ _ _ _) d_M_use_44 ?_
      have h := h.2
      refine x_aload_n (x := o) d_M_use_45 rfl ?_
      refine x_get (v := .ref (a 14)) f_M_30 (eM_o _ _ _ _) rfl d_M_use_46 ?_
      refine x_aload_n (x := o) d_M_use_49 rfl ?_
      refine x_get (v := .int (gI u 12)) f_M_138 (eM_o _ _ _ _) rfl d_M_use_50 ?_
      refine x_iload_n (x := x3) d_M_use_53 rfl ?_
      refine x_iast (t0 := 0) (eM_14 _ _ _ _) rfl h.1 (sM_14 _ _ _ _ _ _) d_M_use_54 ?_
      have h := h.2
      refine x_aload_n (x := o) d_M_use_55 rfl ?_
      refine x_get (v := .ref (a 15)) f_M_33 (eM_o _ _ _ _) rfl d_M_use_56 ?_
      refine x_aload_n (x := o) d_M_use_59 rfl ?_
      refine x_get (v := .int (gI u 12)) f_M_138 (eM_o _ _ _ _) rfl d_M_use_60 ?_
      refine x_iload (x := x4) d_M_use_63 rfl ?_
      refine x_iast (t0 := 0) (eM_15 _ _ _ _) rfl h.1 (sM_15 _ _ _ _ _ _) d_M_use_65 ?_
      have h := h.2
      refine x_aload_n (x := o) d_M_use_66 rfl ?_
      refine x_dup d_M_use_67 rfl ?_
      refine x_get (v := .int (gI u 12)) f_M_138 (eM_o _ _ _ _) rfl d_M_use_68 ?_
      refine x_iconst (v := 1) d_M_use_71 (by decide) ?_
      refine x_iadd d_M_use_72 ?_
      refine x_put f_M_138 fw_M_12 (eM_o _ _ _ _) rfl rfl (Nat.le_of_ble_eq_true rfl) (sM_12 _ _ _ _ _) d_M_use_73 ?_
      refine x_vret d_M_use_76 ⟨rfl, ?_⟩
      exact h
    · have h := h.2 hc
      refine x_lload (x := x5) d_M_use_12 rfl ?_
      refine x_bipush (v := 8) d_M_use_14 (by decide) ?_
      refine x_lshl d_M_use_16 ?_
      refine x_aload_n (x := o) d_M_use_17 rfl ?_
      refine x_get (v := .ref (a 6)) f_M_20 (eM_o _ _ _ _) rfl d_M_use_18 ?_
      refine x_iload (x := x7) d_M_use_21 rfl ?_
      refine x_cald (t0 := 1) (eM_6 _ _ _ _) rfl h.1 d_M_use_23 ?_
      have h := h.2
      refine x_i2l d_M_use_24 ?_
      refine x_lor d_M_use_25 ?_
      refine x_topJ (fun v1 ev1 => ?_)
      have h := h v1 ev1
      refine x_lstore (lv' := [(5, .long v1), (0, .ref o), (2, .int x2), (3, .int x3), (4, .int x4), (7, .int x7)]) d_M_use_26 (by decide) rfl ?_
      refine x_iinc (v := x7 + 1) (lv' := [(7, .int (x7 + 1)), (5, .long v1), (0, .ref o), (2, .int x2), (3, .int x3), (4, .int x4)]) d_M_use_28 rfl rfl (by decide) rfl ?_
      refine x_goto (tgt := 6) d_M_use_31 rfl ?_
      refine x_sub [2, 3, 4, 5, 1, 0] rfl ?_
      exact ih x2 x3 x4 v1 (x7 + 1) u h
def P_M_use (post : MS → Prop) (a0 : Int32) (a1 : Int32) (a2 : Int32) (a3 : Int32) (u : MS) : Prop := (∃ g, P_M_use_6 post g a1 a2 a3 0 a0 u)
set_option maxHeartbeats 600000 in
set_option maxRecDepth 100000 in
theorem c_M_use (l : Launch) (D : va_G) (cs : Nat → ClassId) (Ev : (Nat → Prop) → State → Prop) (hE : xEok Ev) (o : Nat) (a : Nat → Nat) (d : Nat) (post : MS → Prop) (a0 : Int32) (a1 : Int32) (a2 : Int32) (a3 : Int32) (u : MS) (h : P_M_use post a0 a1 a2 a3 u) : xC l D clX (tysX cs) Ev y_M_use w_M_use (rmD (d + 0)) (wdM o a cs) [.ref o, .int a0, .int a1, .int a2, .int a3] u (pV post) 0 0 := by
  unfold P_M_use at h
  refine xC.of (cc := b_M_use) (nL := 8) (ret := none) (by decide) rfl (Nat.le_of_ble_eq_true rfl) ?_
  show RR l D clX (tysX cs) Ev "DeckFrontModel" b_M_use 8 w_M_use (rmD (d + 0)) none (wdM o a cs) (pV post) 0 0 0 0 0 [(0, .ref o), (1, .int a0), (2, .int a1), (3, .int a2), (4, .int a3)] [] u
  refine x_lconst (v := 0) d_M_use_0 (by decide) ?_
  refine x_lstore (lv' := [(5, .long 0), (0, .ref o), (1, .int a0), (2, .int a1), (3, .int a2), (4, .int a3)]) d_M_use_1 (by decide) rfl ?_
  refine x_iload_n (x := a0) d_M_use_3 rfl ?_
  refine x_istore (lv' := [(7, .int a0), (5, .long 0), (0, .ref o), (1, .int a0), (2, .int a1), (3, .int a2), (4, .int a3)]) d_M_use_4 (by decide) rfl ?_
  refine x_sub [2, 4, 5, 6, 1, 0] rfl ?_
  obtain ⟨f9, h⟩ := h
  exact w_M_use_6 l D cs Ev hE o a d post  f9 a1 a2 a3 0 a0 u h
def P_M_name (post : Int32 → MS → Prop) (a0 : Int32) (a1 : Int32) (u : MS) : Prop := P_M_nameEnd (fun r2 u1 => ((¬ r2 = (gI u1 9) → P_M_use (fun u3 => P_M_putPart (fun u4 => post 1 (sI u4 9 r2)) (gI u3 9) r2 u3) (gI u1 9) r2 a0 a1 u1) ∧ (r2 = (gI u1 9) → post 0 u1))) (gI u 9) u
set_option maxHeartbeats 600000 in
set_option maxRecDepth 100000 in
theorem c_M_name (l : Launch) (D : va_G) (cs : Nat → ClassId) (Ev : (Nat → Prop) → State → Prop) (hE : xEok Ev) (o : Nat) (a : Nat → Nat) (d : Nat) (post : Int32 → MS → Prop) (a0 : Int32) (a1 : Int32) (u : MS) (h : P_M_name post a0 a1 u) : xC l D clX (tysX cs) Ev y_M_name w_M_name (rmD (d + 2)) (wdM o a cs) [.ref o, .int a0, .int a1] u (pI post) 0 0 := by
  unfold P_M_name at h
  refine xC.of (cc := b_M_name) (nL := 4) (ret := (some .boolean)) (by decide) rfl (Nat.le_of_ble_eq_true rfl) ?_
  show RR l D clX (tysX cs) Ev "DeckFrontModel" b_M_name 4 w_M_name (rmD (d + 2)) (some .boolean) (wdM o a cs) (pI post) 0 0 0 0 0 [(0, .ref o), (1, .int a0), (2, .int a1)] [] u
  refine x_aload_n (x := o) d_M_name_0 rfl ?_
  refine x_aload_n (x := o) d_M_name_1 rfl ?_
  refine x_get (v := .int (gI u 9)) f_M_126 (eM_o _ _ _ _) rfl d_M_name_2 ?_
  refine x_callV (st := []) k_M_141 rfl (eM_o _ _ _ _) x_id (c_M_nameEnd l D cs Ev hE o a (d + 0) _ (gI u 9) u h) hE (rmD_ok (by omega) (by decide)) rfl (Nat.le_of_ble_eq_true rfl) rfl d_M_name_5 (x_rI (fun r2 u1 h => ?_))
  refine x_istore_n (lv' := [(3, .int r2), (0, .ref o), (1, .int a0), (2, .int a1)]) d_M_name_8 (by decide) rfl ?_
  refine x_iload_n (x := r2) d_M_name_9 rfl ?_
  refine x_aload_n (x := o) d_M_name_10 rfl ?_
  refine x_get (v := .int (gI u1 9)) f_M_126 (eM_o _ _ _ _) rfl d_M_name_11 ?_
  refine x_icmp_ne (tgt := 19) d_M_name_14 rfl (fun hc => ?_) (fun hc => ?_)
  · have h := h.1 hc
    refine x_aload_n (x := o) d_M_name_19 rfl ?_
    refine x_aload_n (x := o) d_M_name_20 rfl ?_
    refine x_get (v := .int (gI u1 9)) f_M_126 (eM_o _ _ _ _) rfl d_M_name_21 ?_
    refine x_iload_n (x := r2) d_M_name_24 rfl ?_
    refine x_iload_n (x := a0) d_M_name_25 rfl ?_
    refine x_iload_n (x := a1) d_M_name_26 rfl ?_
    refine x_callV (st := []) k_M_144 rfl (eM_o _ _ _ _) x_id (c_M_use l D cs Ev hE o a (d + 1) _ (gI u1 9) r2 a0 a1 u1 h) hE (rmD_ok (by omega) (by decide)) rfl (Nat.le_of_ble_eq_true rfl) rfl d_M_name_27 (x_rV (fun u3 h => ?_))
    refine x_aload_n (x := o) d_M_name_30 rfl ?_
    refine x_aload_n (x := o) d_M_name_31 rfl ?_
    refine x_get (v := .int (gI u3 9)) f_M_126 (eM_o _ _ _ _) rfl d_M_name_32 ?_
    refine x_iload_n (x := r2) d_M_name_35 rfl ?_
    refine x_callV (st := []) k_M_134 rfl (eM_o _ _ _ _) x_id (c_M_putPart l D cs Ev hE o a (d + 0) _ (gI u3 9) r2 u3 h) hE (rmD_ok (by omega) (by decide)) rfl (Nat.le_of_ble_eq_true rfl) rfl d_M_name_36 (x_rV (fun u4 h => ?_))
    refine x_aload_n (x := o) d_M_name_39 rfl ?_
    refine x_iload_n (x := r2) d_M_name_40 rfl ?_
    refine x_put f_M_126 fw_M_9 (eM_o _ _ _ _) rfl rfl (Nat.le_of_ble_eq_true rfl) (sM_9 _ _ _ _ _) d_M_name_41 ?_
    refine x_iconst (v := 1) d_M_name_44 (by decide) ?_
    refine x_zret rfl d_M_name_45 ⟨_, rfl, ?_⟩
    exact h
  · have h := h.2 hc
    refine x_iconst (v := 0) d_M_name_17 (by decide) ?_
    refine x_zret rfl d_M_name_18 ⟨_, rfl, ?_⟩
    exact h
