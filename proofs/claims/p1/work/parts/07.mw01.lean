def P_M_thrown (post : Int32 → MS → Prop) (u : MS) : Prop := post (gI u 0) u
set_option maxHeartbeats 600000 in
set_option maxRecDepth 100000 in
theorem c_M_thrown (l : Launch) (D : va_G) (cs : Nat → ClassId) (Ev : (Nat → Prop) → State → Prop) (hE : xEok Ev) (o : Nat) (a : Nat → Nat) (d : Nat) (post : Int32 → MS → Prop) (u : MS) (h : P_M_thrown post  u) : xC l D clX (tysX cs) Ev y_M_thrown w_M_thrown (rmD (d + 0)) (wdM o a cs) [.ref o] u (pI post) 0 0 := by
  unfold P_M_thrown at h
  refine xC.of (cc := b_M_thrown) (nL := 1) (ret := (some .int)) (by decide) rfl (Nat.le_of_ble_eq_true rfl) ?_
  show RR l D clX (tysX cs) Ev "DeckFrontModel" b_M_thrown 1 w_M_thrown (rmD (d + 0)) (some .int) (wdM o a cs) (pI post) 0 0 0 0 0 [(0, .ref o)] [] u
  refine x_aload_n (x := o) d_M_thrown_0 rfl ?_
  refine x_get (v := .int (gI u 0)) f_M_82 (eM_o _ _ _ _) rfl d_M_thrown_1 ?_
  refine x_iret d_M_thrown_4 ⟨_, rfl, ?_⟩
  exact h
def P_M_isLetter (post : Int32 → Unit → Prop) (a0 : Int32) (u : Unit) : Prop := ((a0 < 65 → post 0 u) ∧ (¬ a0 < 65 → ((90 < a0 → post 0 u) ∧ (¬ 90 < a0 → post 1 u))))
set_option maxHeartbeats 600000 in
set_option maxRecDepth 100000 in
theorem c_M_isLetter (l : Launch) (D : va_G) (cs : Nat → ClassId) (Ev : (Nat → Prop) → State → Prop) (hE : xEok Ev) (d : Nat) (post : Int32 → Unit → Prop) (a0 : Int32) (u : Unit) (h : P_M_isLetter post a0 u) : xC l D clX (tysX cs) Ev y_M_isLetter w_M_isLetter (rmD (d + 0)) wd0 [.int a0] u (pI post) 0 0 := by
  unfold P_M_isLetter at h
  refine xC.of (cc := b_M_isLetter) (nL := 1) (ret := (some .boolean)) (by decide) rfl (Nat.le_of_ble_eq_true rfl) ?_
  show RR l D clX (tysX cs) Ev "DeckFrontModel" b_M_isLetter 1 w_M_isLetter (rmD (d + 0)) (some .boolean) wd0 (pI post) 0 0 0 0 0 [(0, .int a0)] [] u
  refine x_iload_n (x := a0) d_M_isLetter_0 rfl ?_
  refine x_bipush (v := 65) d_M_isLetter_1 (by decide) ?_
  refine x_icmp_lt (tgt := 16) d_M_isLetter_3 rfl (fun hc => ?_) (fun hc => ?_)
  · have h := h.1 hc
    refine x_iconst (v := 0) d_M_isLetter_16 (by decide) ?_
    refine x_zret rfl d_M_isLetter_17 ⟨_, rfl, ?_⟩
    exact h
  · have h := h.2 hc
    refine x_iload_n (x := a0) d_M_isLetter_6 rfl ?_
    refine x_bipush (v := 90) d_M_isLetter_7 (by decide) ?_
    refine x_icmp_gt (tgt := 16) d_M_isLetter_9 rfl (fun hc => ?_) (fun hc => ?_)
    · have h := h.1 hc
      refine x_iconst (v := 0) d_M_isLetter_16 (by decide) ?_
      refine x_zret rfl d_M_isLetter_17 ⟨_, rfl, ?_⟩
      exact h
    · have h := h.2 hc
      refine x_iconst (v := 1) d_M_isLetter_12 (by decide) ?_
      refine x_goto (tgt := 17) d_M_isLetter_13 rfl ?_
      refine x_zret rfl d_M_isLetter_17 ⟨_, rfl, ?_⟩
      exact h
theorem cf_M_isLetter (l : Launch) (D : va_G) (cs : Nat → ClassId) (Ev : (Nat → Prop) → State → Prop) (hE : xEok Ev) (d : Nat) (x : Int32) : xC l D clX (tysX cs) Ev y_M_isLetter w_M_isLetter (rmD (d + 0)) wd0 [.int x] () (pI (fun r u1 => r = isLet x ∧ () = u1)) 0 0 := by
  refine c_M_isLetter l D cs Ev hE d _ x () ?_
  unfold P_M_isLetter isLet
  exact ⟨fun h => ⟨by rw [if_pos h], rfl⟩, fun h => ⟨fun h2 => ⟨by rw [if_neg h, if_pos h2], rfl⟩, fun h2 => ⟨by rw [if_neg h, if_neg h2], rfl⟩⟩⟩
def P_M_isDigit (post : Int32 → Unit → Prop) (a0 : Int32) (u : Unit) : Prop := ((a0 < 48 → post 0 u) ∧ (¬ a0 < 48 → ((57 < a0 → post 0 u) ∧ (¬ 57 < a0 → post 1 u))))
set_option maxHeartbeats 600000 in
set_option maxRecDepth 100000 in
theorem c_M_isDigit (l : Launch) (D : va_G) (cs : Nat → ClassId) (Ev : (Nat → Prop) → State → Prop) (hE : xEok Ev) (d : Nat) (post : Int32 → Unit → Prop) (a0 : Int32) (u : Unit) (h : P_M_isDigit post a0 u) : xC l D clX (tysX cs) Ev y_M_isDigit w_M_isDigit (rmD (d + 0)) wd0 [.int a0] u (pI post) 0 0 := by
  unfold P_M_isDigit at h
  refine xC.of (cc := b_M_isDigit) (nL := 1) (ret := (some .boolean)) (by decide) rfl (Nat.le_of_ble_eq_true rfl) ?_
  show RR l D clX (tysX cs) Ev "DeckFrontModel" b_M_isDigit 1 w_M_isDigit (rmD (d + 0)) (some .boolean) wd0 (pI post) 0 0 0 0 0 [(0, .int a0)] [] u
  refine x_iload_n (x := a0) d_M_isDigit_0 rfl ?_
  refine x_bipush (v := 48) d_M_isDigit_1 (by decide) ?_
  refine x_icmp_lt (tgt := 16) d_M_isDigit_3 rfl (fun hc => ?_) (fun hc => ?_)
  · have h := h.1 hc
    refine x_iconst (v := 0) d_M_isDigit_16 (by decide) ?_
    refine x_zret rfl d_M_isDigit_17 ⟨_, rfl, ?_⟩
    exact h
  · have h := h.2 hc
    refine x_iload_n (x := a0) d_M_isDigit_6 rfl ?_
    refine x_bipush (v := 57) d_M_isDigit_7 (by decide) ?_
    refine x_icmp_gt (tgt := 16) d_M_isDigit_9 rfl (fun hc => ?_) (fun hc => ?_)
    · have h := h.1 hc
      refine x_iconst (v := 0) d_M_isDigit_16 (by decide) ?_
      refine x_zret rfl d_M_isDigit_17 ⟨_, rfl, ?_⟩
      exact h
    · have h := h.2 hc
      refine x_iconst (v := 1) d_M_isDigit_12 (by decide) ?_
      refine x_goto (tgt := 17) d_M_isDigit_13 rfl ?_
      refine x_zret rfl d_M_isDigit_17 ⟨_, rfl, ?_⟩
      exact h
theorem cf_M_isDigit (l : Launch) (D : va_G) (cs : Nat → ClassId) (Ev : (Nat → Prop) → State → Prop) (hE : xEok Ev) (d : Nat) (x : Int32) : xC l D clX (tysX cs) Ev y_M_isDigit w_M_isDigit (rmD (d + 0)) wd0 [.int x] () (pI (fun r u1 => r = isDig x ∧ () = u1)) 0 0 := by
  refine c_M_isDigit l D cs Ev hE d _ x () ?_
  unfold P_M_isDigit isDig
  exact ⟨fun h => ⟨by rw [if_pos h], rfl⟩, fun h => ⟨fun h2 => ⟨by rw [if_neg h, if_pos h2], rfl⟩, fun h2 => ⟨by rw [if_neg h, if_neg h2], rfl⟩⟩⟩
def P_M_mayStand_38 (post : Int32 → Unit → Prop) (x0 : Int32) (u : Unit) : Prop := ((¬ x0 = 39 → post 0 u) ∧ (x0 = 39 → post 1 u))
set_option maxHeartbeats 600000 in
set_option maxRecDepth 100000 in
theorem w_M_mayStand_38 (l : Launch) (D : va_G) (cs : Nat → ClassId) (Ev : (Nat → Prop) → State → Prop) (hE : xEok Ev) (d : Nat) (post : Int32 → Unit → Prop) (x0 : Int32) (u : Unit) (h : P_M_mayStand_38 post  x0 u) : RR l D clX (tysX cs) Ev "DeckFrontModel" b_M_mayStand 1 w_M_mayStand (rmD (d + 1)) (some .boolean) wd0 (pI post) 0 0 0 0 38 [(0, .int x0)] [] u := by
  unfold P_M_mayStand_38 at h
  refine x_iload_n (x := x0) d_M_mayStand_38 rfl ?_
  refine x_bipush (v := 39) d_M_mayStand_39 (by decide) ?_
  refine x_icmp_ne (tgt := 48) d_M_mayStand_41 rfl (fun hc => ?_) (fun hc => ?_)
  · have h := h.1 hc
    refine x_iconst (v := 0) d_M_mayStand_48 (by decide) ?_
    refine x_zret rfl d_M_mayStand_49 ⟨_, rfl, ?_⟩
    exact h
  · have h := h.2 hc
    refine x_iconst (v := 1) d_M_mayStand_44 (by decide) ?_
    refine x_goto (tgt := 49) d_M_mayStand_45 rfl ?_
    refine x_zret rfl d_M_mayStand_49 ⟨_, rfl, ?_⟩
    exact h
def P_M_mayStand (post : Int32 → Unit → Prop) (a0 : Int32) (u : Unit) : Prop := ((¬ (isLet a0) = 0 → post 1 u) ∧ ((isLet a0) = 0 → ((¬ (isDig a0) = 0 → post 1 u) ∧ ((isDig a0) = 0 → ((a0 = 32 → post 1 u) ∧ (¬ a0 = 32 → ((a0 = 61 → post 1 u) ∧ (¬ a0 = 61 → ((a0 < 40 → P_M_mayStand_38 post a0 u) ∧ (¬ a0 < 40 → ((a0 ≤ 47 → post 1 u) ∧ (¬ a0 ≤ 47 → P_M_mayStand_38 post a0 u))))))))))))
set_option maxHeartbeats 600000 in
set_option maxRecDepth 100000 in
theorem c_M_mayStand (l : Launch) (D : va_G) (cs : Nat → ClassId) (Ev : (Nat → Prop) → State → Prop) (hE : xEok Ev) (d : Nat) (post : Int32 → Unit → Prop) (a0 : Int32) (u : Unit) (h : P_M_mayStand post a0 u) : xC l D clX (tysX cs) Ev y_M_mayStand w_M_mayStand (rmD (d + 1)) wd0 [.int a0] u (pI post) 0 0 := by
  unfold P_M_mayStand at h
  refine xC.of (cc := b_M_mayStand) (nL := 1) (ret := (some .boolean)) (by decide) rfl (Nat.le_of_ble_eq_true rfl) ?_
  show RR l D clX (tysX cs) Ev "DeckFrontModel" b_M_mayStand 1 w_M_mayStand (rmD (d + 1)) (some .boolean) wd0 (pI post) 0 0 0 0 0 [(0, .int a0)] [] u
  refine x_iload_n (x := a0) d_M_mayStand_0 rfl ?_
  refine x_callS (st := []) k_M_86 x_id (cf_M_isLetter l D cs Ev hE (d + 0) a0) hE (rmD_ok (by omega) (by decide)) rfl (Nat.le_of_ble_eq_true rfl) rfl d_M_mayStand_1 (x_rI (fun x u1 h9 => ?_))
  obtain ⟨rfl, rfl⟩ := h9
  refine x_if_ne (tgt := 44) d_M_mayStand_4 rfl (fun hc => ?_) (fun hc => ?_)
  · have h := h.1 hc
    refine x_iconst (v := 1) d_M_mayStand_44 (by decide) ?_
    refine x_goto (tgt := 49) d_M_mayStand_45 rfl ?_
    refine x_zret rfl d_M_mayStand_49 ⟨_, rfl, ?_⟩
    exact h
  · have h := h.2 hc
    refine x_iload_n (x := a0) d_M_mayStand_7 rfl ?_
    refine x_callS (st := []) k_M_90 x_id (cf_M_isDigit l D cs Ev hE (d + 0) a0) hE (rmD_ok (by omega) (by decide)) rfl (Nat.le_of_ble_eq_true rfl) rfl d_M_mayStand_8 (x_rI (fun x u1 h9 => ?_))
    obtain ⟨rfl, rfl⟩ := h9
    refine x_if_ne (tgt := 44) d_M_mayStand_11 rfl (fun hc => ?_) (fun hc => ?_)
    · have h := h.1 hc
      refine x_iconst (v := 1) d_M_mayStand_44 (by decide) ?_
      refine x_goto (tgt := 49) d_M_mayStand_45 rfl ?_
      refine x_zret rfl d_M_mayStand_49 ⟨_, rfl, ?_⟩
      exact h
    · have h := h.2 hc
      refine x_iload_n (x := a0) d_M_mayStand_14 rfl ?_
      refine x_bipush (v := 32) d_M_mayStand_15 (by decide) ?_
      refine x_icmp_eq (tgt := 44) d_M_mayStand_17 rfl (fun hc => ?_) (fun hc => ?_)
      · have h := h.1 hc
        refine x_iconst (v := 1) d_M_mayStand_44 (by decide) ?_
        refine x_goto (tgt := 49) d_M_mayStand_45 rfl ?_
        refine x_zret rfl d_M_mayStand_49 ⟨_, rfl, ?_⟩
        exact h
      · have h := h.2 hc
        refine x_iload_n (x := a0) d_M_mayStand_20 rfl ?_
        refine x_bipush (v := 61) d_M_mayStand_21 (by decide) ?_
        refine x_icmp_eq (tgt := 44) d_M_mayStand_23 rfl (fun hc => ?_) (fun hc => ?_)
        · have h := h.1 hc
          refine x_iconst (v := 1) d_M_mayStand_44 (by decide) ?_
          refine x_goto (tgt := 49) d_M_mayStand_45 rfl ?_
          refine x_zret rfl d_M_mayStand_49 ⟨_, rfl, ?_⟩
          exact h
        · have h := h.2 hc
          refine x_iload_n (x := a0) d_M_mayStand_26 rfl ?_
          refine x_bipush (v := 40) d_M_mayStand_27 (by decide) ?_
          refine x_icmp_lt (tgt := 38) d_M_mayStand_29 rfl (fun hc => ?_) (fun hc => ?_)
          · have h := h.1 hc
            exact w_M_mayStand_38 l D cs Ev hE d post  a0 u h
          · have h := h.2 hc
            refine x_iload_n (x := a0) d_M_mayStand_32 rfl ?_
            refine x_bipush (v := 47) d_M_mayStand_33 (by decide) ?_
            refine x_icmp_le (tgt := 44) d_M_mayStand_35 rfl (fun hc => ?_) (fun hc => ?_)
            · have h := h.1 hc
              refine x_iconst (v := 1) d_M_mayStand_44 (by decide) ?_
              refine x_goto (tgt := 49) d_M_mayStand_45 rfl ?_
              refine x_zret rfl d_M_mayStand_49 ⟨_, rfl, ?_⟩
              exact h
            · have h := h.2 hc
              exact w_M_mayStand_38 l D cs Ev hE d post  a0 u h
def P_M_write_127 (post : Int32 → MS → Prop) (K81 : Int64 → Int32 → MS → Prop) (x1 : Int64) (x4 : Int32) (u : MS) : Prop := K81 x1 (x4 + (-1)) u
set_option maxHeartbeats 600000 in
set_option maxRecDepth 100000 in
theorem w_M_write_127 (l : Launch) (D : va_G) (cs : Nat → ClassId) (Ev : (Nat → Prop) → State → Prop) (hE : xEok Ev) (o : Nat) (a : Nat → Nat) (d : Nat) (post : Int32 → MS → Prop) (K81 : Int64 → Int32 → MS → Prop) (hK81 : ∀ (x1 : Int64) (x4 : Int32) (u : MS), K81 x1 x4 u → RR l D clX (tysX cs) Ev "DeckFrontModel" b_M_write 6 w_M_write (rmD (d + 2)) (some .boolean) (wdM o a cs) (pI post) 0 0 0 0 81 [(0, .ref o), (1, .long x1), (4, .int x4)] [] u) (x1 : Int64) (x4 : Int32) (u : MS) (h : P_M_write_127 post K81 x1 x4 u) : RR l D clX (tysX cs) Ev "DeckFrontModel" b_M_write 6 w_M_write (rmD (d + 2)) (some .boolean) (wdM o a cs) (pI post) 0 0 0 0 127 [(0, .ref o), (1, .long x1), (4, .int x4)] [] u := by
  unfold P_M_write_127 at h
  refine x_iinc (v := x4 + (-1)) (lv' := [(4, .int (x4 + (-1))), (0, .ref o), (1, .long x1)]) d_M_write_127 rfl rfl (by decide) rfl ?_
  refine x_goto (tgt := 81) d_M_write_130 rfl ?_
  refine x_sub [1, 2, 0] rfl ?_
  exact hK81 x1 (x4 + (-1)) u h
def P_M_write_81 (post : Int32 → MS → Prop) : Nat → Int64 → Int32 → MS → Prop
  | 0, _, _, _ => False
  | f + 1, x1, x4, u => ((x4 < 0 → post 1 u) ∧ (¬ x4 < 0 → (∀ v1, v1 = ((((x1.toUInt64 >>> (((8 : Int32) * x4).toInt64.toUInt64 &&& Int64.toUInt64 63)).toInt64).toInt32) &&& (255 : Int32)) → ((v1 = 0 → P_M_write_127 post (fun zx1 zx4 zu => P_M_write_81 post f zx1 zx4 zu) x1 x4 u) ∧ (¬ v1 = 0 → (vp_in (gI u 1) 72 ∧ P_M_write_127 post (fun zx1 zx4 zu => P_M_write_81 post f zx1 zx4 zu) x1 x4 (sI (sA u 2 (gI u 1).toNatClampNeg (vp_nar .char ((v1.toUInt32 % 65536).toInt32))) 1 ((gI u 1) + (1 : Int32)))))))))
set_option maxHeartbeats 600000 in
set_option maxRecDepth 100000 in
theorem w_M_write_81 (l : Launch) (D : va_G) (cs : Nat → ClassId) (Ev : (Nat → Prop) → State → Prop) (hE : xEok Ev) (o : Nat) (a : Nat → Nat) (d : Nat) (post : Int32 → MS → Prop) : ∀ (f : Nat) (x1 : Int64) (x4 : Int32) (u : MS), P_M_write_81 post  f x1 x4 u → RR l D clX (tysX cs) Ev "DeckFrontModel" b_M_write 6 w_M_write (rmD (d + 2)) (some .boolean) (wdM o a cs) (pI post) 0 0 0 0 81 [(0, .ref o), (1, .long x1), (4, .int x4)] [] u := by
  intro f
  induction f with
  | zero => intro x1 x4 u h; exact h.elim
  | succ f ih =>
    intro x1 x4 u h
    unfold P_M_write_81 at h
    refine x_iload (x := x4) d_M_write_81 rfl ?_
    refine x_if_lt (tgt := 133) d_M_write_83 rfl (fun hc => ?_) (fun hc => ?_)
    · have h := h.1 hc
      refine x_iconst (v := 1) d_M_write_133 (by decide) ?_
      refine x_zret rfl d_M_write_134 ⟨_, rfl, ?_⟩
      exact h
    · have h := h.2 hc
      refine x_lload_n (x := x1) d_M_write_86 rfl ?_
      refine x_bipush (v := 8) d_M_write_87 (by decide) ?_
      refine x_iload (x := x4) d_M_write_89 rfl ?_
      refine x_imul d_M_write_91 ?_
      refine x_lushr d_M_write_92 ?_
      refine x_l2i d_M_write_93 ?_
      refine x_sipush (v := 255) d_M_write_94 (by decide) ?_
      refine x_iand d_M_write_97 ?_
      refine x_topI (fun v1 ev1 => ?_)
      have h := h v1 ev1
      refine x_istore (lv' := [(5, .int v1), (0, .ref o), (1, .long x1), (4, .int x4)]) d_M_write_98 (by decide) rfl ?_
      refine x_iload (x := v1) d_M_write_100 rfl ?_
      refine x_if_eq (tgt := 127) d_M_write_102 rfl (fun hc => ?_) (fun hc => ?_)
      · have h := h.1 hc
        refine x_sub [1, 2, 3] rfl ?_
        exact w_M_write_127 l D cs Ev hE o a d post (fun zx1 zx4 zu => P_M_write_81 post f zx1 zx4 zu) ih x1 x4 u h
      · have h := h.2 hc
        refine x_aload_n (x := o) d_M_write_105 rfl ?_
        refine x_get (v := .ref (a 2)) f_M_7 (eM_o _ _ _ _) rfl d_M_write_106 ?_
        refine x_aload_n (x := o) d_M_write_109 rfl ?_
        refine x_get (v := .int (gI u 1)) f_M_96 (eM_o _ _ _ _) rfl d_M_write_110 ?_
        refine x_iload (x := v1) d_M_write_113 rfl ?_
        refine x_i2c d_M_write_115 ?_
        refine x_cast (t0 := 1) (eM_2 _ _ _ _) rfl h.1 (sM_2 _ _ _ _ _ _) d_M_write_116 ?_
        have h := h.2
        refine x_aload_n (x := o) d_M_write_117 rfl ?_
        refine x_dup d_M_write_118 rfl ?_
        refine x_get (v := .int (gI u 1)) f_M_96 (eM_o _ _ _ _) rfl d_M_write_119 ?_
        refine x_iconst (v := 1) d_M_write_122 (by decide) ?_
        refine x_iadd d_M_write_123 ?_
        refine x_put f_M_96 fw_M_1 (eM_o _ _ _ _) rfl rfl (Nat.le_of_ble_eq_true rfl) (sM_1 _ _ _ _ _) d_M_write_124 ?_
        refine x_sub [1, 2, 3] rfl ?_
        exact w_M_write_127 l D cs Ev hE o a d post (fun zx1 zx4 zu => P_M_write_81 post f zx1 zx4 zu) ih x1 x4 (sI (sA u 2 (gI u 1).toNatClampNeg (vp_nar .char ((v1.toUInt32 % 65536).toInt32))) 1 ((gI u 1) + (1 : Int32))) h
def P_M_write_57 (post : Int32 → MS → Prop) (K11 : Int64 → Int32 → Int32 → MS → Prop) (x1 : Int64) (x4 : Int32) (s0 : Int32) (u : MS) : Prop := K11 x1 s0 (x4 + (-1)) u
set_option maxHeartbeats 600000 in
set_option maxRecDepth 100000 in
theorem w_M_write_57 (l : Launch) (D : va_G) (cs : Nat → ClassId) (Ev : (Nat → Prop) → State → Prop) (hE : xEok Ev) (o : Nat) (a : Nat → Nat) (d : Nat) (post : Int32 → MS → Prop) (K11 : Int64 → Int32 → Int32 → MS → Prop) (hK11 : ∀ (x1 : Int64) (x3 : Int32) (x4 : Int32) (u : MS), K11 x1 x3 x4 u → RR l D clX (tysX cs) Ev "DeckFrontModel" b_M_write 6 w_M_write (rmD (d + 2)) (some .boolean) (wdM o a cs) (pI post) 0 0 0 0 11 [(0, .ref o), (1, .long x1), (3, .int x3), (4, .int x4)] [] u) (x1 : Int64) (x4 : Int32) (s0 : Int32) (u : MS) (h : P_M_write_57 post K11 x1 x4 s0 u) : RR l D clX (tysX cs) Ev "DeckFrontModel" b_M_write 6 w_M_write (rmD (d + 2)) (some .boolean) (wdM o a cs) (pI post) 0 0 0 0 57 [(0, .ref o), (1, .long x1), (4, .int x4)] [.int s0] u := by
  unfold P_M_write_57 at h
  refine x_istore_n (lv' := [(3, .int s0), (0, .ref o), (1, .long x1), (4, .int x4)]) d_M_write_57 (by decide) rfl ?_
  refine x_iinc (v := x4 + (-1)) (lv' := [(4, .int (x4 + (-1))), (3, .int s0), (0, .ref o), (1, .long x1)]) d_M_write_58 rfl rfl (by decide) rfl ?_
  refine x_goto (tgt := 11) d_M_write_61 rfl ?_
  refine x_sub [2, 3, 1, 0] rfl ?_
  exact hK11 x1 s0 (x4 + (-1)) u h
def P_M_write_45 (post : Int32 → MS → Prop) (K11 : Int64 → Int32 → Int32 → MS → Prop) (x1 : Int64) (x3 : Int32) (x4 : Int32) (x5 : Int32) (u : MS) : Prop := ((x5 = 0 → P_M_write_57 post K11 x1 x4 x3 u) ∧ (¬ x5 = 0 → P_M_write_57 post K11 x1 x4 (x3 + (1 : Int32)) u))
set_option maxHeartbeats 600000 in
set_option maxRecDepth 100000 in
theorem w_M_write_45 (l : Launch) (D : va_G) (cs : Nat → ClassId) (Ev : (Nat → Prop) → State → Prop) (hE : xEok Ev) (o : Nat) (a : Nat → Nat) (d : Nat) (post : Int32 → MS → Prop) (K11 : Int64 → Int32 → Int32 → MS → Prop) (hK11 : ∀ (x1 : Int64) (x3 : Int32) (x4 : Int32) (u : MS), K11 x1 x3 x4 u → RR l D clX (tysX cs) Ev "DeckFrontModel" b_M_write 6 w_M_write (rmD (d + 2)) (some .boolean) (wdM o a cs) (pI post) 0 0 0 0 11 [(0, .ref o), (1, .long x1), (3, .int x3), (4, .int x4)] [] u) (x1 : Int64) (x3 : Int32) (x4 : Int32) (x5 : Int32) (u : MS) (h : P_M_write_45 post K11 x1 x3 x4 x5 u) : RR l D clX (tysX cs) Ev "DeckFrontModel" b_M_write 6 w_M_write (rmD (d + 2)) (some .boolean) (wdM o a cs) (pI post) 0 0 0 0 45 [(0, .ref o), (1, .long x1), (3, .int x3), (4, .int x4), (5, .int x5)] [] u := by
  unfold P_M_write_45 at h
  refine x_iload (x := x5) d_M_write_45 rfl ?_
  refine x_if_eq (tgt := 56) d_M_write_47 rfl (fun hc => ?_) (fun hc => ?_)
  · have h := h.1 hc
    refine x_iload_n (x := x3) d_M_write_56 rfl ?_
    refine x_sub [0, 1, 3] rfl ?_
    exact w_M_write_57 l D cs Ev hE o a d post K11 hK11 x1 x4 x3 u h
  · have h := h.2 hc
    refine x_iload_n (x := x3) d_M_write_50 rfl ?_
    refine x_iconst (v := 1) d_M_write_51 (by decide) ?_
    refine x_iadd d_M_write_52 ?_
    refine x_goto (tgt := 57) d_M_write_53 rfl ?_
    refine x_sub [0, 1, 3] rfl ?_
    exact w_M_write_57 l D cs Ev hE o a d post K11 hK11 x1 x4 (x3 + (1 : Int32)) u h
def P_M_write_11 (post : Int32 → MS → Prop) : Nat → Int64 → Int32 → Int32 → MS → Prop
  | 0, _, _, _, _ => False
  | f + 1, x1, x3, x4, u => ((x4 < 0 → ((((gI u 1) + x3) ≤ 72 → (∃ g, P_M_write_81 post g x1 7 u)) ∧ (¬ ((gI u 1) + x3) ≤ 72 → post 0 u))) ∧ (¬ x4 < 0 → (∀ v2, v2 = ((((x1.toUInt64 >>> (((8 : Int32) * x4).toInt64.toUInt64 &&& Int64.toUInt64 63)).toInt64).toInt32) &&& (255 : Int32)) → ((v2 = 0 → P_M_write_45 post (fun zx1 zx3 zx4 zu => P_M_write_11 post f zx1 zx3 zx4 zu) x1 x3 x4 v2 u) ∧ (¬ v2 = 0 → P_M_mayStand (fun r4 u3 => ((¬ r4 = 0 → P_M_write_45 post (fun zx1 zx3 zx4 zu => P_M_write_11 post f zx1 zx3 zx4 zu) x1 x3 x4 v2 u) ∧ (r4 = 0 → post 0 u))) v2 ())))))
set_option maxHeartbeats 600000 in
set_option maxRecDepth 100000 in
theorem w_M_write_11 (l : Launch) (D : va_G) (cs : Nat → ClassId) (Ev : (Nat → Prop) → State → Prop) (hE : xEok Ev) (o : Nat) (a : Nat → Nat) (d : Nat) (post : Int32 → MS → Prop) : ∀ (f : Nat) (x1 : Int64) (x3 : Int32) (x4 : Int32) (u : MS), P_M_write_11 post  f x1 x3 x4 u → RR l D clX (tysX cs) Ev "DeckFrontModel" b_M_write 6 w_M_write (rmD (d + 2)) (some .boolean) (wdM o a cs) (pI post) 0 0 0 0 11 [(0, .ref o), (1, .long x1), (3, .int x3), (4, .int x4)] [] u := by
  intro f
  induction f with
  | zero => intro x1 x3 x4 u h; exact h.elim
  | succ f ih =>
    intro x1 x3 x4 u h
    unfold P_M_write_11 at h
    refine x_iload (x := x4) d_M_write_11 rfl ?_
    refine x_if_lt (tgt := 64) d_M_write_13 rfl (fun hc => ?_) (fun hc => ?_)
    · have h := h.1 hc
      refine x_aload_n (x := o) d_M_write_64 rfl ?_
      refine x_get (v := .int (gI u 1)) f_M_96 (eM_o _ _ _ _) rfl d_M_write_65 ?_
      refine x_iload_n (x := x3) d_M_write_68 rfl ?_
      refine x_iadd d_M_write_69 ?_
      refine x_bipush (v := 72) d_M_write_70 (by decide) ?_
      refine x_icmp_le (tgt := 77) d_M_write_72 rfl (fun hc => ?_) (fun hc => ?_)
      · have h := h.1 hc
        refine x_bipush (v := 7) d_M_write_77 (by decide) ?_
        refine x_istore (lv' := [(4, .int 7), (0, .ref o), (1, .long x1), (3, .int x3)]) d_M_write_79 (by decide) rfl ?_
        refine x_sub [1, 2, 0] rfl ?_
        obtain ⟨f9, h⟩ := h
        exact w_M_write_81 l D cs Ev hE o a d post  f9 x1 7 u h
      · have h := h.2 hc
        refine x_iconst (v := 0) d_M_write_75 (by decide) ?_
        refine x_zret rfl d_M_write_76 ⟨_, rfl, ?_⟩
        exact h
    · have h := h.2 hc
      refine x_lload_n (x := x1) d_M_write_16 rfl ?_
      refine x_bipush (v := 8) d_M_write_17 (by decide) ?_
      refine x_iload (x := x4) d_M_write_19 rfl ?_
      refine x_imul d_M_write_21 ?_
      refine x_lushr d_M_write_22 ?_
      refine x_l2i d_M_write_23 ?_
      refine x_sipush (v := 255) d_M_write_24 (by decide) ?_
      refine x_iand d_M_write_27 ?_
      refine x_topI (fun v2 ev2 => ?_)
      have h := h v2 ev2
      refine x_istore (lv' := [(5, .int v2), (0, .ref o), (1, .long x1), (3, .int x3), (4, .int x4)]) d_M_write_28 (by decide) rfl ?_
      refine x_iload (x := v2) d_M_write_30 rfl ?_
      refine x_if_eq (tgt := 45) d_M_write_32 rfl (fun hc => ?_) (fun hc => ?_)
      · have h := h.1 hc
        refine x_sub [1, 2, 3, 4, 0] rfl ?_
        exact w_M_write_45 l D cs Ev hE o a d post (fun zx1 zx3 zx4 zu => P_M_write_11 post f zx1 zx3 zx4 zu) ih x1 x3 x4 v2 u h
      · have h := h.2 hc
        refine x_iload (x := v2) d_M_write_35 rfl ?_
        refine x_callS (st := []) k_M_93 x_none (c_M_mayStand l D cs Ev hE (d + 0) _ v2 () h) hE (rmD_ok (by omega) (by decide)) rfl (Nat.le_of_ble_eq_true rfl) rfl d_M_write_37 (x_rI (fun r4 u3 h => ?_))
        refine x_if_ne (tgt := 45) d_M_write_40 rfl (fun hc => ?_) (fun hc => ?_)
        · have h := h.1 hc
          refine x_sub [1, 2, 3, 4, 0] rfl ?_
          exact w_M_write_45 l D cs Ev hE o a d post (fun zx1 zx3 zx4 zu => P_M_write_11 post f zx1 zx3 zx4 zu) ih x1 x3 x4 v2 u h
        · have h := h.2 hc
          refine x_iconst (v := 0) d_M_write_43 (by decide) ?_
          refine x_zret rfl d_M_write_44 ⟨_, rfl, ?_⟩
          exact h
def P_M_write (post : Int32 → MS → Prop) (a0 : Int64) (u : MS) : Prop := (∃ g, P_M_write_11 post g a0 0 7 (sI u 0 (0 : Int32)))
set_option maxHeartbeats 600000 in
set_option maxRecDepth 100000 in
theorem c_M_write (l : Launch) (D : va_G) (cs : Nat → ClassId) (Ev : (Nat → Prop) → State → Prop) (hE : xEok Ev) (o : Nat) (a : Nat → Nat) (d : Nat) (post : Int32 → MS → Prop) (a0 : Int64) (u : MS) (h : P_M_write post a0 u) : xC l D clX (tysX cs) Ev y_M_write w_M_write (rmD (d + 2)) (wdM o a cs) [.ref o, .long a0] u (pI post) 0 0 := by
  unfold P_M_write at h
  refine xC.of (cc := b_M_write) (nL := 6) (ret := (some .boolean)) (by decide) rfl (Nat.le_of_ble_eq_true rfl) ?_
  show RR l D clX (tysX cs) Ev "DeckFrontModel" b_M_write 6 w_M_write (rmD (d + 2)) (some .boolean) (wdM o a cs) (pI post) 0 0 0 0 0 [(0, .ref o), (1, .long a0)] [] u
  refine x_aload_n (x := o) d_M_write_0 rfl ?_
  refine x_iconst (v := 0) d_M_write_1 (by decide) ?_
  refine x_put f_M_82 fw_M_0 (eM_o _ _ _ _) rfl rfl (Nat.le_of_ble_eq_true rfl) (sM_0 _ _ _ _ _) d_M_write_2 ?_
  refine x_iconst (v := 0) d_M_write_5 (by decide) ?_
  refine x_istore_n (lv' := [(3, .int 0), (0, .ref o), (1, .long a0)]) d_M_write_6 (by decide) rfl ?_
  refine x_bipush (v := 7) d_M_write_7 (by decide) ?_
  refine x_istore (lv' := [(4, .int 7), (3, .int 0), (0, .ref o), (1, .long a0)]) d_M_write_9 (by decide) rfl ?_
  refine x_sub [2, 3, 1, 0] rfl ?_
  obtain ⟨f9, h⟩ := h
  exact w_M_write_11 l D cs Ev hE o a d post  f9 a0 0 7 (sI u 0 (0 : Int32)) h
def P_M_isComment_32 (post : Int32 → MS → Prop) (K4 : Int32 → Int32 → MS → Prop) (x2 : Int32) (s0 : Int32) (u : MS) : Prop := K4 s0 (x2 + 1) u
set_option maxHeartbeats 600000 in
set_option maxRecDepth 100000 in
theorem w_M_isComment_32 (l : Launch) (D : va_G) (cs : Nat → ClassId) (Ev : (Nat → Prop) → State → Prop) (hE : xEok Ev) (o : Nat) (a : Nat → Nat) (d : Nat) (post : Int32 → MS → Prop) (K4 : Int32 → Int32 → MS → Prop) (hK4 : ∀ (x1 : Int32) (x2 : Int32) (u : MS), K4 x1 x2 u → RR l D clX (tysX cs) Ev "DeckFrontModel" b_M_isComment 3 w_M_isComment (rmD (d + 0)) (some .boolean) (wdM o a cs) (pI post) 0 0 0 0 4 [(0, .ref o), (1, .int x1), (2, .int x2)] [] u) (x2 : Int32) (s0 : Int32) (u : MS) (h : P_M_isComment_32 post K4 x2 s0 u) : RR l D clX (tysX cs) Ev "DeckFrontModel" b_M_isComment 3 w_M_isComment (rmD (d + 0)) (some .boolean) (wdM o a cs) (pI post) 0 0 0 0 32 [(0, .ref o), (2, .int x2)] [.int s0] u := by
  unfold P_M_isComment_32 at h
  refine x_istore_n (lv' := [(1, .int s0), (0, .ref o), (2, .int x2)]) d_M_isComment_32 (by decide) rfl ?_
  refine x_iinc (v := x2 + 1) (lv' := [(2, .int (x2 + 1)), (1, .int s0), (0, .ref o)]) d_M_isComment_33 rfl rfl (by decide) rfl ?_
  refine x_goto (tgt := 4) d_M_isComment_36 rfl ?_
  refine x_sub [2, 1, 0] rfl ?_
  exact hK4 s0 (x2 + 1) u h
def P_M_isComment_31 (post : Int32 → MS → Prop) (K4 : Int32 → Int32 → MS → Prop) (x2 : Int32) (u : MS) : Prop := P_M_isComment_32 post K4 x2 0 u
set_option maxHeartbeats 600000 in
set_option maxRecDepth 100000 in
theorem w_M_isComment_31 (l : Launch) (D : va_G) (cs : Nat → ClassId) (Ev : (Nat → Prop) → State → Prop) (hE : xEok Ev) (o : Nat) (a : Nat → Nat) (d : Nat) (post : Int32 → MS → Prop) (K4 : Int32 → Int32 → MS → Prop) (hK4 : ∀ (x1 : Int32) (x2 : Int32) (u : MS), K4 x1 x2 u → RR l D clX (tysX cs) Ev "DeckFrontModel" b_M_isComment 3 w_M_isComment (rmD (d + 0)) (some .boolean) (wdM o a cs) (pI post) 0 0 0 0 4 [(0, .ref o), (1, .int x1), (2, .int x2)] [] u) (x2 : Int32) (u : MS) (h : P_M_isComment_31 post K4 x2 u) : RR l D clX (tysX cs) Ev "DeckFrontModel" b_M_isComment 3 w_M_isComment (rmD (d + 0)) (some .boolean) (wdM o a cs) (pI post) 0 0 0 0 31 [(0, .ref o), (2, .int x2)] [] u := by
  unfold P_M_isComment_31 at h
  refine x_iconst (v := 0) d_M_isComment_31 (by decide) ?_
  exact w_M_isComment_32 l D cs Ev hE o a d post K4 hK4 x2 0 u h
def P_M_isComment_4 (post : Int32 → MS → Prop) : Nat → Int32 → Int32 → MS → Prop
  | 0, _, _, _ => False
  | f + 1, x1, x2, u => (((gI u 1) ≤ x2 → ((¬ x1 = 0 → post 1 u) ∧ (x1 = 0 → (vp_in (0 : Int32) 72 ∧ (((gA u 2 (0 : Int32).toNatClampNeg) = 67 → post 1 u) ∧ (¬ (gA u 2 (0 : Int32).toNatClampNeg) = 67 → (vp_in (0 : Int32) 72 ∧ ((¬ (gA u 2 (0 : Int32).toNatClampNeg) = 42 → post 0 u) ∧ ((gA u 2 (0 : Int32).toNatClampNeg) = 42 → post 1 u))))))))) ∧ (¬ (gI u 1) ≤ x2 → ((x1 = 0 → P_M_isComment_31 post (fun zx1 zx2 zu => P_M_isComment_4 post f zx1 zx2 zu) x2 u) ∧ (¬ x1 = 0 → (vp_in x2 72 ∧ ((¬ (gA u 2 x2.toNatClampNeg) = 32 → P_M_isComment_31 post (fun zx1 zx2 zu => P_M_isComment_4 post f zx1 zx2 zu) x2 u) ∧ ((gA u 2 x2.toNatClampNeg) = 32 → P_M_isComment_32 post (fun zx1 zx2 zu => P_M_isComment_4 post f zx1 zx2 zu) x2 1 u)))))))
set_option maxHeartbeats 600000 in
set_option maxRecDepth 100000 in
theorem w_M_isComment_4 (l : Launch) (D : va_G) (cs : Nat → ClassId) (Ev : (Nat → Prop) → State → Prop) (hE : xEok Ev) (o : Nat) (a : Nat → Nat) (d : Nat) (post : Int32 → MS → Prop) : ∀ (f : Nat) (x1 : Int32) (x2 : Int32) (u : MS), P_M_isComment_4 post  f x1 x2 u → RR l D clX (tysX cs) Ev "DeckFrontModel" b_M_isComment 3 w_M_isComment (rmD (d + 0)) (some .boolean) (wdM o a cs) (pI post) 0 0 0 0 4 [(0, .ref o), (1, .int x1), (2, .int x2)] [] u := by
  intro f
  induction f with
  | zero => intro x1 x2 u h; exact h.elim
  | succ f ih =>
    intro x1 x2 u h
    unfold P_M_isComment_4 at h
    refine x_iload_n (x := x2) d_M_isComment_4 rfl ?_
    refine x_aload_n (x := o) d_M_isComment_5 rfl ?_
    refine x_get (v := .int (gI u 1)) f_M_96 (eM_o _ _ _ _) rfl d_M_isComment_6 ?_
    refine x_icmp_ge (tgt := 39) d_M_isComment_9 rfl (fun hc => ?_) (fun hc => ?_)
    · have h := h.1 hc
      refine x_iload_n (x := x1) d_M_isComment_39 rfl ?_
      refine x_if_ne (tgt := 65) d_M_isComment_40 rfl (fun hc => ?_) (fun hc => ?_)
      · have h := h.1 hc
        refine x_iconst (v := 1) d_M_isComment_65 (by decide) ?_
        refine x_goto (tgt := 70) d_M_isComment_66 rfl ?_
        refine x_zret rfl d_M_isComment_70 ⟨_, rfl, ?_⟩
        exact h
      · have h := h.2 hc
        refine x_aload_n (x := o) d_M_isComment_43 rfl ?_
        refine x_get (v := .ref (a 2)) f_M_7 (eM_o _ _ _ _) rfl d_M_isComment_44 ?_
        refine x_iconst (v := 0) d_M_isComment_47 (by decide) ?_
        refine x_cald (t0 := 1) (eM_2 _ _ _ _) rfl h.1 d_M_isComment_48 ?_
        have h := h.2
        refine x_bipush (v := 67) d_M_isComment_49 (by decide) ?_
        refine x_icmp_eq (tgt := 65) d_M_isComment_51 rfl (fun hc => ?_) (fun hc => ?_)
        · have h := h.1 hc
          refine x_iconst (v := 1) d_M_isComment_65 (by decide) ?_
          refine x_goto (tgt := 70) d_M_isComment_66 rfl ?_
          refine x_zret rfl d_M_isComment_70 ⟨_, rfl, ?_⟩
          exact h
        · have h := h.2 hc
          refine x_aload_n (x := o) d_M_isComment_54 rfl ?_
          refine x_get (v := .ref (a 2)) f_M_7 (eM_o _ _ _ _) rfl d_M_isComment_55 ?_
          refine x_iconst (v := 0) d_M_isComment_58 (by decide) ?_
          refine x_cald (t0 := 1) (eM_2 _ _ _ _) rfl h.1 d_M_isComment_59 ?_
          have h := h.2
          refine x_bipush (v := 42) d_M_isComment_60 (by decide) ?_
          refine x_icmp_ne (tgt := 69) d_M_isComment_62 rfl (fun hc => ?_) (fun hc => ?_)
          · have h := h.1 hc
            refine x_iconst (v := 0) d_M_isComment_69 (by decide) ?_
            refine x_zret rfl d_M_isComment_70 ⟨_, rfl, ?_⟩
            exact h
          · have h := h.2 hc
            refine x_iconst (v := 1) d_M_isComment_65 (by decide) ?_
            refine x_goto (tgt := 70) d_M_isComment_66 rfl ?_
            refine x_zret rfl d_M_isComment_70 ⟨_, rfl, ?_⟩
            exact h
    · have h := h.2 hc
      refine x_iload_n (x := x1) d_M_isComment_12 rfl ?_
      refine x_if_eq (tgt := 31) d_M_isComment_13 rfl (fun hc => ?_) (fun hc => ?_)
      · have h := h.1 hc
        refine x_sub [0, 2] rfl ?_
        exact w_M_isComment_31 l D cs Ev hE o a d post (fun zx1 zx2 zu => P_M_isComment_4 post f zx1 zx2 zu) ih x2 u h
      · have h := h.2 hc
        refine x_aload_n (x := o) d_M_isComment_16 rfl ?_
        refine x_get (v := .ref (a 2)) f_M_7 (eM_o _ _ _ _) rfl d_M_isComment_17 ?_
        refine x_iload_n (x := x2) d_M_isComment_20 rfl ?_
        refine x_cald (t0 := 1) (eM_2 _ _ _ _) rfl h.1 d_M_isComment_21 ?_
        have h := h.2
        refine x_bipush (v := 32) d_M_isComment_22 (by decide) ?_
        refine x_icmp_ne (tgt := 31) d_M_isComment_24 rfl (fun hc => ?_) (fun hc => ?_)
        · have h := h.1 hc
          refine x_sub [0, 2] rfl ?_
          exact w_M_isComment_31 l D cs Ev hE o a d post (fun zx1 zx2 zu => P_M_isComment_4 post f zx1 zx2 zu) ih x2 u h
        · have h := h.2 hc
          refine x_iconst (v := 1) d_M_isComment_27 (by decide) ?_
          refine x_goto (tgt := 32) d_M_isComment_28 rfl ?_
          refine x_sub [0, 2] rfl ?_
          exact w_M_isComment_32 l D cs Ev hE o a d post (fun zx1 zx2 zu => P_M_isComment_4 post f zx1 zx2 zu) ih x2 1 u h
def P_M_isComment (post : Int32 → MS → Prop) (u : MS) : Prop := (∃ g, P_M_isComment_4 post g 1 0 u)
set_option maxHeartbeats 600000 in
set_option maxRecDepth 100000 in
theorem c_M_isComment (l : Launch) (D : va_G) (cs : Nat → ClassId) (Ev : (Nat → Prop) → State → Prop) (hE : xEok Ev) (o : Nat) (a : Nat → Nat) (d : Nat) (post : Int32 → MS → Prop) (u : MS) (h : P_M_isComment post  u) : xC l D clX (tysX cs) Ev y_M_isComment w_M_isComment (rmD (d + 0)) (wdM o a cs) [.ref o] u (pI post) 0 0 := by
  unfold P_M_isComment at h
  refine xC.of (cc := b_M_isComment) (nL := 3) (ret := (some .boolean)) (by decide) rfl (Nat.le_of_ble_eq_true rfl) ?_
  show RR l D clX (tysX cs) Ev "DeckFrontModel" b_M_isComment 3 w_M_isComment (rmD (d + 0)) (some .boolean) (wdM o a cs) (pI post) 0 0 0 0 0 [(0, .ref o)] [] u
  refine x_iconst (v := 1) d_M_isComment_0 (by decide) ?_
  refine x_istore_n (lv' := [(1, .int 1), (0, .ref o)]) d_M_isComment_1 (by decide) rfl ?_
  refine x_iconst (v := 0) d_M_isComment_2 (by decide) ?_
  refine x_istore_n (lv' := [(2, .int 0), (1, .int 1), (0, .ref o)]) d_M_isComment_3 (by decide) rfl ?_
  refine x_sub [2, 1, 0] rfl ?_
  obtain ⟨f9, h⟩ := h
  exact w_M_isComment_4 l D cs Ev hE o a d post  f9 1 0 u h
def P_M_inQuote_43 (post : Int32 → MS → Prop) (K4 : Int32 → Int32 → Int32 → MS → Prop) (x1 : Int32) (x3 : Int32) (s0 : Int32) (u : MS) : Prop := K4 x1 s0 (x3 + 1) u
set_option maxHeartbeats 600000 in
set_option maxRecDepth 100000 in
theorem w_M_inQuote_43 (l : Launch) (D : va_G) (cs : Nat → ClassId) (Ev : (Nat → Prop) → State → Prop) (hE : xEok Ev) (o : Nat) (a : Nat → Nat) (d : Nat) (post : Int32 → MS → Prop) (K4 : Int32 → Int32 → Int32 → MS → Prop) (hK4 : ∀ (x1 : Int32) (x2 : Int32) (x3 : Int32) (u : MS), K4 x1 x2 x3 u → RR l D clX (tysX cs) Ev "DeckFrontModel" b_M_inQuote 4 w_M_inQuote (rmD (d + 0)) (some .boolean) (wdM o a cs) (pI post) 0 0 0 0 4 [(0, .ref o), (1, .int x1), (2, .int x2), (3, .int x3)] [] u) (x1 : Int32) (x3 : Int32) (s0 : Int32) (u : MS) (h : P_M_inQuote_43 post K4 x1 x3 s0 u) : RR l D clX (tysX cs) Ev "DeckFrontModel" b_M_inQuote 4 w_M_inQuote (rmD (d + 0)) (some .boolean) (wdM o a cs) (pI post) 0 0 0 0 43 [(0, .ref o), (1, .int x1), (3, .int x3)] [.int s0] u := by
  unfold P_M_inQuote_43 at h
  refine x_istore_n (lv' := [(2, .int s0), (0, .ref o), (1, .int x1), (3, .int x3)]) d_M_inQuote_43 (by decide) rfl ?_
  refine x_iinc (v := x3 + 1) (lv' := [(3, .int (x3 + 1)), (2, .int s0), (0, .ref o), (1, .int x1)]) d_M_inQuote_44 rfl rfl (by decide) rfl ?_
  refine x_goto (tgt := 4) d_M_inQuote_47 rfl ?_
  refine x_sub [2, 3, 1, 0] rfl ?_
  exact hK4 x1 s0 (x3 + 1) u h
def P_M_inQuote_4 (post : Int32 → MS → Prop) : Nat → Int32 → Int32 → Int32 → MS → Prop
  | 0, _, _, _, _ => False
  | f + 1, x1, x2, x3, u => (vp_in x1 24 ∧ (((gA u 5 x1.toNatClampNeg) ≤ x3 → (narrow .boolean (.int x2) = .int x2 ∧ post x2 u)) ∧ (¬ (gA u 5 x1.toNatClampNeg) ≤ x3 → (vp_in (((80 : Int32) * x1) + x3) 1920 ∧ ((¬ (gA u 6 (((80 : Int32) * x1) + x3).toNatClampNeg) = 39 → P_M_inQuote_43 post (fun zx1 zx2 zx3 zu => P_M_inQuote_4 post f zx1 zx2 zx3 zu) x1 x3 x2 u) ∧ ((gA u 6 (((80 : Int32) * x1) + x3).toNatClampNeg) = 39 → ((¬ x2 = 0 → P_M_inQuote_43 post (fun zx1 zx2 zx3 zu => P_M_inQuote_4 post f zx1 zx2 zx3 zu) x1 x3 0 u) ∧ (x2 = 0 → P_M_inQuote_43 post (fun zx1 zx2 zx3 zu => P_M_inQuote_4 post f zx1 zx2 zx3 zu) x1 x3 1 u))))))))
set_option maxHeartbeats 600000 in
set_option maxRecDepth 100000 in
theorem w_M_inQuote_4 (l : Launch) (D : va_G) (cs : Nat → ClassId) (Ev : (Nat → Prop) → State → Prop) (hE : xEok Ev) (o : Nat) (a : Nat → Nat) (d : Nat) (post : Int32 → MS → Prop) : ∀ (f : Nat) (x1 : Int32) (x2 : Int32) (x3 : Int32) (u : MS), P_M_inQuote_4 post  f x1 x2 x3 u → RR l D clX (tysX cs) Ev "DeckFrontModel" b_M_inQuote 4 w_M_inQuote (rmD (d + 0)) (some .boolean) (wdM o a cs) (pI post) 0 0 0 0 4 [(0, .ref o), (1, .int x1), (2, .int x2), (3, .int x3)] [] u := by
  intro f
  induction f with
  | zero => intro x1 x2 x3 u h; exact h.elim
  | succ f ih =>
    intro x1 x2 x3 u h
    unfold P_M_inQuote_4 at h
    refine x_iload_n (x := x3) d_M_inQuote_4 rfl ?_
    refine x_aload_n (x := o) d_M_inQuote_5 rfl ?_
    refine x_get (v := .ref (a 5)) f_M_17 (eM_o _ _ _ _) rfl d_M_inQuote_6 ?_
    refine x_iload_n (x := x1) d_M_inQuote_9 rfl ?_
    refine x_iald (t0 := 0) (eM_5 _ _ _ _) rfl h.1 d_M_inQuote_10 ?_
    have h := h.2
    refine x_icmp_ge (tgt := 50) d_M_inQuote_11 rfl (fun hc => ?_) (fun hc => ?_)
    · have h := h.1 hc
      refine x_iload_n (x := x2) d_M_inQuote_50 rfl ?_
      refine x_zret h.1 d_M_inQuote_51 ⟨_, rfl, ?_⟩
      exact h.2
    · have h := h.2 hc
      refine x_aload_n (x := o) d_M_inQuote_14 rfl ?_
      refine x_get (v := .ref (a 6)) f_M_20 (eM_o _ _ _ _) rfl d_M_inQuote_15 ?_
      refine x_bipush (v := 80) d_M_inQuote_18 (by decide) ?_
      refine x_iload_n (x := x1) d_M_inQuote_20 rfl ?_
      refine x_imul d_M_inQuote_21 ?_
      refine x_iload_n (x := x3) d_M_inQuote_22 rfl ?_
      refine x_iadd d_M_inQuote_23 ?_
      refine x_cald (t0 := 1) (eM_6 _ _ _ _) rfl h.1 d_M_inQuote_24 ?_
      have h := h.2
      refine x_bipush (v := 39) d_M_inQuote_25 (by decide) ?_
      refine x_icmp_ne (tgt := 42) d_M_inQuote_27 rfl (fun hc => ?_) (fun hc => ?_)
      · have h := h.1 hc
        refine x_iload_n (x := x2) d_M_inQuote_42 rfl ?_
        refine x_sub [0, 1, 3] rfl ?_
        exact w_M_inQuote_43 l D cs Ev hE o a d post (fun zx1 zx2 zx3 zu => P_M_inQuote_4 post f zx1 zx2 zx3 zu) ih x1 x3 x2 u h
      · have h := h.2 hc
        refine x_iload_n (x := x2) d_M_inQuote_30 rfl ?_
        refine x_if_ne (tgt := 38) d_M_inQuote_31 rfl (fun hc => ?_) (fun hc => ?_)
        · have h := h.1 hc
          refine x_iconst (v := 0) d_M_inQuote_38 (by decide) ?_
          refine x_goto (tgt := 43) d_M_inQuote_39 rfl ?_
          refine x_sub [0, 1, 3] rfl ?_
          exact w_M_inQuote_43 l D cs Ev hE o a d post (fun zx1 zx2 zx3 zu => P_M_inQuote_4 post f zx1 zx2 zx3 zu) ih x1 x3 0 u h
        · have h := h.2 hc
          refine x_iconst (v := 1) d_M_inQuote_34 (by decide) ?_
          refine x_goto (tgt := 43) d_M_inQuote_35 rfl ?_
          refine x_sub [0, 1, 3] rfl ?_
          exact w_M_inQuote_43 l D cs Ev hE o a d post (fun zx1 zx2 zx3 zu => P_M_inQuote_4 post f zx1 zx2 zx3 zu) ih x1 x3 1 u h
def P_M_inQuote (post : Int32 → MS → Prop) (a0 : Int32) (u : MS) : Prop := (∃ g, P_M_inQuote_4 post g a0 0 0 u)
set_option maxHeartbeats 600000 in
set_option maxRecDepth 100000 in
theorem c_M_inQuote (l : Launch) (D : va_G) (cs : Nat → ClassId) (Ev : (Nat → Prop) → State → Prop) (hE : xEok Ev) (o : Nat) (a : Nat → Nat) (d : Nat) (post : Int32 → MS → Prop) (a0 : Int32) (u : MS) (h : P_M_inQuote post a0 u) : xC l D clX (tysX cs) Ev y_M_inQuote w_M_inQuote (rmD (d + 0)) (wdM o a cs) [.ref o, .int a0] u (pI post) 0 0 := by
  unfold P_M_inQuote at h
  refine xC.of (cc := b_M_inQuote) (nL := 4) (ret := (some .boolean)) (by decide) rfl (Nat.le_of_ble_eq_true rfl) ?_
  show RR l D clX (tysX cs) Ev "DeckFrontModel" b_M_inQuote 4 w_M_inQuote (rmD (d + 0)) (some .boolean) (wdM o a cs) (pI post) 0 0 0 0 0 [(0, .ref o), (1, .int a0)] [] u
  refine x_iconst (v := 0) d_M_inQuote_0 (by decide) ?_
  refine x_istore_n (lv' := [(2, .int 0), (0, .ref o), (1, .int a0)]) d_M_inQuote_1 (by decide) rfl ?_
  refine x_iconst (v := 0) d_M_inQuote_2 (by decide) ?_
  refine x_istore_n (lv' := [(3, .int 0), (2, .int 0), (0, .ref o), (1, .int a0)]) d_M_inQuote_3 (by decide) rfl ?_
  refine x_sub [2, 3, 1, 0] rfl ?_
  obtain ⟨f9, h⟩ := h
  exact w_M_inQuote_4 l D cs Ev hE o a d post  f9 a0 0 0 u h
