def P_T_append_114 (post : Int32 → MS → Prop) (v : MS) (K14 : Int32 → Int32 → Int32 → MS → Prop) (x2 : Int32) (x3 : Int32) (x4 : Int32) (u : MS) : Prop := K14 x2 x3 (x4 + 1) u
set_option maxHeartbeats 600000 in
set_option maxRecDepth 100000 in
theorem w_T_append_114 (l : Launch) (D : va_G) (cs : Nat → ClassId) (Ev : (Nat → Prop) → State → Prop) (hE : xEok Ev) (adK adV : Nat → Nat) (fm : Option Nat) (X : xEv adK adV fm Ev) (o : Nat) (a : Nat → Nat) (co : Nat) (ca : Nat → Nat) (v : MS) (d : Nat) (post : Int32 → MS → Prop) (K14 : Int32 → Int32 → Int32 → MS → Prop) (hK14 : ∀ (x2 : Int32) (x3 : Int32) (x4 : Int32) (u : MS), K14 x2 x3 x4 u → RR l D clX (tysX cs) Ev "DeckFront$Tape" b_T_append 6 w_T_append (rmD (d + 0)) (some .boolean) (wdSC o a co ca cs v) (pI post) 0 0 0 0 14 [(0, .ref o), (1, .ref co), (2, .int x2), (3, .int x3), (4, .int x4)] [] u) (x2 : Int32) (x3 : Int32) (x4 : Int32) (u : MS) (h : P_T_append_114 post v K14 x2 x3 x4 u) : RR l D clX (tysX cs) Ev "DeckFront$Tape" b_T_append 6 w_T_append (rmD (d + 0)) (some .boolean) (wdSC o a co ca cs v) (pI post) 0 0 0 0 114 [(0, .ref o), (1, .ref co), (2, .int x2), (3, .int x3), (4, .int x4)] [] u := by
  unfold P_T_append_114 at h
  refine x_iinc (v := x4 + 1) (lv' := [(4, .int (x4 + 1)), (0, .ref o), (1, .ref co), (2, .int x2), (3, .int x3)]) d_T_append_114 rfl rfl (by decide) rfl ?_
  refine x_goto (tgt := 14) d_T_append_117 rfl ?_
  refine x_sub [1, 2, 3, 4, 0] rfl ?_
  exact hK14 x2 x3 (x4 + 1) u h
def P_T_append_72 (post : Int32 → MS → Prop) (v : MS) (K14 : Int32 → Int32 → Int32 → MS → Prop) (x2 : Int32) (x3 : Int32) (x4 : Int32) (x5 : Int32) (u : MS) : Prop := (((gI u 4) < 80 → (vp_in (gI u 4) 80 ∧ P_T_append_114 post v K14 x2 x3 x4 (sI (sA u 0 (gI u 4).toNatClampNeg (vp_nar .char x5)) 4 ((gI u 4) + (1 : Int32))))) ∧ (¬ (gI u 4) < 80 → ((narrow .boolean (.int x3) = .int x3 ∧ fits .boolean (.int x3) = true) ∧ post 0 (sI (sI u 4 x2) 6 x3))))
set_option maxHeartbeats 600000 in
set_option maxRecDepth 100000 in
theorem w_T_append_72 (l : Launch) (D : va_G) (cs : Nat → ClassId) (Ev : (Nat → Prop) → State → Prop) (hE : xEok Ev) (adK adV : Nat → Nat) (fm : Option Nat) (X : xEv adK adV fm Ev) (o : Nat) (a : Nat → Nat) (co : Nat) (ca : Nat → Nat) (v : MS) (d : Nat) (post : Int32 → MS → Prop) (K14 : Int32 → Int32 → Int32 → MS → Prop) (hK14 : ∀ (x2 : Int32) (x3 : Int32) (x4 : Int32) (u : MS), K14 x2 x3 x4 u → RR l D clX (tysX cs) Ev "DeckFront$Tape" b_T_append 6 w_T_append (rmD (d + 0)) (some .boolean) (wdSC o a co ca cs v) (pI post) 0 0 0 0 14 [(0, .ref o), (1, .ref co), (2, .int x2), (3, .int x3), (4, .int x4)] [] u) (x2 : Int32) (x3 : Int32) (x4 : Int32) (x5 : Int32) (u : MS) (h : P_T_append_72 post v K14 x2 x3 x4 x5 u) : RR l D clX (tysX cs) Ev "DeckFront$Tape" b_T_append 6 w_T_append (rmD (d + 0)) (some .boolean) (wdSC o a co ca cs v) (pI post) 0 0 0 0 72 [(0, .ref o), (1, .ref co), (2, .int x2), (3, .int x3), (4, .int x4), (5, .int x5)] [] u := by
  unfold P_T_append_72 at h
  refine x_aload_n (x := o) d_T_append_72 rfl ?_
  refine x_get (v := .int (gI u 4)) f_T_25 (eSC_o _ _ _ _ _ _ _) rfl d_T_append_73 ?_
  refine x_bipush (v := 80) d_T_append_76 (by decide) ?_
  refine x_icmp_lt (tgt := 93) d_T_append_78 rfl (fun hc => ?_) (fun hc => ?_)
  · have h := h.1 hc
    refine x_aload_n (x := o) d_T_append_93 rfl ?_
    refine x_get (v := .ref (a 0)) f_T_9 (eSC_o _ _ _ _ _ _ _) rfl d_T_append_94 ?_
    refine x_aload_n (x := o) d_T_append_97 rfl ?_
    refine x_get (v := .int (gI u 4)) f_T_25 (eSC_o _ _ _ _ _ _ _) rfl d_T_append_98 ?_
    refine x_iload (x := x5) d_T_append_101 rfl ?_
    refine x_cast (t0 := 1) (eSC_0 _ _ _ _ _ _ _) rfl h.1 (sSC_0 _ _ _ _ _ _ _ _ _) d_T_append_103 ?_
    have h := h.2
    refine x_aload_n (x := o) d_T_append_104 rfl ?_
    refine x_dup d_T_append_105 rfl ?_
    refine x_get (v := .int (gI u 4)) f_T_25 (eSC_o _ _ _ _ _ _ _) rfl d_T_append_106 ?_
    refine x_iconst (v := 1) d_T_append_109 (by decide) ?_
    refine x_iadd d_T_append_110 ?_
    refine x_put f_T_25 fw_S_4 (eSC_o _ _ _ _ _ _ _) rfl rfl (Nat.le_of_ble_eq_true rfl) (sSC_4 _ _ _ _ _ _ _ _) d_T_append_111 ?_
    refine x_sub [0, 1, 2, 3, 4] rfl ?_
    exact w_T_append_114 l D cs Ev hE adK adV fm X o a co ca v d post K14 hK14 x2 x3 x4 (sI (sA u 0 (gI u 4).toNatClampNeg (vp_nar .char x5)) 4 ((gI u 4) + (1 : Int32))) h
  · have h := h.2 hc
    refine x_aload_n (x := o) d_T_append_81 rfl ?_
    refine x_iload_n (x := x2) d_T_append_82 rfl ?_
    refine x_put f_T_25 fw_S_4 (eSC_o _ _ _ _ _ _ _) rfl rfl (Nat.le_of_ble_eq_true rfl) (sSC_4 _ _ _ _ _ _ _ _) d_T_append_83 ?_
    refine x_aload_n (x := o) d_T_append_86 rfl ?_
    refine x_iload_n (x := x3) d_T_append_87 rfl ?_
    refine x_put f_T_32 fw_S_6 (eSC_o _ _ _ _ _ _ _) h.1.1 h.1.2 (Nat.le_of_ble_eq_true rfl) (sSC_6 _ _ _ _ _ _ _ _) d_T_append_88 ?_
    have h := h.2
    refine x_iconst (v := 0) d_T_append_91 (by decide) ?_
    refine x_zret rfl d_T_append_92 ⟨_, rfl, ?_⟩
    exact h
def P_T_append_55 (post : Int32 → MS → Prop) (v : MS) (K14 : Int32 → Int32 → Int32 → MS → Prop) (x2 : Int32) (x3 : Int32) (x4 : Int32) (x5 : Int32) (u : MS) : Prop := ((¬ x5 = 32 → P_T_append_72 post v K14 x2 x3 x4 x5 u) ∧ (x5 = 32 → ((¬ (gI u 6) = 0 → P_T_append_72 post v K14 x2 x3 x4 x5 u) ∧ ((gI u 6) = 0 → P_T_append_114 post v K14 x2 x3 x4 u))))
set_option maxHeartbeats 600000 in
set_option maxRecDepth 100000 in
theorem w_T_append_55 (l : Launch) (D : va_G) (cs : Nat → ClassId) (Ev : (Nat → Prop) → State → Prop) (hE : xEok Ev) (adK adV : Nat → Nat) (fm : Option Nat) (X : xEv adK adV fm Ev) (o : Nat) (a : Nat → Nat) (co : Nat) (ca : Nat → Nat) (v : MS) (d : Nat) (post : Int32 → MS → Prop) (K14 : Int32 → Int32 → Int32 → MS → Prop) (hK14 : ∀ (x2 : Int32) (x3 : Int32) (x4 : Int32) (u : MS), K14 x2 x3 x4 u → RR l D clX (tysX cs) Ev "DeckFront$Tape" b_T_append 6 w_T_append (rmD (d + 0)) (some .boolean) (wdSC o a co ca cs v) (pI post) 0 0 0 0 14 [(0, .ref o), (1, .ref co), (2, .int x2), (3, .int x3), (4, .int x4)] [] u) (x2 : Int32) (x3 : Int32) (x4 : Int32) (x5 : Int32) (u : MS) (h : P_T_append_55 post v K14 x2 x3 x4 x5 u) : RR l D clX (tysX cs) Ev "DeckFront$Tape" b_T_append 6 w_T_append (rmD (d + 0)) (some .boolean) (wdSC o a co ca cs v) (pI post) 0 0 0 0 55 [(0, .ref o), (1, .ref co), (2, .int x2), (3, .int x3), (4, .int x4), (5, .int x5)] [] u := by
  unfold P_T_append_55 at h
  refine x_iload (x := x5) d_T_append_55 rfl ?_
  refine x_bipush (v := 32) d_T_append_57 (by decide) ?_
  refine x_icmp_ne (tgt := 72) d_T_append_59 rfl (fun hc => ?_) (fun hc => ?_)
  · have h := h.1 hc
    exact w_T_append_72 l D cs Ev hE adK adV fm X o a co ca v d post K14 hK14 x2 x3 x4 x5 u h
  · have h := h.2 hc
    refine x_aload_n (x := o) d_T_append_62 rfl ?_
    refine x_get (v := .int (gI u 6)) f_T_32 (eSC_o _ _ _ _ _ _ _) rfl d_T_append_63 ?_
    refine x_if_ne (tgt := 72) d_T_append_66 rfl (fun hc => ?_) (fun hc => ?_)
    · have h := h.1 hc
      exact w_T_append_72 l D cs Ev hE adK adV fm X o a co ca v d post K14 hK14 x2 x3 x4 x5 u h
    · have h := h.2 hc
      refine x_goto (tgt := 114) d_T_append_69 rfl ?_
      refine x_sub [0, 1, 2, 3, 4] rfl ?_
      exact w_T_append_114 l D cs Ev hE adK adV fm X o a co ca v d post K14 hK14 x2 x3 x4 u h
def P_T_append_52 (post : Int32 → MS → Prop) (v : MS) (K14 : Int32 → Int32 → Int32 → MS → Prop) (x2 : Int32) (x3 : Int32) (x4 : Int32) (x5 : Int32) (s0 : Int32) (u : MS) : Prop := ((narrow .boolean (.int s0) = .int s0 ∧ fits .boolean (.int s0) = true) ∧ P_T_append_55 post v K14 x2 x3 x4 x5 (sI u 6 s0))
set_option maxHeartbeats 600000 in
set_option maxRecDepth 100000 in
theorem w_T_append_52 (l : Launch) (D : va_G) (cs : Nat → ClassId) (Ev : (Nat → Prop) → State → Prop) (hE : xEok Ev) (adK adV : Nat → Nat) (fm : Option Nat) (X : xEv adK adV fm Ev) (o : Nat) (a : Nat → Nat) (co : Nat) (ca : Nat → Nat) (v : MS) (d : Nat) (post : Int32 → MS → Prop) (K14 : Int32 → Int32 → Int32 → MS → Prop) (hK14 : ∀ (x2 : Int32) (x3 : Int32) (x4 : Int32) (u : MS), K14 x2 x3 x4 u → RR l D clX (tysX cs) Ev "DeckFront$Tape" b_T_append 6 w_T_append (rmD (d + 0)) (some .boolean) (wdSC o a co ca cs v) (pI post) 0 0 0 0 14 [(0, .ref o), (1, .ref co), (2, .int x2), (3, .int x3), (4, .int x4)] [] u) (x2 : Int32) (x3 : Int32) (x4 : Int32) (x5 : Int32) (s0 : Int32) (u : MS) (h : P_T_append_52 post v K14 x2 x3 x4 x5 s0 u) : RR l D clX (tysX cs) Ev "DeckFront$Tape" b_T_append 6 w_T_append (rmD (d + 0)) (some .boolean) (wdSC o a co ca cs v) (pI post) 0 0 0 0 52 [(0, .ref o), (1, .ref co), (2, .int x2), (3, .int x3), (4, .int x4), (5, .int x5)] [.int s0, .ref o] u := by
  unfold P_T_append_52 at h
  refine x_put f_T_32 fw_S_6 (eSC_o _ _ _ _ _ _ _) h.1.1 h.1.2 (Nat.le_of_ble_eq_true rfl) (sSC_6 _ _ _ _ _ _ _ _) d_T_append_52 ?_
  have h := h.2
  exact w_T_append_55 l D cs Ev hE adK adV fm X o a co ca v d post K14 hK14 x2 x3 x4 x5 (sI u 6 s0) h
def P_T_append_14 (post : Int32 → MS → Prop) (v : MS) : Nat → Int32 → Int32 → Int32 → MS → Prop
  | 0, _, _, _, _ => False
  | f + 1, x2, x3, x4, u => (((gI v 1) ≤ x4 → post 1 u) ∧ (¬ (gI v 1) ≤ x4 → (vp_in x4 72 ∧ (∀ v3, v3 = (gA v 0 x4.toNatClampNeg) → ((¬ v3 = 39 → P_T_append_55 post v (fun zx2 zx3 zx4 zu => P_T_append_14 post v f zx2 zx3 zx4 zu) x2 x3 x4 v3 u) ∧ (v3 = 39 → ((¬ (gI u 6) = 0 → P_T_append_52 post v (fun zx2 zx3 zx4 zu => P_T_append_14 post v f zx2 zx3 zx4 zu) x2 x3 x4 v3 0 u) ∧ ((gI u 6) = 0 → P_T_append_52 post v (fun zx2 zx3 zx4 zu => P_T_append_14 post v f zx2 zx3 zx4 zu) x2 x3 x4 v3 1 u))))))))
set_option maxHeartbeats 600000 in
set_option maxRecDepth 100000 in
theorem w_T_append_14 (l : Launch) (D : va_G) (cs : Nat → ClassId) (Ev : (Nat → Prop) → State → Prop) (hE : xEok Ev) (adK adV : Nat → Nat) (fm : Option Nat) (X : xEv adK adV fm Ev) (o : Nat) (a : Nat → Nat) (co : Nat) (ca : Nat → Nat) (v : MS) (d : Nat) (post : Int32 → MS → Prop) : ∀ (f : Nat) (x2 : Int32) (x3 : Int32) (x4 : Int32) (u : MS), P_T_append_14 post v  f x2 x3 x4 u → RR l D clX (tysX cs) Ev "DeckFront$Tape" b_T_append 6 w_T_append (rmD (d + 0)) (some .boolean) (wdSC o a co ca cs v) (pI post) 0 0 0 0 14 [(0, .ref o), (1, .ref co), (2, .int x2), (3, .int x3), (4, .int x4)] [] u := by
  intro f
  induction f with
  | zero => intro x2 x3 x4 u h; exact h.elim
  | succ f ih =>
    intro x2 x3 x4 u h
    unfold P_T_append_14 at h
    refine x_iload (x := x4) d_T_append_14 rfl ?_
    refine x_aload_n (x := co) d_T_append_16 rfl ?_
    refine x_get (v := .int (gI v 1)) f_T_36 (eSC_c _ _ _ _ _ _ _) rfl d_T_append_17 ?_
    refine x_icmp_ge (tgt := 120) d_T_append_20 rfl (fun hc => ?_) (fun hc => ?_)
    · have h := h.1 hc
      refine x_iconst (v := 1) d_T_append_120 (by decide) ?_
      refine x_zret rfl d_T_append_121 ⟨_, rfl, ?_⟩
      exact h
    · have h := h.2 hc
      refine x_aload_n (x := co) d_T_append_23 rfl ?_
      refine x_get (v := .ref (ca 0)) f_T_39 (eSC_c _ _ _ _ _ _ _) rfl d_T_append_24 ?_
      refine x_iload (x := x4) d_T_append_27 rfl ?_
      refine x_cald (t0 := 1) (eSC_ca _ _ _ _ _ _ _) rfl h.1 d_T_append_29 ?_
      have h := h.2
      refine x_topI (fun v3 ev3 => ?_)
      have h := h v3 ev3
      refine x_istore (lv' := [(5, .int v3), (0, .ref o), (1, .ref co), (2, .int x2), (3, .int x3), (4, .int x4)]) d_T_append_30 (by decide) rfl ?_
      refine x_iload (x := v3) d_T_append_32 rfl ?_
      refine x_bipush (v := 39) d_T_append_34 (by decide) ?_
      refine x_icmp_ne (tgt := 55) d_T_append_36 rfl (fun hc => ?_) (fun hc => ?_)
      · have h := h.1 hc
        refine x_sub [1, 2, 3, 4, 5, 0] rfl ?_
        exact w_T_append_55 l D cs Ev hE adK adV fm X o a co ca v d post (fun zx2 zx3 zx4 zu => P_T_append_14 post v f zx2 zx3 zx4 zu) ih x2 x3 x4 v3 u h
      · have h := h.2 hc
        refine x_aload_n (x := o) d_T_append_39 rfl ?_
        refine x_aload_n (x := o) d_T_append_40 rfl ?_
        refine x_get (v := .int (gI u 6)) f_T_32 (eSC_o _ _ _ _ _ _ _) rfl d_T_append_41 ?_
        refine x_if_ne (tgt := 51) d_T_append_44 rfl (fun hc => ?_) (fun hc => ?_)
        · have h := h.1 hc
          refine x_iconst (v := 0) d_T_append_51 (by decide) ?_
          refine x_sub [1, 2, 3, 4, 5, 0] rfl ?_
          exact w_T_append_52 l D cs Ev hE adK adV fm X o a co ca v d post (fun zx2 zx3 zx4 zu => P_T_append_14 post v f zx2 zx3 zx4 zu) ih x2 x3 x4 v3 0 u h
        · have h := h.2 hc
          refine x_iconst (v := 1) d_T_append_47 (by decide) ?_
          refine x_goto (tgt := 52) d_T_append_48 rfl ?_
          refine x_sub [1, 2, 3, 4, 5, 0] rfl ?_
          exact w_T_append_52 l D cs Ev hE adK adV fm X o a co ca v d post (fun zx2 zx3 zx4 zu => P_T_append_14 post v f zx2 zx3 zx4 zu) ih x2 x3 x4 v3 1 u h
def P_T_append (post : Int32 → MS → Prop) (v : MS) (u : MS) : Prop := (∀ v1, v1 = (gI u 4) → (∀ v2, v2 = (gI u 6) → (∃ g, P_T_append_14 post v g v1 v2 6 u)))
set_option maxHeartbeats 600000 in
set_option maxRecDepth 100000 in
theorem c_T_append (l : Launch) (D : va_G) (cs : Nat → ClassId) (Ev : (Nat → Prop) → State → Prop) (hE : xEok Ev) (adK adV : Nat → Nat) (fm : Option Nat) (X : xEv adK adV fm Ev) (o : Nat) (a : Nat → Nat) (co : Nat) (ca : Nat → Nat) (v : MS) (d : Nat) (post : Int32 → MS → Prop) (u : MS) (h : P_T_append post v  u) : xC l D clX (tysX cs) Ev y_T_append w_T_append (rmD (d + 0)) (wdSC o a co ca cs v) [.ref o, .ref co] u (pI post) 0 0 := by
  unfold P_T_append at h
  refine xC.of (cc := b_T_append) (nL := 6) (ret := (some .boolean)) (by decide) rfl (Nat.le_of_ble_eq_true rfl) ?_
  show RR l D clX (tysX cs) Ev "DeckFront$Tape" b_T_append 6 w_T_append (rmD (d + 0)) (some .boolean) (wdSC o a co ca cs v) (pI post) 0 0 0 0 0 [(0, .ref o), (1, .ref co)] [] u
  refine x_aload_n (x := o) d_T_append_0 rfl ?_
  refine x_get (v := .int (gI u 4)) f_T_25 (eSC_o _ _ _ _ _ _ _) rfl d_T_append_1 ?_
  refine x_topI (fun v1 ev1 => ?_)
  have h := h v1 ev1
  refine x_istore_n (lv' := [(2, .int v1), (0, .ref o), (1, .ref co)]) d_T_append_4 (by decide) rfl ?_
  refine x_aload_n (x := o) d_T_append_5 rfl ?_
  refine x_get (v := .int (gI u 6)) f_T_32 (eSC_o _ _ _ _ _ _ _) rfl d_T_append_6 ?_
  refine x_topI (fun v2 ev2 => ?_)
  have h := h v2 ev2
  refine x_istore_n (lv' := [(3, .int v2), (2, .int v1), (0, .ref o), (1, .ref co)]) d_T_append_9 (by decide) rfl ?_
  refine x_bipush (v := 6) d_T_append_10 (by decide) ?_
  refine x_istore (lv' := [(4, .int 6), (3, .int v2), (2, .int v1), (0, .ref o), (1, .ref co)]) d_T_append_12 (by decide) rfl ?_
  refine x_sub [3, 4, 2, 1, 0] rfl ?_
  obtain ⟨f9, h⟩ := h
  exact w_T_append_14 l D cs Ev hE adK adV fm X o a co ca v d post  f9 v1 v2 6 u h
def P_K_find (post : Option Nat → XS → Prop) (a0 : Int32) (u : XS) : Prop := ((a0 < 0 → post none u) ∧ (¬ a0 < 0 → ((a0 < (gI u.2.1 1) → (vp_in a0 24 ∧ post (some a0.toNatClampNeg) u)) ∧ (¬ a0 < (gI u.2.1 1) → post none u))))
set_option maxHeartbeats 600000 in
set_option maxRecDepth 100000 in
theorem c_K_find (l : Launch) (D : va_G) (cs : Nat → ClassId) (Ev : (Nat → Prop) → State → Prop) (hE : xEok Ev) (adK adV : Nat → Nat) (fm : Option Nat) (X : xEv adK adV fm Ev) (ad to : Nat → Nat) (ta : Nat → Nat → Nat) (d : Nat) (post : Option Nat → XS → Prop) (a0 : Int32) (u : XS) (h : P_K_find post a0 u) : xC l D clX (tysX cs) Ev y_K_find w_K_find (rmD (d + 0)) (wdX ad to ta cs) [.ref (ad 3), .int a0] u (pF to post) 0 0 := by
  unfold P_K_find at h
  refine xC.of (cc := b_K_find) (nL := 2) (ret := (some (.object "DeckFront$Statement"))) (by decide) rfl (Nat.le_of_ble_eq_true rfl) ?_
  show RR l D clX (tysX cs) Ev "DeckFront$Deck" b_K_find 2 w_K_find (rmD (d + 0)) (some (.object "DeckFront$Statement")) (wdX ad to ta cs) (pF to post) 0 0 0 0 0 [(0, .ref (ad 3)), (1, .int a0)] [] u
  refine x_iload_n (x := a0) d_K_find_0 rfl ?_
  refine x_if_lt (tgt := 12) d_K_find_1 rfl (fun hc => ?_) (fun hc => ?_)
  · have h := h.1 hc
    refine x_null d_K_find_12 ?_
    refine x_goto (tgt := 22) d_K_find_13 rfl ?_
    refine x_aret (Or.inl ⟨_, rfl⟩) (Or.inl rfl) d_K_find_22 ⟨none, rfl, ?_⟩
    exact h
  · have h := h.2 hc
    refine x_iload_n (x := a0) d_K_find_4 rfl ?_
    refine x_aload_n (x := (ad 3)) d_K_find_5 rfl ?_
    refine x_get (v := .int (gI u.2.1 1)) f_K_18 (eX_3 ad to ta cs u.1 u.2.1 u.2.2.1 u.2.2.2) rfl d_K_find_6 ?_
    refine x_icmp_lt (tgt := 16) d_K_find_9 rfl (fun hc => ?_) (fun hc => ?_)
    · have h := h.1 hc
      refine x_aload_n (x := (ad 3)) d_K_find_16 rfl ?_
      refine x_get (v := .ref (ad 4)) f_K_11 (eX_3 ad to ta cs u.1 u.2.1 u.2.2.1 u.2.2.2) rfl d_K_find_17 ?_
      refine x_iload_n (x := a0) d_K_find_20 rfl ?_
      refine x_aald (t0 := 4) (eX_4 ad to ta cs u.1 u.2.1 u.2.2.1 u.2.2.2) rfl h.1 d_K_find_21 ?_
      have h := h.2
      refine x_aret (Or.inl ⟨_, rfl⟩) (Or.inr ⟨_, rfl⟩) d_K_find_22 ⟨some a0.toNatClampNeg, rfl, ?_⟩
      exact h
    · have h := h.2 hc
      refine x_null d_K_find_12 ?_
      refine x_goto (tgt := 22) d_K_find_13 rfl ?_
      refine x_aret (Or.inl ⟨_, rfl⟩) (Or.inl rfl) d_K_find_22 ⟨none, rfl, ?_⟩
      exact h
def P_K_carryOn (post : Int32 → XS → Prop) (u : XS) : Prop := P_K_find (fun q u1 => ((q = none → post (-3) u1) ∧ (∀ j2, q = some j2 → (j2 < 24 ∧ P_T_append (fun r4 u3 => ((¬ r4 = 0 → post ((gI u1.2.1 1) - (1 : Int32)) (u1.1, u1.2.1, u1.2.2.1, (va_up u1.2.2.2 j2 u3))) ∧ (r4 = 0 → post (-3) (u1.1, u1.2.1, u1.2.2.1, (va_up u1.2.2.2 j2 u3))))) u1.1 (u1.2.2.2 j2))))) ((gI u.2.1 1) - (1 : Int32)) u
set_option maxHeartbeats 600000 in
set_option maxRecDepth 100000 in
theorem c_K_carryOn (l : Launch) (D : va_G) (cs : Nat → ClassId) (Ev : (Nat → Prop) → State → Prop) (hE : xEok Ev) (adK adV : Nat → Nat) (fm : Option Nat) (X : xEv adK adV fm Ev) (ad to : Nat → Nat) (ta : Nat → Nat → Nat) (d : Nat) (post : Int32 → XS → Prop) (u : XS) (h : P_K_carryOn post  u) : xC l D clX (tysX cs) Ev y_K_carryOn w_K_carryOn (rmD (d + 1)) (wdX ad to ta cs) [.ref (ad 3), .ref (ad 1)] u (pI post) 0 0 := by
  unfold P_K_carryOn at h
  refine xC.of (cc := b_K_carryOn) (nL := 3) (ret := (some .int)) (by decide) rfl (Nat.le_of_ble_eq_true rfl) ?_
  show RR l D clX (tysX cs) Ev "DeckFront$Deck" b_K_carryOn 3 w_K_carryOn (rmD (d + 1)) (some .int) (wdX ad to ta cs) (pI post) 0 0 0 0 0 [(0, .ref (ad 3)), (1, .ref (ad 1))] [] u
  refine x_aload_n (x := (ad 3)) d_K_carryOn_0 rfl ?_
  refine x_aload_n (x := (ad 3)) d_K_carryOn_1 rfl ?_
  refine x_get (v := .int (gI u.2.1 1)) f_K_18 (eX_3 ad to ta cs u.1 u.2.1 u.2.2.1 u.2.2.2) rfl d_K_carryOn_2 ?_
  refine x_iconst (v := 1) d_K_carryOn_5 (by decide) ?_
  refine x_isub d_K_carryOn_6 ?_
  refine x_callV (st := []) k_K_55 rfl (eX_3 ad to ta cs u.1 u.2.1 u.2.2.1 u.2.2.2) x_id (c_K_find l D cs Ev hE adK adV fm X ad to ta (d + 0) _ ((gI u.2.1 1) - (1 : Int32)) u h) hE (rmD_ok (by omega) (by decide)) rfl (Nat.le_of_ble_eq_true rfl) rfl d_K_carryOn_7 (x_rF (fun u1 h => ?_) (fun j2 u1 h => ?_))
  · have h := h.1 rfl
    refine x_astore_nN (lv' := [(2, .null), (0, .ref (ad 3)), (1, .ref (ad 1))]) d_K_carryOn_10 (by decide) rfl ?_
    refine x_aload_nN d_K_carryOn_11 rfl ?_
    refine x_ifnullN (tgt := 23) d_K_carryOn_12 rfl ?_
    refine x_bipush (v := (-3)) d_K_carryOn_23 (by decide) ?_
    refine x_iret d_K_carryOn_25 ⟨_, rfl, ?_⟩
    exact h
  · have h := h.2 j2 rfl
    refine x_astore_n (lv' := [(2, .ref (to j2)), (0, .ref (ad 3)), (1, .ref (ad 1))]) d_K_carryOn_10 (by decide) rfl ?_
    refine x_aload_n (x := (to j2)) d_K_carryOn_11 rfl ?_
    refine x_ifnull d_K_carryOn_12 ?_
    refine x_aload_n (x := (to j2)) d_K_carryOn_15 rfl ?_
    refine x_aload_n (x := (ad 1)) d_K_carryOn_16 rfl ?_
    obtain ⟨hj9, h⟩ := h
    obtain ⟨q9, e9⟩ := mem_ix (mem_row ad to ta cs u1.1 u1.2.1 u1.2.2.1 u1.2.2.2 j2 hj9)
    refine x_callU (st := []) k_K_51 rfl e9 (lensTC ad to ta cs u1.1 u1.2.1 u1.2.2.1 u1.2.2.2 j2 hj9) (c_T_append l D cs Ev hE adK adV fm X (to j2) (ta j2) (ad 1) (fun _ => ad 2) u1.1 (d + 0) _ (u1.2.2.2 j2) h) hE (rmD_ok (by omega) (by decide)) rfl (Nat.le_of_ble_eq_true rfl) rfl d_K_carryOn_17 (x_rI (fun r4 u3 h => ?_))
    refine x_if_ne (tgt := 26) d_K_carryOn_20 rfl (fun hc => ?_) (fun hc => ?_)
    · have h := h.1 hc
      refine x_aload_n (x := (ad 3)) d_K_carryOn_26 rfl ?_
      refine x_get (v := .int (gI u1.2.1 1)) f_K_18 (eX_3 ad to ta cs u1.1 u1.2.1 u1.2.2.1 (va_up u1.2.2.2 j2 u3)) rfl d_K_carryOn_27 ?_
      refine x_iconst (v := 1) d_K_carryOn_30 (by decide) ?_
      refine x_isub d_K_carryOn_31 ?_
      refine x_iret d_K_carryOn_32 ⟨_, rfl, ?_⟩
      exact h
    · have h := h.2 hc
      refine x_bipush (v := (-3)) d_K_carryOn_23 (by decide) ?_
      refine x_iret d_K_carryOn_25 ⟨_, rfl, ?_⟩
      exact h
def P_K_begin (post : Int32 → XS → Prop) (u : XS) : Prop := (((gI u.2.1 1) < 24 → (vp_in (gI u.2.1 1) 24 ∧ P_C_numberInLabelField (fun r2 u1 => ((gI u.2.1 1).toNatClampNeg < 24 ∧ ((gI u.2.1 1).toNatClampNeg < 24 ∧ P_T_wipe (fun u3 => ((gI u.2.1 1).toNatClampNeg < 24 ∧ P_T_append (fun r5 u4 => ((¬ r5 = 0 → post (((gI u.2.1 1) + (1 : Int32)) - (1 : Int32)) (u1, (sI u.2.1 1 ((gI u.2.1 1) + (1 : Int32))), u.2.2.1, (va_up (va_up (va_up u.2.2.2 ((gI u.2.1 1).toNatClampNeg) (sI (u.2.2.2 ((gI u.2.1 1).toNatClampNeg)) 7 r2)) ((gI u.2.1 1).toNatClampNeg) u3) ((gI u.2.1 1).toNatClampNeg) u4))) ∧ (r5 = 0 → post (-3) (u1, u.2.1, u.2.2.1, (va_up (va_up (va_up u.2.2.2 ((gI u.2.1 1).toNatClampNeg) (sI (u.2.2.2 ((gI u.2.1 1).toNatClampNeg)) 7 r2)) ((gI u.2.1 1).toNatClampNeg) u3) ((gI u.2.1 1).toNatClampNeg) u4))))) u1 ((va_up (va_up u.2.2.2 ((gI u.2.1 1).toNatClampNeg) (sI (u.2.2.2 ((gI u.2.1 1).toNatClampNeg)) 7 r2)) ((gI u.2.1 1).toNatClampNeg) u3) ((gI u.2.1 1).toNatClampNeg)))) ((va_up u.2.2.2 ((gI u.2.1 1).toNatClampNeg) (sI (u.2.2.2 ((gI u.2.1 1).toNatClampNeg)) 7 r2)) ((gI u.2.1 1).toNatClampNeg))))) u.1)) ∧ (¬ (gI u.2.1 1) < 24 → post (-3) u))
set_option maxHeartbeats 600000 in
set_option maxRecDepth 100000 in
theorem c_K_begin (l : Launch) (D : va_G) (cs : Nat → ClassId) (Ev : (Nat → Prop) → State → Prop) (hE : xEok Ev) (adK adV : Nat → Nat) (fm : Option Nat) (X : xEv adK adV fm Ev) (ad to : Nat → Nat) (ta : Nat → Nat → Nat) (d : Nat) (post : Int32 → XS → Prop) (u : XS) (h : P_K_begin post  u) : xC l D clX (tysX cs) Ev y_K_begin w_K_begin (rmD (d + 2)) (wdX ad to ta cs) [.ref (ad 3), .ref (ad 1)] u (pI post) 0 0 := by
  unfold P_K_begin at h
  refine xC.of (cc := b_K_begin) (nL := 3) (ret := (some .int)) (by decide) rfl (Nat.le_of_ble_eq_true rfl) ?_
  show RR l D clX (tysX cs) Ev "DeckFront$Deck" b_K_begin 3 w_K_begin (rmD (d + 2)) (some .int) (wdX ad to ta cs) (pI post) 0 0 0 0 0 [(0, .ref (ad 3)), (1, .ref (ad 1))] [] u
  refine x_aload_n (x := (ad 3)) d_K_begin_0 rfl ?_
  refine x_get (v := .int (gI u.2.1 1)) f_K_18 (eX_3 ad to ta cs u.1 u.2.1 u.2.2.1 u.2.2.2) rfl d_K_begin_1 ?_
  refine x_bipush (v := 24) d_K_begin_4 (by decide) ?_
  refine x_icmp_lt (tgt := 12) d_K_begin_6 rfl (fun hc => ?_) (fun hc => ?_)
  · have h := h.1 hc
    refine x_aload_n (x := (ad 3)) d_K_begin_12 rfl ?_
    refine x_get (v := .ref (ad 4)) f_K_11 (eX_3 ad to ta cs u.1 u.2.1 u.2.2.1 u.2.2.2) rfl d_K_begin_13 ?_
    refine x_aload_n (x := (ad 3)) d_K_begin_16 rfl ?_
    refine x_get (v := .int (gI u.2.1 1)) f_K_18 (eX_3 ad to ta cs u.1 u.2.1 u.2.2.1 u.2.2.2) rfl d_K_begin_17 ?_
    refine x_aald (t0 := 4) (eX_4 ad to ta cs u.1 u.2.1 u.2.2.1 u.2.2.2) rfl h.1 d_K_begin_20 ?_
    have h := h.2
    refine x_astore_n (lv' := [(2, .ref (to ((gI u.2.1 1).toNatClampNeg))), (0, .ref (ad 3)), (1, .ref (ad 1))]) d_K_begin_21 (by decide) rfl ?_
    refine x_aload_n (x := (to ((gI u.2.1 1).toNatClampNeg))) d_K_begin_22 rfl ?_
    refine x_aload_n (x := (ad 1)) d_K_begin_23 rfl ?_
    refine x_callV (st := [.ref (to ((gI u.2.1 1).toNatClampNeg))]) k_K_41 rfl (eX_1 ad to ta cs u.1 u.2.1 u.2.2.1 u.2.2.2) (lensC ad to ta cs u.1 u.2.1 u.2.2.1 u.2.2.2) (c_C_numberInLabelField l D cs Ev hE adK adV fm X (ad 1) (fun _ => ad 2) (d + 0) _ u.1 h) hE (rmD_ok (by omega) (by decide)) rfl (Nat.le_of_ble_eq_true rfl) rfl d_K_begin_24 (x_rI (fun r2 u1 h => ?_))
    obtain ⟨wr9, hp9, hq9⟩ := putT7 ad to ta cs u1 u.2.1 u.2.2.1 u.2.2.2 ((gI u.2.1 1).toNatClampNeg) h.1 r2
    have h := h.2
    refine x_putP wr9 f_K_45 fw_S_7 hp9 rfl rfl (Nat.le_of_ble_eq_true rfl) hq9 d_K_begin_27 ?_
    refine x_aload_n (x := (to ((gI u.2.1 1).toNatClampNeg))) d_K_begin_30 rfl ?_
    obtain ⟨hj9, h⟩ := h
    obtain ⟨q9, e9⟩ := mem_ix (mem_row ad to ta cs u1 u.2.1 u.2.2.1 (va_up u.2.2.2 ((gI u.2.1 1).toNatClampNeg) (sI (u.2.2.2 ((gI u.2.1 1).toNatClampNeg)) 7 r2)) ((gI u.2.1 1).toNatClampNeg) hj9)
    refine x_callU (st := []) k_K_48 rfl e9 (lensT ad to ta cs u1 u.2.1 u.2.2.1 (va_up u.2.2.2 ((gI u.2.1 1).toNatClampNeg) (sI (u.2.2.2 ((gI u.2.1 1).toNatClampNeg)) 7 r2)) ((gI u.2.1 1).toNatClampNeg) hj9) (c_T_wipe l D cs Ev hE adK adV fm X (to ((gI u.2.1 1).toNatClampNeg)) (ta ((gI u.2.1 1).toNatClampNeg)) (d + 1) _ ((va_up u.2.2.2 ((gI u.2.1 1).toNatClampNeg) (sI (u.2.2.2 ((gI u.2.1 1).toNatClampNeg)) 7 r2)) ((gI u.2.1 1).toNatClampNeg)) h) hE (rmD_ok (by omega) (by decide)) rfl (Nat.le_of_ble_eq_true rfl) rfl d_K_begin_31 (x_rV (fun u3 h => ?_))
    refine x_aload_n (x := (to ((gI u.2.1 1).toNatClampNeg))) d_K_begin_34 rfl ?_
    refine x_aload_n (x := (ad 1)) d_K_begin_35 rfl ?_
    obtain ⟨hj9, h⟩ := h
    obtain ⟨q9, e9⟩ := mem_ix (mem_row ad to ta cs u1 u.2.1 u.2.2.1 (va_up (va_up u.2.2.2 ((gI u.2.1 1).toNatClampNeg) (sI (u.2.2.2 ((gI u.2.1 1).toNatClampNeg)) 7 r2)) ((gI u.2.1 1).toNatClampNeg) u3) ((gI u.2.1 1).toNatClampNeg) hj9)
    refine x_callU (st := []) k_K_51 rfl e9 (lensTC ad to ta cs u1 u.2.1 u.2.2.1 (va_up (va_up u.2.2.2 ((gI u.2.1 1).toNatClampNeg) (sI (u.2.2.2 ((gI u.2.1 1).toNatClampNeg)) 7 r2)) ((gI u.2.1 1).toNatClampNeg) u3) ((gI u.2.1 1).toNatClampNeg) hj9) (c_T_append l D cs Ev hE adK adV fm X (to ((gI u.2.1 1).toNatClampNeg)) (ta ((gI u.2.1 1).toNatClampNeg)) (ad 1) (fun _ => ad 2) u1 (d + 1) _ ((va_up (va_up u.2.2.2 ((gI u.2.1 1).toNatClampNeg) (sI (u.2.2.2 ((gI u.2.1 1).toNatClampNeg)) 7 r2)) ((gI u.2.1 1).toNatClampNeg) u3) ((gI u.2.1 1).toNatClampNeg)) h) hE (rmD_ok (by omega) (by decide)) rfl (Nat.le_of_ble_eq_true rfl) rfl d_K_begin_36 (x_rI (fun r5 u4 h => ?_))
    refine x_if_ne (tgt := 45) d_K_begin_39 rfl (fun hc => ?_) (fun hc => ?_)
    · have h := h.1 hc
      refine x_aload_n (x := (ad 3)) d_K_begin_45 rfl ?_
      refine x_dup d_K_begin_46 rfl ?_
      refine x_get (v := .int (gI u.2.1 1)) f_K_18 (eX_3 ad to ta cs u1 u.2.1 u.2.2.1 (va_up (va_up (va_up u.2.2.2 ((gI u.2.1 1).toNatClampNeg) (sI (u.2.2.2 ((gI u.2.1 1).toNatClampNeg)) 7 r2)) ((gI u.2.1 1).toNatClampNeg) u3) ((gI u.2.1 1).toNatClampNeg) u4)) rfl d_K_begin_47 ?_
      refine x_iconst (v := 1) d_K_begin_50 (by decide) ?_
      refine x_iadd d_K_begin_51 ?_
      refine x_put f_K_18 fw_K_1 (eX_3 ad to ta cs u1 u.2.1 u.2.2.1 (va_up (va_up (va_up u.2.2.2 ((gI u.2.1 1).toNatClampNeg) (sI (u.2.2.2 ((gI u.2.1 1).toNatClampNeg)) 7 r2)) ((gI u.2.1 1).toNatClampNeg) u3) ((gI u.2.1 1).toNatClampNeg) u4)) rfl rfl (Nat.le_of_ble_eq_true rfl) (sX_K1 ad to ta cs u1 u.2.1 u.2.2.1 (va_up (va_up (va_up u.2.2.2 ((gI u.2.1 1).toNatClampNeg) (sI (u.2.2.2 ((gI u.2.1 1).toNatClampNeg)) 7 r2)) ((gI u.2.1 1).toNatClampNeg) u3) ((gI u.2.1 1).toNatClampNeg) u4) _) d_K_begin_52 ?_
      refine x_aload_n (x := (ad 3)) d_K_begin_55 rfl ?_
      refine x_get (v := .int ((gI u.2.1 1) + (1 : Int32))) f_K_18 (eX_3 ad to ta cs u1 (sI u.2.1 1 ((gI u.2.1 1) + (1 : Int32))) u.2.2.1 (va_up (va_up (va_up u.2.2.2 ((gI u.2.1 1).toNatClampNeg) (sI (u.2.2.2 ((gI u.2.1 1).toNatClampNeg)) 7 r2)) ((gI u.2.1 1).toNatClampNeg) u3) ((gI u.2.1 1).toNatClampNeg) u4)) rfl d_K_begin_56 ?_
      refine x_iconst (v := 1) d_K_begin_59 (by decide) ?_
      refine x_isub d_K_begin_60 ?_
      refine x_iret d_K_begin_61 ⟨_, rfl, ?_⟩
      exact h
    · have h := h.2 hc
      refine x_bipush (v := (-3)) d_K_begin_42 (by decide) ?_
      refine x_iret d_K_begin_44 ⟨_, rfl, ?_⟩
      exact h
  · have h := h.2 hc
    refine x_bipush (v := (-3)) d_K_begin_9 (by decide) ?_
    refine x_iret d_K_begin_11 ⟨_, rfl, ?_⟩
    exact h
def P_K_join (post : Int32 → XS → Prop) (u : XS) : Prop := P_C_isComment (fun r2 u1 => ((r2 = 0 → P_C_hasGoodLabelField (fun r4 u3 => ((¬ r4 = 0 → P_C_continuesOne (fun r6 u5 => ((r6 = 0 → P_K_begin (fun r8 u7 => post r8 u7) (u5, u.2.1, u.2.2.1, u.2.2.2)) ∧ (¬ r6 = 0 → P_K_carryOn (fun r10 u9 => post r10 u9) (u5, u.2.1, u.2.2.1, u.2.2.2)))) u3) ∧ (r4 = 0 → post (-2) (u3, u.2.1, u.2.2.1, u.2.2.2)))) u1) ∧ (¬ r2 = 0 → post (-1) (u1, u.2.1, u.2.2.1, u.2.2.2)))) u.1
set_option maxHeartbeats 600000 in
set_option maxRecDepth 100000 in
theorem c_K_join (l : Launch) (D : va_G) (cs : Nat → ClassId) (Ev : (Nat → Prop) → State → Prop) (hE : xEok Ev) (adK adV : Nat → Nat) (fm : Option Nat) (X : xEv adK adV fm Ev) (ad to : Nat → Nat) (ta : Nat → Nat → Nat) (d : Nat) (post : Int32 → XS → Prop) (u : XS) (h : P_K_join post  u) : xC l D clX (tysX cs) Ev y_K_join w_K_join (rmD (d + 3)) (wdX ad to ta cs) [.ref (ad 3), .ref (ad 1)] u (pI post) 0 0 := by
  unfold P_K_join at h
  refine xC.of (cc := b_K_join) (nL := 2) (ret := (some .int)) (by decide) rfl (Nat.le_of_ble_eq_true rfl) ?_
  show RR l D clX (tysX cs) Ev "DeckFront$Deck" b_K_join 2 w_K_join (rmD (d + 3)) (some .int) (wdX ad to ta cs) (pI post) 0 0 0 0 0 [(0, .ref (ad 3)), (1, .ref (ad 1))] [] u
  refine x_aload_n (x := (ad 1)) d_K_join_0 rfl ?_
  refine x_callV (st := []) k_K_22 rfl (eX_1 ad to ta cs u.1 u.2.1 u.2.2.1 u.2.2.2) (lensC ad to ta cs u.1 u.2.1 u.2.2.1 u.2.2.2) (c_C_isComment l D cs Ev hE adK adV fm X (ad 1) (fun _ => ad 2) (d + 1) _ u.1 h) hE (rmD_ok (by omega) (by decide)) rfl (Nat.le_of_ble_eq_true rfl) rfl d_K_join_1 (x_rI (fun r2 u1 h => ?_))
  refine x_if_eq (tgt := 9) d_K_join_4 rfl (fun hc => ?_) (fun hc => ?_)
  · have h := h.1 hc
    refine x_aload_n (x := (ad 1)) d_K_join_9 rfl ?_
    refine x_callV (st := []) k_K_28 rfl (eX_1 ad to ta cs u1 u.2.1 u.2.2.1 u.2.2.2) (lensC ad to ta cs u1 u.2.1 u.2.2.1 u.2.2.2) (c_C_hasGoodLabelField l D cs Ev hE adK adV fm X (ad 1) (fun _ => ad 2) (d + 1) _ u1 h) hE (rmD_ok (by omega) (by decide)) rfl (Nat.le_of_ble_eq_true rfl) rfl d_K_join_10 (x_rI (fun r4 u3 h => ?_))
    refine x_if_ne (tgt := 19) d_K_join_13 rfl (fun hc => ?_) (fun hc => ?_)
    · have h := h.1 hc
      refine x_aload_n (x := (ad 1)) d_K_join_19 rfl ?_
      refine x_callV (st := []) k_K_31 rfl (eX_1 ad to ta cs u3 u.2.1 u.2.2.1 u.2.2.2) (lensC ad to ta cs u3 u.2.1 u.2.2.1 u.2.2.2) (c_C_continuesOne l D cs Ev hE adK adV fm X (ad 1) (fun _ => ad 2) (d + 2) _ u3 h) hE (rmD_ok (by omega) (by decide)) rfl (Nat.le_of_ble_eq_true rfl) rfl d_K_join_20 (x_rI (fun r6 u5 h => ?_))
      refine x_if_eq (tgt := 34) d_K_join_23 rfl (fun hc => ?_) (fun hc => ?_)
      · have h := h.1 hc
        refine x_aload_n (x := (ad 3)) d_K_join_34 rfl ?_
        refine x_aload_n (x := (ad 1)) d_K_join_35 rfl ?_
        refine x_callV (st := []) k_K_38 rfl (eX_3 ad to ta cs u5 u.2.1 u.2.2.1 u.2.2.2) x_id (c_K_begin l D cs Ev hE adK adV fm X ad to ta (d + 0) _ (u5, u.2.1, u.2.2.1, u.2.2.2) h) hE (rmD_ok (by omega) (by decide)) rfl (Nat.le_of_ble_eq_true rfl) rfl d_K_join_36 (x_rI (fun r8 u7 h => ?_))
        refine x_iret d_K_join_39 ⟨_, rfl, ?_⟩
        exact h
      · have h := h.2 hc
        refine x_aload_n (x := (ad 3)) d_K_join_26 rfl ?_
        refine x_aload_n (x := (ad 1)) d_K_join_27 rfl ?_
        refine x_callV (st := []) k_K_34 rfl (eX_3 ad to ta cs u5 u.2.1 u.2.2.1 u.2.2.2) x_id (c_K_carryOn l D cs Ev hE adK adV fm X ad to ta (d + 1) _ (u5, u.2.1, u.2.2.1, u.2.2.2) h) hE (rmD_ok (by omega) (by decide)) rfl (Nat.le_of_ble_eq_true rfl) rfl d_K_join_28 (x_rI (fun r10 u9 h => ?_))
        refine x_goto (tgt := 39) d_K_join_31 rfl ?_
        refine x_iret d_K_join_39 ⟨_, rfl, ?_⟩
        exact h
    · have h := h.2 hc
      refine x_bipush (v := (-2)) d_K_join_16 (by decide) ?_
      refine x_iret d_K_join_18 ⟨_, rfl, ?_⟩
      exact h
  · have h := h.2 hc
    refine x_iconst (v := (-1)) d_K_join_7 (by decide) ?_
    refine x_iret d_K_join_8 ⟨_, rfl, ?_⟩
    exact h
def P_K_kindOf_45 (post : Int32 → XS → Prop) (K5 : Int64 → Int32 → Int32 → XS → Prop) (x1 : Int64) (x3 : Int32) (x4 : Int32) (u : XS) : Prop := K5 x1 x3 (x4 + 1) u
set_option maxHeartbeats 600000 in
set_option maxRecDepth 100000 in
theorem w_K_kindOf_45 (l : Launch) (D : va_G) (cs : Nat → ClassId) (Ev : (Nat → Prop) → State → Prop) (hE : xEok Ev) (adK adV : Nat → Nat) (fm : Option Nat) (X : xEv adK adV fm Ev) (ad to : Nat → Nat) (ta : Nat → Nat → Nat) (d : Nat) (post : Int32 → XS → Prop) (K5 : Int64 → Int32 → Int32 → XS → Prop) (hK5 : ∀ (x1 : Int64) (x3 : Int32) (x4 : Int32) (u : XS), K5 x1 x3 x4 u → RR l D clX (tysX cs) Ev "DeckFront$Deck" b_K_kindOf 6 w_K_kindOf (rmD (d + 3)) (some .int) (wdX ad to ta cs) (pI post) 0 0 0 0 5 [(0, .ref (ad 3)), (1, .long x1), (3, .int x3), (4, .int x4)] [] u) (x1 : Int64) (x3 : Int32) (x4 : Int32) (u : XS) (h : P_K_kindOf_45 post K5 x1 x3 x4 u) : RR l D clX (tysX cs) Ev "DeckFront$Deck" b_K_kindOf 6 w_K_kindOf (rmD (d + 3)) (some .int) (wdX ad to ta cs) (pI post) 0 0 0 0 45 [(0, .ref (ad 3)), (1, .long x1), (3, .int x3), (4, .int x4)] [] u := by
  unfold P_K_kindOf_45 at h
  refine x_iinc (v := x4 + 1) (lv' := [(4, .int (x4 + 1)), (0, .ref (ad 3)), (1, .long x1), (3, .int x3)]) d_K_kindOf_45 rfl rfl (by decide) rfl ?_
  refine x_goto (tgt := 5) d_K_kindOf_48 rfl ?_
  refine x_sub [1, 2, 3, 0] rfl ?_
  exact hK5 x1 x3 (x4 + 1) u h
def P_K_kindOf_42 (post : Int32 → XS → Prop) (K5 : Int64 → Int32 → Int32 → XS → Prop) (x1 : Int64) (x4 : Int32) (x5 : Int32) (u : XS) : Prop := P_K_kindOf_45 post K5 x1 x5 x4 u
set_option maxHeartbeats 600000 in
set_option maxRecDepth 100000 in
theorem w_K_kindOf_42 (l : Launch) (D : va_G) (cs : Nat → ClassId) (Ev : (Nat → Prop) → State → Prop) (hE : xEok Ev) (adK adV : Nat → Nat) (fm : Option Nat) (X : xEv adK adV fm Ev) (ad to : Nat → Nat) (ta : Nat → Nat → Nat) (d : Nat) (post : Int32 → XS → Prop) (K5 : Int64 → Int32 → Int32 → XS → Prop) (hK5 : ∀ (x1 : Int64) (x3 : Int32) (x4 : Int32) (u : XS), K5 x1 x3 x4 u → RR l D clX (tysX cs) Ev "DeckFront$Deck" b_K_kindOf 6 w_K_kindOf (rmD (d + 3)) (some .int) (wdX ad to ta cs) (pI post) 0 0 0 0 5 [(0, .ref (ad 3)), (1, .long x1), (3, .int x3), (4, .int x4)] [] u) (x1 : Int64) (x4 : Int32) (x5 : Int32) (u : XS) (h : P_K_kindOf_42 post K5 x1 x4 x5 u) : RR l D clX (tysX cs) Ev "DeckFront$Deck" b_K_kindOf 6 w_K_kindOf (rmD (d + 3)) (some .int) (wdX ad to ta cs) (pI post) 0 0 0 0 42 [(0, .ref (ad 3)), (1, .long x1), (4, .int x4), (5, .int x5)] [] u := by
  unfold P_K_kindOf_42 at h
  refine x_iload (x := x5) d_K_kindOf_42 rfl ?_
  refine x_istore_n (lv' := [(3, .int x5), (0, .ref (ad 3)), (1, .long x1), (4, .int x4), (5, .int x5)]) d_K_kindOf_44 (by decide) rfl ?_
  refine x_sub [1, 2, 0, 3] rfl ?_
  exact w_K_kindOf_45 l D cs Ev hE adK adV fm X ad to ta d post K5 hK5 x1 x5 x4 u h
def P_K_kindOf_5 (post : Int32 → XS → Prop) : Nat → Int64 → Int32 → Int32 → XS → Prop
  | 0, _, _, _, _ => False
  | f + 1, x1, x3, x4, u => (((gI u.2.1 1) ≤ x4 → post x3 u) ∧ (¬ (gI u.2.1 1) ≤ x4 → (vp_in x4 24 ∧ (x4.toNatClampNeg < 24 ∧ P_T_kindHere (fun r2 u1 => ((r2 = 0 → P_K_kindOf_45 post (fun zx1 zx3 zx4 zu => P_K_kindOf_5 post f zx1 zx3 zx4 zu) x1 x3 x4 (u.1, u.2.1, u.2.2.1, (va_up u.2.2.2 x4.toNatClampNeg u1))) ∧ (¬ r2 = 0 → ((x3 = 0 → P_K_kindOf_42 post (fun zx1 zx3 zx4 zu => P_K_kindOf_5 post f zx1 zx3 zx4 zu) x1 x4 r2 (u.1, u.2.1, u.2.2.1, (va_up u.2.2.2 x4.toNatClampNeg u1))) ∧ (¬ x3 = 0 → ((x3 ≤ r2 → P_K_kindOf_45 post (fun zx1 zx3 zx4 zu => P_K_kindOf_5 post f zx1 zx3 zx4 zu) x1 x3 x4 (u.1, u.2.1, u.2.2.1, (va_up u.2.2.2 x4.toNatClampNeg u1))) ∧ (¬ x3 ≤ r2 → P_K_kindOf_42 post (fun zx1 zx3 zx4 zu => P_K_kindOf_5 post f zx1 zx3 zx4 zu) x1 x4 r2 (u.1, u.2.1, u.2.2.1, (va_up u.2.2.2 x4.toNatClampNeg u1))))))))) x1 (u.2.2.2 x4.toNatClampNeg)))))
set_option maxHeartbeats 600000 in
set_option maxRecDepth 100000 in
theorem w_K_kindOf_5 (l : Launch) (D : va_G) (cs : Nat → ClassId) (Ev : (Nat → Prop) → State → Prop) (hE : xEok Ev) (adK adV : Nat → Nat) (fm : Option Nat) (X : xEv adK adV fm Ev) (ad to : Nat → Nat) (ta : Nat → Nat → Nat) (d : Nat) (post : Int32 → XS → Prop) : ∀ (f : Nat) (x1 : Int64) (x3 : Int32) (x4 : Int32) (u : XS), P_K_kindOf_5 post  f x1 x3 x4 u → RR l D clX (tysX cs) Ev "DeckFront$Deck" b_K_kindOf 6 w_K_kindOf (rmD (d + 3)) (some .int) (wdX ad to ta cs) (pI post) 0 0 0 0 5 [(0, .ref (ad 3)), (1, .long x1), (3, .int x3), (4, .int x4)] [] u := by
  intro f
  induction f with
  | zero => intro x1 x3 x4 u h; exact h.elim
  | succ f ih =>
    intro x1 x3 x4 u h
    unfold P_K_kindOf_5 at h
    refine x_iload (x := x4) d_K_kindOf_5 rfl ?_
    refine x_aload_n (x := (ad 3)) d_K_kindOf_7 rfl ?_
    refine x_get (v := .int (gI u.2.1 1)) f_K_18 (eX_3 ad to ta cs u.1 u.2.1 u.2.2.1 u.2.2.2) rfl d_K_kindOf_8 ?_
    refine x_icmp_ge (tgt := 51) d_K_kindOf_11 rfl (fun hc => ?_) (fun hc => ?_)
    · have h := h.1 hc
      refine x_iload_n (x := x3) d_K_kindOf_51 rfl ?_
      refine x_iret d_K_kindOf_52 ⟨_, rfl, ?_⟩
      exact h
    · have h := h.2 hc
      refine x_aload_n (x := (ad 3)) d_K_kindOf_14 rfl ?_
      refine x_get (v := .ref (ad 4)) f_K_11 (eX_3 ad to ta cs u.1 u.2.1 u.2.2.1 u.2.2.2) rfl d_K_kindOf_15 ?_
      refine x_iload (x := x4) d_K_kindOf_18 rfl ?_
      refine x_aald (t0 := 4) (eX_4 ad to ta cs u.1 u.2.1 u.2.2.1 u.2.2.2) rfl h.1 d_K_kindOf_20 ?_
      have h := h.2
      refine x_lload_n (x := x1) d_K_kindOf_21 rfl ?_
      obtain ⟨hj9, h⟩ := h
      obtain ⟨q9, e9⟩ := mem_ix (mem_row ad to ta cs u.1 u.2.1 u.2.2.1 u.2.2.2 x4.toNatClampNeg hj9)
      refine x_callU (st := []) k_K_59 rfl e9 (lensT ad to ta cs u.1 u.2.1 u.2.2.1 u.2.2.2 x4.toNatClampNeg hj9) (c_T_kindHere l D cs Ev hE adK adV fm X (to x4.toNatClampNeg) (ta x4.toNatClampNeg) (d + 0) _ x1 (u.2.2.2 x4.toNatClampNeg) h) hE (rmD_ok (by omega) (by decide)) rfl (Nat.le_of_ble_eq_true rfl) rfl d_K_kindOf_22 (x_rI (fun r2 u1 h => ?_))
      refine x_istore (lv' := [(5, .int r2), (0, .ref (ad 3)), (1, .long x1), (3, .int x3), (4, .int x4)]) d_K_kindOf_25 (by decide) rfl ?_
      refine x_iload (x := r2) d_K_kindOf_27 rfl ?_
      refine x_if_eq (tgt := 45) d_K_kindOf_29 rfl (fun hc => ?_) (fun hc => ?_)
      · have h := h.1 hc
        refine x_sub [1, 2, 3, 4] rfl ?_
        exact w_K_kindOf_45 l D cs Ev hE adK adV fm X ad to ta d post (fun zx1 zx3 zx4 zu => P_K_kindOf_5 post f zx1 zx3 zx4 zu) ih x1 x3 x4 (u.1, u.2.1, u.2.2.1, (va_up u.2.2.2 x4.toNatClampNeg u1)) h
      · have h := h.2 hc
        refine x_iload_n (x := x3) d_K_kindOf_32 rfl ?_
        refine x_if_eq (tgt := 42) d_K_kindOf_33 rfl (fun hc => ?_) (fun hc => ?_)
        · have h := h.1 hc
          refine x_sub [1, 2, 4, 0] rfl ?_
          exact w_K_kindOf_42 l D cs Ev hE adK adV fm X ad to ta d post (fun zx1 zx3 zx4 zu => P_K_kindOf_5 post f zx1 zx3 zx4 zu) ih x1 x4 r2 (u.1, u.2.1, u.2.2.1, (va_up u.2.2.2 x4.toNatClampNeg u1)) h
        · have h := h.2 hc
          refine x_iload (x := r2) d_K_kindOf_36 rfl ?_
          refine x_iload_n (x := x3) d_K_kindOf_38 rfl ?_
          refine x_icmp_ge (tgt := 45) d_K_kindOf_39 rfl (fun hc => ?_) (fun hc => ?_)
          · have h := h.1 hc
            refine x_sub [1, 2, 3, 4] rfl ?_
            exact w_K_kindOf_45 l D cs Ev hE adK adV fm X ad to ta d post (fun zx1 zx3 zx4 zu => P_K_kindOf_5 post f zx1 zx3 zx4 zu) ih x1 x3 x4 (u.1, u.2.1, u.2.2.1, (va_up u.2.2.2 x4.toNatClampNeg u1)) h
          · have h := h.2 hc
            refine x_sub [1, 2, 4, 0] rfl ?_
            exact w_K_kindOf_42 l D cs Ev hE adK adV fm X ad to ta d post (fun zx1 zx3 zx4 zu => P_K_kindOf_5 post f zx1 zx3 zx4 zu) ih x1 x4 r2 (u.1, u.2.1, u.2.2.1, (va_up u.2.2.2 x4.toNatClampNeg u1)) h
def P_K_kindOf (post : Int32 → XS → Prop) (a0 : Int64) (u : XS) : Prop := (∃ g, P_K_kindOf_5 post g a0 0 0 u)
set_option maxHeartbeats 600000 in
set_option maxRecDepth 100000 in
theorem c_K_kindOf (l : Launch) (D : va_G) (cs : Nat → ClassId) (Ev : (Nat → Prop) → State → Prop) (hE : xEok Ev) (adK adV : Nat → Nat) (fm : Option Nat) (X : xEv adK adV fm Ev) (ad to : Nat → Nat) (ta : Nat → Nat → Nat) (d : Nat) (post : Int32 → XS → Prop) (a0 : Int64) (u : XS) (h : P_K_kindOf post a0 u) : xC l D clX (tysX cs) Ev y_K_kindOf w_K_kindOf (rmD (d + 3)) (wdX ad to ta cs) [.ref (ad 3), .long a0] u (pI post) 0 0 := by
  unfold P_K_kindOf at h
  refine xC.of (cc := b_K_kindOf) (nL := 6) (ret := (some .int)) (by decide) rfl (Nat.le_of_ble_eq_true rfl) ?_
  show RR l D clX (tysX cs) Ev "DeckFront$Deck" b_K_kindOf 6 w_K_kindOf (rmD (d + 3)) (some .int) (wdX ad to ta cs) (pI post) 0 0 0 0 0 [(0, .ref (ad 3)), (1, .long a0)] [] u
  refine x_iconst (v := 0) d_K_kindOf_0 (by decide) ?_
  refine x_istore_n (lv' := [(3, .int 0), (0, .ref (ad 3)), (1, .long a0)]) d_K_kindOf_1 (by decide) rfl ?_
  refine x_iconst (v := 0) d_K_kindOf_2 (by decide) ?_
  refine x_istore (lv' := [(4, .int 0), (3, .int 0), (0, .ref (ad 3)), (1, .long a0)]) d_K_kindOf_3 (by decide) rfl ?_
  refine x_sub [2, 3, 1, 0] rfl ?_
  obtain ⟨f9, h⟩ := h
  exact w_K_kindOf_5 l D cs Ev hE adK adV fm X ad to ta d post  f9 a0 0 0 u h
def P_K_typeOf_47 (post : Int32 → XS → Prop) (K2 : Int64 → Int32 → XS → Prop) (x1 : Int64) (x3 : Int32) (u : XS) : Prop := K2 x1 (x3 + 1) u
set_option maxHeartbeats 600000 in
set_option maxRecDepth 100000 in
theorem w_K_typeOf_47 (l : Launch) (D : va_G) (cs : Nat → ClassId) (Ev : (Nat → Prop) → State → Prop) (hE : xEok Ev) (adK adV : Nat → Nat) (fm : Option Nat) (X : xEv adK adV fm Ev) (ad to : Nat → Nat) (ta : Nat → Nat → Nat) (d : Nat) (post : Int32 → XS → Prop) (K2 : Int64 → Int32 → XS → Prop) (hK2 : ∀ (x1 : Int64) (x3 : Int32) (u : XS), K2 x1 x3 u → RR l D clX (tysX cs) Ev "DeckFront$Deck" b_K_typeOf 4 w_K_typeOf (rmD (d + 3)) (some .int) (wdX ad to ta cs) (pI post) 0 0 0 0 2 [(0, .ref (ad 3)), (1, .long x1), (3, .int x3)] [] u) (x1 : Int64) (x3 : Int32) (u : XS) (h : P_K_typeOf_47 post K2 x1 x3 u) : RR l D clX (tysX cs) Ev "DeckFront$Deck" b_K_typeOf 4 w_K_typeOf (rmD (d + 3)) (some .int) (wdX ad to ta cs) (pI post) 0 0 0 0 47 [(0, .ref (ad 3)), (1, .long x1), (3, .int x3)] [] u := by
  unfold P_K_typeOf_47 at h
  refine x_iinc (v := x3 + 1) (lv' := [(3, .int (x3 + 1)), (0, .ref (ad 3)), (1, .long x1)]) d_K_typeOf_47 rfl rfl (by decide) rfl ?_
  refine x_goto (tgt := 2) d_K_typeOf_50 rfl ?_
  refine x_sub [1, 2, 0] rfl ?_
  exact hK2 x1 (x3 + 1) u h
def P_K_typeOf_2 (post : Int32 → XS → Prop) : Nat → Int64 → Int32 → XS → Prop
  | 0, _, _, _ => False
  | f + 1, x1, x3, u => (((gI u.2.1 1) ≤ x3 → P_D_typeByLetter (fun r2 u1 => post r2 u) x1 ()) ∧ (¬ (gI u.2.1 1) ≤ x3 → (vp_in x3 24 ∧ (x3.toNatClampNeg < 24 ∧ ((¬ (gI (u.2.2.2 x3.toNatClampNeg) 8) = 15 → P_K_typeOf_47 post (fun zx1 zx3 zu => P_K_typeOf_2 post f zx1 zx3 zu) x1 x3 u) ∧ ((gI (u.2.2.2 x3.toNatClampNeg) 8) = 15 → (vp_in x3 24 ∧ (x3.toNatClampNeg < 24 ∧ P_T_kindHere (fun r4 u3 => ((r4 = 0 → P_K_typeOf_47 post (fun zx1 zx3 zu => P_K_typeOf_2 post f zx1 zx3 zu) x1 x3 (u.1, u.2.1, u.2.2.1, (va_up u.2.2.2 x3.toNatClampNeg u3))) ∧ (¬ r4 = 0 → (vp_in x3 24 ∧ (x3.toNatClampNeg < 24 ∧ P_S_typeTold (fun r6 u5 => post r6 (u.1, u.2.1, u.2.2.1, (va_up (va_up u.2.2.2 x3.toNatClampNeg u3) x3.toNatClampNeg u5))) ((va_up u.2.2.2 x3.toNatClampNeg u3) x3.toNatClampNeg)))))) x1 (u.2.2.2 x3.toNatClampNeg)))))))))
set_option maxHeartbeats 600000 in
set_option maxRecDepth 100000 in
theorem w_K_typeOf_2 (l : Launch) (D : va_G) (cs : Nat → ClassId) (Ev : (Nat → Prop) → State → Prop) (hE : xEok Ev) (adK adV : Nat → Nat) (fm : Option Nat) (X : xEv adK adV fm Ev) (ad to : Nat → Nat) (ta : Nat → Nat → Nat) (d : Nat) (post : Int32 → XS → Prop) : ∀ (f : Nat) (x1 : Int64) (x3 : Int32) (u : XS), P_K_typeOf_2 post  f x1 x3 u → RR l D clX (tysX cs) Ev "DeckFront$Deck" b_K_typeOf 4 w_K_typeOf (rmD (d + 3)) (some .int) (wdX ad to ta cs) (pI post) 0 0 0 0 2 [(0, .ref (ad 3)), (1, .long x1), (3, .int x3)] [] u := by
  intro f
  induction f with
  | zero => intro x1 x3 u h; exact h.elim
  | succ f ih =>
    intro x1 x3 u h
    unfold P_K_typeOf_2 at h
    refine x_iload_n (x := x3) d_K_typeOf_2 rfl ?_
    refine x_aload_n (x := (ad 3)) d_K_typeOf_3 rfl ?_
    refine x_get (v := .int (gI u.2.1 1)) f_K_18 (eX_3 ad to ta cs u.1 u.2.1 u.2.2.1 u.2.2.2) rfl d_K_typeOf_4 ?_
    refine x_icmp_ge (tgt := 53) d_K_typeOf_7 rfl (fun hc => ?_) (fun hc => ?_)
    · have h := h.1 hc
      refine x_lload_n (x := x1) d_K_typeOf_53 rfl ?_
      refine x_callSN (st := []) (k_K_69 X) x_none (c_D_typeByLetter l D cs Ev hE adK adV fm X (d + 2) _ x1 () h) hE (rmD_ok (by omega) (by decide)) rfl (Nat.le_of_ble_eq_true rfl) rfl d_K_typeOf_54 (x_rI (fun r2 u1 h => ?_))
      refine x_iret d_K_typeOf_57 ⟨_, rfl, ?_⟩
      exact h
    · have h := h.2 hc
      refine x_aload_n (x := (ad 3)) d_K_typeOf_10 rfl ?_
      refine x_get (v := .ref (ad 4)) f_K_11 (eX_3 ad to ta cs u.1 u.2.1 u.2.2.1 u.2.2.2) rfl d_K_typeOf_11 ?_
      refine x_iload_n (x := x3) d_K_typeOf_14 rfl ?_
      refine x_aald (t0 := 4) (eX_4 ad to ta cs u.1 u.2.1 u.2.2.1 u.2.2.2) rfl h.1 d_K_typeOf_15 ?_
      have h := h.2
      refine x_getM (v := .int (gI (u.2.2.2 x3.toNatClampNeg) 8)) f_K_63 (mem_row ad to ta cs u.1 u.2.1 u.2.2.1 u.2.2.2 x3.toNatClampNeg h.1) rfl d_K_typeOf_16 ?_
      have h := h.2
      refine x_bipush (v := 15) d_K_typeOf_19 (by decide) ?_
      refine x_icmp_ne (tgt := 47) d_K_typeOf_21 rfl (fun hc => ?_) (fun hc => ?_)
      · have h := h.1 hc
        exact w_K_typeOf_47 l D cs Ev hE adK adV fm X ad to ta d post (fun zx1 zx3 zu => P_K_typeOf_2 post f zx1 zx3 zu) ih x1 x3 u h
      · have h := h.2 hc
        refine x_aload_n (x := (ad 3)) d_K_typeOf_24 rfl ?_
        refine x_get (v := .ref (ad 4)) f_K_11 (eX_3 ad to ta cs u.1 u.2.1 u.2.2.1 u.2.2.2) rfl d_K_typeOf_25 ?_
        refine x_iload_n (x := x3) d_K_typeOf_28 rfl ?_
        refine x_aald (t0 := 4) (eX_4 ad to ta cs u.1 u.2.1 u.2.2.1 u.2.2.2) rfl h.1 d_K_typeOf_29 ?_
        have h := h.2
        refine x_lload_n (x := x1) d_K_typeOf_30 rfl ?_
        obtain ⟨hj9, h⟩ := h
        obtain ⟨q9, e9⟩ := mem_ix (mem_row ad to ta cs u.1 u.2.1 u.2.2.1 u.2.2.2 x3.toNatClampNeg hj9)
        refine x_callU (st := []) k_K_59 rfl e9 (lensT ad to ta cs u.1 u.2.1 u.2.2.1 u.2.2.2 x3.toNatClampNeg hj9) (c_T_kindHere l D cs Ev hE adK adV fm X (to x3.toNatClampNeg) (ta x3.toNatClampNeg) (d + 0) _ x1 (u.2.2.2 x3.toNatClampNeg) h) hE (rmD_ok (by omega) (by decide)) rfl (Nat.le_of_ble_eq_true rfl) rfl d_K_typeOf_31 (x_rI (fun r4 u3 h => ?_))
        refine x_if_eq (tgt := 47) d_K_typeOf_34 rfl (fun hc => ?_) (fun hc => ?_)
        · have h := h.1 hc
          exact w_K_typeOf_47 l D cs Ev hE adK adV fm X ad to ta d post (fun zx1 zx3 zu => P_K_typeOf_2 post f zx1 zx3 zu) ih x1 x3 (u.1, u.2.1, u.2.2.1, (va_up u.2.2.2 x3.toNatClampNeg u3)) h
        · have h := h.2 hc
          refine x_aload_n (x := (ad 3)) d_K_typeOf_37 rfl ?_
          refine x_get (v := .ref (ad 4)) f_K_11 (eX_3 ad to ta cs u.1 u.2.1 u.2.2.1 (va_up u.2.2.2 x3.toNatClampNeg u3)) rfl d_K_typeOf_38 ?_
          refine x_iload_n (x := x3) d_K_typeOf_41 rfl ?_
          refine x_aald (t0 := 4) (eX_4 ad to ta cs u.1 u.2.1 u.2.2.1 (va_up u.2.2.2 x3.toNatClampNeg u3)) rfl h.1 d_K_typeOf_42 ?_
          have h := h.2
          obtain ⟨hj9, h⟩ := h
          obtain ⟨q9, e9⟩ := mem_ix (mem_row ad to ta cs u.1 u.2.1 u.2.2.1 (va_up u.2.2.2 x3.toNatClampNeg u3) x3.toNatClampNeg hj9)
          refine x_callV (st := []) k_K_66 rfl e9 (lensT ad to ta cs u.1 u.2.1 u.2.2.1 (va_up u.2.2.2 x3.toNatClampNeg u3) x3.toNatClampNeg hj9) (c_S_typeTold l D cs Ev hE adK adV fm X (to x3.toNatClampNeg) (ta x3.toNatClampNeg) (d + 2) _ ((va_up u.2.2.2 x3.toNatClampNeg u3) x3.toNatClampNeg) h) hE (rmD_ok (by omega) (by decide)) rfl (Nat.le_of_ble_eq_true rfl) rfl d_K_typeOf_43 (x_rI (fun r6 u5 h => ?_))
          refine x_iret d_K_typeOf_46 ⟨_, rfl, ?_⟩
          exact h
def P_K_typeOf (post : Int32 → XS → Prop) (a0 : Int64) (u : XS) : Prop := (∃ g, P_K_typeOf_2 post g a0 0 u)
set_option maxHeartbeats 600000 in
set_option maxRecDepth 100000 in
theorem c_K_typeOf (l : Launch) (D : va_G) (cs : Nat → ClassId) (Ev : (Nat → Prop) → State → Prop) (hE : xEok Ev) (adK adV : Nat → Nat) (fm : Option Nat) (X : xEv adK adV fm Ev) (ad to : Nat → Nat) (ta : Nat → Nat → Nat) (d : Nat) (post : Int32 → XS → Prop) (a0 : Int64) (u : XS) (h : P_K_typeOf post a0 u) : xC l D clX (tysX cs) Ev y_K_typeOf w_K_typeOf (rmD (d + 3)) (wdX ad to ta cs) [.ref (ad 3), .long a0] u (pI post) 0 0 := by
  unfold P_K_typeOf at h
  refine xC.of (cc := b_K_typeOf) (nL := 4) (ret := (some .int)) (by decide) rfl (Nat.le_of_ble_eq_true rfl) ?_
  show RR l D clX (tysX cs) Ev "DeckFront$Deck" b_K_typeOf 4 w_K_typeOf (rmD (d + 3)) (some .int) (wdX ad to ta cs) (pI post) 0 0 0 0 0 [(0, .ref (ad 3)), (1, .long a0)] [] u
  refine x_iconst (v := 0) d_K_typeOf_0 (by decide) ?_
  refine x_istore_n (lv' := [(3, .int 0), (0, .ref (ad 3)), (1, .long a0)]) d_K_typeOf_1 (by decide) rfl ?_
  refine x_sub [1, 2, 0] rfl ?_
  obtain ⟨f9, h⟩ := h
  exact w_K_typeOf_2 l D cs Ev hE adK adV fm X ad to ta d post  f9 a0 0 u h
def P_K_hasNumber_38 (post : Int32 → XS → Prop) (K3 : Int32 → Int32 → Int32 → XS → Prop) (x1 : Int32) (x3 : Int32) (x4 : Int32) (u : XS) : Prop := K3 x1 x3 (x4 + 1) u
set_option maxHeartbeats 600000 in
set_option maxRecDepth 100000 in
theorem w_K_hasNumber_38 (l : Launch) (D : va_G) (cs : Nat → ClassId) (Ev : (Nat → Prop) → State → Prop) (hE : xEok Ev) (adK adV : Nat → Nat) (fm : Option Nat) (X : xEv adK adV fm Ev) (ad to : Nat → Nat) (ta : Nat → Nat → Nat) (d : Nat) (post : Int32 → XS → Prop) (K3 : Int32 → Int32 → Int32 → XS → Prop) (hK3 : ∀ (x1 : Int32) (x3 : Int32) (x4 : Int32) (u : XS), K3 x1 x3 x4 u → RR l D clX (tysX cs) Ev "DeckFront$Deck" b_K_hasNumber 5 w_K_hasNumber (rmD (d + 0)) (some .boolean) (wdX ad to ta cs) (pI post) 0 0 0 0 3 [(0, .ref (ad 3)), (1, .int x1), (3, .int x3), (4, .int x4)] [] u) (x1 : Int32) (x3 : Int32) (x4 : Int32) (u : XS) (h : P_K_hasNumber_38 post K3 x1 x3 x4 u) : RR l D clX (tysX cs) Ev "DeckFront$Deck" b_K_hasNumber 5 w_K_hasNumber (rmD (d + 0)) (some .boolean) (wdX ad to ta cs) (pI post) 0 0 0 0 38 [(0, .ref (ad 3)), (1, .int x1), (3, .int x3), (4, .int x4)] [] u := by
  unfold P_K_hasNumber_38 at h
  refine x_iinc (v := x4 + 1) (lv' := [(4, .int (x4 + 1)), (0, .ref (ad 3)), (1, .int x1), (3, .int x3)]) d_K_hasNumber_38 rfl rfl (by decide) rfl ?_
  refine x_goto (tgt := 3) d_K_hasNumber_41 rfl ?_
  refine x_sub [1, 2, 3, 0] rfl ?_
  exact hK3 x1 x3 (x4 + 1) u h
def P_K_hasNumber_3 (post : Int32 → XS → Prop) : Nat → Int32 → Int32 → Int32 → XS → Prop
  | 0, _, _, _, _ => False
  | f + 1, x1, x3, x4, u => ((x3 ≤ x4 → post 0 u) ∧ (¬ x3 ≤ x4 → (((gI u.2.1 1) ≤ x4 → post 0 u) ∧ (¬ (gI u.2.1 1) ≤ x4 → ((x1 = 0 → P_K_hasNumber_38 post (fun zx1 zx3 zx4 zu => P_K_hasNumber_3 post f zx1 zx3 zx4 zu) x1 x3 x4 u) ∧ (¬ x1 = 0 → (vp_in x4 24 ∧ (x4.toNatClampNeg < 24 ∧ ((¬ (gI (u.2.2.2 x4.toNatClampNeg) 7) = x1 → P_K_hasNumber_38 post (fun zx1 zx3 zx4 zu => P_K_hasNumber_3 post f zx1 zx3 zx4 zu) x1 x3 x4 u) ∧ ((gI (u.2.2.2 x4.toNatClampNeg) 7) = x1 → post 1 u))))))))))
set_option maxHeartbeats 600000 in
set_option maxRecDepth 100000 in
theorem w_K_hasNumber_3 (l : Launch) (D : va_G) (cs : Nat → ClassId) (Ev : (Nat → Prop) → State → Prop) (hE : xEok Ev) (adK adV : Nat → Nat) (fm : Option Nat) (X : xEv adK adV fm Ev) (ad to : Nat → Nat) (ta : Nat → Nat → Nat) (d : Nat) (post : Int32 → XS → Prop) : ∀ (f : Nat) (x1 : Int32) (x3 : Int32) (x4 : Int32) (u : XS), P_K_hasNumber_3 post  f x1 x3 x4 u → RR l D clX (tysX cs) Ev "DeckFront$Deck" b_K_hasNumber 5 w_K_hasNumber (rmD (d + 0)) (some .boolean) (wdX ad to ta cs) (pI post) 0 0 0 0 3 [(0, .ref (ad 3)), (1, .int x1), (3, .int x3), (4, .int x4)] [] u := by
  intro f
  induction f with
  | zero => intro x1 x3 x4 u h; exact h.elim
  | succ f ih =>
    intro x1 x3 x4 u h
    unfold P_K_hasNumber_3 at h
    refine x_iload (x := x4) d_K_hasNumber_3 rfl ?_
    refine x_iload_n (x := x3) d_K_hasNumber_5 rfl ?_
    refine x_icmp_ge (tgt := 44) d_K_hasNumber_6 rfl (fun hc => ?_) (fun hc => ?_)
    · have h := h.1 hc
      refine x_iconst (v := 0) d_K_hasNumber_44 (by decide) ?_
      refine x_zret rfl d_K_hasNumber_45 ⟨_, rfl, ?_⟩
      exact h
    · have h := h.2 hc
      refine x_iload (x := x4) d_K_hasNumber_9 rfl ?_
      refine x_aload_n (x := (ad 3)) d_K_hasNumber_11 rfl ?_
      refine x_get (v := .int (gI u.2.1 1)) f_K_18 (eX_3 ad to ta cs u.1 u.2.1 u.2.2.1 u.2.2.2) rfl d_K_hasNumber_12 ?_
      refine x_icmp_ge (tgt := 44) d_K_hasNumber_15 rfl (fun hc => ?_) (fun hc => ?_)
      · have h := h.1 hc
        refine x_iconst (v := 0) d_K_hasNumber_44 (by decide) ?_
        refine x_zret rfl d_K_hasNumber_45 ⟨_, rfl, ?_⟩
        exact h
      · have h := h.2 hc
        refine x_iload_n (x := x1) d_K_hasNumber_18 rfl ?_
        refine x_if_eq (tgt := 38) d_K_hasNumber_19 rfl (fun hc => ?_) (fun hc => ?_)
        · have h := h.1 hc
          exact w_K_hasNumber_38 l D cs Ev hE adK adV fm X ad to ta d post (fun zx1 zx3 zx4 zu => P_K_hasNumber_3 post f zx1 zx3 zx4 zu) ih x1 x3 x4 u h
        · have h := h.2 hc
          refine x_aload_n (x := (ad 3)) d_K_hasNumber_22 rfl ?_
          refine x_get (v := .ref (ad 4)) f_K_11 (eX_3 ad to ta cs u.1 u.2.1 u.2.2.1 u.2.2.2) rfl d_K_hasNumber_23 ?_
          refine x_iload (x := x4) d_K_hasNumber_26 rfl ?_
          refine x_aald (t0 := 4) (eX_4 ad to ta cs u.1 u.2.1 u.2.2.1 u.2.2.2) rfl h.1 d_K_hasNumber_28 ?_
          have h := h.2
          refine x_getM (v := .int (gI (u.2.2.2 x4.toNatClampNeg) 7)) f_K_45 (mem_row ad to ta cs u.1 u.2.1 u.2.2.1 u.2.2.2 x4.toNatClampNeg h.1) rfl d_K_hasNumber_29 ?_
          have h := h.2
          refine x_iload_n (x := x1) d_K_hasNumber_32 rfl ?_
          refine x_icmp_ne (tgt := 38) d_K_hasNumber_33 rfl (fun hc => ?_) (fun hc => ?_)
          · have h := h.1 hc
            exact w_K_hasNumber_38 l D cs Ev hE adK adV fm X ad to ta d post (fun zx1 zx3 zx4 zu => P_K_hasNumber_3 post f zx1 zx3 zx4 zu) ih x1 x3 x4 u h
          · have h := h.2 hc
            refine x_iconst (v := 1) d_K_hasNumber_36 (by decide) ?_
            refine x_zret rfl d_K_hasNumber_37 ⟨_, rfl, ?_⟩
            exact h
def P_K_hasNumber (post : Int32 → XS → Prop) (a0 : Int32) (a1 : Int32) (a2 : Int32) (u : XS) : Prop := (∃ g, P_K_hasNumber_3 post g a0 a2 a1 u)
set_option maxHeartbeats 600000 in
set_option maxRecDepth 100000 in
theorem c_K_hasNumber (l : Launch) (D : va_G) (cs : Nat → ClassId) (Ev : (Nat → Prop) → State → Prop) (hE : xEok Ev) (adK adV : Nat → Nat) (fm : Option Nat) (X : xEv adK adV fm Ev) (ad to : Nat → Nat) (ta : Nat → Nat → Nat) (d : Nat) (post : Int32 → XS → Prop) (a0 : Int32) (a1 : Int32) (a2 : Int32) (u : XS) (h : P_K_hasNumber post a0 a1 a2 u) : xC l D clX (tysX cs) Ev y_K_hasNumber w_K_hasNumber (rmD (d + 0)) (wdX ad to ta cs) [.ref (ad 3), .int a0, .int a1, .int a2] u (pI post) 0 0 := by
  unfold P_K_hasNumber at h
  refine xC.of (cc := b_K_hasNumber) (nL := 5) (ret := (some .boolean)) (by decide) rfl (Nat.le_of_ble_eq_true rfl) ?_
  show RR l D clX (tysX cs) Ev "DeckFront$Deck" b_K_hasNumber 5 w_K_hasNumber (rmD (d + 0)) (some .boolean) (wdX ad to ta cs) (pI post) 0 0 0 0 0 [(0, .ref (ad 3)), (1, .int a0), (2, .int a1), (3, .int a2)] [] u
  refine x_iload_n (x := a1) d_K_hasNumber_0 rfl ?_
  refine x_istore (lv' := [(4, .int a1), (0, .ref (ad 3)), (1, .int a0), (2, .int a1), (3, .int a2)]) d_K_hasNumber_1 (by decide) rfl ?_
  refine x_sub [1, 2, 4, 0] rfl ?_
  obtain ⟨f9, h⟩ := h
  exact w_K_hasNumber_3 l D cs Ev hE adK adV fm X ad to ta d post  f9 a0 a2 a1 u h
