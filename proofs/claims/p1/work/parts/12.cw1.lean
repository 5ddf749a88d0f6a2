def P_D_isLetter (post : Int32 → Unit → Prop) (a0 : Int32) (u : Unit) : Prop := ((a0 < 65 → post 0 u) ∧ (¬ a0 < 65 → ((90 < a0 → post 0 u) ∧ (¬ 90 < a0 → post 1 u))))
set_option maxHeartbeats 600000 in
set_option maxRecDepth 100000 in
theorem c_D_isLetter (l : Launch) (D : va_G) (cs : Nat → ClassId) (Ev : (Nat → Prop) → State → Prop) (hE : xEok Ev) (adK adV : Nat → Nat) (fm : Option Nat) (X : xEv adK adV fm Ev) (d : Nat) (post : Int32 → Unit → Prop) (a0 : Int32) (u : Unit) (h : P_D_isLetter post a0 u) : xC l D clX (tysX cs) Ev y_D_isLetter w_D_isLetter (rmD (d + 0)) wd0 [.int a0] u (pI post) 0 0 := by
  unfold P_D_isLetter at h
  refine xC.of (cc := b_D_isLetter) (nL := 1) (ret := (some .boolean)) (by decide) rfl (Nat.le_of_ble_eq_true rfl) ?_
  show RR l D clX (tysX cs) Ev "DeckFront" b_D_isLetter 1 w_D_isLetter (rmD (d + 0)) (some .boolean) wd0 (pI post) 0 0 0 0 0 [(0, .int a0)] [] u
  refine x_iload_n (x := a0) d_D_isLetter_0 rfl ?_
  refine x_bipush (v := 65) d_D_isLetter_1 (by decide) ?_
  refine x_icmp_lt (tgt := 16) d_D_isLetter_3 rfl (fun hc => ?_) (fun hc => ?_)
  · have h := h.1 hc
    refine x_iconst (v := 0) d_D_isLetter_16 (by decide) ?_
    refine x_zret rfl d_D_isLetter_17 ⟨_, rfl, ?_⟩
    exact h
  · have h := h.2 hc
    refine x_iload_n (x := a0) d_D_isLetter_6 rfl ?_
    refine x_bipush (v := 90) d_D_isLetter_7 (by decide) ?_
    refine x_icmp_gt (tgt := 16) d_D_isLetter_9 rfl (fun hc => ?_) (fun hc => ?_)
    · have h := h.1 hc
      refine x_iconst (v := 0) d_D_isLetter_16 (by decide) ?_
      refine x_zret rfl d_D_isLetter_17 ⟨_, rfl, ?_⟩
      exact h
    · have h := h.2 hc
      refine x_iconst (v := 1) d_D_isLetter_12 (by decide) ?_
      refine x_goto (tgt := 17) d_D_isLetter_13 rfl ?_
      refine x_zret rfl d_D_isLetter_17 ⟨_, rfl, ?_⟩
      exact h
theorem cf_D_isLetter (l : Launch) (D : va_G) (cs : Nat → ClassId) (Ev : (Nat → Prop) → State → Prop) (hE : xEok Ev) (adK adV : Nat → Nat) (fm : Option Nat) (X : xEv adK adV fm Ev) (d : Nat) (x : Int32) : xC l D clX (tysX cs) Ev y_D_isLetter w_D_isLetter (rmD (d + 0)) wd0 [.int x] () (pI (fun r u1 => r = isLet x ∧ () = u1)) 0 0 := by
  refine c_D_isLetter l D cs Ev hE adK adV fm X d _ x () ?_
  unfold P_D_isLetter isLet
  exact ⟨fun h => ⟨by rw [if_pos h], rfl⟩, fun h => ⟨fun h2 => ⟨by rw [if_neg h, if_pos h2], rfl⟩, fun h2 => ⟨by rw [if_neg h, if_neg h2], rfl⟩⟩⟩
def P_D_isDigit (post : Int32 → Unit → Prop) (a0 : Int32) (u : Unit) : Prop := ((a0 < 48 → post 0 u) ∧ (¬ a0 < 48 → ((57 < a0 → post 0 u) ∧ (¬ 57 < a0 → post 1 u))))
set_option maxHeartbeats 600000 in
set_option maxRecDepth 100000 in
theorem c_D_isDigit (l : Launch) (D : va_G) (cs : Nat → ClassId) (Ev : (Nat → Prop) → State → Prop) (hE : xEok Ev) (adK adV : Nat → Nat) (fm : Option Nat) (X : xEv adK adV fm Ev) (d : Nat) (post : Int32 → Unit → Prop) (a0 : Int32) (u : Unit) (h : P_D_isDigit post a0 u) : xC l D clX (tysX cs) Ev y_D_isDigit w_D_isDigit (rmD (d + 0)) wd0 [.int a0] u (pI post) 0 0 := by
  unfold P_D_isDigit at h
  refine xC.of (cc := b_D_isDigit) (nL := 1) (ret := (some .boolean)) (by decide) rfl (Nat.le_of_ble_eq_true rfl) ?_
  show RR l D clX (tysX cs) Ev "DeckFront" b_D_isDigit 1 w_D_isDigit (rmD (d + 0)) (some .boolean) wd0 (pI post) 0 0 0 0 0 [(0, .int a0)] [] u
  refine x_iload_n (x := a0) d_D_isDigit_0 rfl ?_
  refine x_bipush (v := 48) d_D_isDigit_1 (by decide) ?_
  refine x_icmp_lt (tgt := 16) d_D_isDigit_3 rfl (fun hc => ?_) (fun hc => ?_)
  · have h := h.1 hc
    refine x_iconst (v := 0) d_D_isDigit_16 (by decide) ?_
    refine x_zret rfl d_D_isDigit_17 ⟨_, rfl, ?_⟩
    exact h
  · have h := h.2 hc
    refine x_iload_n (x := a0) d_D_isDigit_6 rfl ?_
    refine x_bipush (v := 57) d_D_isDigit_7 (by decide) ?_
    refine x_icmp_gt (tgt := 16) d_D_isDigit_9 rfl (fun hc => ?_) (fun hc => ?_)
    · have h := h.1 hc
      refine x_iconst (v := 0) d_D_isDigit_16 (by decide) ?_
      refine x_zret rfl d_D_isDigit_17 ⟨_, rfl, ?_⟩
      exact h
    · have h := h.2 hc
      refine x_iconst (v := 1) d_D_isDigit_12 (by decide) ?_
      refine x_goto (tgt := 17) d_D_isDigit_13 rfl ?_
      refine x_zret rfl d_D_isDigit_17 ⟨_, rfl, ?_⟩
      exact h
theorem cf_D_isDigit (l : Launch) (D : va_G) (cs : Nat → ClassId) (Ev : (Nat → Prop) → State → Prop) (hE : xEok Ev) (adK adV : Nat → Nat) (fm : Option Nat) (X : xEv adK adV fm Ev) (d : Nat) (x : Int32) : xC l D clX (tysX cs) Ev y_D_isDigit w_D_isDigit (rmD (d + 0)) wd0 [.int x] () (pI (fun r u1 => r = isDig x ∧ () = u1)) 0 0 := by
  refine c_D_isDigit l D cs Ev hE adK adV fm X d _ x () ?_
  unfold P_D_isDigit isDig
  exact ⟨fun h => ⟨by rw [if_pos h], rfl⟩, fun h => ⟨fun h2 => ⟨by rw [if_neg h, if_pos h2], rfl⟩, fun h2 => ⟨by rw [if_neg h, if_neg h2], rfl⟩⟩⟩
def P_D_nameOf_87 (post : Int64 → Unit → Prop) (K9 : Int64 → Int64 → Int32 → Int32 → Unit → Prop) (x0 : Int64) (x2 : Int64) (x4 : Int32) (x5 : Int32) (u : Unit) : Prop := K9 x0 x2 x4 (x5 + (-8)) u
set_option maxHeartbeats 600000 in
set_option maxRecDepth 100000 in
theorem w_D_nameOf_87 (l : Launch) (D : va_G) (cs : Nat → ClassId) (Ev : (Nat → Prop) → State → Prop) (hE : xEok Ev) (adK adV : Nat → Nat) (fm : Option Nat) (X : xEv adK adV fm Ev) (d : Nat) (post : Int64 → Unit → Prop) (K9 : Int64 → Int64 → Int32 → Int32 → Unit → Prop) (hK9 : ∀ (x0 : Int64) (x2 : Int64) (x4 : Int32) (x5 : Int32) (u : Unit), K9 x0 x2 x4 x5 u → RR l D clX (tysX cs) Ev "DeckFront" b_D_nameOf 8 w_D_nameOf (rmD (d + 1)) (some .long) wd0 (pJ post) 0 0 0 0 9 [(0, .long x0), (2, .long x2), (4, .int x4), (5, .int x5)] [] u) (x0 : Int64) (x2 : Int64) (x4 : Int32) (x5 : Int32) (u : Unit) (h : P_D_nameOf_87 post K9 x0 x2 x4 x5 u) : RR l D clX (tysX cs) Ev "DeckFront" b_D_nameOf 8 w_D_nameOf (rmD (d + 1)) (some .long) wd0 (pJ post) 0 0 0 0 87 [(0, .long x0), (2, .long x2), (4, .int x4), (5, .int x5)] [] u := by
  unfold P_D_nameOf_87 at h
  refine x_iinc (v := x5 + (-8)) (lv' := [(5, .int (x5 + (-8))), (0, .long x0), (2, .long x2), (4, .int x4)]) d_D_nameOf_87 rfl rfl (by decide) rfl ?_
  refine x_goto (tgt := 9) d_D_nameOf_90 rfl ?_
  refine x_sub [1, 2, 3, 0] rfl ?_
  exact hK9 x0 x2 x4 (x5 + (-8)) u h
def P_D_nameOf_59 (post : Int64 → Unit → Prop) (K9 : Int64 → Int64 → Int32 → Int32 → Unit → Prop) (x0 : Int64) (x2 : Int64) (x4 : Int32) (x5 : Int32) (x6 : Int32) (s0 : Int32) (u : Unit) : Prop := ((s0 = 0 → post 0 u) ∧ (¬ s0 = 0 → ((¬ x4 = 6 → (∀ v2, v2 = ((x2 <<< ((8 : Int32).toInt64 &&& 63)) ||| x6.toInt64) → P_D_nameOf_87 post K9 x0 v2 (x4 + 1) x5 u)) ∧ (x4 = 6 → post 0 u))))
set_option maxHeartbeats 600000 in
set_option maxRecDepth 100000 in
theorem w_D_nameOf_59 (l : Launch) (D : va_G) (cs : Nat → ClassId) (Ev : (Nat → Prop) → State → Prop) (hE : xEok Ev) (adK adV : Nat → Nat) (fm : Option Nat) (X : xEv adK adV fm Ev) (d : Nat) (post : Int64 → Unit → Prop) (K9 : Int64 → Int64 → Int32 → Int32 → Unit → Prop) (hK9 : ∀ (x0 : Int64) (x2 : Int64) (x4 : Int32) (x5 : Int32) (u : Unit), K9 x0 x2 x4 x5 u → RR l D clX (tysX cs) Ev "DeckFront" b_D_nameOf 8 w_D_nameOf (rmD (d + 1)) (some .long) wd0 (pJ post) 0 0 0 0 9 [(0, .long x0), (2, .long x2), (4, .int x4), (5, .int x5)] [] u) (x0 : Int64) (x2 : Int64) (x4 : Int32) (x5 : Int32) (x6 : Int32) (s0 : Int32) (u : Unit) (h : P_D_nameOf_59 post K9 x0 x2 x4 x5 x6 s0 u) : RR l D clX (tysX cs) Ev "DeckFront" b_D_nameOf 8 w_D_nameOf (rmD (d + 1)) (some .long) wd0 (pJ post) 0 0 0 0 59 [(0, .long x0), (2, .long x2), (4, .int x4), (5, .int x5), (6, .int x6)] [.int s0] u := by
  unfold P_D_nameOf_59 at h
  refine x_istore (lv' := [(7, .int s0), (0, .long x0), (2, .long x2), (4, .int x4), (5, .int x5), (6, .int x6)]) d_D_nameOf_59 (by decide) rfl ?_
  refine x_iload (x := s0) d_D_nameOf_61 rfl ?_
  refine x_if_eq (tgt := 73) d_D_nameOf_63 rfl (fun hc => ?_) (fun hc => ?_)
  · have h := h.1 hc
    refine x_lconst (v := 0) d_D_nameOf_73 (by decide) ?_
    refine x_lret d_D_nameOf_74 ⟨_, rfl, ?_⟩
    exact h
  · have h := h.2 hc
    refine x_iload (x := x4) d_D_nameOf_66 rfl ?_
    refine x_bipush (v := 6) d_D_nameOf_68 (by decide) ?_
    refine x_icmp_ne (tgt := 75) d_D_nameOf_70 rfl (fun hc => ?_) (fun hc => ?_)
    · have h := h.1 hc
      refine x_lload_n (x := x2) d_D_nameOf_75 rfl ?_
      refine x_bipush (v := 8) d_D_nameOf_76 (by decide) ?_
      refine x_lshl d_D_nameOf_78 ?_
      refine x_iload (x := x6) d_D_nameOf_79 rfl ?_
      refine x_i2l d_D_nameOf_81 ?_
      refine x_lor d_D_nameOf_82 ?_
      refine x_topJ (fun v2 ev2 => ?_)
      have h := h v2 ev2
      refine x_lstore_n (lv' := [(2, .long v2), (7, .int s0), (0, .long x0), (4, .int x4), (5, .int x5), (6, .int x6)]) d_D_nameOf_83 (by decide) rfl ?_
      refine x_iinc (v := x4 + 1) (lv' := [(4, .int (x4 + 1)), (2, .long v2), (7, .int s0), (0, .long x0), (5, .int x5), (6, .int x6)]) d_D_nameOf_84 rfl rfl (by decide) rfl ?_
      refine x_sub [3, 1, 0, 4] rfl ?_
      exact w_D_nameOf_87 l D cs Ev hE adK adV fm X d post K9 hK9 x0 v2 (x4 + 1) x5 u h
    · have h := h.2 hc
      refine x_lconst (v := 0) d_D_nameOf_73 (by decide) ?_
      refine x_lret d_D_nameOf_74 ⟨_, rfl, ?_⟩
      exact h
def P_D_nameOf_54 (post : Int64 → Unit → Prop) (K9 : Int64 → Int64 → Int32 → Int32 → Unit → Prop) (x0 : Int64) (x2 : Int64) (x4 : Int32) (x5 : Int32) (x6 : Int32) (u : Unit) : Prop := P_D_nameOf_59 post K9 x0 x2 x4 x5 x6 1 u
set_option maxHeartbeats 600000 in
set_option maxRecDepth 100000 in
theorem w_D_nameOf_54 (l : Launch) (D : va_G) (cs : Nat → ClassId) (Ev : (Nat → Prop) → State → Prop) (hE : xEok Ev) (adK adV : Nat → Nat) (fm : Option Nat) (X : xEv adK adV fm Ev) (d : Nat) (post : Int64 → Unit → Prop) (K9 : Int64 → Int64 → Int32 → Int32 → Unit → Prop) (hK9 : ∀ (x0 : Int64) (x2 : Int64) (x4 : Int32) (x5 : Int32) (u : Unit), K9 x0 x2 x4 x5 u → RR l D clX (tysX cs) Ev "DeckFront" b_D_nameOf 8 w_D_nameOf (rmD (d + 1)) (some .long) wd0 (pJ post) 0 0 0 0 9 [(0, .long x0), (2, .long x2), (4, .int x4), (5, .int x5)] [] u) (x0 : Int64) (x2 : Int64) (x4 : Int32) (x5 : Int32) (x6 : Int32) (u : Unit) (h : P_D_nameOf_54 post K9 x0 x2 x4 x5 x6 u) : RR l D clX (tysX cs) Ev "DeckFront" b_D_nameOf 8 w_D_nameOf (rmD (d + 1)) (some .long) wd0 (pJ post) 0 0 0 0 54 [(0, .long x0), (2, .long x2), (4, .int x4), (5, .int x5), (6, .int x6)] [] u := by
  unfold P_D_nameOf_54 at h
  refine x_iconst (v := 1) d_D_nameOf_54 (by decide) ?_
  refine x_goto (tgt := 59) d_D_nameOf_55 rfl ?_
  exact w_D_nameOf_59 l D cs Ev hE adK adV fm X d post K9 hK9 x0 x2 x4 x5 x6 1 u h
def P_D_nameOf_58 (post : Int64 → Unit → Prop) (K9 : Int64 → Int64 → Int32 → Int32 → Unit → Prop) (x0 : Int64) (x2 : Int64) (x4 : Int32) (x5 : Int32) (x6 : Int32) (u : Unit) : Prop := P_D_nameOf_59 post K9 x0 x2 x4 x5 x6 0 u
set_option maxHeartbeats 600000 in
set_option maxRecDepth 100000 in
theorem w_D_nameOf_58 (l : Launch) (D : va_G) (cs : Nat → ClassId) (Ev : (Nat → Prop) → State → Prop) (hE : xEok Ev) (adK adV : Nat → Nat) (fm : Option Nat) (X : xEv adK adV fm Ev) (d : Nat) (post : Int64 → Unit → Prop) (K9 : Int64 → Int64 → Int32 → Int32 → Unit → Prop) (hK9 : ∀ (x0 : Int64) (x2 : Int64) (x4 : Int32) (x5 : Int32) (u : Unit), K9 x0 x2 x4 x5 u → RR l D clX (tysX cs) Ev "DeckFront" b_D_nameOf 8 w_D_nameOf (rmD (d + 1)) (some .long) wd0 (pJ post) 0 0 0 0 9 [(0, .long x0), (2, .long x2), (4, .int x4), (5, .int x5)] [] u) (x0 : Int64) (x2 : Int64) (x4 : Int32) (x5 : Int32) (x6 : Int32) (u : Unit) (h : P_D_nameOf_58 post K9 x0 x2 x4 x5 x6 u) : RR l D clX (tysX cs) Ev "DeckFront" b_D_nameOf 8 w_D_nameOf (rmD (d + 1)) (some .long) wd0 (pJ post) 0 0 0 0 58 [(0, .long x0), (2, .long x2), (4, .int x4), (5, .int x5), (6, .int x6)] [] u := by
  unfold P_D_nameOf_58 at h
  refine x_iconst (v := 0) d_D_nameOf_58 (by decide) ?_
  exact w_D_nameOf_59 l D cs Ev hE adK adV fm X d post K9 hK9 x0 x2 x4 x5 x6 0 u h
def P_D_nameOf_9 (post : Int64 → Unit → Prop) : Nat → Int64 → Int64 → Int32 → Int32 → Unit → Prop
  | 0, _, _, _, _, _ => False
  | f + 1, x0, x2, x4, x5, u => ((x5 < 0 → post x2 u) ∧ (¬ x5 < 0 → (∀ v1, v1 = ((((x0.toUInt64 >>> (x5.toInt64.toUInt64 &&& Int64.toUInt64 63)).toInt64).toInt32) &&& (255 : Int32)) → ((¬ v1 = 0 → ((¬ (isLet v1) = 0 → P_D_nameOf_54 post (fun zx0 zx2 zx4 zx5 zu => P_D_nameOf_9 post f zx0 zx2 zx4 zx5 zu) x0 x2 x4 x5 v1 u) ∧ ((isLet v1) = 0 → ((x4 ≤ 0 → P_D_nameOf_58 post (fun zx0 zx2 zx4 zx5 zu => P_D_nameOf_9 post f zx0 zx2 zx4 zx5 zu) x0 x2 x4 x5 v1 u) ∧ (¬ x4 ≤ 0 → (((isDig v1) = 0 → P_D_nameOf_58 post (fun zx0 zx2 zx4 zx5 zu => P_D_nameOf_9 post f zx0 zx2 zx4 zx5 zu) x0 x2 x4 x5 v1 u) ∧ (¬ (isDig v1) = 0 → P_D_nameOf_54 post (fun zx0 zx2 zx4 zx5 zu => P_D_nameOf_9 post f zx0 zx2 zx4 zx5 zu) x0 x2 x4 x5 v1 u))))))) ∧ (v1 = 0 → P_D_nameOf_87 post (fun zx0 zx2 zx4 zx5 zu => P_D_nameOf_9 post f zx0 zx2 zx4 zx5 zu) x0 x2 x4 x5 u)))))
set_option maxHeartbeats 600000 in
set_option maxRecDepth 100000 in
theorem w_D_nameOf_9 (l : Launch) (D : va_G) (cs : Nat → ClassId) (Ev : (Nat → Prop) → State → Prop) (hE : xEok Ev) (adK adV : Nat → Nat) (fm : Option Nat) (X : xEv adK adV fm Ev) (d : Nat) (post : Int64 → Unit → Prop) : ∀ (f : Nat) (x0 : Int64) (x2 : Int64) (x4 : Int32) (x5 : Int32) (u : Unit), P_D_nameOf_9 post  f x0 x2 x4 x5 u → RR l D clX (tysX cs) Ev "DeckFront" b_D_nameOf 8 w_D_nameOf (rmD (d + 1)) (some .long) wd0 (pJ post) 0 0 0 0 9 [(0, .long x0), (2, .long x2), (4, .int x4), (5, .int x5)] [] u := by
  intro f
  induction f with
  | zero => intro x0 x2 x4 x5 u h; exact h.elim
  | succ f ih =>
    intro x0 x2 x4 x5 u h
    unfold P_D_nameOf_9 at h
    refine x_iload (x := x5) d_D_nameOf_9 rfl ?_
    refine x_if_lt (tgt := 93) d_D_nameOf_11 rfl (fun hc => ?_) (fun hc => ?_)
    · have h := h.1 hc
      refine x_lload_n (x := x2) d_D_nameOf_93 rfl ?_
      refine x_lret d_D_nameOf_94 ⟨_, rfl, ?_⟩
      exact h
    · have h := h.2 hc
      refine x_lload_n (x := x0) d_D_nameOf_14 rfl ?_
      refine x_iload (x := x5) d_D_nameOf_15 rfl ?_
      refine x_lushr d_D_nameOf_17 ?_
      refine x_l2i d_D_nameOf_18 ?_
      refine x_sipush (v := 255) d_D_nameOf_19 (by decide) ?_
      refine x_iand d_D_nameOf_22 ?_
      refine x_topI (fun v1 ev1 => ?_)
      have h := h v1 ev1
      refine x_istore (lv' := [(6, .int v1), (0, .long x0), (2, .long x2), (4, .int x4), (5, .int x5)]) d_D_nameOf_23 (by decide) rfl ?_
      refine x_iload (x := v1) d_D_nameOf_25 rfl ?_
      refine x_if_ne (tgt := 33) d_D_nameOf_27 rfl (fun hc => ?_) (fun hc => ?_)
      · have h := h.1 hc
        refine x_iload (x := v1) d_D_nameOf_33 rfl ?_
        refine x_callS (st := []) k_D_97 x_id (cf_D_isLetter l D cs Ev hE adK adV fm X (d + 0) v1) hE (rmD_ok (by omega) (by decide)) rfl (Nat.le_of_ble_eq_true rfl) rfl d_D_nameOf_35 (x_rI (fun x u1 h9 => ?_))
        obtain ⟨rfl, rfl⟩ := h9
        refine x_if_ne (tgt := 54) d_D_nameOf_38 rfl (fun hc => ?_) (fun hc => ?_)
        · have h := h.1 hc
          refine x_sub [1, 2, 3, 4, 0] rfl ?_
          exact w_D_nameOf_54 l D cs Ev hE adK adV fm X d post (fun zx0 zx2 zx4 zx5 zu => P_D_nameOf_9 post f zx0 zx2 zx4 zx5 zu) ih x0 x2 x4 x5 v1 u h
        · have h := h.2 hc
          refine x_iload (x := x4) d_D_nameOf_41 rfl ?_
          refine x_if_le (tgt := 58) d_D_nameOf_43 rfl (fun hc => ?_) (fun hc => ?_)
          · have h := h.1 hc
            refine x_sub [1, 2, 3, 4, 0] rfl ?_
            exact w_D_nameOf_58 l D cs Ev hE adK adV fm X d post (fun zx0 zx2 zx4 zx5 zu => P_D_nameOf_9 post f zx0 zx2 zx4 zx5 zu) ih x0 x2 x4 x5 v1 u h
          · have h := h.2 hc
            refine x_iload (x := v1) d_D_nameOf_46 rfl ?_
            refine x_callS (st := []) k_D_101 x_id (cf_D_isDigit l D cs Ev hE adK adV fm X (d + 0) v1) hE (rmD_ok (by omega) (by decide)) rfl (Nat.le_of_ble_eq_true rfl) rfl d_D_nameOf_48 (x_rI (fun x u1 h9 => ?_))
            obtain ⟨rfl, rfl⟩ := h9
            refine x_if_eq (tgt := 58) d_D_nameOf_51 rfl (fun hc => ?_) (fun hc => ?_)
            · have h := h.1 hc
              refine x_sub [1, 2, 3, 4, 0] rfl ?_
              exact w_D_nameOf_58 l D cs Ev hE adK adV fm X d post (fun zx0 zx2 zx4 zx5 zu => P_D_nameOf_9 post f zx0 zx2 zx4 zx5 zu) ih x0 x2 x4 x5 v1 u h
            · have h := h.2 hc
              refine x_sub [1, 2, 3, 4, 0] rfl ?_
              exact w_D_nameOf_54 l D cs Ev hE adK adV fm X d post (fun zx0 zx2 zx4 zx5 zu => P_D_nameOf_9 post f zx0 zx2 zx4 zx5 zu) ih x0 x2 x4 x5 v1 u h
      · have h := h.2 hc
        refine x_goto (tgt := 87) d_D_nameOf_30 rfl ?_
        refine x_sub [1, 2, 3, 4] rfl ?_
        exact w_D_nameOf_87 l D cs Ev hE adK adV fm X d post (fun zx0 zx2 zx4 zx5 zu => P_D_nameOf_9 post f zx0 zx2 zx4 zx5 zu) ih x0 x2 x4 x5 u h
def P_D_nameOf (post : Int64 → Unit → Prop) (a0 : Int64) (u : Unit) : Prop := (∃ g, P_D_nameOf_9 post g a0 0 0 56 u)
set_option maxHeartbeats 600000 in
set_option maxRecDepth 100000 in
theorem c_D_nameOf (l : Launch) (D : va_G) (cs : Nat → ClassId) (Ev : (Nat → Prop) → State → Prop) (hE : xEok Ev) (adK adV : Nat → Nat) (fm : Option Nat) (X : xEv adK adV fm Ev) (d : Nat) (post : Int64 → Unit → Prop) (a0 : Int64) (u : Unit) (h : P_D_nameOf post a0 u) : xC l D clX (tysX cs) Ev y_D_nameOf w_D_nameOf (rmD (d + 1)) wd0 [.long a0] u (pJ post) 0 0 := by
  unfold P_D_nameOf at h
  refine xC.of (cc := b_D_nameOf) (nL := 8) (ret := (some .long)) (by decide) rfl (Nat.le_of_ble_eq_true rfl) ?_
  show RR l D clX (tysX cs) Ev "DeckFront" b_D_nameOf 8 w_D_nameOf (rmD (d + 1)) (some .long) wd0 (pJ post) 0 0 0 0 0 [(0, .long a0)] [] u
  refine x_lconst (v := 0) d_D_nameOf_0 (by decide) ?_
  refine x_lstore_n (lv' := [(2, .long 0), (0, .long a0)]) d_D_nameOf_1 (by decide) rfl ?_
  refine x_iconst (v := 0) d_D_nameOf_2 (by decide) ?_
  refine x_istore (lv' := [(4, .int 0), (2, .long 0), (0, .long a0)]) d_D_nameOf_3 (by decide) rfl ?_
  refine x_bipush (v := 56) d_D_nameOf_5 (by decide) ?_
  refine x_istore (lv' := [(5, .int 56), (4, .int 0), (2, .long 0), (0, .long a0)]) d_D_nameOf_7 (by decide) rfl ?_
  refine x_sub [3, 2, 1, 0] rfl ?_
  obtain ⟨f9, h⟩ := h
  exact w_D_nameOf_9 l D cs Ev hE adK adV fm X d post  f9 a0 0 0 56 u h
def P_D_typeByLetter_31 (post : Int32 → Unit → Prop) (x2 : Int64) (u : Unit) : Prop := (((lg_cmp x2 73) < 0 → post 2 u) ∧ (¬ (lg_cmp x2 73) < 0 → ((0 < (lg_cmp x2 78) → post 2 u) ∧ (¬ 0 < (lg_cmp x2 78) → post 1 u))))
set_option maxHeartbeats 600000 in
set_option maxRecDepth 100000 in
theorem w_D_typeByLetter_31 (l : Launch) (D : va_G) (cs : Nat → ClassId) (Ev : (Nat → Prop) → State → Prop) (hE : xEok Ev) (adK adV : Nat → Nat) (fm : Option Nat) (X : xEv adK adV fm Ev) (d : Nat) (post : Int32 → Unit → Prop) (x2 : Int64) (u : Unit) (h : P_D_typeByLetter_31 post  x2 u) : RR l D clX (tysX cs) Ev "DeckFront" b_D_typeByLetter 5 w_D_typeByLetter (rmD (d + 0)) (some .int) wd0 (pI post) 0 0 0 0 31 [(2, .long x2)] [] u := by
  unfold P_D_typeByLetter_31 at h
  refine x_lload_n (x := x2) d_D_typeByLetter_31 rfl ?_
  refine x_ldc2 (v := 73) (cG tw_323) d_D_typeByLetter_32 ?_
  refine x_lcmp d_D_typeByLetter_35 ?_
  refine x_if_lt (tgt := 51) d_D_typeByLetter_36 rfl (fun hc => ?_) (fun hc => ?_)
  · have h := h.1 hc
    refine x_iconst (v := 2) d_D_typeByLetter_51 (by decide) ?_
    refine x_iret d_D_typeByLetter_52 ⟨_, rfl, ?_⟩
    exact h
  · have h := h.2 hc
    refine x_lload_n (x := x2) d_D_typeByLetter_39 rfl ?_
    refine x_ldc2 (v := 78) (cG tw_324) d_D_typeByLetter_40 ?_
    refine x_lcmp d_D_typeByLetter_43 ?_
    refine x_if_gt (tgt := 51) d_D_typeByLetter_44 rfl (fun hc => ?_) (fun hc => ?_)
    · have h := h.1 hc
      refine x_iconst (v := 2) d_D_typeByLetter_51 (by decide) ?_
      refine x_iret d_D_typeByLetter_52 ⟨_, rfl, ?_⟩
      exact h
    · have h := h.2 hc
      refine x_iconst (v := 1) d_D_typeByLetter_47 (by decide) ?_
      refine x_goto (tgt := 52) d_D_typeByLetter_48 rfl ?_
      refine x_iret d_D_typeByLetter_52 ⟨_, rfl, ?_⟩
      exact h
def P_D_typeByLetter_5 (post : Int32 → Unit → Prop) : Nat → Int64 → Int32 → Unit → Prop
  | 0, _, _, _ => False
  | f + 1, x2, x4, u => ((6 ≤ x4 → P_D_typeByLetter_31 post x2 u) ∧ (¬ 6 ≤ x4 → (((lg_cmp x2 255) ≤ 0 → P_D_typeByLetter_31 post x2 u) ∧ (¬ (lg_cmp x2 255) ≤ 0 → (∀ v1, v1 = ((x2.toUInt64 >>> ((8 : Int32).toInt64.toUInt64 &&& Int64.toUInt64 63)).toInt64) → P_D_typeByLetter_5 post f v1 (x4 + 1) u)))))
set_option maxHeartbeats 600000 in
set_option maxRecDepth 100000 in
theorem w_D_typeByLetter_5 (l : Launch) (D : va_G) (cs : Nat → ClassId) (Ev : (Nat → Prop) → State → Prop) (hE : xEok Ev) (adK adV : Nat → Nat) (fm : Option Nat) (X : xEv adK adV fm Ev) (d : Nat) (post : Int32 → Unit → Prop) : ∀ (f : Nat) (x2 : Int64) (x4 : Int32) (u : Unit), P_D_typeByLetter_5 post  f x2 x4 u → RR l D clX (tysX cs) Ev "DeckFront" b_D_typeByLetter 5 w_D_typeByLetter (rmD (d + 0)) (some .int) wd0 (pI post) 0 0 0 0 5 [(2, .long x2), (4, .int x4)] [] u := by
  intro f
  induction f with
  | zero => intro x2 x4 u h; exact h.elim
  | succ f ih =>
    intro x2 x4 u h
    unfold P_D_typeByLetter_5 at h
    refine x_iload (x := x4) d_D_typeByLetter_5 rfl ?_
    refine x_bipush (v := 6) d_D_typeByLetter_7 (by decide) ?_
    refine x_icmp_ge (tgt := 31) d_D_typeByLetter_9 rfl (fun hc => ?_) (fun hc => ?_)
    · have h := h.1 hc
      refine x_sub [0] rfl ?_
      exact w_D_typeByLetter_31 l D cs Ev hE adK adV fm X d post  x2 u h
    · have h := h.2 hc
      refine x_lload_n (x := x2) d_D_typeByLetter_12 rfl ?_
      refine x_ldc2 (v := 255) (cG tw_322) d_D_typeByLetter_13 ?_
      refine x_lcmp d_D_typeByLetter_16 ?_
      refine x_if_le (tgt := 31) d_D_typeByLetter_17 rfl (fun hc => ?_) (fun hc => ?_)
      · have h := h.1 hc
        refine x_sub [0] rfl ?_
        exact w_D_typeByLetter_31 l D cs Ev hE adK adV fm X d post  x2 u h
      · have h := h.2 hc
        refine x_lload_n (x := x2) d_D_typeByLetter_20 rfl ?_
        refine x_bipush (v := 8) d_D_typeByLetter_21 (by decide) ?_
        refine x_lushr d_D_typeByLetter_23 ?_
        refine x_topJ (fun v1 ev1 => ?_)
        have h := h v1 ev1
        refine x_lstore_n (lv' := [(2, .long v1), (4, .int x4)]) d_D_typeByLetter_24 (by decide) rfl ?_
        refine x_iinc (v := x4 + 1) (lv' := [(4, .int (x4 + 1)), (2, .long v1)]) d_D_typeByLetter_25 rfl rfl (by decide) rfl ?_
        refine x_goto (tgt := 5) d_D_typeByLetter_28 rfl ?_
        refine x_sub [1, 0] rfl ?_
        exact ih v1 (x4 + 1) u h
def P_D_typeByLetter (post : Int32 → Unit → Prop) (a0 : Int64) (u : Unit) : Prop := (∃ g, P_D_typeByLetter_5 post g a0 1 u)
set_option maxHeartbeats 600000 in
set_option maxRecDepth 100000 in
theorem c_D_typeByLetter (l : Launch) (D : va_G) (cs : Nat → ClassId) (Ev : (Nat → Prop) → State → Prop) (hE : xEok Ev) (adK adV : Nat → Nat) (fm : Option Nat) (X : xEv adK adV fm Ev) (d : Nat) (post : Int32 → Unit → Prop) (a0 : Int64) (u : Unit) (h : P_D_typeByLetter post a0 u) : xC l D clX (tysX cs) Ev y_D_typeByLetter w_D_typeByLetter (rmD (d + 0)) wd0 [.long a0] u (pI post) 0 0 := by
  unfold P_D_typeByLetter at h
  refine xC.of (cc := b_D_typeByLetter) (nL := 5) (ret := (some .int)) (by decide) rfl (Nat.le_of_ble_eq_true rfl) ?_
  show RR l D clX (tysX cs) Ev "DeckFront" b_D_typeByLetter 5 w_D_typeByLetter (rmD (d + 0)) (some .int) wd0 (pI post) 0 0 0 0 0 [(0, .long a0)] [] u
  refine x_lload_n (x := a0) d_D_typeByLetter_0 rfl ?_
  refine x_lstore_n (lv' := [(2, .long a0), (0, .long a0)]) d_D_typeByLetter_1 (by decide) rfl ?_
  refine x_iconst (v := 1) d_D_typeByLetter_2 (by decide) ?_
  refine x_istore (lv' := [(4, .int 1), (2, .long a0), (0, .long a0)]) d_D_typeByLetter_3 (by decide) rfl ?_
  refine x_sub [1, 0] rfl ?_
  obtain ⟨f9, h⟩ := h
  exact w_D_typeByLetter_5 l D cs Ev hE adK adV fm X d post  f9 a0 1 u h
def P_C_isCardSign (post : Int32 → Unit → Prop) (a0 : Int32) (u : Unit) : Prop := ((¬ (isLet a0) = 0 → post 1 u) ∧ ((isLet a0) = 0 → ((¬ (isDig a0) = 0 → post 1 u) ∧ ((isDig a0) = 0 → P_JS_indexOf0 (fun r2 u1 => ((r2 < 0 → post 0 u1) ∧ (¬ r2 < 0 → post 1 u1))) 0 ((a0.toUInt32 % 65536).toInt32) ()))))
set_option maxHeartbeats 600000 in
set_option maxRecDepth 100000 in
theorem c_C_isCardSign (l : Launch) (D : va_G) (cs : Nat → ClassId) (Ev : (Nat → Prop) → State → Prop) (hE : xEok Ev) (adK adV : Nat → Nat) (fm : Option Nat) (X : xEv adK adV fm Ev) (d : Nat) (post : Int32 → Unit → Prop) (a0 : Int32) (u : Unit) (h : P_C_isCardSign post a0 u) : xC l D clX (tysX cs) Ev y_C_isCardSign w_C_isCardSign (rmD (d + 4)) wd0 [.int a0] u (pI post) 0 0 := by
  unfold P_C_isCardSign at h
  refine xC.of (cc := b_C_isCardSign) (nL := 1) (ret := (some .boolean)) (by decide) rfl (Nat.le_of_ble_eq_true rfl) ?_
  show RR l D clX (tysX cs) Ev "DeckFront$Card" b_C_isCardSign 1 w_C_isCardSign (rmD (d + 4)) (some .boolean) wd0 (pI post) 0 0 0 0 0 [(0, .int a0)] [] u
  refine x_iload_n (x := a0) d_C_isCardSign_0 rfl ?_
  refine x_callSN (st := []) (k_C_23 X) x_id (cf_D_isLetter l D cs Ev hE adK adV fm X (d + 3) a0) hE (rmD_ok (by omega) (by decide)) rfl (Nat.le_of_ble_eq_true rfl) rfl d_C_isCardSign_1 (x_rI (fun x u1 h9 => ?_))
  obtain ⟨rfl, rfl⟩ := h9
  refine x_if_ne (tgt := 24) d_C_isCardSign_4 rfl (fun hc => ?_) (fun hc => ?_)
  · have h := h.1 hc
    refine x_iconst (v := 1) d_C_isCardSign_24 (by decide) ?_
    refine x_goto (tgt := 29) d_C_isCardSign_25 rfl ?_
    refine x_zret rfl d_C_isCardSign_29 ⟨_, rfl, ?_⟩
    exact h
  · have h := h.2 hc
    refine x_iload_n (x := a0) d_C_isCardSign_7 rfl ?_
    refine x_callSN (st := []) (k_C_26 X) x_id (cf_D_isDigit l D cs Ev hE adK adV fm X (d + 3) a0) hE (rmD_ok (by omega) (by decide)) rfl (Nat.le_of_ble_eq_true rfl) rfl d_C_isCardSign_8 (x_rI (fun x u1 h9 => ?_))
    obtain ⟨rfl, rfl⟩ := h9
    refine x_if_ne (tgt := 24) d_C_isCardSign_11 rfl (fun hc => ?_) (fun hc => ?_)
    · have h := h.1 hc
      refine x_iconst (v := 1) d_C_isCardSign_24 (by decide) ?_
      refine x_goto (tgt := 29) d_C_isCardSign_25 rfl ?_
      refine x_zret rfl d_C_isCardSign_29 ⟨_, rfl, ?_⟩
      exact h
    · have h := h.2 hc
      refine x_ldcS (fun A s h9 => ((X A s h9).2.1 0 (by decide)).1) d_C_isCardSign_14 ?_
      refine x_iload_n (x := a0) d_C_isCardSign_16 rfl ?_
      refine x_i2c d_C_isCardSign_17 ?_
      refine x_callVO (st := []) k_C_31 (fun A s h9 => ((X A s h9).2.1 0 (by decide)).2.1) x_id (c_JS_indexOf0 l D cs Ev hE adK adV fm X 0 (by decide) (d + 0) _ ((a0.toUInt32 % 65536).toInt32) () h) hE (rmD_ok (by omega) (by decide)) rfl (Nat.le_of_ble_eq_true rfl) rfl d_C_isCardSign_18 (x_rI (fun r2 u1 h => ?_))
      refine x_if_lt (tgt := 28) d_C_isCardSign_21 rfl (fun hc => ?_) (fun hc => ?_)
      · have h := h.1 hc
        refine x_iconst (v := 0) d_C_isCardSign_28 (by decide) ?_
        refine x_zret rfl d_C_isCardSign_29 ⟨_, rfl, ?_⟩
        exact h
      · have h := h.2 hc
        refine x_iconst (v := 1) d_C_isCardSign_24 (by decide) ?_
        refine x_goto (tgt := 29) d_C_isCardSign_25 rfl ?_
        refine x_zret rfl d_C_isCardSign_29 ⟨_, rfl, ?_⟩
        exact h
def P_C_append_116 (post : Int32 → MS → Prop) (K73 : Int64 → Int32 → MS → Prop) (x1 : Int64) (x4 : Int32) (u : MS) : Prop := K73 x1 (x4 + (-8)) u
set_option maxHeartbeats 600000 in
set_option maxRecDepth 100000 in
theorem w_C_append_116 (l : Launch) (D : va_G) (cs : Nat → ClassId) (Ev : (Nat → Prop) → State → Prop) (hE : xEok Ev) (adK adV : Nat → Nat) (fm : Option Nat) (X : xEv adK adV fm Ev) (o : Nat) (a : Nat → Nat) (d : Nat) (post : Int32 → MS → Prop) (K73 : Int64 → Int32 → MS → Prop) (hK73 : ∀ (x1 : Int64) (x4 : Int32) (u : MS), K73 x1 x4 u → RR l D clX (tysX cs) Ev "DeckFront$Card" b_C_append 6 w_C_append (rmD (d + 5)) (some .boolean) (wdC o a cs) (pI post) 0 0 0 0 73 [(0, .ref o), (1, .long x1), (4, .int x4)] [] u) (x1 : Int64) (x4 : Int32) (u : MS) (h : P_C_append_116 post K73 x1 x4 u) : RR l D clX (tysX cs) Ev "DeckFront$Card" b_C_append 6 w_C_append (rmD (d + 5)) (some .boolean) (wdC o a cs) (pI post) 0 0 0 0 116 [(0, .ref o), (1, .long x1), (4, .int x4)] [] u := by
  unfold P_C_append_116 at h
  refine x_iinc (v := x4 + (-8)) (lv' := [(4, .int (x4 + (-8))), (0, .ref o), (1, .long x1)]) d_C_append_116 rfl rfl (by decide) rfl ?_
  refine x_goto (tgt := 73) d_C_append_119 rfl ?_
  refine x_sub [1, 2, 0] rfl ?_
  exact hK73 x1 (x4 + (-8)) u h
def P_C_append_73 (post : Int32 → MS → Prop) : Nat → Int64 → Int32 → MS → Prop
  | 0, _, _, _ => False
  | f + 1, x1, x4, u => ((x4 < 0 → post 1 u) ∧ (¬ x4 < 0 → (∀ v1, v1 = ((((x1.toUInt64 >>> (x4.toInt64.toUInt64 &&& Int64.toUInt64 63)).toInt64).toInt32) &&& (255 : Int32)) → ((v1 = 0 → P_C_append_116 post (fun zx1 zx4 zu => P_C_append_73 post f zx1 zx4 zu) x1 x4 u) ∧ (¬ v1 = 0 → (vp_in (gI u 1) 72 ∧ P_C_append_116 post (fun zx1 zx4 zu => P_C_append_73 post f zx1 zx4 zu) x1 x4 (sI (sA u 0 (gI u 1).toNatClampNeg (vp_nar .char ((v1.toUInt32 % 65536).toInt32))) 1 ((gI u 1) + (1 : Int32)))))))))
set_option maxHeartbeats 600000 in
set_option maxRecDepth 100000 in
theorem w_C_append_73 (l : Launch) (D : va_G) (cs : Nat → ClassId) (Ev : (Nat → Prop) → State → Prop) (hE : xEok Ev) (adK adV : Nat → Nat) (fm : Option Nat) (X : xEv adK adV fm Ev) (o : Nat) (a : Nat → Nat) (d : Nat) (post : Int32 → MS → Prop) : ∀ (f : Nat) (x1 : Int64) (x4 : Int32) (u : MS), P_C_append_73 post  f x1 x4 u → RR l D clX (tysX cs) Ev "DeckFront$Card" b_C_append 6 w_C_append (rmD (d + 5)) (some .boolean) (wdC o a cs) (pI post) 0 0 0 0 73 [(0, .ref o), (1, .long x1), (4, .int x4)] [] u := by
  intro f
  induction f with
  | zero => intro x1 x4 u h; exact h.elim
  | succ f ih =>
    intro x1 x4 u h
    unfold P_C_append_73 at h
    refine x_iload (x := x4) d_C_append_73 rfl ?_
    refine x_if_lt (tgt := 122) d_C_append_75 rfl (fun hc => ?_) (fun hc => ?_)
    · have h := h.1 hc
      refine x_iconst (v := 1) d_C_append_122 (by decide) ?_
      refine x_zret rfl d_C_append_123 ⟨_, rfl, ?_⟩
      exact h
    · have h := h.2 hc
      refine x_lload_n (x := x1) d_C_append_78 rfl ?_
      refine x_iload (x := x4) d_C_append_79 rfl ?_
      refine x_lushr d_C_append_81 ?_
      refine x_l2i d_C_append_82 ?_
      refine x_sipush (v := 255) d_C_append_83 (by decide) ?_
      refine x_iand d_C_append_86 ?_
      refine x_topI (fun v1 ev1 => ?_)
      have h := h v1 ev1
      refine x_istore (lv' := [(5, .int v1), (0, .ref o), (1, .long x1), (4, .int x4)]) d_C_append_87 (by decide) rfl ?_
      refine x_iload (x := v1) d_C_append_89 rfl ?_
      refine x_if_eq (tgt := 116) d_C_append_91 rfl (fun hc => ?_) (fun hc => ?_)
      · have h := h.1 hc
        refine x_sub [1, 2, 3] rfl ?_
        exact w_C_append_116 l D cs Ev hE adK adV fm X o a d post (fun zx1 zx4 zu => P_C_append_73 post f zx1 zx4 zu) ih x1 x4 u h
      · have h := h.2 hc
        refine x_aload_n (x := o) d_C_append_94 rfl ?_
        refine x_get (v := .ref (a 0)) f_C_9 (eC_o _ _ _ _) rfl d_C_append_95 ?_
        refine x_aload_n (x := o) d_C_append_98 rfl ?_
        refine x_get (v := .int (gI u 1)) f_C_19 (eC_o _ _ _ _) rfl d_C_append_99 ?_
        refine x_iload (x := v1) d_C_append_102 rfl ?_
        refine x_i2c d_C_append_104 ?_
        refine x_cast (t0 := 1) (eC_0 _ _ _ _) rfl h.1 (sC_0 _ _ _ _ _ _) d_C_append_105 ?_
        have h := h.2
        refine x_aload_n (x := o) d_C_append_106 rfl ?_
        refine x_dup d_C_append_107 rfl ?_
        refine x_get (v := .int (gI u 1)) f_C_19 (eC_o _ _ _ _) rfl d_C_append_108 ?_
        refine x_iconst (v := 1) d_C_append_111 (by decide) ?_
        refine x_iadd d_C_append_112 ?_
        refine x_put f_C_19 fw_C_1 (eC_o _ _ _ _) rfl rfl (Nat.le_of_ble_eq_true rfl) (sC_1 _ _ _ _ _) d_C_append_113 ?_
        refine x_sub [1, 2, 3] rfl ?_
        exact w_C_append_116 l D cs Ev hE adK adV fm X o a d post (fun zx1 zx4 zu => P_C_append_73 post f zx1 zx4 zu) ih x1 x4 (sI (sA u 0 (gI u 1).toNatClampNeg (vp_nar .char ((v1.toUInt32 % 65536).toInt32))) 1 ((gI u 1) + (1 : Int32))) h
def P_C_append_48 (post : Int32 → MS → Prop) (K6 : Int64 → Int32 → Int32 → MS → Prop) (x1 : Int64) (x4 : Int32) (s0 : Int32) (s1 : Int32) (u : MS) : Prop := (∀ v3, v3 = (s1 + s0) → K6 x1 v3 (x4 + (-8)) u)
set_option maxHeartbeats 600000 in
set_option maxRecDepth 100000 in
theorem w_C_append_48 (l : Launch) (D : va_G) (cs : Nat → ClassId) (Ev : (Nat → Prop) → State → Prop) (hE : xEok Ev) (adK adV : Nat → Nat) (fm : Option Nat) (X : xEv adK adV fm Ev) (o : Nat) (a : Nat → Nat) (d : Nat) (post : Int32 → MS → Prop) (K6 : Int64 → Int32 → Int32 → MS → Prop) (hK6 : ∀ (x1 : Int64) (x3 : Int32) (x4 : Int32) (u : MS), K6 x1 x3 x4 u → RR l D clX (tysX cs) Ev "DeckFront$Card" b_C_append 6 w_C_append (rmD (d + 5)) (some .boolean) (wdC o a cs) (pI post) 0 0 0 0 6 [(0, .ref o), (1, .long x1), (3, .int x3), (4, .int x4)] [] u) (x1 : Int64) (x4 : Int32) (s0 : Int32) (s1 : Int32) (u : MS) (h : P_C_append_48 post K6 x1 x4 s0 s1 u) : RR l D clX (tysX cs) Ev "DeckFront$Card" b_C_append 6 w_C_append (rmD (d + 5)) (some .boolean) (wdC o a cs) (pI post) 0 0 0 0 48 [(0, .ref o), (1, .long x1), (4, .int x4)] [.int s0, .int s1] u := by
  unfold P_C_append_48 at h
  refine x_iadd d_C_append_48 ?_
  refine x_topI (fun v3 ev3 => ?_)
  have h := h v3 ev3
  refine x_istore_n (lv' := [(3, .int v3), (0, .ref o), (1, .long x1), (4, .int x4)]) d_C_append_49 (by decide) rfl ?_
  refine x_iinc (v := x4 + (-8)) (lv' := [(4, .int (x4 + (-8))), (3, .int v3), (0, .ref o), (1, .long x1)]) d_C_append_50 rfl rfl (by decide) rfl ?_
  refine x_goto (tgt := 6) d_C_append_53 rfl ?_
  refine x_sub [2, 3, 1, 0] rfl ?_
  exact hK6 x1 v3 (x4 + (-8)) u h
def P_C_append_37 (post : Int32 → MS → Prop) (K6 : Int64 → Int32 → Int32 → MS → Prop) (x1 : Int64) (x3 : Int32) (x4 : Int32) (x5 : Int32) (u : MS) : Prop := ((¬ x5 = 0 → P_C_append_48 post K6 x1 x4 1 x3 u) ∧ (x5 = 0 → P_C_append_48 post K6 x1 x4 0 x3 u))
set_option maxHeartbeats 600000 in
set_option maxRecDepth 100000 in
theorem w_C_append_37 (l : Launch) (D : va_G) (cs : Nat → ClassId) (Ev : (Nat → Prop) → State → Prop) (hE : xEok Ev) (adK adV : Nat → Nat) (fm : Option Nat) (X : xEv adK adV fm Ev) (o : Nat) (a : Nat → Nat) (d : Nat) (post : Int32 → MS → Prop) (K6 : Int64 → Int32 → Int32 → MS → Prop) (hK6 : ∀ (x1 : Int64) (x3 : Int32) (x4 : Int32) (u : MS), K6 x1 x3 x4 u → RR l D clX (tysX cs) Ev "DeckFront$Card" b_C_append 6 w_C_append (rmD (d + 5)) (some .boolean) (wdC o a cs) (pI post) 0 0 0 0 6 [(0, .ref o), (1, .long x1), (3, .int x3), (4, .int x4)] [] u) (x1 : Int64) (x3 : Int32) (x4 : Int32) (x5 : Int32) (u : MS) (h : P_C_append_37 post K6 x1 x3 x4 x5 u) : RR l D clX (tysX cs) Ev "DeckFront$Card" b_C_append 6 w_C_append (rmD (d + 5)) (some .boolean) (wdC o a cs) (pI post) 0 0 0 0 37 [(0, .ref o), (1, .long x1), (3, .int x3), (4, .int x4), (5, .int x5)] [] u := by
  unfold P_C_append_37 at h
  refine x_iload_n (x := x3) d_C_append_37 rfl ?_
  refine x_iload (x := x5) d_C_append_38 rfl ?_
  refine x_if_ne (tgt := 47) d_C_append_40 rfl (fun hc => ?_) (fun hc => ?_)
  · have h := h.1 hc
    refine x_iconst (v := 1) d_C_append_47 (by decide) ?_
    refine x_sub [0, 1, 3] rfl ?_
    exact w_C_append_48 l D cs Ev hE adK adV fm X o a d post K6 hK6 x1 x4 1 x3 u h
  · have h := h.2 hc
    refine x_iconst (v := 0) d_C_append_43 (by decide) ?_
    refine x_goto (tgt := 48) d_C_append_44 rfl ?_
    refine x_sub [0, 1, 3] rfl ?_
    exact w_C_append_48 l D cs Ev hE adK adV fm X o a d post K6 hK6 x1 x4 0 x3 u h
def P_C_append_6 (post : Int32 → MS → Prop) : Nat → Int64 → Int32 → Int32 → MS → Prop
  | 0, _, _, _, _ => False
  | f + 1, x1, x3, x4, u => ((x4 < 0 → ((((gI u 1) + x3) ≤ 72 → (∃ g, P_C_append_73 post g x1 56 u)) ∧ (¬ ((gI u 1) + x3) ≤ 72 → post 0 u))) ∧ (¬ x4 < 0 → (∀ v2, v2 = ((((x1.toUInt64 >>> (x4.toInt64.toUInt64 &&& Int64.toUInt64 63)).toInt64).toInt32) &&& (255 : Int32)) → ((v2 = 0 → P_C_append_37 post (fun zx1 zx3 zx4 zu => P_C_append_6 post f zx1 zx3 zx4 zu) x1 x3 x4 v2 u) ∧ (¬ v2 = 0 → P_C_isCardSign (fun r5 u4 => ((¬ r5 = 0 → P_C_append_37 post (fun zx1 zx3 zx4 zu => P_C_append_6 post f zx1 zx3 zx4 zu) x1 x3 x4 v2 u) ∧ (r5 = 0 → post 0 u))) v2 ())))))
set_option maxHeartbeats 600000 in
set_option maxRecDepth 100000 in
theorem w_C_append_6 (l : Launch) (D : va_G) (cs : Nat → ClassId) (Ev : (Nat → Prop) → State → Prop) (hE : xEok Ev) (adK adV : Nat → Nat) (fm : Option Nat) (X : xEv adK adV fm Ev) (o : Nat) (a : Nat → Nat) (d : Nat) (post : Int32 → MS → Prop) : ∀ (f : Nat) (x1 : Int64) (x3 : Int32) (x4 : Int32) (u : MS), P_C_append_6 post  f x1 x3 x4 u → RR l D clX (tysX cs) Ev "DeckFront$Card" b_C_append 6 w_C_append (rmD (d + 5)) (some .boolean) (wdC o a cs) (pI post) 0 0 0 0 6 [(0, .ref o), (1, .long x1), (3, .int x3), (4, .int x4)] [] u := by
  intro f
  induction f with
  | zero => intro x1 x3 x4 u h; exact h.elim
  | succ f ih =>
    intro x1 x3 x4 u h
    unfold P_C_append_6 at h
    refine x_iload (x := x4) d_C_append_6 rfl ?_
    refine x_if_lt (tgt := 56) d_C_append_8 rfl (fun hc => ?_) (fun hc => ?_)
    · have h := h.1 hc
      refine x_aload_n (x := o) d_C_append_56 rfl ?_
      refine x_get (v := .int (gI u 1)) f_C_19 (eC_o _ _ _ _) rfl d_C_append_57 ?_
      refine x_iload_n (x := x3) d_C_append_60 rfl ?_
      refine x_iadd d_C_append_61 ?_
      refine x_bipush (v := 72) d_C_append_62 (by decide) ?_
      refine x_icmp_le (tgt := 69) d_C_append_64 rfl (fun hc => ?_) (fun hc => ?_)
      · have h := h.1 hc
        refine x_bipush (v := 56) d_C_append_69 (by decide) ?_
        refine x_istore (lv' := [(4, .int 56), (0, .ref o), (1, .long x1), (3, .int x3)]) d_C_append_71 (by decide) rfl ?_
        refine x_sub [1, 2, 0] rfl ?_
        obtain ⟨f9, h⟩ := h
        exact w_C_append_73 l D cs Ev hE adK adV fm X o a d post  f9 x1 56 u h
      · have h := h.2 hc
        refine x_iconst (v := 0) d_C_append_67 (by decide) ?_
        refine x_zret rfl d_C_append_68 ⟨_, rfl, ?_⟩
        exact h
    · have h := h.2 hc
      refine x_lload_n (x := x1) d_C_append_11 rfl ?_
      refine x_iload (x := x4) d_C_append_12 rfl ?_
      refine x_lushr d_C_append_14 ?_
      refine x_l2i d_C_append_15 ?_
      refine x_sipush (v := 255) d_C_append_16 (by decide) ?_
      refine x_iand d_C_append_19 ?_
      refine x_topI (fun v2 ev2 => ?_)
      have h := h v2 ev2
      refine x_istore (lv' := [(5, .int v2), (0, .ref o), (1, .long x1), (3, .int x3), (4, .int x4)]) d_C_append_20 (by decide) rfl ?_
      refine x_iload (x := v2) d_C_append_22 rfl ?_
      refine x_if_eq (tgt := 37) d_C_append_24 rfl (fun hc => ?_) (fun hc => ?_)
      · have h := h.1 hc
        refine x_sub [1, 2, 3, 4, 0] rfl ?_
        exact w_C_append_37 l D cs Ev hE adK adV fm X o a d post (fun zx1 zx3 zx4 zu => P_C_append_6 post f zx1 zx3 zx4 zu) ih x1 x3 x4 v2 u h
      · have h := h.2 hc
        refine x_iload (x := v2) d_C_append_27 rfl ?_
        refine x_callS (st := []) k_C_15 x_none (c_C_isCardSign l D cs Ev hE adK adV fm X (d + 0) _ v2 () h) hE (rmD_ok (by omega) (by decide)) rfl (Nat.le_of_ble_eq_true rfl) rfl d_C_append_29 (x_rI (fun r5 u4 h => ?_))
        refine x_if_ne (tgt := 37) d_C_append_32 rfl (fun hc => ?_) (fun hc => ?_)
        · have h := h.1 hc
          refine x_sub [1, 2, 3, 4, 0] rfl ?_
          exact w_C_append_37 l D cs Ev hE adK adV fm X o a d post (fun zx1 zx3 zx4 zu => P_C_append_6 post f zx1 zx3 zx4 zu) ih x1 x3 x4 v2 u h
        · have h := h.2 hc
          refine x_iconst (v := 0) d_C_append_35 (by decide) ?_
          refine x_zret rfl d_C_append_36 ⟨_, rfl, ?_⟩
          exact h
def P_C_append (post : Int32 → MS → Prop) (a0 : Int64) (u : MS) : Prop := (∃ g, P_C_append_6 post g a0 0 56 u)
set_option maxHeartbeats 600000 in
set_option maxRecDepth 100000 in
theorem c_C_append (l : Launch) (D : va_G) (cs : Nat → ClassId) (Ev : (Nat → Prop) → State → Prop) (hE : xEok Ev) (adK adV : Nat → Nat) (fm : Option Nat) (X : xEv adK adV fm Ev) (o : Nat) (a : Nat → Nat) (d : Nat) (post : Int32 → MS → Prop) (a0 : Int64) (u : MS) (h : P_C_append post a0 u) : xC l D clX (tysX cs) Ev y_C_append w_C_append (rmD (d + 5)) (wdC o a cs) [.ref o, .long a0] u (pI post) 0 0 := by
  unfold P_C_append at h
  refine xC.of (cc := b_C_append) (nL := 6) (ret := (some .boolean)) (by decide) rfl (Nat.le_of_ble_eq_true rfl) ?_
  show RR l D clX (tysX cs) Ev "DeckFront$Card" b_C_append 6 w_C_append (rmD (d + 5)) (some .boolean) (wdC o a cs) (pI post) 0 0 0 0 0 [(0, .ref o), (1, .long a0)] [] u
  refine x_iconst (v := 0) d_C_append_0 (by decide) ?_
  refine x_istore_n (lv' := [(3, .int 0), (0, .ref o), (1, .long a0)]) d_C_append_1 (by decide) rfl ?_
  refine x_bipush (v := 56) d_C_append_2 (by decide) ?_
  refine x_istore (lv' := [(4, .int 56), (3, .int 0), (0, .ref o), (1, .long a0)]) d_C_append_4 (by decide) rfl ?_
  refine x_sub [2, 3, 1, 0] rfl ?_
  obtain ⟨f9, h⟩ := h
  exact w_C_append_6 l D cs Ev hE adK adV fm X o a d post  f9 a0 0 56 u h
def P_C_isBlankTo_2 (post : Int32 → MS → Prop) : Nat → Int32 → Int32 → MS → Prop
  | 0, _, _, _ => False
  | f + 1, x1, x2, u => ((x1 ≤ x2 → post 1 u) ∧ (¬ x1 ≤ x2 → (((gI u 1) ≤ x2 → post 1 u) ∧ (¬ (gI u 1) ≤ x2 → (vp_in x2 72 ∧ (((gA u 0 x2.toNatClampNeg) = 32 → P_C_isBlankTo_2 post f x1 (x2 + 1) u) ∧ (¬ (gA u 0 x2.toNatClampNeg) = 32 → post 0 u)))))))
set_option maxHeartbeats 600000 in
set_option maxRecDepth 100000 in
theorem w_C_isBlankTo_2 (l : Launch) (D : va_G) (cs : Nat → ClassId) (Ev : (Nat → Prop) → State → Prop) (hE : xEok Ev) (adK adV : Nat → Nat) (fm : Option Nat) (X : xEv adK adV fm Ev) (o : Nat) (a : Nat → Nat) (d : Nat) (post : Int32 → MS → Prop) : ∀ (f : Nat) (x1 : Int32) (x2 : Int32) (u : MS), P_C_isBlankTo_2 post  f x1 x2 u → RR l D clX (tysX cs) Ev "DeckFront$Card" b_C_isBlankTo 3 w_C_isBlankTo (rmD (d + 0)) (some .boolean) (wdC o a cs) (pI post) 0 0 0 0 2 [(0, .ref o), (1, .int x1), (2, .int x2)] [] u := by
  intro f
  induction f with
  | zero => intro x1 x2 u h; exact h.elim
  | succ f ih =>
    intro x1 x2 u h
    unfold P_C_isBlankTo_2 at h
    refine x_iload_n (x := x2) d_C_isBlankTo_2 rfl ?_
    refine x_iload_n (x := x1) d_C_isBlankTo_3 rfl ?_
    refine x_icmp_ge (tgt := 34) d_C_isBlankTo_4 rfl (fun hc => ?_) (fun hc => ?_)
    · have h := h.1 hc
      refine x_iconst (v := 1) d_C_isBlankTo_34 (by decide) ?_
      refine x_zret rfl d_C_isBlankTo_35 ⟨_, rfl, ?_⟩
      exact h
    · have h := h.2 hc
      refine x_iload_n (x := x2) d_C_isBlankTo_7 rfl ?_
      refine x_aload_n (x := o) d_C_isBlankTo_8 rfl ?_
      refine x_get (v := .int (gI u 1)) f_C_19 (eC_o _ _ _ _) rfl d_C_isBlankTo_9 ?_
      refine x_icmp_ge (tgt := 34) d_C_isBlankTo_12 rfl (fun hc => ?_) (fun hc => ?_)
      · have h := h.1 hc
        refine x_iconst (v := 1) d_C_isBlankTo_34 (by decide) ?_
        refine x_zret rfl d_C_isBlankTo_35 ⟨_, rfl, ?_⟩
        exact h
      · have h := h.2 hc
        refine x_aload_n (x := o) d_C_isBlankTo_15 rfl ?_
        refine x_get (v := .ref (a 0)) f_C_9 (eC_o _ _ _ _) rfl d_C_isBlankTo_16 ?_
        refine x_iload_n (x := x2) d_C_isBlankTo_19 rfl ?_
        refine x_cald (t0 := 1) (eC_0 _ _ _ _) rfl h.1 d_C_isBlankTo_20 ?_
        have h := h.2
        refine x_bipush (v := 32) d_C_isBlankTo_21 (by decide) ?_
        refine x_icmp_eq (tgt := 28) d_C_isBlankTo_23 rfl (fun hc => ?_) (fun hc => ?_)
        · have h := h.1 hc
          refine x_iinc (v := x2 + 1) (lv' := [(2, .int (x2 + 1)), (0, .ref o), (1, .int x1)]) d_C_isBlankTo_28 rfl rfl (by decide) rfl ?_
          refine x_goto (tgt := 2) d_C_isBlankTo_31 rfl ?_
          refine x_sub [1, 2, 0] rfl ?_
          exact ih x1 (x2 + 1) u h
        · have h := h.2 hc
          refine x_iconst (v := 0) d_C_isBlankTo_26 (by decide) ?_
          refine x_zret rfl d_C_isBlankTo_27 ⟨_, rfl, ?_⟩
          exact h
def P_C_isBlankTo (post : Int32 → MS → Prop) (a0 : Int32) (u : MS) : Prop := (∃ g, P_C_isBlankTo_2 post g a0 0 u)
set_option maxHeartbeats 600000 in
set_option maxRecDepth 100000 in
theorem c_C_isBlankTo (l : Launch) (D : va_G) (cs : Nat → ClassId) (Ev : (Nat → Prop) → State → Prop) (hE : xEok Ev) (adK adV : Nat → Nat) (fm : Option Nat) (X : xEv adK adV fm Ev) (o : Nat) (a : Nat → Nat) (d : Nat) (post : Int32 → MS → Prop) (a0 : Int32) (u : MS) (h : P_C_isBlankTo post a0 u) : xC l D clX (tysX cs) Ev y_C_isBlankTo w_C_isBlankTo (rmD (d + 0)) (wdC o a cs) [.ref o, .int a0] u (pI post) 0 0 := by
  unfold P_C_isBlankTo at h
  refine xC.of (cc := b_C_isBlankTo) (nL := 3) (ret := (some .boolean)) (by decide) rfl (Nat.le_of_ble_eq_true rfl) ?_
  show RR l D clX (tysX cs) Ev "DeckFront$Card" b_C_isBlankTo 3 w_C_isBlankTo (rmD (d + 0)) (some .boolean) (wdC o a cs) (pI post) 0 0 0 0 0 [(0, .ref o), (1, .int a0)] [] u
  refine x_iconst (v := 0) d_C_isBlankTo_0 (by decide) ?_
  refine x_istore_n (lv' := [(2, .int 0), (0, .ref o), (1, .int a0)]) d_C_isBlankTo_1 (by decide) rfl ?_
  refine x_sub [1, 2, 0] rfl ?_
  obtain ⟨f9, h⟩ := h
  exact w_C_isBlankTo_2 l D cs Ev hE adK adV fm X o a d post  f9 a0 0 u h
def P_C_isComment_29 (post : Int32 → MS → Prop) (u : MS) : Prop := P_C_isBlankTo (fun r2 u1 => ((r2 = 0 → post 0 u1) ∧ (¬ r2 = 0 → post 1 u1))) (gI u 1) u
set_option maxHeartbeats 600000 in
set_option maxRecDepth 100000 in
theorem w_C_isComment_29 (l : Launch) (D : va_G) (cs : Nat → ClassId) (Ev : (Nat → Prop) → State → Prop) (hE : xEok Ev) (adK adV : Nat → Nat) (fm : Option Nat) (X : xEv adK adV fm Ev) (o : Nat) (a : Nat → Nat) (d : Nat) (post : Int32 → MS → Prop) (u : MS) (h : P_C_isComment_29 post   u) : RR l D clX (tysX cs) Ev "DeckFront$Card" b_C_isComment 1 w_C_isComment (rmD (d + 1)) (some .boolean) (wdC o a cs) (pI post) 0 0 0 0 29 [(0, .ref o)] [] u := by
  unfold P_C_isComment_29 at h
  refine x_aload_n (x := o) d_C_isComment_29 rfl ?_
  refine x_aload_n (x := o) d_C_isComment_30 rfl ?_
  refine x_get (v := .int (gI u 1)) f_C_19 (eC_o _ _ _ _) rfl d_C_isComment_31 ?_
  refine x_callV (st := []) k_C_37 rfl (eC_o _ _ _ _) x_id (c_C_isBlankTo l D cs Ev hE adK adV fm X o a (d + 0) _ (gI u 1) u h) hE (rmD_ok (by omega) (by decide)) rfl (Nat.le_of_ble_eq_true rfl) rfl d_C_isComment_34 (x_rI (fun r2 u1 h => ?_))
  refine x_if_eq (tgt := 44) d_C_isComment_37 rfl (fun hc => ?_) (fun hc => ?_)
  · have h := h.1 hc
    refine x_iconst (v := 0) d_C_isComment_44 (by decide) ?_
    refine x_zret rfl d_C_isComment_45 ⟨_, rfl, ?_⟩
    exact h
  · have h := h.2 hc
    refine x_iconst (v := 1) d_C_isComment_40 (by decide) ?_
    refine x_goto (tgt := 45) d_C_isComment_41 rfl ?_
    refine x_zret rfl d_C_isComment_45 ⟨_, rfl, ?_⟩
    exact h
def P_C_isComment (post : Int32 → MS → Prop) (u : MS) : Prop := (((gI u 1) ≤ 0 → P_C_isComment_29 post u) ∧ (¬ (gI u 1) ≤ 0 → (vp_in (0 : Int32) 72 ∧ (((gA u 0 (0 : Int32).toNatClampNeg) = 67 → post 1 u) ∧ (¬ (gA u 0 (0 : Int32).toNatClampNeg) = 67 → (vp_in (0 : Int32) 72 ∧ (((gA u 0 (0 : Int32).toNatClampNeg) = 42 → post 1 u) ∧ (¬ (gA u 0 (0 : Int32).toNatClampNeg) = 42 → P_C_isComment_29 post u))))))))
set_option maxHeartbeats 600000 in
set_option maxRecDepth 100000 in
theorem c_C_isComment (l : Launch) (D : va_G) (cs : Nat → ClassId) (Ev : (Nat → Prop) → State → Prop) (hE : xEok Ev) (adK adV : Nat → Nat) (fm : Option Nat) (X : xEv adK adV fm Ev) (o : Nat) (a : Nat → Nat) (d : Nat) (post : Int32 → MS → Prop) (u : MS) (h : P_C_isComment post  u) : xC l D clX (tysX cs) Ev y_C_isComment w_C_isComment (rmD (d + 1)) (wdC o a cs) [.ref o] u (pI post) 0 0 := by
  unfold P_C_isComment at h
  refine xC.of (cc := b_C_isComment) (nL := 1) (ret := (some .boolean)) (by decide) rfl (Nat.le_of_ble_eq_true rfl) ?_
  show RR l D clX (tysX cs) Ev "DeckFront$Card" b_C_isComment 1 w_C_isComment (rmD (d + 1)) (some .boolean) (wdC o a cs) (pI post) 0 0 0 0 0 [(0, .ref o)] [] u
  refine x_aload_n (x := o) d_C_isComment_0 rfl ?_
  refine x_get (v := .int (gI u 1)) f_C_19 (eC_o _ _ _ _) rfl d_C_isComment_1 ?_
  refine x_if_le (tgt := 29) d_C_isComment_4 rfl (fun hc => ?_) (fun hc => ?_)
  · have h := h.1 hc
    exact w_C_isComment_29 l D cs Ev hE adK adV fm X o a d post  u h
  · have h := h.2 hc
    refine x_aload_n (x := o) d_C_isComment_7 rfl ?_
    refine x_get (v := .ref (a 0)) f_C_9 (eC_o _ _ _ _) rfl d_C_isComment_8 ?_
    refine x_iconst (v := 0) d_C_isComment_11 (by decide) ?_
    refine x_cald (t0 := 1) (eC_0 _ _ _ _) rfl h.1 d_C_isComment_12 ?_
    have h := h.2
    refine x_bipush (v := 67) d_C_isComment_13 (by decide) ?_
    refine x_icmp_eq (tgt := 40) d_C_isComment_15 rfl (fun hc => ?_) (fun hc => ?_)
    · have h := h.1 hc
      refine x_iconst (v := 1) d_C_isComment_40 (by decide) ?_
      refine x_goto (tgt := 45) d_C_isComment_41 rfl ?_
      refine x_zret rfl d_C_isComment_45 ⟨_, rfl, ?_⟩
      exact h
    · have h := h.2 hc
      refine x_aload_n (x := o) d_C_isComment_18 rfl ?_
      refine x_get (v := .ref (a 0)) f_C_9 (eC_o _ _ _ _) rfl d_C_isComment_19 ?_
      refine x_iconst (v := 0) d_C_isComment_22 (by decide) ?_
      refine x_cald (t0 := 1) (eC_0 _ _ _ _) rfl h.1 d_C_isComment_23 ?_
      have h := h.2
      refine x_bipush (v := 42) d_C_isComment_24 (by decide) ?_
      refine x_icmp_eq (tgt := 40) d_C_isComment_26 rfl (fun hc => ?_) (fun hc => ?_)
      · have h := h.1 hc
        refine x_iconst (v := 1) d_C_isComment_40 (by decide) ?_
        refine x_goto (tgt := 45) d_C_isComment_41 rfl ?_
        refine x_zret rfl d_C_isComment_45 ⟨_, rfl, ?_⟩
        exact h
      · have h := h.2 hc
        exact w_C_isComment_29 l D cs Ev hE adK adV fm X o a d post  u h
def P_C_continuesOne (post : Int32 → MS → Prop) (u : MS) : Prop := (((gI u 1) ≤ 5 → post 0 u) ∧ (¬ (gI u 1) ≤ 5 → (vp_in (5 : Int32) 72 ∧ (((gA u 0 (5 : Int32).toNatClampNeg) = 32 → post 0 u) ∧ (¬ (gA u 0 (5 : Int32).toNatClampNeg) = 32 → (vp_in (5 : Int32) 72 ∧ (((gA u 0 (5 : Int32).toNatClampNeg) = 48 → post 0 u) ∧ (¬ (gA u 0 (5 : Int32).toNatClampNeg) = 48 → post 1 u))))))))
set_option maxHeartbeats 600000 in
set_option maxRecDepth 100000 in
theorem c_C_continuesOne (l : Launch) (D : va_G) (cs : Nat → ClassId) (Ev : (Nat → Prop) → State → Prop) (hE : xEok Ev) (adK adV : Nat → Nat) (fm : Option Nat) (X : xEv adK adV fm Ev) (o : Nat) (a : Nat → Nat) (d : Nat) (post : Int32 → MS → Prop) (u : MS) (h : P_C_continuesOne post  u) : xC l D clX (tysX cs) Ev y_C_continuesOne w_C_continuesOne (rmD (d + 0)) (wdC o a cs) [.ref o] u (pI post) 0 0 := by
  unfold P_C_continuesOne at h
  refine xC.of (cc := b_C_continuesOne) (nL := 1) (ret := (some .boolean)) (by decide) rfl (Nat.le_of_ble_eq_true rfl) ?_
  show RR l D clX (tysX cs) Ev "DeckFront$Card" b_C_continuesOne 1 w_C_continuesOne (rmD (d + 0)) (some .boolean) (wdC o a cs) (pI post) 0 0 0 0 0 [(0, .ref o)] [] u
  refine x_aload_n (x := o) d_C_continuesOne_0 rfl ?_
  refine x_get (v := .int (gI u 1)) f_C_19 (eC_o _ _ _ _) rfl d_C_continuesOne_1 ?_
  refine x_iconst (v := 5) d_C_continuesOne_4 (by decide) ?_
  refine x_icmp_le (tgt := 34) d_C_continuesOne_5 rfl (fun hc => ?_) (fun hc => ?_)
  · have h := h.1 hc
    refine x_iconst (v := 0) d_C_continuesOne_34 (by decide) ?_
    refine x_zret rfl d_C_continuesOne_35 ⟨_, rfl, ?_⟩
    exact h
  · have h := h.2 hc
    refine x_aload_n (x := o) d_C_continuesOne_8 rfl ?_
    refine x_get (v := .ref (a 0)) f_C_9 (eC_o _ _ _ _) rfl d_C_continuesOne_9 ?_
    refine x_iconst (v := 5) d_C_continuesOne_12 (by decide) ?_
    refine x_cald (t0 := 1) (eC_0 _ _ _ _) rfl h.1 d_C_continuesOne_13 ?_
    have h := h.2
    refine x_bipush (v := 32) d_C_continuesOne_14 (by decide) ?_
    refine x_icmp_eq (tgt := 34) d_C_continuesOne_16 rfl (fun hc => ?_) (fun hc => ?_)
    · have h := h.1 hc
      refine x_iconst (v := 0) d_C_continuesOne_34 (by decide) ?_
      refine x_zret rfl d_C_continuesOne_35 ⟨_, rfl, ?_⟩
      exact h
    · have h := h.2 hc
      refine x_aload_n (x := o) d_C_continuesOne_19 rfl ?_
      refine x_get (v := .ref (a 0)) f_C_9 (eC_o _ _ _ _) rfl d_C_continuesOne_20 ?_
      refine x_iconst (v := 5) d_C_continuesOne_23 (by decide) ?_
      refine x_cald (t0 := 1) (eC_0 _ _ _ _) rfl h.1 d_C_continuesOne_24 ?_
      have h := h.2
      refine x_bipush (v := 48) d_C_continuesOne_25 (by decide) ?_
      refine x_icmp_eq (tgt := 34) d_C_continuesOne_27 rfl (fun hc => ?_) (fun hc => ?_)
      · have h := h.1 hc
        refine x_iconst (v := 0) d_C_continuesOne_34 (by decide) ?_
        refine x_zret rfl d_C_continuesOne_35 ⟨_, rfl, ?_⟩
        exact h
      · have h := h.2 hc
        refine x_iconst (v := 1) d_C_continuesOne_30 (by decide) ?_
        refine x_goto (tgt := 35) d_C_continuesOne_31 rfl ?_
        refine x_zret rfl d_C_continuesOne_35 ⟨_, rfl, ?_⟩
        exact h
def P_C_hasGoodLabelField_53 (post : Int32 → MS → Prop) (K15 : Int32 → MS → Prop) (x1 : Int32) (u : MS) : Prop := K15 (x1 + 1) u
set_option maxHeartbeats 600000 in
set_option maxRecDepth 100000 in
theorem w_C_hasGoodLabelField_53 (l : Launch) (D : va_G) (cs : Nat → ClassId) (Ev : (Nat → Prop) → State → Prop) (hE : xEok Ev) (adK adV : Nat → Nat) (fm : Option Nat) (X : xEv adK adV fm Ev) (o : Nat) (a : Nat → Nat) (d : Nat) (post : Int32 → MS → Prop) (K15 : Int32 → MS → Prop) (hK15 : ∀ (x1 : Int32) (u : MS), K15 x1 u → RR l D clX (tysX cs) Ev "DeckFront$Card" b_C_hasGoodLabelField 2 w_C_hasGoodLabelField (rmD (d + 1)) (some .boolean) (wdC o a cs) (pI post) 0 0 0 0 15 [(0, .ref o), (1, .int x1)] [] u) (x1 : Int32) (u : MS) (h : P_C_hasGoodLabelField_53 post K15 x1 u) : RR l D clX (tysX cs) Ev "DeckFront$Card" b_C_hasGoodLabelField 2 w_C_hasGoodLabelField (rmD (d + 1)) (some .boolean) (wdC o a cs) (pI post) 0 0 0 0 53 [(0, .ref o), (1, .int x1)] [] u := by
  unfold P_C_hasGoodLabelField_53 at h
  refine x_iinc (v := x1 + 1) (lv' := [(1, .int (x1 + 1)), (0, .ref o)]) d_C_hasGoodLabelField_53 rfl rfl (by decide) rfl ?_
  refine x_goto (tgt := 15) d_C_hasGoodLabelField_56 rfl ?_
  refine x_sub [1, 0] rfl ?_
  exact hK15 (x1 + 1) u h
def P_C_hasGoodLabelField_15 (post : Int32 → MS → Prop) : Nat → Int32 → MS → Prop
  | 0, _, _ => False
  | f + 1, x1, u => ((5 ≤ x1 → post 1 u) ∧ (¬ 5 ≤ x1 → (((gI u 1) ≤ x1 → post 1 u) ∧ (¬ (gI u 1) ≤ x1 → (vp_in x1 72 ∧ (((gA u 0 x1.toNatClampNeg) = 32 → P_C_hasGoodLabelField_53 post (fun zx1 zu => P_C_hasGoodLabelField_15 post f zx1 zu) x1 u) ∧ (¬ (gA u 0 x1.toNatClampNeg) = 32 → (vp_in x1 72 ∧ ((¬ (isDig (gA u 0 x1.toNatClampNeg)) = 0 → P_C_hasGoodLabelField_53 post (fun zx1 zu => P_C_hasGoodLabelField_15 post f zx1 zu) x1 u) ∧ ((isDig (gA u 0 x1.toNatClampNeg)) = 0 → post 0 u))))))))))
set_option maxHeartbeats 600000 in
set_option maxRecDepth 100000 in
theorem w_C_hasGoodLabelField_15 (l : Launch) (D : va_G) (cs : Nat → ClassId) (Ev : (Nat → Prop) → State → Prop) (hE : xEok Ev) (adK adV : Nat → Nat) (fm : Option Nat) (X : xEv adK adV fm Ev) (o : Nat) (a : Nat → Nat) (d : Nat) (post : Int32 → MS → Prop) : ∀ (f : Nat) (x1 : Int32) (u : MS), P_C_hasGoodLabelField_15 post  f x1 u → RR l D clX (tysX cs) Ev "DeckFront$Card" b_C_hasGoodLabelField 2 w_C_hasGoodLabelField (rmD (d + 1)) (some .boolean) (wdC o a cs) (pI post) 0 0 0 0 15 [(0, .ref o), (1, .int x1)] [] u := by
  intro f
  induction f with
  | zero => intro x1 u h; exact h.elim
  | succ f ih =>
    intro x1 u h
    unfold P_C_hasGoodLabelField_15 at h
    refine x_iload_n (x := x1) d_C_hasGoodLabelField_15 rfl ?_
    refine x_iconst (v := 5) d_C_hasGoodLabelField_16 (by decide) ?_
    refine x_icmp_ge (tgt := 59) d_C_hasGoodLabelField_17 rfl (fun hc => ?_) (fun hc => ?_)
    · have h := h.1 hc
      refine x_iconst (v := 1) d_C_hasGoodLabelField_59 (by decide) ?_
      refine x_zret rfl d_C_hasGoodLabelField_60 ⟨_, rfl, ?_⟩
      exact h
    · have h := h.2 hc
      refine x_iload_n (x := x1) d_C_hasGoodLabelField_20 rfl ?_
      refine x_aload_n (x := o) d_C_hasGoodLabelField_21 rfl ?_
      refine x_get (v := .int (gI u 1)) f_C_19 (eC_o _ _ _ _) rfl d_C_hasGoodLabelField_22 ?_
      refine x_icmp_ge (tgt := 59) d_C_hasGoodLabelField_25 rfl (fun hc => ?_) (fun hc => ?_)
      · have h := h.1 hc
        refine x_iconst (v := 1) d_C_hasGoodLabelField_59 (by decide) ?_
        refine x_zret rfl d_C_hasGoodLabelField_60 ⟨_, rfl, ?_⟩
        exact h
      · have h := h.2 hc
        refine x_aload_n (x := o) d_C_hasGoodLabelField_28 rfl ?_
        refine x_get (v := .ref (a 0)) f_C_9 (eC_o _ _ _ _) rfl d_C_hasGoodLabelField_29 ?_
        refine x_iload_n (x := x1) d_C_hasGoodLabelField_32 rfl ?_
        refine x_cald (t0 := 1) (eC_0 _ _ _ _) rfl h.1 d_C_hasGoodLabelField_33 ?_
        have h := h.2
        refine x_bipush (v := 32) d_C_hasGoodLabelField_34 (by decide) ?_
        refine x_icmp_eq (tgt := 53) d_C_hasGoodLabelField_36 rfl (fun hc => ?_) (fun hc => ?_)
        · have h := h.1 hc
          exact w_C_hasGoodLabelField_53 l D cs Ev hE adK adV fm X o a d post (fun zx1 zu => P_C_hasGoodLabelField_15 post f zx1 zu) ih x1 u h
        · have h := h.2 hc
          refine x_aload_n (x := o) d_C_hasGoodLabelField_39 rfl ?_
          refine x_get (v := .ref (a 0)) f_C_9 (eC_o _ _ _ _) rfl d_C_hasGoodLabelField_40 ?_
          refine x_iload_n (x := x1) d_C_hasGoodLabelField_43 rfl ?_
          refine x_cald (t0 := 1) (eC_0 _ _ _ _) rfl h.1 d_C_hasGoodLabelField_44 ?_
          have h := h.2
          refine x_callSN (st := []) (k_C_26 X) x_none (cf_D_isDigit l D cs Ev hE adK adV fm X (d + 0) (gA u 0 x1.toNatClampNeg)) hE (rmD_ok (by omega) (by decide)) rfl (Nat.le_of_ble_eq_true rfl) rfl d_C_hasGoodLabelField_45 (x_rI (fun x u1 h9 => ?_))
          obtain ⟨rfl, rfl⟩ := h9
          refine x_if_ne (tgt := 53) d_C_hasGoodLabelField_48 rfl (fun hc => ?_) (fun hc => ?_)
          · have h := h.1 hc
            exact w_C_hasGoodLabelField_53 l D cs Ev hE adK adV fm X o a d post (fun zx1 zu => P_C_hasGoodLabelField_15 post f zx1 zu) ih x1 u h
          · have h := h.2 hc
            refine x_iconst (v := 0) d_C_hasGoodLabelField_51 (by decide) ?_
            refine x_zret rfl d_C_hasGoodLabelField_52 ⟨_, rfl, ?_⟩
            exact h
def P_C_hasGoodLabelField (post : Int32 → MS → Prop) (u : MS) : Prop := P_C_continuesOne (fun r2 u1 => ((r2 = 0 → (∃ g, P_C_hasGoodLabelField_15 post g 0 u1)) ∧ (¬ r2 = 0 → P_C_isBlankTo (fun r4 u3 => (narrow .boolean (.int r4) = .int r4 ∧ post r4 u3)) (5 : Int32) u1))) u
set_option maxHeartbeats 600000 in
set_option maxRecDepth 100000 in
theorem c_C_hasGoodLabelField (l : Launch) (D : va_G) (cs : Nat → ClassId) (Ev : (Nat → Prop) → State → Prop) (hE : xEok Ev) (adK adV : Nat → Nat) (fm : Option Nat) (X : xEv adK adV fm Ev) (o : Nat) (a : Nat → Nat) (d : Nat) (post : Int32 → MS → Prop) (u : MS) (h : P_C_hasGoodLabelField post  u) : xC l D clX (tysX cs) Ev y_C_hasGoodLabelField w_C_hasGoodLabelField (rmD (d + 1)) (wdC o a cs) [.ref o] u (pI post) 0 0 := by
  unfold P_C_hasGoodLabelField at h
  refine xC.of (cc := b_C_hasGoodLabelField) (nL := 2) (ret := (some .boolean)) (by decide) rfl (Nat.le_of_ble_eq_true rfl) ?_
  show RR l D clX (tysX cs) Ev "DeckFront$Card" b_C_hasGoodLabelField 2 w_C_hasGoodLabelField (rmD (d + 1)) (some .boolean) (wdC o a cs) (pI post) 0 0 0 0 0 [(0, .ref o)] [] u
  refine x_aload_n (x := o) d_C_hasGoodLabelField_0 rfl ?_
  refine x_callV (st := []) k_C_40 rfl (eC_o _ _ _ _) x_id (c_C_continuesOne l D cs Ev hE adK adV fm X o a (d + 0) _ u h) hE (rmD_ok (by omega) (by decide)) rfl (Nat.le_of_ble_eq_true rfl) rfl d_C_hasGoodLabelField_1 (x_rI (fun r2 u1 h => ?_))
  refine x_if_eq (tgt := 13) d_C_hasGoodLabelField_4 rfl (fun hc => ?_) (fun hc => ?_)
  · have h := h.1 hc
    refine x_iconst (v := 0) d_C_hasGoodLabelField_13 (by decide) ?_
    refine x_istore_n (lv' := [(1, .int 0), (0, .ref o)]) d_C_hasGoodLabelField_14 (by decide) rfl ?_
    refine x_sub [1, 0] rfl ?_
    obtain ⟨f9, h⟩ := h
    exact w_C_hasGoodLabelField_15 l D cs Ev hE adK adV fm X o a d post  f9 0 u1 h
  · have h := h.2 hc
    refine x_aload_n (x := o) d_C_hasGoodLabelField_7 rfl ?_
    refine x_iconst (v := 5) d_C_hasGoodLabelField_8 (by decide) ?_
    refine x_callV (st := []) k_C_37 rfl (eC_o _ _ _ _) x_id (c_C_isBlankTo l D cs Ev hE adK adV fm X o a (d + 0) _ (5 : Int32) u1 h) hE (rmD_ok (by omega) (by decide)) rfl (Nat.le_of_ble_eq_true rfl) rfl d_C_hasGoodLabelField_9 (x_rI (fun r4 u3 h => ?_))
    refine x_zret h.1 d_C_hasGoodLabelField_12 ⟨_, rfl, ?_⟩
    exact h.2
def P_C_numberInLabelField_44 (post : Int32 → MS → Prop) (K4 : Int32 → Int32 → MS → Prop) (x1 : Int32) (x2 : Int32) (u : MS) : Prop := K4 x1 (x2 + 1) u
set_option maxHeartbeats 600000 in
set_option maxRecDepth 100000 in
theorem w_C_numberInLabelField_44 (l : Launch) (D : va_G) (cs : Nat → ClassId) (Ev : (Nat → Prop) → State → Prop) (hE : xEok Ev) (adK adV : Nat → Nat) (fm : Option Nat) (X : xEv adK adV fm Ev) (o : Nat) (a : Nat → Nat) (d : Nat) (post : Int32 → MS → Prop) (K4 : Int32 → Int32 → MS → Prop) (hK4 : ∀ (x1 : Int32) (x2 : Int32) (u : MS), K4 x1 x2 u → RR l D clX (tysX cs) Ev "DeckFront$Card" b_C_numberInLabelField 3 w_C_numberInLabelField (rmD (d + 1)) (some .int) (wdC o a cs) (pI post) 0 0 0 0 4 [(0, .ref o), (1, .int x1), (2, .int x2)] [] u) (x1 : Int32) (x2 : Int32) (u : MS) (h : P_C_numberInLabelField_44 post K4 x1 x2 u) : RR l D clX (tysX cs) Ev "DeckFront$Card" b_C_numberInLabelField 3 w_C_numberInLabelField (rmD (d + 1)) (some .int) (wdC o a cs) (pI post) 0 0 0 0 44 [(0, .ref o), (1, .int x1), (2, .int x2)] [] u := by
  unfold P_C_numberInLabelField_44 at h
  refine x_iinc (v := x2 + 1) (lv' := [(2, .int (x2 + 1)), (0, .ref o), (1, .int x1)]) d_C_numberInLabelField_44 rfl rfl (by decide) rfl ?_
  refine x_goto (tgt := 4) d_C_numberInLabelField_47 rfl ?_
  refine x_sub [1, 2, 0] rfl ?_
  exact hK4 x1 (x2 + 1) u h
def P_C_numberInLabelField_4 (post : Int32 → MS → Prop) : Nat → Int32 → Int32 → MS → Prop
  | 0, _, _, _ => False
  | f + 1, x1, x2, u => ((5 ≤ x2 → post x1 u) ∧ (¬ 5 ≤ x2 → (((gI u 1) ≤ x2 → post x1 u) ∧ (¬ (gI u 1) ≤ x2 → (vp_in x2 72 ∧ (((isDig (gA u 0 x2.toNatClampNeg)) = 0 → P_C_numberInLabelField_44 post (fun zx1 zx2 zu => P_C_numberInLabelField_4 post f zx1 zx2 zu) x1 x2 u) ∧ (¬ (isDig (gA u 0 x2.toNatClampNeg)) = 0 → (vp_in x2 72 ∧ (∀ v1, v1 = (((x1 * (10 : Int32)) + (gA u 0 x2.toNatClampNeg)) - (48 : Int32)) → P_C_numberInLabelField_44 post (fun zx1 zx2 zu => P_C_numberInLabelField_4 post f zx1 zx2 zu) v1 x2 u)))))))))
set_option maxHeartbeats 600000 in
set_option maxRecDepth 100000 in
theorem w_C_numberInLabelField_4 (l : Launch) (D : va_G) (cs : Nat → ClassId) (Ev : (Nat → Prop) → State → Prop) (hE : xEok Ev) (adK adV : Nat → Nat) (fm : Option Nat) (X : xEv adK adV fm Ev) (o : Nat) (a : Nat → Nat) (d : Nat) (post : Int32 → MS → Prop) : ∀ (f : Nat) (x1 : Int32) (x2 : Int32) (u : MS), P_C_numberInLabelField_4 post  f x1 x2 u → RR l D clX (tysX cs) Ev "DeckFront$Card" b_C_numberInLabelField 3 w_C_numberInLabelField (rmD (d + 1)) (some .int) (wdC o a cs) (pI post) 0 0 0 0 4 [(0, .ref o), (1, .int x1), (2, .int x2)] [] u := by
  intro f
  induction f with
  | zero => intro x1 x2 u h; exact h.elim
  | succ f ih =>
    intro x1 x2 u h
    unfold P_C_numberInLabelField_4 at h
    refine x_iload_n (x := x2) d_C_numberInLabelField_4 rfl ?_
    refine x_iconst (v := 5) d_C_numberInLabelField_5 (by decide) ?_
    refine x_icmp_ge (tgt := 50) d_C_numberInLabelField_6 rfl (fun hc => ?_) (fun hc => ?_)
    · have h := h.1 hc
      refine x_iload_n (x := x1) d_C_numberInLabelField_50 rfl ?_
      refine x_iret d_C_numberInLabelField_51 ⟨_, rfl, ?_⟩
      exact h
    · have h := h.2 hc
      refine x_iload_n (x := x2) d_C_numberInLabelField_9 rfl ?_
      refine x_aload_n (x := o) d_C_numberInLabelField_10 rfl ?_
      refine x_get (v := .int (gI u 1)) f_C_19 (eC_o _ _ _ _) rfl d_C_numberInLabelField_11 ?_
      refine x_icmp_ge (tgt := 50) d_C_numberInLabelField_14 rfl (fun hc => ?_) (fun hc => ?_)
      · have h := h.1 hc
        refine x_iload_n (x := x1) d_C_numberInLabelField_50 rfl ?_
        refine x_iret d_C_numberInLabelField_51 ⟨_, rfl, ?_⟩
        exact h
      · have h := h.2 hc
        refine x_aload_n (x := o) d_C_numberInLabelField_17 rfl ?_
        refine x_get (v := .ref (a 0)) f_C_9 (eC_o _ _ _ _) rfl d_C_numberInLabelField_18 ?_
        refine x_iload_n (x := x2) d_C_numberInLabelField_21 rfl ?_
        refine x_cald (t0 := 1) (eC_0 _ _ _ _) rfl h.1 d_C_numberInLabelField_22 ?_
        have h := h.2
        refine x_callSN (st := []) (k_C_26 X) x_none (cf_D_isDigit l D cs Ev hE adK adV fm X (d + 0) (gA u 0 x2.toNatClampNeg)) hE (rmD_ok (by omega) (by decide)) rfl (Nat.le_of_ble_eq_true rfl) rfl d_C_numberInLabelField_23 (x_rI (fun x u1 h9 => ?_))
        obtain ⟨rfl, rfl⟩ := h9
        refine x_if_eq (tgt := 44) d_C_numberInLabelField_26 rfl (fun hc => ?_) (fun hc => ?_)
        · have h := h.1 hc
          exact w_C_numberInLabelField_44 l D cs Ev hE adK adV fm X o a d post (fun zx1 zx2 zu => P_C_numberInLabelField_4 post f zx1 zx2 zu) ih x1 x2 u h
        · have h := h.2 hc
          refine x_iload_n (x := x1) d_C_numberInLabelField_29 rfl ?_
          refine x_bipush (v := 10) d_C_numberInLabelField_30 (by decide) ?_
          refine x_imul d_C_numberInLabelField_32 ?_
          refine x_aload_n (x := o) d_C_numberInLabelField_33 rfl ?_
          refine x_get (v := .ref (a 0)) f_C_9 (eC_o _ _ _ _) rfl d_C_numberInLabelField_34 ?_
          refine x_iload_n (x := x2) d_C_numberInLabelField_37 rfl ?_
          refine x_cald (t0 := 1) (eC_0 _ _ _ _) rfl h.1 d_C_numberInLabelField_38 ?_
          have h := h.2
          refine x_iadd d_C_numberInLabelField_39 ?_
          refine x_bipush (v := 48) d_C_numberInLabelField_40 (by decide) ?_
          refine x_isub d_C_numberInLabelField_42 ?_
          refine x_topI (fun v1 ev1 => ?_)
          have h := h v1 ev1
          refine x_istore_n (lv' := [(1, .int v1), (0, .ref o), (2, .int x2)]) d_C_numberInLabelField_43 (by decide) rfl ?_
          refine x_sub [1, 0, 2] rfl ?_
          exact w_C_numberInLabelField_44 l D cs Ev hE adK adV fm X o a d post (fun zx1 zx2 zu => P_C_numberInLabelField_4 post f zx1 zx2 zu) ih v1 x2 u h
def P_C_numberInLabelField (post : Int32 → MS → Prop) (u : MS) : Prop := (∃ g, P_C_numberInLabelField_4 post g 0 0 u)
set_option maxHeartbeats 600000 in
set_option maxRecDepth 100000 in
theorem c_C_numberInLabelField (l : Launch) (D : va_G) (cs : Nat → ClassId) (Ev : (Nat → Prop) → State → Prop) (hE : xEok Ev) (adK adV : Nat → Nat) (fm : Option Nat) (X : xEv adK adV fm Ev) (o : Nat) (a : Nat → Nat) (d : Nat) (post : Int32 → MS → Prop) (u : MS) (h : P_C_numberInLabelField post  u) : xC l D clX (tysX cs) Ev y_C_numberInLabelField w_C_numberInLabelField (rmD (d + 1)) (wdC o a cs) [.ref o] u (pI post) 0 0 := by
  unfold P_C_numberInLabelField at h
  refine xC.of (cc := b_C_numberInLabelField) (nL := 3) (ret := (some .int)) (by decide) rfl (Nat.le_of_ble_eq_true rfl) ?_
  show RR l D clX (tysX cs) Ev "DeckFront$Card" b_C_numberInLabelField 3 w_C_numberInLabelField (rmD (d + 1)) (some .int) (wdC o a cs) (pI post) 0 0 0 0 0 [(0, .ref o)] [] u
  refine x_iconst (v := 0) d_C_numberInLabelField_0 (by decide) ?_
  refine x_istore_n (lv' := [(1, .int 0), (0, .ref o)]) d_C_numberInLabelField_1 (by decide) rfl ?_
  refine x_iconst (v := 0) d_C_numberInLabelField_2 (by decide) ?_
  refine x_istore_n (lv' := [(2, .int 0), (1, .int 0), (0, .ref o)]) d_C_numberInLabelField_3 (by decide) rfl ?_
  refine x_sub [2, 1, 0] rfl ?_
  obtain ⟨f9, h⟩ := h
  exact w_C_numberInLabelField_4 l D cs Ev hE adK adV fm X o a d post  f9 0 0 u h
