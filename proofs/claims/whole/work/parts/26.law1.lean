section
variable {S : Type} {l : Launch} {D : va_G} {cl : List vw_C} {tys : List (ClassId × FieldType)} {Ev : (Nat → Prop) → State → Prop} {own : String} {cc : ByteArray} {nL : Nat} {Ts : List Cond} {rm : Room} {rr : Option FieldType} {wd : S → va_W} {Qf : List Frame → Array Value → State → (Nat → Prop) → State → Prop} {kc ks : Nat} {pc : Nat} {lv : List (Nat × Value)} {st : List Value} {u : S}
theorem x_wide {k1 k2 : Nat} (h1 : kc ≤ k1) (h2 : ks ≤ k2) (kk : RRq l D cl tys Ev own cc nL Ts rm rr wd Qf k1 k2 pc lv st u) : RRq l D cl tys Ev own cc nL Ts rm rr wd Qf kc ks pc lv st u := by
  intro p e s m args below meth c A H locs ls hX hP hD hS hl
  exact W.widen (k := k1) (n := k2) h1 h2 (kk p e s m args below meth c A H locs ls hX hP hD hS hl)
end
def P_L_law_448 (L : Nat) (xs : Nat → Int32) (K23 : Int32 → ZS → Prop) (x4 : Int32) (u : ZS) : Prop := K23 (x4 + 3) u
set_option maxHeartbeats 600000 in
set_option maxRecDepth 100000 in
theorem w_L_law_448 (kc ks kc1 ks1 : Nat) (o1 : kc ≤ kc1) (o2 : ks ≤ ks1) (l : Launch) (D : va_G) (cs : Nat → ClassId) (Ev : (Nat → Prop) → State → Prop) (hE : xEok Ev) (adK adV : Nat → Nat) (fm : Option Nat) (X : xEv adK adV fm Ev) (b L : Nat) (xs : Nat → Int32) (B : ∀ (A : Nat → Prop) (s : State), Ev A s → va_X b L xs s s.heap ∧ b < s.heap.size ∧ ¬ A b) (ad to : Nat → Nat) (ta : Nat → Nat → Nat) (o : Nat) (a : Nat → Nat) (oa : Nat) (K23 : Int32 → ZS → Prop) (hK23 : ∀ (x4 : Int32) (u : ZS), K23 x4 u → RRq l D clX (tysX cs) Ev "DeckFrontLaw" code 7 wLaw room_1 ret (wdL ad to ta o a oa cs) (qLaw b) kc1 ks1 23 [(0, .ref b), (1, .ref (ad 0)), (2, .ref o), (3, .ref oa), (4, .int x4)] [] u) (x4 : Int32) (u : ZS) (h : P_L_law_448 L xs K23 x4 u) : RRq l D clX (tysX cs) Ev "DeckFrontLaw" code 7 wLaw room_1 ret (wdL ad to ta o a oa cs) (qLaw b) kc ks 448 [(0, .ref b), (1, .ref (ad 0)), (2, .ref o), (3, .ref oa), (4, .int x4)] [] u := by
  unfold P_L_law_448 at h
  refine x_iinc (v := x4 + 3) (lv' := [(4, .int (x4 + 3)), (0, .ref b), (1, .ref (ad 0)), (2, .ref o), (3, .ref oa)]) d_L_law_448 rfl rfl (by decide) rfl ?_
  refine x_goto (tgt := 23) d_L_law_451 rfl ?_
  refine x_sub [1, 2, 3, 4, 0] rfl ?_
  exact x_wide o1 o2 (hK23 (x4 + 3) u h)
def P_L_law_194 (L : Nat) (xs : Nat → Int32) (K23 : Int32 → ZS → Prop) (x4 : Int32) (u : ZS) : Prop := P_L_law_448 L xs K23 x4 u
set_option maxHeartbeats 600000 in
set_option maxRecDepth 100000 in
theorem w_L_law_194 (kc ks kc1 ks1 : Nat) (o1 : kc ≤ kc1) (o2 : ks ≤ ks1) (l : Launch) (D : va_G) (cs : Nat → ClassId) (Ev : (Nat → Prop) → State → Prop) (hE : xEok Ev) (adK adV : Nat → Nat) (fm : Option Nat) (X : xEv adK adV fm Ev) (b L : Nat) (xs : Nat → Int32) (B : ∀ (A : Nat → Prop) (s : State), Ev A s → va_X b L xs s s.heap ∧ b < s.heap.size ∧ ¬ A b) (ad to : Nat → Nat) (ta : Nat → Nat → Nat) (o : Nat) (a : Nat → Nat) (oa : Nat) (K23 : Int32 → ZS → Prop) (hK23 : ∀ (x4 : Int32) (u : ZS), K23 x4 u → RRq l D clX (tysX cs) Ev "DeckFrontLaw" code 7 wLaw room_1 ret (wdL ad to ta o a oa cs) (qLaw b) kc1 ks1 23 [(0, .ref b), (1, .ref (ad 0)), (2, .ref o), (3, .ref oa), (4, .int x4)] [] u) (x4 : Int32) (u : ZS) (h : P_L_law_194 L xs K23 x4 u) : RRq l D clX (tysX cs) Ev "DeckFrontLaw" code 7 wLaw room_1 ret (wdL ad to ta o a oa cs) (qLaw b) kc ks 194 [(0, .ref b), (1, .ref (ad 0)), (2, .ref o), (3, .ref oa), (4, .int x4)] [] u := by
  unfold P_L_law_194 at h
  refine x_goto (tgt := 448) d_L_law_194 rfl ?_
  exact w_L_law_448 kc ks kc1 ks1 o1 o2 l D cs Ev hE adK adV fm X b L xs B ad to ta o a oa K23 hK23 x4 u h
def P_L_law_23 (L : Nat) (xs : Nat → Int32) : Nat → Int32 → ZS → Prop
  | 0, _, _ => False
  | f + 1, x4, u => ((((nI L) - (3 : Int32)) < x4 → True) ∧ (¬ ((nI L) - (3 : Int32)) < x4 → (vp_in x4 L ∧ ((((xs x4.toNatClampNeg) &&& (15 : Int32)) = 0 → (vp_in (x4 + (1 : Int32)) L ∧ (vp_in (x4 + (2 : Int32)) L ∧ P_D_write (fun r2 u1 => (vp_in (x4 + (1 : Int32)) L ∧ (vp_in (x4 + (2 : Int32)) L ∧ P_M_write (fun r4 u3 => ((r2 = r4 → P_L_law_448 L xs (fun zx4 zu => P_L_law_23 L xs f zx4 zu) x4 (u1, u3, u.2.2)) ∧ (¬ r2 = r4 → False))) ((((xs (x4 + (1 : Int32)).toNatClampNeg).toInt64) <<< ((32 : Int32).toInt64 &&& 63)) ||| (((xs (x4 + (2 : Int32)).toNatClampNeg).toInt64) &&& (4294967295 : Int64))) u.2.1))) ((((xs (x4 + (1 : Int32)).toNatClampNeg).toInt64) <<< ((32 : Int32).toInt64 &&& 63)) ||| (((xs (x4 + (2 : Int32)).toNatClampNeg).toInt64) &&& (4294967295 : Int64))) u.1))) ∧ (¬ ((xs x4.toNatClampNeg) &&& (15 : Int32)) = 0 → ((((xs x4.toNatClampNeg) &&& (15 : Int32)) = 1 → P_L_card (fun r6 u5 => P_M_card (fun r8 u7 => P_M_thrown (fun r10 u9 => ((r10 = r6 → ((¬ r6 = 0 → P_L_law_194 L xs (fun zx4 zu => P_L_law_23 L xs f zx4 zu) x4 (u5.1, u9, u5.2)) ∧ (r6 = 0 → (vp_in (0 : Int32) 1 ∧ (((lg_cmp (u5.2 (0 : Int32).toNatClampNeg) r8.toInt64) = 0 → P_L_law_194 L xs (fun zx4 zu => P_L_law_23 L xs f zx4 zu) x4 (u5.1, u9, u5.2)) ∧ (¬ (lg_cmp (u5.2 (0 : Int32).toNatClampNeg) r8.toInt64) = 0 → False)))))) ∧ (¬ r10 = r6 → False))) u7) u.2.1) (u.1, u.2.2)) ∧ (¬ ((xs x4.toNatClampNeg) &&& (15 : Int32)) = 1 → ((((xs x4.toNatClampNeg) &&& (15 : Int32)) = 2 → P_D_clear (fun u11 => P_M_clear (fun u12 => P_L_law_448 L xs (fun zx4 zu => P_L_law_23 L xs f zx4 zu) x4 (u11, u12, u.2.2)) u.2.1) u.1) ∧ (¬ ((xs x4.toNatClampNeg) &&& (15 : Int32)) = 2 → ((((xs x4.toNatClampNeg) &&& (15 : Int32)) = 3 → P_D_statements (fun r14 u13 => P_M_statements (fun r16 u15 => ((r14 = r16 → P_L_law_448 L xs (fun zx4 zu => P_L_law_23 L xs f zx4 zu) x4 (u13, u15, u.2.2)) ∧ (¬ r14 = r16 → False))) u.2.1) u.1) ∧ (¬ ((xs x4.toNatClampNeg) &&& (15 : Int32)) = 3 → ((((xs x4.toNatClampNeg) &&& (15 : Int32)) = 4 → (vp_in (x4 + (1 : Int32)) L ∧ P_D_label (fun r18 u17 => (vp_in (x4 + (1 : Int32)) L ∧ P_M_label (fun r20 u19 => ((r18 = r20 → P_L_law_448 L xs (fun zx4 zu => P_L_law_23 L xs f zx4 zu) x4 (u17, u19, u.2.2)) ∧ (¬ r18 = r20 → False))) (xs (x4 + (1 : Int32)).toNatClampNeg) u.2.1)) (xs (x4 + (1 : Int32)).toNatClampNeg) u.1)) ∧ (¬ ((xs x4.toNatClampNeg) &&& (15 : Int32)) = 4 → ((((xs x4.toNatClampNeg) &&& (15 : Int32)) = 5 → (vp_in (x4 + (1 : Int32)) L ∧ P_D_what (fun r22 u21 => (vp_in (x4 + (1 : Int32)) L ∧ P_M_what (fun r24 u23 => ((r22 = r24 → P_L_law_448 L xs (fun zx4 zu => P_L_law_23 L xs f zx4 zu) x4 (u21, u23, u.2.2)) ∧ (¬ r22 = r24 → False))) (xs (x4 + (1 : Int32)).toNatClampNeg) u.2.1)) (xs (x4 + (1 : Int32)).toNatClampNeg) u.1)) ∧ (¬ ((xs x4.toNatClampNeg) &&& (15 : Int32)) = 5 → ((((xs x4.toNatClampNeg) &&& (15 : Int32)) = 6 → (vp_in (x4 + (1 : Int32)) L ∧ (vp_in (x4 + (2 : Int32)) L ∧ P_D_shown (fun r26 u25 => (vp_in (x4 + (1 : Int32)) L ∧ (vp_in (x4 + (2 : Int32)) L ∧ P_M_shown (fun r28 u27 => ((r26 = r28 → P_L_law_448 L xs (fun zx4 zu => P_L_law_23 L xs f zx4 zu) x4 (u25, u27, u.2.2)) ∧ (¬ r26 = r28 → False))) (xs (x4 + (1 : Int32)).toNatClampNeg) (xs (x4 + (2 : Int32)).toNatClampNeg) u.2.1))) (xs (x4 + (1 : Int32)).toNatClampNeg) (xs (x4 + (2 : Int32)).toNatClampNeg) u.1))) ∧ (¬ ((xs x4.toNatClampNeg) &&& (15 : Int32)) = 6 → ((((xs x4.toNatClampNeg) &&& (15 : Int32)) = 7 → (vp_in (x4 + (1 : Int32)) L ∧ (vp_in (x4 + (2 : Int32)) L ∧ P_D_kind (fun r30 u29 => (vp_in (x4 + (1 : Int32)) L ∧ (vp_in (x4 + (2 : Int32)) L ∧ P_M_kind (fun r32 u31 => ((r30 = r32 → P_L_law_448 L xs (fun zx4 zu => P_L_law_23 L xs f zx4 zu) x4 (u29, u31, u.2.2)) ∧ (¬ r30 = r32 → False))) ((((xs (x4 + (1 : Int32)).toNatClampNeg).toInt64) <<< ((32 : Int32).toInt64 &&& 63)) ||| (((xs (x4 + (2 : Int32)).toNatClampNeg).toInt64) &&& (4294967295 : Int64))) u.2.1))) ((((xs (x4 + (1 : Int32)).toNatClampNeg).toInt64) <<< ((32 : Int32).toInt64 &&& 63)) ||| (((xs (x4 + (2 : Int32)).toNatClampNeg).toInt64) &&& (4294967295 : Int64))) u.1))) ∧ (¬ ((xs x4.toNatClampNeg) &&& (15 : Int32)) = 7 → ((((xs x4.toNatClampNeg) &&& (15 : Int32)) = 8 → (vp_in (x4 + (1 : Int32)) L ∧ (vp_in (x4 + (2 : Int32)) L ∧ P_D_type (fun r34 u33 => (vp_in (x4 + (1 : Int32)) L ∧ (vp_in (x4 + (2 : Int32)) L ∧ P_M_type (fun r36 u35 => ((r34 = r36 → P_L_law_448 L xs (fun zx4 zu => P_L_law_23 L xs f zx4 zu) x4 (u33, u35, u.2.2)) ∧ (¬ r34 = r36 → False))) ((((xs (x4 + (1 : Int32)).toNatClampNeg).toInt64) <<< ((32 : Int32).toInt64 &&& 63)) ||| (((xs (x4 + (2 : Int32)).toNatClampNeg).toInt64) &&& (4294967295 : Int64))) u.2.1))) ((((xs (x4 + (1 : Int32)).toNatClampNeg).toInt64) <<< ((32 : Int32).toInt64 &&& 63)) ||| (((xs (x4 + (2 : Int32)).toNatClampNeg).toInt64) &&& (4294967295 : Int64))) u.1))) ∧ (¬ ((xs x4.toNatClampNeg) &&& (15 : Int32)) = 8 → ((((xs x4.toNatClampNeg) &&& (15 : Int32)) = 9 → P_D_fault (fun r38 u37 => P_M_fault (fun r40 u39 => ((r38 = r40 → P_L_law_448 L xs (fun zx4 zu => P_L_law_23 L xs f zx4 zu) x4 (u37, u39, u.2.2)) ∧ (¬ r38 = r40 → False))) u.2.1) u.1) ∧ (¬ ((xs x4.toNatClampNeg) &&& (15 : Int32)) = 9 → ((((xs x4.toNatClampNeg) &&& (15 : Int32)) = 10 → P_D_faultAt (fun r42 u41 => P_M_faultAt (fun r44 u43 => ((r42 = r44 → P_L_law_448 L xs (fun zx4 zu => P_L_law_23 L xs f zx4 zu) x4 (u41, u43, u.2.2)) ∧ (¬ r42 = r44 → False))) u.2.1) u.1) ∧ (¬ ((xs x4.toNatClampNeg) &&& (15 : Int32)) = 10 → P_L_law_448 L xs (fun zx4 zu => P_L_law_23 L xs f zx4 zu) x4 u)))))))))))))))))))))))))
set_option maxHeartbeats 600000 in
set_option maxRecDepth 100000 in
theorem w_L_law_23 (l : Launch) (hfl : l.stackTraces = false) (D : va_G) (cs : Nat → ClassId) (Ev : (Nat → Prop) → State → Prop) (hE : xEok Ev) (adK adV : Nat → Nat) (fm : Option Nat) (X : xEv adK adV fm Ev) (hTh : ∀ A s, Ev A s → EvT A s) (b L : Nat) (xs : Nat → Int32) (B : ∀ (A : Nat → Prop) (s : State), Ev A s → va_X b L xs s s.heap ∧ b < s.heap.size ∧ ¬ A b) (ad to : Nat → Nat) (ta : Nat → Nat → Nat) (o : Nat) (a : Nat → Nat) (oa : Nat) : ∀ (f : Nat), f ≤ 600 → ∀ (x4 : Int32) (u : ZS), P_L_law_23 L xs  f x4 u → RRq l D clX (tysX cs) Ev "DeckFrontLaw" code 7 wLaw room_1 ret (wdL ad to ta o a oa cs) (qLaw b) (752 - f) (16212 - 6 * f) 23 [(0, .ref b), (1, .ref (ad 0)), (2, .ref o), (3, .ref oa), (4, .int x4)] [] u := by
  intro f
  induction f with
  | zero => intro hf x4 u h; exact h.elim
  | succ f ih =>
    intro hf x4 u h
    unfold P_L_law_23 at h
    refine x_iload (x := x4) d_L_law_23 rfl ?_
    refine x_aload_n (x := b) d_L_law_25 rfl ?_
    refine x_slen B d_L_law_26 ?_
    refine x_iconst (v := 3) d_L_law_27 (by decide) ?_
    refine x_isub d_L_law_28 ?_
    refine x_icmp_gt (tgt := 454) d_L_law_29 rfl (fun hc => ?_) (fun hc => ?_)
    · have h := h.1 hc
      refine x_iconst (v := 1) d_L_law_454 (by decide) ?_
      exact x_lawret (by omega) (by omega) d_L_law_455
    · have h := h.2 hc
      refine x_aload_n (x := b) d_L_law_32 rfl ?_
      refine x_iload (x := x4) d_L_law_33 rfl ?_
      refine x_sld B h.1 d_L_law_35 ?_
      have h := h.2
      refine x_bipush (v := 15) d_L_law_36 (by decide) ?_
      refine x_iand d_L_law_38 ?_
      by_cases hx0 : ((xs x4.toNatClampNeg) &&& (15 : Int32)) = 0
      · have h := h.1 hx0
        refine x_tableIn (off := 57) (tgt := 96) d_L_law_39 (by rw [hx0]; decide) (by rw [hx0]; decide) (by rw [hx0]; rfl) rfl ?_
        refine x_aload_n (x := (ad 0)) d_L_law_96 rfl ?_
        refine x_aload_n (x := b) d_L_law_97 rfl ?_
        refine x_iload (x := x4) d_L_law_98 rfl ?_
        refine x_iconst (v := 1) d_L_law_100 (by decide) ?_
        refine x_iadd d_L_law_101 ?_
        refine x_sld B h.1 d_L_law_102 ?_
        have h := h.2
        refine x_i2l d_L_law_103 ?_
        refine x_bipush (v := 32) d_L_law_104 (by decide) ?_
        refine x_lshl d_L_law_106 ?_
        refine x_aload_n (x := b) d_L_law_107 rfl ?_
        refine x_iload (x := x4) d_L_law_108 rfl ?_
        refine x_iconst (v := 2) d_L_law_110 (by decide) ?_
        refine x_iadd d_L_law_111 ?_
        refine x_sld B h.1 d_L_law_112 ?_
        have h := h.2
        refine x_i2l d_L_law_113 ?_
        refine x_ldc2 (v := 4294967295) (cG tw_1142) d_L_law_114 ?_
        refine x_land d_L_law_117 ?_
        refine x_lor d_L_law_118 ?_
        refine x_callV (st := []) k_L_23 rfl (eL_X ad to ta o a oa cs u.1 u.2.1 u.2.2) (lensLX ad to ta o a oa cs u.1 u.2.1 u.2.2) (c_D_write l D cs Ev hE adK adV fm X ad to ta 0 _ ((((xs (x4 + (1 : Int32)).toNatClampNeg).toInt64) <<< ((32 : Int32).toInt64 &&& 63)) ||| (((xs (x4 + (2 : Int32)).toNatClampNeg).toInt64) &&& (4294967295 : Int64))) u.1 h) hE (rmL_ok (by decide) (by decide) (by omega) (by omega)) rfl (Nat.le_of_ble_eq_true rfl) rfl d_L_law_119 (x_rI (fun r2 u1 h => ?_))
        refine x_aload_n (x := o) d_L_law_122 rfl ?_
        refine x_aload_n (x := b) d_L_law_123 rfl ?_
        refine x_iload (x := x4) d_L_law_124 rfl ?_
        refine x_iconst (v := 1) d_L_law_126 (by decide) ?_
        refine x_iadd d_L_law_127 ?_
        refine x_sld B h.1 d_L_law_128 ?_
        have h := h.2
        refine x_i2l d_L_law_129 ?_
        refine x_bipush (v := 32) d_L_law_130 (by decide) ?_
        refine x_lshl d_L_law_132 ?_
        refine x_aload_n (x := b) d_L_law_133 rfl ?_
        refine x_iload (x := x4) d_L_law_134 rfl ?_
        refine x_iconst (v := 2) d_L_law_136 (by decide) ?_
        refine x_iadd d_L_law_137 ?_
        refine x_sld B h.1 d_L_law_138 ?_
        have h := h.2
        refine x_i2l d_L_law_139 ?_
        refine x_ldc2 (v := 4294967295) (cG tw_1142) d_L_law_140 ?_
        refine x_land d_L_law_143 ?_
        refine x_lor d_L_law_144 ?_
        refine x_callV (st := [.int r2]) k_L_27 rfl (eL_M ad to ta o a oa cs u1 u.2.1 u.2.2) (lensLM ad to ta o a oa cs u1 u.2.1 u.2.2) (c_M_write l D cs Ev hE o a 0 _ ((((xs (x4 + (1 : Int32)).toNatClampNeg).toInt64) <<< ((32 : Int32).toInt64 &&& 63)) ||| (((xs (x4 + (2 : Int32)).toNatClampNeg).toInt64) &&& (4294967295 : Int64))) u.2.1 h) hE (rmL_ok (by decide) (by decide) (by omega) (by omega)) rfl (Nat.le_of_ble_eq_true rfl) rfl d_L_law_145 (x_rI (fun r4 u3 h => ?_))
        refine x_icmp_eq (tgt := 448) d_L_law_148 rfl (fun hc => ?_) (fun hc => ?_)
        · have h := h.1 hc
          exact w_L_law_448 _ _ (752 - f) (16212 - 6 * f) (by omega) (by omega) l D cs Ev hE adK adV fm X b L xs B ad to ta o a oa (fun zx4 zu => P_L_law_23 L xs f zx4 zu) (ih (by omega)) x4 (u1, u3, u.2.2) h
        · have h := h.2 hc
          refine x_iconst (v := 0) d_L_law_151 (by decide) ?_
          exact h.elim
      · have h := h.2 hx0
        by_cases hx1 : ((xs x4.toNatClampNeg) &&& (15 : Int32)) = 1
        · have h := h.1 hx1
          refine x_tableIn (off := 114) (tgt := 153) d_L_law_39 (by rw [hx1]; decide) (by rw [hx1]; decide) (by rw [hx1]; rfl) rfl ?_
          refine x_aload_n (x := (ad 0)) d_L_law_153 rfl ?_
          refine x_aload_n (x := oa) d_L_law_154 rfl ?_
          refine x_callSW (st := []) k_L_28 (lensLC ad to ta o a oa cs u.1 u.2.1 u.2.2) (c_L_card l hfl D cs Ev hE adK adV fm X hTh ad to ta oa 0 _ (u.1, u.2.2) h) hE (rmL_okT (by decide) (by decide) (by omega) (by omega)) rfl (Nat.le_of_ble_eq_true rfl) rfl d_L_law_155 (x_rI (fun r6 u5 h => ?_))
          refine x_istore (lv' := [(5, .int r6), (0, .ref b), (1, .ref (ad 0)), (2, .ref o), (3, .ref oa), (4, .int x4)]) d_L_law_158 (by decide) rfl ?_
          refine x_aload_n (x := o) d_L_law_160 rfl ?_
          refine x_callV (st := []) k_L_33 rfl (eL_M ad to ta o a oa cs u5.1 u.2.1 u5.2) (lensLM ad to ta o a oa cs u5.1 u.2.1 u5.2) (c_M_card l D cs Ev hE o a 0 _ u.2.1 h) hE (rmL_ok (by decide) (by decide) (by omega) (by omega)) rfl (Nat.le_of_ble_eq_true rfl) rfl d_L_law_161 (x_rI (fun r8 u7 h => ?_))
          refine x_istore (lv' := [(6, .int r8), (5, .int r6), (0, .ref b), (1, .ref (ad 0)), (2, .ref o), (3, .ref oa), (4, .int x4)]) d_L_law_164 (by decide) rfl ?_
          refine x_aload_n (x := o) d_L_law_166 rfl ?_
          refine x_callV (st := []) k_L_34 rfl (eL_M ad to ta o a oa cs u5.1 u7 u5.2) (lensLM ad to ta o a oa cs u5.1 u7 u5.2) (c_M_thrown l D cs Ev hE o a 0 _ u7 h) hE (rmL_ok (by decide) (by decide) (by omega) (by omega)) rfl (Nat.le_of_ble_eq_true rfl) rfl d_L_law_167 (x_rI (fun r10 u9 h => ?_))
          refine x_iload (x := r6) d_L_law_170 rfl ?_
          refine x_icmp_eq (tgt := 177) d_L_law_172 rfl (fun hc => ?_) (fun hc => ?_)
          · have h := h.1 hc
            refine x_iload (x := r6) d_L_law_177 rfl ?_
            refine x_if_ne (tgt := 194) d_L_law_179 rfl (fun hc => ?_) (fun hc => ?_)
            · have h := h.1 hc
              refine x_sub [2, 3, 4, 5, 6] rfl ?_
              exact w_L_law_194 _ _ (752 - f) (16212 - 6 * f) (by omega) (by omega) l D cs Ev hE adK adV fm X b L xs B ad to ta o a oa (fun zx4 zu => P_L_law_23 L xs f zx4 zu) (ih (by omega)) x4 (u5.1, u9, u5.2) h
            · have h := h.2 hc
              refine x_aload_n (x := oa) d_L_law_182 rfl ?_
              refine x_iconst (v := 0) d_L_law_183 (by decide) ?_
              refine x_lald (t0 := 2) (eL_o ad to ta o a oa cs u5.1 u9 u5.2) rfl h.1 d_L_law_184 ?_
              have h := h.2
              refine x_iload (x := r8) d_L_law_185 rfl ?_
              refine x_i2l d_L_law_187 ?_
              refine x_lcmp d_L_law_188 ?_
              refine x_if_eq (tgt := 194) d_L_law_189 rfl (fun hc => ?_) (fun hc => ?_)
              · have h := h.1 hc
                refine x_sub [2, 3, 4, 5, 6] rfl ?_
                exact w_L_law_194 _ _ (752 - f) (16212 - 6 * f) (by omega) (by omega) l D cs Ev hE adK adV fm X b L xs B ad to ta o a oa (fun zx4 zu => P_L_law_23 L xs f zx4 zu) (ih (by omega)) x4 (u5.1, u9, u5.2) h
              · have h := h.2 hc
                refine x_iconst (v := 0) d_L_law_192 (by decide) ?_
                exact h.elim
          · have h := h.2 hc
            refine x_iconst (v := 0) d_L_law_175 (by decide) ?_
            exact h.elim
        · have h := h.2 hx1
          by_cases hx2 : ((xs x4.toNatClampNeg) &&& (15 : Int32)) = 2
          · have h := h.1 hx2
            refine x_tableIn (off := 158) (tgt := 197) d_L_law_39 (by rw [hx2]; decide) (by rw [hx2]; decide) (by rw [hx2]; rfl) rfl ?_
            refine x_aload_n (x := (ad 0)) d_L_law_197 rfl ?_
            refine x_callV (st := []) k_L_37 rfl (eL_X ad to ta o a oa cs u.1 u.2.1 u.2.2) (lensLX ad to ta o a oa cs u.1 u.2.1 u.2.2) (c_D_clear l D cs Ev hE adK adV fm X ad to ta 0 _ u.1 h) hE (rmL_ok (by decide) (by decide) (by omega) (by omega)) rfl (Nat.le_of_ble_eq_true rfl) rfl d_L_law_198 (x_rV (fun u11 h => ?_))
            refine x_aload_n (x := o) d_L_law_201 rfl ?_
            refine x_callV (st := []) k_L_40 rfl (eL_M ad to ta o a oa cs u11 u.2.1 u.2.2) (lensLM ad to ta o a oa cs u11 u.2.1 u.2.2) (c_M_clear l D cs Ev hE o a 0 _ u.2.1 h) hE (rmL_ok (by decide) (by decide) (by omega) (by omega)) rfl (Nat.le_of_ble_eq_true rfl) rfl d_L_law_202 (x_rV (fun u12 h => ?_))
            refine x_goto (tgt := 448) d_L_law_205 rfl ?_
            exact w_L_law_448 _ _ (752 - f) (16212 - 6 * f) (by omega) (by omega) l D cs Ev hE adK adV fm X b L xs B ad to ta o a oa (fun zx4 zu => P_L_law_23 L xs f zx4 zu) (ih (by omega)) x4 (u11, u12, u.2.2) h
          · have h := h.2 hx2
            by_cases hx3 : ((xs x4.toNatClampNeg) &&& (15 : Int32)) = 3
            · have h := h.1 hx3
              refine x_tableIn (off := 169) (tgt := 208) d_L_law_39 (by rw [hx3]; decide) (by rw [hx3]; decide) (by rw [hx3]; rfl) rfl ?_
              refine x_aload_n (x := (ad 0)) d_L_law_208 rfl ?_
              refine x_callV (st := []) k_L_41 rfl (eL_X ad to ta o a oa cs u.1 u.2.1 u.2.2) (lensLX ad to ta o a oa cs u.1 u.2.1 u.2.2) (c_D_statements l D cs Ev hE adK adV fm X ad to ta 0 _ u.1 h) hE (rmL_ok (by decide) (by decide) (by omega) (by omega)) rfl (Nat.le_of_ble_eq_true rfl) rfl d_L_law_209 (x_rI (fun r14 u13 h => ?_))
              refine x_aload_n (x := o) d_L_law_212 rfl ?_
              refine x_callV (st := [.int r14]) k_L_44 rfl (eL_M ad to ta o a oa cs u13 u.2.1 u.2.2) (lensLM ad to ta o a oa cs u13 u.2.1 u.2.2) (c_M_statements l D cs Ev hE o a 0 _ u.2.1 h) hE (rmL_ok (by decide) (by decide) (by omega) (by omega)) rfl (Nat.le_of_ble_eq_true rfl) rfl d_L_law_213 (x_rI (fun r16 u15 h => ?_))
              refine x_icmp_eq (tgt := 448) d_L_law_216 rfl (fun hc => ?_) (fun hc => ?_)
              · have h := h.1 hc
                exact w_L_law_448 _ _ (752 - f) (16212 - 6 * f) (by omega) (by omega) l D cs Ev hE adK adV fm X b L xs B ad to ta o a oa (fun zx4 zu => P_L_law_23 L xs f zx4 zu) (ih (by omega)) x4 (u13, u15, u.2.2) h
              · have h := h.2 hc
                refine x_iconst (v := 0) d_L_law_219 (by decide) ?_
                exact h.elim
            · have h := h.2 hx3
              by_cases hx4 : ((xs x4.toNatClampNeg) &&& (15 : Int32)) = 4
              · have h := h.1 hx4
                refine x_tableIn (off := 182) (tgt := 221) d_L_law_39 (by rw [hx4]; decide) (by rw [hx4]; decide) (by rw [hx4]; rfl) rfl ?_
                refine x_aload_n (x := (ad 0)) d_L_law_221 rfl ?_
                refine x_aload_n (x := b) d_L_law_222 rfl ?_
                refine x_iload (x := x4) d_L_law_223 rfl ?_
                refine x_iconst (v := 1) d_L_law_225 (by decide) ?_
                refine x_iadd d_L_law_226 ?_
                refine x_sld B h.1 d_L_law_227 ?_
                have h := h.2
                refine x_callV (st := []) k_L_45 rfl (eL_X ad to ta o a oa cs u.1 u.2.1 u.2.2) (lensLX ad to ta o a oa cs u.1 u.2.1 u.2.2) (c_D_label l D cs Ev hE adK adV fm X ad to ta 0 _ (xs (x4 + (1 : Int32)).toNatClampNeg) u.1 h) hE (rmL_ok (by decide) (by decide) (by omega) (by omega)) rfl (Nat.le_of_ble_eq_true rfl) rfl d_L_law_228 (x_rI (fun r18 u17 h => ?_))
                refine x_aload_n (x := o) d_L_law_231 rfl ?_
                refine x_aload_n (x := b) d_L_law_232 rfl ?_
                refine x_iload (x := x4) d_L_law_233 rfl ?_
                refine x_iconst (v := 1) d_L_law_235 (by decide) ?_
                refine x_iadd d_L_law_236 ?_
                refine x_sld B h.1 d_L_law_237 ?_
                have h := h.2
                refine x_callV (st := [.int r18]) k_L_49 rfl (eL_M ad to ta o a oa cs u17 u.2.1 u.2.2) (lensLM ad to ta o a oa cs u17 u.2.1 u.2.2) (c_M_label l D cs Ev hE o a 0 _ (xs (x4 + (1 : Int32)).toNatClampNeg) u.2.1 h) hE (rmL_ok (by decide) (by decide) (by omega) (by omega)) rfl (Nat.le_of_ble_eq_true rfl) rfl d_L_law_238 (x_rI (fun r20 u19 h => ?_))
                refine x_icmp_eq (tgt := 448) d_L_law_241 rfl (fun hc => ?_) (fun hc => ?_)
                · have h := h.1 hc
                  exact w_L_law_448 _ _ (752 - f) (16212 - 6 * f) (by omega) (by omega) l D cs Ev hE adK adV fm X b L xs B ad to ta o a oa (fun zx4 zu => P_L_law_23 L xs f zx4 zu) (ih (by omega)) x4 (u17, u19, u.2.2) h
                · have h := h.2 hc
                  refine x_iconst (v := 0) d_L_law_244 (by decide) ?_
                  exact h.elim
              · have h := h.2 hx4
                by_cases hx5 : ((xs x4.toNatClampNeg) &&& (15 : Int32)) = 5
                · have h := h.1 hx5
                  refine x_tableIn (off := 207) (tgt := 246) d_L_law_39 (by rw [hx5]; decide) (by rw [hx5]; decide) (by rw [hx5]; rfl) rfl ?_
                  refine x_aload_n (x := (ad 0)) d_L_law_246 rfl ?_
                  refine x_aload_n (x := b) d_L_law_247 rfl ?_
                  refine x_iload (x := x4) d_L_law_248 rfl ?_
                  refine x_iconst (v := 1) d_L_law_250 (by decide) ?_
                  refine x_iadd d_L_law_251 ?_
                  refine x_sld B h.1 d_L_law_252 ?_
                  have h := h.2
                  refine x_callV (st := []) k_L_50 rfl (eL_X ad to ta o a oa cs u.1 u.2.1 u.2.2) (lensLX ad to ta o a oa cs u.1 u.2.1 u.2.2) (c_D_what l D cs Ev hE adK adV fm X ad to ta 0 _ (xs (x4 + (1 : Int32)).toNatClampNeg) u.1 h) hE (rmL_ok (by decide) (by decide) (by omega) (by omega)) rfl (Nat.le_of_ble_eq_true rfl) rfl d_L_law_253 (x_rI (fun r22 u21 h => ?_))
                  refine x_aload_n (x := o) d_L_law_256 rfl ?_
                  refine x_aload_n (x := b) d_L_law_257 rfl ?_
                  refine x_iload (x := x4) d_L_law_258 rfl ?_
                  refine x_iconst (v := 1) d_L_law_260 (by decide) ?_
                  refine x_iadd d_L_law_261 ?_
                  refine x_sld B h.1 d_L_law_262 ?_
                  have h := h.2
                  refine x_callV (st := [.int r22]) k_L_53 rfl (eL_M ad to ta o a oa cs u21 u.2.1 u.2.2) (lensLM ad to ta o a oa cs u21 u.2.1 u.2.2) (c_M_what l D cs Ev hE o a 0 _ (xs (x4 + (1 : Int32)).toNatClampNeg) u.2.1 h) hE (rmL_ok (by decide) (by decide) (by omega) (by omega)) rfl (Nat.le_of_ble_eq_true rfl) rfl d_L_law_263 (x_rI (fun r24 u23 h => ?_))
                  refine x_icmp_eq (tgt := 448) d_L_law_266 rfl (fun hc => ?_) (fun hc => ?_)
                  · have h := h.1 hc
                    exact w_L_law_448 _ _ (752 - f) (16212 - 6 * f) (by omega) (by omega) l D cs Ev hE adK adV fm X b L xs B ad to ta o a oa (fun zx4 zu => P_L_law_23 L xs f zx4 zu) (ih (by omega)) x4 (u21, u23, u.2.2) h
                  · have h := h.2 hc
                    refine x_iconst (v := 0) d_L_law_269 (by decide) ?_
                    exact h.elim
                · have h := h.2 hx5
                  by_cases hx6 : ((xs x4.toNatClampNeg) &&& (15 : Int32)) = 6
                  · have h := h.1 hx6
                    refine x_tableIn (off := 232) (tgt := 271) d_L_law_39 (by rw [hx6]; decide) (by rw [hx6]; decide) (by rw [hx6]; rfl) rfl ?_
                    refine x_aload_n (x := (ad 0)) d_L_law_271 rfl ?_
                    refine x_aload_n (x := b) d_L_law_272 rfl ?_
                    refine x_iload (x := x4) d_L_law_273 rfl ?_
                    refine x_iconst (v := 1) d_L_law_275 (by decide) ?_
                    refine x_iadd d_L_law_276 ?_
                    refine x_sld B h.1 d_L_law_277 ?_
                    have h := h.2
                    refine x_aload_n (x := b) d_L_law_278 rfl ?_
                    refine x_iload (x := x4) d_L_law_279 rfl ?_
                    refine x_iconst (v := 2) d_L_law_281 (by decide) ?_
                    refine x_iadd d_L_law_282 ?_
                    refine x_sld B h.1 d_L_law_283 ?_
                    have h := h.2
                    refine x_callV (st := []) k_L_54 rfl (eL_X ad to ta o a oa cs u.1 u.2.1 u.2.2) (lensLX ad to ta o a oa cs u.1 u.2.1 u.2.2) (c_D_shown l D cs Ev hE adK adV fm X ad to ta 0 _ (xs (x4 + (1 : Int32)).toNatClampNeg) (xs (x4 + (2 : Int32)).toNatClampNeg) u.1 h) hE (rmL_ok (by decide) (by decide) (by omega) (by omega)) rfl (Nat.le_of_ble_eq_true rfl) rfl d_L_law_284 (x_rI (fun r26 u25 h => ?_))
                    refine x_aload_n (x := o) d_L_law_287 rfl ?_
                    refine x_aload_n (x := b) d_L_law_288 rfl ?_
                    refine x_iload (x := x4) d_L_law_289 rfl ?_
                    refine x_iconst (v := 1) d_L_law_291 (by decide) ?_
                    refine x_iadd d_L_law_292 ?_
                    refine x_sld B h.1 d_L_law_293 ?_
                    have h := h.2
                    refine x_aload_n (x := b) d_L_law_294 rfl ?_
                    refine x_iload (x := x4) d_L_law_295 rfl ?_
                    refine x_iconst (v := 2) d_L_law_297 (by decide) ?_
                    refine x_iadd d_L_law_298 ?_
                    refine x_sld B h.1 d_L_law_299 ?_
                    have h := h.2
                    refine x_callV (st := [.int r26]) k_L_58 rfl (eL_M ad to ta o a oa cs u25 u.2.1 u.2.2) (lensLM ad to ta o a oa cs u25 u.2.1 u.2.2) (c_M_shown l D cs Ev hE o a 0 _ (xs (x4 + (1 : Int32)).toNatClampNeg) (xs (x4 + (2 : Int32)).toNatClampNeg) u.2.1 h) hE (rmL_ok (by decide) (by decide) (by omega) (by omega)) rfl (Nat.le_of_ble_eq_true rfl) rfl d_L_law_300 (x_rI (fun r28 u27 h => ?_))
                    refine x_icmp_eq (tgt := 448) d_L_law_303 rfl (fun hc => ?_) (fun hc => ?_)
                    · have h := h.1 hc
                      exact w_L_law_448 _ _ (752 - f) (16212 - 6 * f) (by omega) (by omega) l D cs Ev hE adK adV fm X b L xs B ad to ta o a oa (fun zx4 zu => P_L_law_23 L xs f zx4 zu) (ih (by omega)) x4 (u25, u27, u.2.2) h
                    · have h := h.2 hc
                      refine x_iconst (v := 0) d_L_law_306 (by decide) ?_
                      exact h.elim
                  · have h := h.2 hx6
                    by_cases hx7 : ((xs x4.toNatClampNeg) &&& (15 : Int32)) = 7
                    · have h := h.1 hx7
                      refine x_tableIn (off := 269) (tgt := 308) d_L_law_39 (by rw [hx7]; decide) (by rw [hx7]; decide) (by rw [hx7]; rfl) rfl ?_
                      refine x_aload_n (x := (ad 0)) d_L_law_308 rfl ?_
                      refine x_aload_n (x := b) d_L_law_309 rfl ?_
                      refine x_iload (x := x4) d_L_law_310 rfl ?_
                      refine x_iconst (v := 1) d_L_law_312 (by decide) ?_
                      refine x_iadd d_L_law_313 ?_
                      refine x_sld B h.1 d_L_law_314 ?_
                      have h := h.2
                      refine x_i2l d_L_law_315 ?_
                      refine x_bipush (v := 32) d_L_law_316 (by decide) ?_
                      refine x_lshl d_L_law_318 ?_
                      refine x_aload_n (x := b) d_L_law_319 rfl ?_
                      refine x_iload (x := x4) d_L_law_320 rfl ?_
                      refine x_iconst (v := 2) d_L_law_322 (by decide) ?_
                      refine x_iadd d_L_law_323 ?_
                      refine x_sld B h.1 d_L_law_324 ?_
                      have h := h.2
                      refine x_i2l d_L_law_325 ?_
                      refine x_ldc2 (v := 4294967295) (cG tw_1142) d_L_law_326 ?_
                      refine x_land d_L_law_329 ?_
                      refine x_lor d_L_law_330 ?_
                      refine x_callV (st := []) k_L_59 rfl (eL_X ad to ta o a oa cs u.1 u.2.1 u.2.2) (lensLX ad to ta o a oa cs u.1 u.2.1 u.2.2) (c_D_kind l D cs Ev hE adK adV fm X ad to ta 0 _ ((((xs (x4 + (1 : Int32)).toNatClampNeg).toInt64) <<< ((32 : Int32).toInt64 &&& 63)) ||| (((xs (x4 + (2 : Int32)).toNatClampNeg).toInt64) &&& (4294967295 : Int64))) u.1 h) hE (rmL_ok (by decide) (by decide) (by omega) (by omega)) rfl (Nat.le_of_ble_eq_true rfl) rfl d_L_law_331 (x_rI (fun r30 u29 h => ?_))
                      refine x_aload_n (x := o) d_L_law_334 rfl ?_
                      refine x_aload_n (x := b) d_L_law_335 rfl ?_
                      refine x_iload (x := x4) d_L_law_336 rfl ?_
                      refine x_iconst (v := 1) d_L_law_338 (by decide) ?_
                      refine x_iadd d_L_law_339 ?_
                      refine x_sld B h.1 d_L_law_340 ?_
                      have h := h.2
                      refine x_i2l d_L_law_341 ?_
                      refine x_bipush (v := 32) d_L_law_342 (by decide) ?_
                      refine x_lshl d_L_law_344 ?_
                      refine x_aload_n (x := b) d_L_law_345 rfl ?_
                      refine x_iload (x := x4) d_L_law_346 rfl ?_
                      refine x_iconst (v := 2) d_L_law_348 (by decide) ?_
                      refine x_iadd d_L_law_349 ?_
                      refine x_sld B h.1 d_L_law_350 ?_
                      have h := h.2
                      refine x_i2l d_L_law_351 ?_
                      refine x_ldc2 (v := 4294967295) (cG tw_1142) d_L_law_352 ?_
                      refine x_land d_L_law_355 ?_
                      refine x_lor d_L_law_356 ?_
                      refine x_callV (st := [.int r30]) k_L_63 rfl (eL_M ad to ta o a oa cs u29 u.2.1 u.2.2) (lensLM ad to ta o a oa cs u29 u.2.1 u.2.2) (c_M_kind l D cs Ev hE o a 0 _ ((((xs (x4 + (1 : Int32)).toNatClampNeg).toInt64) <<< ((32 : Int32).toInt64 &&& 63)) ||| (((xs (x4 + (2 : Int32)).toNatClampNeg).toInt64) &&& (4294967295 : Int64))) u.2.1 h) hE (rmL_ok (by decide) (by decide) (by omega) (by omega)) rfl (Nat.le_of_ble_eq_true rfl) rfl d_L_law_357 (x_rI (fun r32 u31 h => ?_))
                      refine x_icmp_eq (tgt := 448) d_L_law_360 rfl (fun hc => ?_) (fun hc => ?_)
                      · have h := h.1 hc
                        exact w_L_law_448 _ _ (752 - f) (16212 - 6 * f) (by omega) (by omega) l D cs Ev hE adK adV fm X b L xs B ad to ta o a oa (fun zx4 zu => P_L_law_23 L xs f zx4 zu) (ih (by omega)) x4 (u29, u31, u.2.2) h
                      · have h := h.2 hc
                        refine x_iconst (v := 0) d_L_law_363 (by decide) ?_
                        exact h.elim
                    · have h := h.2 hx7
                      by_cases hx8 : ((xs x4.toNatClampNeg) &&& (15 : Int32)) = 8
                      · have h := h.1 hx8
                        refine x_tableIn (off := 326) (tgt := 365) d_L_law_39 (by rw [hx8]; decide) (by rw [hx8]; decide) (by rw [hx8]; rfl) rfl ?_
                        refine x_aload_n (x := (ad 0)) d_L_law_365 rfl ?_
                        refine x_aload_n (x := b) d_L_law_366 rfl ?_
                        refine x_iload (x := x4) d_L_law_367 rfl ?_
                        refine x_iconst (v := 1) d_L_law_369 (by decide) ?_
                        refine x_iadd d_L_law_370 ?_
                        refine x_sld B h.1 d_L_law_371 ?_
                        have h := h.2
                        refine x_i2l d_L_law_372 ?_
                        refine x_bipush (v := 32) d_L_law_373 (by decide) ?_
                        refine x_lshl d_L_law_375 ?_
                        refine x_aload_n (x := b) d_L_law_376 rfl ?_
                        refine x_iload (x := x4) d_L_law_377 rfl ?_
                        refine x_iconst (v := 2) d_L_law_379 (by decide) ?_
                        refine x_iadd d_L_law_380 ?_
                        refine x_sld B h.1 d_L_law_381 ?_
                        have h := h.2
                        refine x_i2l d_L_law_382 ?_
                        refine x_ldc2 (v := 4294967295) (cG tw_1142) d_L_law_383 ?_
                        refine x_land d_L_law_386 ?_
                        refine x_lor d_L_law_387 ?_
                        refine x_callV (st := []) k_L_64 rfl (eL_X ad to ta o a oa cs u.1 u.2.1 u.2.2) (lensLX ad to ta o a oa cs u.1 u.2.1 u.2.2) (c_D_type l D cs Ev hE adK adV fm X ad to ta 0 _ ((((xs (x4 + (1 : Int32)).toNatClampNeg).toInt64) <<< ((32 : Int32).toInt64 &&& 63)) ||| (((xs (x4 + (2 : Int32)).toNatClampNeg).toInt64) &&& (4294967295 : Int64))) u.1 h) hE (rmL_ok (by decide) (by decide) (by omega) (by omega)) rfl (Nat.le_of_ble_eq_true rfl) rfl d_L_law_388 (x_rI (fun r34 u33 h => ?_))
                        refine x_aload_n (x := o) d_L_law_391 rfl ?_
                        refine x_aload_n (x := b) d_L_law_392 rfl ?_
                        refine x_iload (x := x4) d_L_law_393 rfl ?_
                        refine x_iconst (v := 1) d_L_law_395 (by decide) ?_
                        refine x_iadd d_L_law_396 ?_
                        refine x_sld B h.1 d_L_law_397 ?_
                        have h := h.2
                        refine x_i2l d_L_law_398 ?_
                        refine x_bipush (v := 32) d_L_law_399 (by decide) ?_
                        refine x_lshl d_L_law_401 ?_
                        refine x_aload_n (x := b) d_L_law_402 rfl ?_
                        refine x_iload (x := x4) d_L_law_403 rfl ?_
                        refine x_iconst (v := 2) d_L_law_405 (by decide) ?_
                        refine x_iadd d_L_law_406 ?_
                        refine x_sld B h.1 d_L_law_407 ?_
                        have h := h.2
                        refine x_i2l d_L_law_408 ?_
                        refine x_ldc2 (v := 4294967295) (cG tw_1142) d_L_law_409 ?_
                        refine x_land d_L_law_412 ?_
                        refine x_lor d_L_law_413 ?_
                        refine x_callV (st := [.int r34]) k_L_67 rfl (eL_M ad to ta o a oa cs u33 u.2.1 u.2.2) (lensLM ad to ta o a oa cs u33 u.2.1 u.2.2) (c_M_type l D cs Ev hE o a 0 _ ((((xs (x4 + (1 : Int32)).toNatClampNeg).toInt64) <<< ((32 : Int32).toInt64 &&& 63)) ||| (((xs (x4 + (2 : Int32)).toNatClampNeg).toInt64) &&& (4294967295 : Int64))) u.2.1 h) hE (rmL_ok (by decide) (by decide) (by omega) (by omega)) rfl (Nat.le_of_ble_eq_true rfl) rfl d_L_law_414 (x_rI (fun r36 u35 h => ?_))
                        refine x_icmp_eq (tgt := 448) d_L_law_417 rfl (fun hc => ?_) (fun hc => ?_)
                        · have h := h.1 hc
                          exact w_L_law_448 _ _ (752 - f) (16212 - 6 * f) (by omega) (by omega) l D cs Ev hE adK adV fm X b L xs B ad to ta o a oa (fun zx4 zu => P_L_law_23 L xs f zx4 zu) (ih (by omega)) x4 (u33, u35, u.2.2) h
                        · have h := h.2 hc
                          refine x_iconst (v := 0) d_L_law_420 (by decide) ?_
                          exact h.elim
                      · have h := h.2 hx8
                        by_cases hx9 : ((xs x4.toNatClampNeg) &&& (15 : Int32)) = 9
                        · have h := h.1 hx9
                          refine x_tableIn (off := 383) (tgt := 422) d_L_law_39 (by rw [hx9]; decide) (by rw [hx9]; decide) (by rw [hx9]; rfl) rfl ?_
                          refine x_aload_n (x := (ad 0)) d_L_law_422 rfl ?_
                          refine x_callV (st := []) k_L_68 rfl (eL_X ad to ta o a oa cs u.1 u.2.1 u.2.2) (lensLX ad to ta o a oa cs u.1 u.2.1 u.2.2) (c_D_fault l D cs Ev hE adK adV fm X ad to ta 0 _ u.1 h) hE (rmL_ok (by decide) (by decide) (by omega) (by omega)) rfl (Nat.le_of_ble_eq_true rfl) rfl d_L_law_423 (x_rI (fun r38 u37 h => ?_))
                          refine x_aload_n (x := o) d_L_law_426 rfl ?_
                          refine x_callV (st := [.int r38]) k_L_71 rfl (eL_M ad to ta o a oa cs u37 u.2.1 u.2.2) (lensLM ad to ta o a oa cs u37 u.2.1 u.2.2) (c_M_fault l D cs Ev hE o a 0 _ u.2.1 h) hE (rmL_ok (by decide) (by decide) (by omega) (by omega)) rfl (Nat.le_of_ble_eq_true rfl) rfl d_L_law_427 (x_rI (fun r40 u39 h => ?_))
                          refine x_icmp_eq (tgt := 448) d_L_law_430 rfl (fun hc => ?_) (fun hc => ?_)
                          · have h := h.1 hc
                            exact w_L_law_448 _ _ (752 - f) (16212 - 6 * f) (by omega) (by omega) l D cs Ev hE adK adV fm X b L xs B ad to ta o a oa (fun zx4 zu => P_L_law_23 L xs f zx4 zu) (ih (by omega)) x4 (u37, u39, u.2.2) h
                          · have h := h.2 hc
                            refine x_iconst (v := 0) d_L_law_433 (by decide) ?_
                            exact h.elim
                        · have h := h.2 hx9
                          by_cases hx10 : ((xs x4.toNatClampNeg) &&& (15 : Int32)) = 10
                          · have h := h.1 hx10
                            refine x_tableIn (off := 396) (tgt := 435) d_L_law_39 (by rw [hx10]; decide) (by rw [hx10]; decide) (by rw [hx10]; rfl) rfl ?_
                            refine x_aload_n (x := (ad 0)) d_L_law_435 rfl ?_
                            refine x_callV (st := []) k_L_72 rfl (eL_X ad to ta o a oa cs u.1 u.2.1 u.2.2) (lensLX ad to ta o a oa cs u.1 u.2.1 u.2.2) (c_D_faultAt l D cs Ev hE adK adV fm X ad to ta 0 _ u.1 h) hE (rmL_ok (by decide) (by decide) (by omega) (by omega)) rfl (Nat.le_of_ble_eq_true rfl) rfl d_L_law_436 (x_rI (fun r42 u41 h => ?_))
                            refine x_aload_n (x := o) d_L_law_439 rfl ?_
                            refine x_callV (st := [.int r42]) k_L_75 rfl (eL_M ad to ta o a oa cs u41 u.2.1 u.2.2) (lensLM ad to ta o a oa cs u41 u.2.1 u.2.2) (c_M_faultAt l D cs Ev hE o a 0 _ u.2.1 h) hE (rmL_ok (by decide) (by decide) (by omega) (by omega)) rfl (Nat.le_of_ble_eq_true rfl) rfl d_L_law_440 (x_rI (fun r44 u43 h => ?_))
                            refine x_icmp_eq (tgt := 448) d_L_law_443 rfl (fun hc => ?_) (fun hc => ?_)
                            · have h := h.1 hc
                              exact w_L_law_448 _ _ (752 - f) (16212 - 6 * f) (by omega) (by omega) l D cs Ev hE adK adV fm X b L xs B ad to ta o a oa (fun zx4 zu => P_L_law_23 L xs f zx4 zu) (ih (by omega)) x4 (u41, u43, u.2.2) h
                            · have h := h.2 hc
                              refine x_iconst (v := 0) d_L_law_446 (by decide) ?_
                              exact h.elim
                          · have h := h.2 hx10
                            have t0 := lv_neT (a := 0) hx0 (by decide)
                            have t1 := lv_neT (a := 1) hx1 (by decide)
                            have t2 := lv_neT (a := 2) hx2 (by decide)
                            have t3 := lv_neT (a := 3) hx3 (by decide)
                            have t4 := lv_neT (a := 4) hx4 (by decide)
                            have t5 := lv_neT (a := 5) hx5 (by decide)
                            have t6 := lv_neT (a := 6) hx6 (by decide)
                            have t7 := lv_neT (a := 7) hx7 (by decide)
                            have t8 := lv_neT (a := 8) hx8 (by decide)
                            have t9 := lv_neT (a := 9) hx9 (by decide)
                            have t10 := lv_neT (a := 10) hx10 (by decide)
                            refine x_tableOut (tgt := 448) d_L_law_39 (by omega) rfl ?_
                            exact w_L_law_448 _ _ (752 - f) (16212 - 6 * f) (by omega) (by omega) l D cs Ev hE adK adV fm X b L xs B ad to ta o a oa (fun zx4 zu => P_L_law_23 L xs f zx4 zu) (ih (by omega)) x4 u h
