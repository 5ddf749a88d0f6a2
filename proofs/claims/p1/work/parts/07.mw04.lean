def P_M_dots_174 (post : Int32 → MS → Prop) (s0 : Int32) (u : MS) : Prop := ((s0 = 0 → post 0 u) ∧ (¬ s0 = 0 → post 4 u))
set_option maxHeartbeats 600000 in
set_option maxRecDepth 100000 in
theorem w_M_dots_174 (l : Launch) (D : va_G) (cs : Nat → ClassId) (Ev : (Nat → Prop) → State → Prop) (hE : xEok Ev) (o : Nat) (a : Nat → Nat) (d : Nat) (post : Int32 → MS → Prop) (s0 : Int32) (u : MS) (h : P_M_dots_174 post  s0 u) : RR l D clX (tysX cs) Ev "DeckFrontModel" b_M_dots 6 w_M_dots (rmD (d + 1)) (some .int) (wdM o a cs) (pI post) 0 0 0 0 174 [] [.int s0] u := by
  unfold P_M_dots_174 at h
  refine x_istore (lv' := [(5, .int s0)]) d_M_dots_174 (by decide) rfl ?_
  refine x_iload (x := s0) d_M_dots_176 rfl ?_
  refine x_if_eq (tgt := 185) d_M_dots_178 rfl (fun hc => ?_) (fun hc => ?_)
  · have h := h.1 hc
    refine x_iconst (v := 0) d_M_dots_185 (by decide) ?_
    refine x_iret d_M_dots_186 ⟨_, rfl, ?_⟩
    exact h
  · have h := h.2 hc
    refine x_iconst (v := 4) d_M_dots_181 (by decide) ?_
    refine x_goto (tgt := 186) d_M_dots_182 rfl ?_
    refine x_iret d_M_dots_186 ⟨_, rfl, ?_⟩
    exact h
def P_M_dots_169 (post : Int32 → MS → Prop) (u : MS) : Prop := P_M_dots_174 post 1 u
set_option maxHeartbeats 600000 in
set_option maxRecDepth 100000 in
theorem w_M_dots_169 (l : Launch) (D : va_G) (cs : Nat → ClassId) (Ev : (Nat → Prop) → State → Prop) (hE : xEok Ev) (o : Nat) (a : Nat → Nat) (d : Nat) (post : Int32 → MS → Prop) (u : MS) (h : P_M_dots_169 post   u) : RR l D clX (tysX cs) Ev "DeckFrontModel" b_M_dots 6 w_M_dots (rmD (d + 1)) (some .int) (wdM o a cs) (pI post) 0 0 0 0 169 [] [] u := by
  unfold P_M_dots_169 at h
  refine x_iconst (v := 1) d_M_dots_169 (by decide) ?_
  refine x_goto (tgt := 174) d_M_dots_170 rfl ?_
  exact w_M_dots_174 l D cs Ev hE o a d post  1 u h
def P_M_dots_43 (post : Int32 → MS → Prop) (x1 : Int32) (x2 : Int32) (x3 : Int64) (u : MS) : Prop := (qAt u x1 ∧ ((¬ (vAt u x1) = 46 → post 0 u) ∧ ((vAt u x1) = 46 → (qAt u x2 ∧ ((¬ (vAt u x2) = 46 → post 0 u) ∧ ((vAt u x2) = 46 → ((¬ x2 = (x1 + (1 : Int32)) → ((¬ (lg_cmp x3 20306) = 0 → ((¬ (lg_cmp x3 4279876) = 0 → ((¬ (lg_cmp x3 5132116) = 0 → (((lg_cmp x3 1414681925) = 0 → post 20 u) ∧ (¬ (lg_cmp x3 1414681925) = 0 → ((¬ (lg_cmp x3 301743231813) = 0 → (((lg_cmp x3 19540) = 0 → P_M_dots_169 post u) ∧ (¬ (lg_cmp x3 19540) = 0 → (((lg_cmp x3 19525) = 0 → P_M_dots_169 post u) ∧ (¬ (lg_cmp x3 19525) = 0 → (((lg_cmp x3 17745) = 0 → P_M_dots_169 post u) ∧ (¬ (lg_cmp x3 17745) = 0 → (((lg_cmp x3 20037) = 0 → P_M_dots_169 post u) ∧ (¬ (lg_cmp x3 20037) = 0 → (((lg_cmp x3 18260) = 0 → P_M_dots_169 post u) ∧ (¬ (lg_cmp x3 18260) = 0 → ((¬ (lg_cmp x3 18245) = 0 → P_M_dots_174 post 0 u) ∧ ((lg_cmp x3 18245) = 0 → P_M_dots_169 post u))))))))))))) ∧ ((lg_cmp x3 301743231813) = 0 → post 20 u))))) ∧ ((lg_cmp x3 5132116) = 0 → post 3 u))) ∧ ((lg_cmp x3 4279876) = 0 → post 2 u))) ∧ ((lg_cmp x3 20306) = 0 → post 1 u))) ∧ (x2 = (x1 + (1 : Int32)) → post 0 u))))))))
set_option maxHeartbeats 600000 in
set_option maxRecDepth 100000 in
theorem w_M_dots_43 (l : Launch) (D : va_G) (cs : Nat → ClassId) (Ev : (Nat → Prop) → State → Prop) (hE : xEok Ev) (o : Nat) (a : Nat → Nat) (d : Nat) (post : Int32 → MS → Prop) (x1 : Int32) (x2 : Int32) (x3 : Int64) (u : MS) (h : P_M_dots_43 post  x1 x2 x3 u) : RR l D clX (tysX cs) Ev "DeckFrontModel" b_M_dots 6 w_M_dots (rmD (d + 1)) (some .int) (wdM o a cs) (pI post) 0 0 0 0 43 [(0, .ref o), (1, .int x1), (2, .int x2), (3, .long x3)] [] u := by
  unfold P_M_dots_43 at h
  refine x_aload_n (x := o) d_M_dots_43 rfl ?_
  refine x_iload_n (x := x1) d_M_dots_44 rfl ?_
  refine x_callV (st := []) k_M_129 rfl (eM_o _ _ _ _) x_id (cf_M_at l D cs Ev hE o a (d + 0) x1 u h.1) hE (rmD_ok (by omega) (by decide)) rfl (Nat.le_of_ble_eq_true rfl) rfl d_M_dots_45 (x_rI (fun x u1 h9 => ?_))
  obtain ⟨rfl, rfl⟩ := h9
  have h := h.2
  refine x_bipush (v := 46) d_M_dots_48 (by decide) ?_
  refine x_icmp_ne (tgt := 70) d_M_dots_50 rfl (fun hc => ?_) (fun hc => ?_)
  · have h := h.1 hc
    refine x_iconst (v := 0) d_M_dots_70 (by decide) ?_
    refine x_iret d_M_dots_71 ⟨_, rfl, ?_⟩
    exact h
  · have h := h.2 hc
    refine x_aload_n (x := o) d_M_dots_53 rfl ?_
    refine x_iload_n (x := x2) d_M_dots_54 rfl ?_
    refine x_callV (st := []) k_M_129 rfl (eM_o _ _ _ _) x_id (cf_M_at l D cs Ev hE o a (d + 0) x2 u h.1) hE (rmD_ok (by omega) (by decide)) rfl (Nat.le_of_ble_eq_true rfl) rfl d_M_dots_55 (x_rI (fun x u1 h9 => ?_))
    obtain ⟨rfl, rfl⟩ := h9
    have h := h.2
    refine x_bipush (v := 46) d_M_dots_58 (by decide) ?_
    refine x_icmp_ne (tgt := 70) d_M_dots_60 rfl (fun hc => ?_) (fun hc => ?_)
    · have h := h.1 hc
      refine x_iconst (v := 0) d_M_dots_70 (by decide) ?_
      refine x_iret d_M_dots_71 ⟨_, rfl, ?_⟩
      exact h
    · have h := h.2 hc
      refine x_iload_n (x := x2) d_M_dots_63 rfl ?_
      refine x_iload_n (x := x1) d_M_dots_64 rfl ?_
      refine x_iconst (v := 1) d_M_dots_65 (by decide) ?_
      refine x_iadd d_M_dots_66 ?_
      refine x_icmp_ne (tgt := 72) d_M_dots_67 rfl (fun hc => ?_) (fun hc => ?_)
      · have h := h.1 hc
        refine x_lload_n (x := x3) d_M_dots_72 rfl ?_
        refine x_ldc2 (v := 20306) (cG tw_955) d_M_dots_73 ?_
        refine x_lcmp d_M_dots_76 ?_
        refine x_if_ne (tgt := 82) d_M_dots_77 rfl (fun hc => ?_) (fun hc => ?_)
        · have h := h.1 hc
          refine x_lload_n (x := x3) d_M_dots_82 rfl ?_
          refine x_ldc2 (v := 4279876) (cG tw_956) d_M_dots_83 ?_
          refine x_lcmp d_M_dots_86 ?_
          refine x_if_ne (tgt := 92) d_M_dots_87 rfl (fun hc => ?_) (fun hc => ?_)
          · have h := h.1 hc
            refine x_lload_n (x := x3) d_M_dots_92 rfl ?_
            refine x_ldc2 (v := 5132116) (cG tw_957) d_M_dots_93 ?_
            refine x_lcmp d_M_dots_96 ?_
            refine x_if_ne (tgt := 102) d_M_dots_97 rfl (fun hc => ?_) (fun hc => ?_)
            · have h := h.1 hc
              refine x_lload_n (x := x3) d_M_dots_102 rfl ?_
              refine x_ldc2 (v := 1414681925) (cG tw_958) d_M_dots_103 ?_
              refine x_lcmp d_M_dots_106 ?_
              refine x_if_eq (tgt := 118) d_M_dots_107 rfl (fun hc => ?_) (fun hc => ?_)
              · have h := h.1 hc
                refine x_bipush (v := 20) d_M_dots_118 (by decide) ?_
                refine x_iret d_M_dots_120 ⟨_, rfl, ?_⟩
                exact h
              · have h := h.2 hc
                refine x_lload_n (x := x3) d_M_dots_110 rfl ?_
                refine x_ldc2 (v := 301743231813) (cG tw_959) d_M_dots_111 ?_
                refine x_lcmp d_M_dots_114 ?_
                refine x_if_ne (tgt := 121) d_M_dots_115 rfl (fun hc => ?_) (fun hc => ?_)
                · have h := h.1 hc
                  refine x_lload_n (x := x3) d_M_dots_121 rfl ?_
                  refine x_ldc2 (v := 19540) (cG tw_960) d_M_dots_122 ?_
                  refine x_lcmp d_M_dots_125 ?_
                  refine x_if_eq (tgt := 169) d_M_dots_126 rfl (fun hc => ?_) (fun hc => ?_)
                  · have h := h.1 hc
                    refine x_sub [] rfl ?_
                    exact w_M_dots_169 l D cs Ev hE o a d post  u h
                  · have h := h.2 hc
                    refine x_lload_n (x := x3) d_M_dots_129 rfl ?_
                    refine x_ldc2 (v := 19525) (cG tw_961) d_M_dots_130 ?_
                    refine x_lcmp d_M_dots_133 ?_
                    refine x_if_eq (tgt := 169) d_M_dots_134 rfl (fun hc => ?_) (fun hc => ?_)
                    · have h := h.1 hc
                      refine x_sub [] rfl ?_
                      exact w_M_dots_169 l D cs Ev hE o a d post  u h
                    · have h := h.2 hc
                      refine x_lload_n (x := x3) d_M_dots_137 rfl ?_
                      refine x_ldc2 (v := 17745) (cG tw_962) d_M_dots_138 ?_
                      refine x_lcmp d_M_dots_141 ?_
                      refine x_if_eq (tgt := 169) d_M_dots_142 rfl (fun hc => ?_) (fun hc => ?_)
                      · have h := h.1 hc
                        refine x_sub [] rfl ?_
                        exact w_M_dots_169 l D cs Ev hE o a d post  u h
                      · have h := h.2 hc
                        refine x_lload_n (x := x3) d_M_dots_145 rfl ?_
                        refine x_ldc2 (v := 20037) (cG tw_963) d_M_dots_146 ?_
                        refine x_lcmp d_M_dots_149 ?_
                        refine x_if_eq (tgt := 169) d_M_dots_150 rfl (fun hc => ?_) (fun hc => ?_)
                        · have h := h.1 hc
                          refine x_sub [] rfl ?_
                          exact w_M_dots_169 l D cs Ev hE o a d post  u h
                        · have h := h.2 hc
                          refine x_lload_n (x := x3) d_M_dots_153 rfl ?_
                          refine x_ldc2 (v := 18260) (cG tw_964) d_M_dots_154 ?_
                          refine x_lcmp d_M_dots_157 ?_
                          refine x_if_eq (tgt := 169) d_M_dots_158 rfl (fun hc => ?_) (fun hc => ?_)
                          · have h := h.1 hc
                            refine x_sub [] rfl ?_
                            exact w_M_dots_169 l D cs Ev hE o a d post  u h
                          · have h := h.2 hc
                            refine x_lload_n (x := x3) d_M_dots_161 rfl ?_
                            refine x_ldc2 (v := 18245) (cG tw_965) d_M_dots_162 ?_
                            refine x_lcmp d_M_dots_165 ?_
                            refine x_if_ne (tgt := 173) d_M_dots_166 rfl (fun hc => ?_) (fun hc => ?_)
                            · have h := h.1 hc
                              refine x_iconst (v := 0) d_M_dots_173 (by decide) ?_
                              refine x_sub [] rfl ?_
                              exact w_M_dots_174 l D cs Ev hE o a d post  0 u h
                            · have h := h.2 hc
                              refine x_sub [] rfl ?_
                              exact w_M_dots_169 l D cs Ev hE o a d post  u h
                · have h := h.2 hc
                  refine x_bipush (v := 20) d_M_dots_118 (by decide) ?_
                  refine x_iret d_M_dots_120 ⟨_, rfl, ?_⟩
                  exact h
            · have h := h.2 hc
              refine x_iconst (v := 3) d_M_dots_100 (by decide) ?_
              refine x_iret d_M_dots_101 ⟨_, rfl, ?_⟩
              exact h
          · have h := h.2 hc
            refine x_iconst (v := 2) d_M_dots_90 (by decide) ?_
            refine x_iret d_M_dots_91 ⟨_, rfl, ?_⟩
            exact h
        · have h := h.2 hc
          refine x_iconst (v := 1) d_M_dots_80 (by decide) ?_
          refine x_iret d_M_dots_81 ⟨_, rfl, ?_⟩
          exact h
      · have h := h.2 hc
        refine x_iconst (v := 0) d_M_dots_70 (by decide) ?_
        refine x_iret d_M_dots_71 ⟨_, rfl, ?_⟩
        exact h
def P_M_dots_6 (post : Int32 → MS → Prop) : Nat → Int32 → Int32 → Int64 → MS → Prop
  | 0, _, _, _, _ => False
  | f + 1, x1, x2, x3, u => (((x1 + (7 : Int32)) ≤ x2 → P_M_dots_43 post x1 x2 x3 u) ∧ (¬ (x1 + (7 : Int32)) ≤ x2 → (qAt u x2 ∧ (((isLet (vAt u x2)) = 0 → P_M_dots_43 post x1 x2 x3 u) ∧ (¬ (isLet (vAt u x2)) = 0 → (qAt u x2 ∧ (∀ v2, v2 = ((x3 <<< ((8 : Int32).toInt64 &&& 63)) ||| ((vAt u x2).toInt64)) → P_M_dots_6 post f x1 (x2 + 1) v2 u)))))))
set_option maxHeartbeats 600000 in
set_option maxRecDepth 100000 in
theorem w_M_dots_6 (l : Launch) (D : va_G) (cs : Nat → ClassId) (Ev : (Nat → Prop) → State → Prop) (hE : xEok Ev) (o : Nat) (a : Nat → Nat) (d : Nat) (post : Int32 → MS → Prop) : ∀ (f : Nat) (x1 : Int32) (x2 : Int32) (x3 : Int64) (u : MS), P_M_dots_6 post  f x1 x2 x3 u → RR l D clX (tysX cs) Ev "DeckFrontModel" b_M_dots 6 w_M_dots (rmD (d + 1)) (some .int) (wdM o a cs) (pI post) 0 0 0 0 6 [(0, .ref o), (1, .int x1), (2, .int x2), (3, .long x3)] [] u := by
  intro f
  induction f with
  | zero => intro x1 x2 x3 u h; exact h.elim
  | succ f ih =>
    intro x1 x2 x3 u h
    unfold P_M_dots_6 at h
    refine x_iload_n (x := x2) d_M_dots_6 rfl ?_
    refine x_iload_n (x := x1) d_M_dots_7 rfl ?_
    refine x_bipush (v := 7) d_M_dots_8 (by decide) ?_
    refine x_iadd d_M_dots_10 ?_
    refine x_icmp_ge (tgt := 43) d_M_dots_11 rfl (fun hc => ?_) (fun hc => ?_)
    · have h := h.1 hc
      exact w_M_dots_43 l D cs Ev hE o a d post  x1 x2 x3 u h
    · have h := h.2 hc
      refine x_aload_n (x := o) d_M_dots_14 rfl ?_
      refine x_iload_n (x := x2) d_M_dots_15 rfl ?_
      refine x_callV (st := []) k_M_129 rfl (eM_o _ _ _ _) x_id (cf_M_at l D cs Ev hE o a (d + 0) x2 u h.1) hE (rmD_ok (by omega) (by decide)) rfl (Nat.le_of_ble_eq_true rfl) rfl d_M_dots_16 (x_rI (fun x u1 h9 => ?_))
      obtain ⟨rfl, rfl⟩ := h9
      have h := h.2
      refine x_callS (st := []) k_M_86 x_none (cf_M_isLetter l D cs Ev hE (d + 0) (vAt u x2)) hE (rmD_ok (by omega) (by decide)) rfl (Nat.le_of_ble_eq_true rfl) rfl d_M_dots_19 (x_rI (fun x u1 h9 => ?_))
      obtain ⟨rfl, rfl⟩ := h9
      refine x_if_eq (tgt := 43) d_M_dots_22 rfl (fun hc => ?_) (fun hc => ?_)
      · have h := h.1 hc
        exact w_M_dots_43 l D cs Ev hE o a d post  x1 x2 x3 u h
      · have h := h.2 hc
        refine x_lload_n (x := x3) d_M_dots_25 rfl ?_
        refine x_bipush (v := 8) d_M_dots_26 (by decide) ?_
        refine x_lshl d_M_dots_28 ?_
        refine x_aload_n (x := o) d_M_dots_29 rfl ?_
        refine x_iload_n (x := x2) d_M_dots_30 rfl ?_
        refine x_callV (st := [.long (x3 <<< ((8 : Int32).toInt64 &&& 63))]) k_M_129 rfl (eM_o _ _ _ _) x_id (cf_M_at l D cs Ev hE o a (d + 0) x2 u h.1) hE (rmD_ok (by omega) (by decide)) rfl (Nat.le_of_ble_eq_true rfl) rfl d_M_dots_31 (x_rI (fun x u1 h9 => ?_))
        obtain ⟨rfl, rfl⟩ := h9
        have h := h.2
        refine x_i2l d_M_dots_34 ?_
        refine x_lor d_M_dots_35 ?_
        refine x_topJ (fun v2 ev2 => ?_)
        have h := h v2 ev2
        refine x_lstore_n (lv' := [(3, .long v2), (0, .ref o), (1, .int x1), (2, .int x2)]) d_M_dots_36 (by decide) rfl ?_
        refine x_iinc (v := x2 + 1) (lv' := [(2, .int (x2 + 1)), (3, .long v2), (0, .ref o), (1, .int x1)]) d_M_dots_37 rfl rfl (by decide) rfl ?_
        refine x_goto (tgt := 6) d_M_dots_40 rfl ?_
        refine x_sub [2, 3, 0, 1] rfl ?_
        exact ih x1 (x2 + 1) v2 u h
def P_M_dots (post : Int32 → MS → Prop) (a0 : Int32) (u : MS) : Prop := (∀ v1, v1 = (a0 + (1 : Int32)) → (∃ g, P_M_dots_6 post g a0 v1 0 u))
set_option maxHeartbeats 600000 in
set_option maxRecDepth 100000 in
theorem c_M_dots (l : Launch) (D : va_G) (cs : Nat → ClassId) (Ev : (Nat → Prop) → State → Prop) (hE : xEok Ev) (o : Nat) (a : Nat → Nat) (d : Nat) (post : Int32 → MS → Prop) (a0 : Int32) (u : MS) (h : P_M_dots post a0 u) : xC l D clX (tysX cs) Ev y_M_dots w_M_dots (rmD (d + 1)) (wdM o a cs) [.ref o, .int a0] u (pI post) 0 0 := by
  unfold P_M_dots at h
  refine xC.of (cc := b_M_dots) (nL := 6) (ret := (some .int)) (by decide) rfl (Nat.le_of_ble_eq_true rfl) ?_
  show RR l D clX (tysX cs) Ev "DeckFrontModel" b_M_dots 6 w_M_dots (rmD (d + 1)) (some .int) (wdM o a cs) (pI post) 0 0 0 0 0 [(0, .ref o), (1, .int a0)] [] u
  refine x_iload_n (x := a0) d_M_dots_0 rfl ?_
  refine x_iconst (v := 1) d_M_dots_1 (by decide) ?_
  refine x_iadd d_M_dots_2 ?_
  refine x_topI (fun v1 ev1 => ?_)
  have h := h v1 ev1
  refine x_istore_n (lv' := [(2, .int v1), (0, .ref o), (1, .int a0)]) d_M_dots_3 (by decide) rfl ?_
  refine x_lconst (v := 0) d_M_dots_4 (by decide) ?_
  refine x_lstore_n (lv' := [(3, .long 0), (2, .int v1), (0, .ref o), (1, .int a0)]) d_M_dots_5 (by decide) rfl ?_
  refine x_sub [2, 3, 1, 0] rfl ?_
  obtain ⟨f9, h⟩ := h
  exact w_M_dots_6 l D cs Ev hE o a d post  f9 a0 v1 0 u h
def P_M_dotted_4 (post : Int32 → MS → Prop) : Nat → Int32 → MS → Prop
  | 0, _, _ => False
  | f + 1, x2, u => (qAt u x2 ∧ (((vAt u x2) = 46 → post (x2 + (1 : Int32)) u) ∧ (¬ (vAt u x2) = 46 → P_M_dotted_4 post f (x2 + 1) u)))
set_option maxHeartbeats 600000 in
set_option maxRecDepth 100000 in
theorem w_M_dotted_4 (l : Launch) (D : va_G) (cs : Nat → ClassId) (Ev : (Nat → Prop) → State → Prop) (hE : xEok Ev) (o : Nat) (a : Nat → Nat) (d : Nat) (post : Int32 → MS → Prop) : ∀ (f : Nat) (x2 : Int32) (u : MS), P_M_dotted_4 post  f x2 u → RR l D clX (tysX cs) Ev "DeckFrontModel" b_M_dotted 3 w_M_dotted (rmD (d + 1)) (some .int) (wdM o a cs) (pI post) 0 0 0 0 4 [(0, .ref o), (2, .int x2)] [] u := by
  intro f
  induction f with
  | zero => intro x2 u h; exact h.elim
  | succ f ih =>
    intro x2 u h
    unfold P_M_dotted_4 at h
    refine x_aload_n (x := o) d_M_dotted_4 rfl ?_
    refine x_iload_n (x := x2) d_M_dotted_5 rfl ?_
    refine x_callV (st := []) k_M_129 rfl (eM_o _ _ _ _) x_id (cf_M_at l D cs Ev hE o a (d + 0) x2 u h.1) hE (rmD_ok (by omega) (by decide)) rfl (Nat.le_of_ble_eq_true rfl) rfl d_M_dotted_6 (x_rI (fun x u1 h9 => ?_))
    obtain ⟨rfl, rfl⟩ := h9
    have h := h.2
    refine x_bipush (v := 46) d_M_dotted_9 (by decide) ?_
    refine x_icmp_eq (tgt := 20) d_M_dotted_11 rfl (fun hc => ?_) (fun hc => ?_)
    · have h := h.1 hc
      refine x_iload_n (x := x2) d_M_dotted_20 rfl ?_
      refine x_iconst (v := 1) d_M_dotted_21 (by decide) ?_
      refine x_iadd d_M_dotted_22 ?_
      refine x_iret d_M_dotted_23 ⟨_, rfl, ?_⟩
      exact h
    · have h := h.2 hc
      refine x_iinc (v := x2 + 1) (lv' := [(2, .int (x2 + 1)), (0, .ref o)]) d_M_dotted_14 rfl rfl (by decide) rfl ?_
      refine x_goto (tgt := 4) d_M_dotted_17 rfl ?_
      refine x_sub [1, 0] rfl ?_
      exact ih (x2 + 1) u h
def P_M_dotted (post : Int32 → MS → Prop) (a0 : Int32) (u : MS) : Prop := (∀ v1, v1 = (a0 + (1 : Int32)) → (∃ g, P_M_dotted_4 post g v1 u))
set_option maxHeartbeats 600000 in
set_option maxRecDepth 100000 in
theorem c_M_dotted (l : Launch) (D : va_G) (cs : Nat → ClassId) (Ev : (Nat → Prop) → State → Prop) (hE : xEok Ev) (o : Nat) (a : Nat → Nat) (d : Nat) (post : Int32 → MS → Prop) (a0 : Int32) (u : MS) (h : P_M_dotted post a0 u) : xC l D clX (tysX cs) Ev y_M_dotted w_M_dotted (rmD (d + 1)) (wdM o a cs) [.ref o, .int a0] u (pI post) 0 0 := by
  unfold P_M_dotted at h
  refine xC.of (cc := b_M_dotted) (nL := 3) (ret := (some .int)) (by decide) rfl (Nat.le_of_ble_eq_true rfl) ?_
  show RR l D clX (tysX cs) Ev "DeckFrontModel" b_M_dotted 3 w_M_dotted (rmD (d + 1)) (some .int) (wdM o a cs) (pI post) 0 0 0 0 0 [(0, .ref o), (1, .int a0)] [] u
  refine x_iload_n (x := a0) d_M_dotted_0 rfl ?_
  refine x_iconst (v := 1) d_M_dotted_1 (by decide) ?_
  refine x_iadd d_M_dotted_2 ?_
  refine x_topI (fun v1 ev1 => ?_)
  have h := h v1 ev1
  refine x_istore_n (lv' := [(2, .int v1), (0, .ref o), (1, .int a0)]) d_M_dotted_3 (by decide) rfl ?_
  refine x_sub [1, 0] rfl ?_
  obtain ⟨f9, h⟩ := h
  exact w_M_dotted_4 l D cs Ev hE o a d post  f9 v1 u h
def P_M_numberEnd_157 (post : Int32 → MS → Prop) : Nat → Int32 → Int32 → Int32 → MS → Prop
  | 0, _, _, _, _ => False
  | f + 1, x2, x4, x5, u => (qAt u x5 ∧ (((isDig (vAt u x5)) = 0 → ((x5 ≤ x4 → post x2 u) ∧ (¬ x5 ≤ x4 → post x5 u))) ∧ (¬ (isDig (vAt u x5)) = 0 → P_M_numberEnd_157 post f x2 x4 (x5 + 1) u)))
set_option maxHeartbeats 600000 in
set_option maxRecDepth 100000 in
theorem w_M_numberEnd_157 (l : Launch) (D : va_G) (cs : Nat → ClassId) (Ev : (Nat → Prop) → State → Prop) (hE : xEok Ev) (o : Nat) (a : Nat → Nat) (d : Nat) (post : Int32 → MS → Prop) : ∀ (f : Nat) (x2 : Int32) (x4 : Int32) (x5 : Int32) (u : MS), P_M_numberEnd_157 post  f x2 x4 x5 u → RR l D clX (tysX cs) Ev "DeckFrontModel" b_M_numberEnd 6 w_M_numberEnd (rmD (d + 2)) (some .int) (wdM o a cs) (pI post) 0 0 0 0 157 [(0, .ref o), (2, .int x2), (4, .int x4), (5, .int x5)] [] u := by
  intro f
  induction f with
  | zero => intro x2 x4 x5 u h; exact h.elim
  | succ f ih =>
    intro x2 x4 x5 u h
    unfold P_M_numberEnd_157 at h
    refine x_aload_n (x := o) d_M_numberEnd_157 rfl ?_
    refine x_iload (x := x5) d_M_numberEnd_158 rfl ?_
    refine x_callV (st := []) k_M_129 rfl (eM_o _ _ _ _) x_id (cf_M_at l D cs Ev hE o a (d + 1) x5 u h.1) hE (rmD_ok (by omega) (by decide)) rfl (Nat.le_of_ble_eq_true rfl) rfl d_M_numberEnd_160 (x_rI (fun x u1 h9 => ?_))
    obtain ⟨rfl, rfl⟩ := h9
    have h := h.2
    refine x_callS (st := []) k_M_90 x_none (cf_M_isDigit l D cs Ev hE (d + 1) (vAt u x5)) hE (rmD_ok (by omega) (by decide)) rfl (Nat.le_of_ble_eq_true rfl) rfl d_M_numberEnd_163 (x_rI (fun x u1 h9 => ?_))
    obtain ⟨rfl, rfl⟩ := h9
    refine x_if_eq (tgt := 175) d_M_numberEnd_166 rfl (fun hc => ?_) (fun hc => ?_)
    · have h := h.1 hc
      refine x_iload (x := x5) d_M_numberEnd_175 rfl ?_
      refine x_iload (x := x4) d_M_numberEnd_177 rfl ?_
      refine x_icmp_le (tgt := 187) d_M_numberEnd_179 rfl (fun hc => ?_) (fun hc => ?_)
      · have h := h.1 hc
        refine x_iload_n (x := x2) d_M_numberEnd_187 rfl ?_
        refine x_istore_n (lv' := [(2, .int x2), (0, .ref o), (4, .int x4), (5, .int x5)]) d_M_numberEnd_188 (by decide) rfl ?_
        refine x_iload_n (x := x2) d_M_numberEnd_189 rfl ?_
        refine x_iret d_M_numberEnd_190 ⟨_, rfl, ?_⟩
        exact h
      · have h := h.2 hc
        refine x_iload (x := x5) d_M_numberEnd_182 rfl ?_
        refine x_goto (tgt := 188) d_M_numberEnd_184 rfl ?_
        refine x_istore_n (lv' := [(2, .int x5), (0, .ref o), (4, .int x4), (5, .int x5)]) d_M_numberEnd_188 (by decide) rfl ?_
        refine x_iload_n (x := x5) d_M_numberEnd_189 rfl ?_
        refine x_iret d_M_numberEnd_190 ⟨_, rfl, ?_⟩
        exact h
    · have h := h.2 hc
      refine x_iinc (v := x5 + 1) (lv' := [(5, .int (x5 + 1)), (0, .ref o), (2, .int x2), (4, .int x4)]) d_M_numberEnd_169 rfl rfl (by decide) rfl ?_
      refine x_goto (tgt := 157) d_M_numberEnd_172 rfl ?_
      refine x_sub [1, 2, 3, 0] rfl ?_
      exact ih x2 x4 (x5 + 1) u h
def P_M_numberEnd_151 (post : Int32 → MS → Prop) (x2 : Int32) (s0 : Int32) (u : MS) : Prop := (∃ g, P_M_numberEnd_157 post g x2 s0 s0 u)
set_option maxHeartbeats 600000 in
set_option maxRecDepth 100000 in
theorem w_M_numberEnd_151 (l : Launch) (D : va_G) (cs : Nat → ClassId) (Ev : (Nat → Prop) → State → Prop) (hE : xEok Ev) (o : Nat) (a : Nat → Nat) (d : Nat) (post : Int32 → MS → Prop) (x2 : Int32) (s0 : Int32) (u : MS) (h : P_M_numberEnd_151 post  x2 s0 u) : RR l D clX (tysX cs) Ev "DeckFrontModel" b_M_numberEnd 6 w_M_numberEnd (rmD (d + 2)) (some .int) (wdM o a cs) (pI post) 0 0 0 0 151 [(0, .ref o), (2, .int x2)] [.int s0] u := by
  unfold P_M_numberEnd_151 at h
  refine x_istore (lv' := [(4, .int s0), (0, .ref o), (2, .int x2)]) d_M_numberEnd_151 (by decide) rfl ?_
  refine x_iload (x := s0) d_M_numberEnd_153 rfl ?_
  refine x_istore (lv' := [(5, .int s0), (4, .int s0), (0, .ref o), (2, .int x2)]) d_M_numberEnd_155 (by decide) rfl ?_
  refine x_sub [2, 3, 1, 0] rfl ?_
  obtain ⟨f9, h⟩ := h
  exact w_M_numberEnd_157 l D cs Ev hE o a d post  f9 x2 s0 s0 u h
def P_M_numberEnd_142 (post : Int32 → MS → Prop) (x2 : Int32) (x4 : Int32) (u : MS) : Prop := P_M_numberEnd_151 post x2 (x4 + (1 : Int32)) u
set_option maxHeartbeats 600000 in
set_option maxRecDepth 100000 in
theorem w_M_numberEnd_142 (l : Launch) (D : va_G) (cs : Nat → ClassId) (Ev : (Nat → Prop) → State → Prop) (hE : xEok Ev) (o : Nat) (a : Nat → Nat) (d : Nat) (post : Int32 → MS → Prop) (x2 : Int32) (x4 : Int32) (u : MS) (h : P_M_numberEnd_142 post  x2 x4 u) : RR l D clX (tysX cs) Ev "DeckFrontModel" b_M_numberEnd 6 w_M_numberEnd (rmD (d + 2)) (some .int) (wdM o a cs) (pI post) 0 0 0 0 142 [(0, .ref o), (2, .int x2), (4, .int x4)] [] u := by
  unfold P_M_numberEnd_142 at h
  refine x_iload (x := x4) d_M_numberEnd_142 rfl ?_
  refine x_iconst (v := 1) d_M_numberEnd_144 (by decide) ?_
  refine x_iadd d_M_numberEnd_145 ?_
  refine x_goto (tgt := 151) d_M_numberEnd_146 rfl ?_
  refine x_sub [0, 1] rfl ?_
  exact w_M_numberEnd_151 l D cs Ev hE o a d post  x2 (x4 + (1 : Int32)) u h
def P_M_numberEnd_98 (post : Int32 → MS → Prop) (x1 : Int32) (x2 : Int32) (u : MS) : Prop := ((¬ x2 = x1 → (∀ v1, v1 = (x2 + (1 : Int32)) → (qAt u x2 ∧ ((¬ (vAt u x2) = 69 → post x2 u) ∧ ((vAt u x2) = 69 → (qAt u v1 ∧ (((vAt u v1) = 43 → P_M_numberEnd_142 post x2 v1 u) ∧ (¬ (vAt u v1) = 43 → (qAt u v1 ∧ ((¬ (vAt u v1) = 45 → P_M_numberEnd_151 post x2 v1 u) ∧ ((vAt u v1) = 45 → P_M_numberEnd_142 post x2 v1 u))))))))))) ∧ (x2 = x1 → post x1 u))
set_option maxHeartbeats 600000 in
set_option maxRecDepth 100000 in
theorem w_M_numberEnd_98 (l : Launch) (D : va_G) (cs : Nat → ClassId) (Ev : (Nat → Prop) → State → Prop) (hE : xEok Ev) (o : Nat) (a : Nat → Nat) (d : Nat) (post : Int32 → MS → Prop) (x1 : Int32) (x2 : Int32) (u : MS) (h : P_M_numberEnd_98 post  x1 x2 u) : RR l D clX (tysX cs) Ev "DeckFrontModel" b_M_numberEnd 6 w_M_numberEnd (rmD (d + 2)) (some .int) (wdM o a cs) (pI post) 0 0 0 0 98 [(0, .ref o), (1, .int x1), (2, .int x2)] [] u := by
  unfold P_M_numberEnd_98 at h
  refine x_iload_n (x := x2) d_M_numberEnd_98 rfl ?_
  refine x_iload_n (x := x1) d_M_numberEnd_99 rfl ?_
  refine x_icmp_ne (tgt := 105) d_M_numberEnd_100 rfl (fun hc => ?_) (fun hc => ?_)
  · have h := h.1 hc
    refine x_iload_n (x := x2) d_M_numberEnd_105 rfl ?_
    refine x_iconst (v := 1) d_M_numberEnd_106 (by decide) ?_
    refine x_iadd d_M_numberEnd_107 ?_
    refine x_topI (fun v1 ev1 => ?_)
    have h := h v1 ev1
    refine x_istore (lv' := [(4, .int v1), (0, .ref o), (1, .int x1), (2, .int x2)]) d_M_numberEnd_108 (by decide) rfl ?_
    refine x_aload_n (x := o) d_M_numberEnd_110 rfl ?_
    refine x_iload_n (x := x2) d_M_numberEnd_111 rfl ?_
    refine x_callV (st := []) k_M_129 rfl (eM_o _ _ _ _) x_id (cf_M_at l D cs Ev hE o a (d + 1) x2 u h.1) hE (rmD_ok (by omega) (by decide)) rfl (Nat.le_of_ble_eq_true rfl) rfl d_M_numberEnd_112 (x_rI (fun x u1 h9 => ?_))
    obtain ⟨rfl, rfl⟩ := h9
    have h := h.2
    refine x_bipush (v := 69) d_M_numberEnd_115 (by decide) ?_
    refine x_icmp_ne (tgt := 189) d_M_numberEnd_117 rfl (fun hc => ?_) (fun hc => ?_)
    · have h := h.1 hc
      refine x_iload_n (x := x2) d_M_numberEnd_189 rfl ?_
      refine x_iret d_M_numberEnd_190 ⟨_, rfl, ?_⟩
      exact h
    · have h := h.2 hc
      refine x_aload_n (x := o) d_M_numberEnd_120 rfl ?_
      refine x_iload (x := v1) d_M_numberEnd_121 rfl ?_
      refine x_callV (st := []) k_M_129 rfl (eM_o _ _ _ _) x_id (cf_M_at l D cs Ev hE o a (d + 1) v1 u h.1) hE (rmD_ok (by omega) (by decide)) rfl (Nat.le_of_ble_eq_true rfl) rfl d_M_numberEnd_123 (x_rI (fun x u1 h9 => ?_))
      obtain ⟨rfl, rfl⟩ := h9
      have h := h.2
      refine x_bipush (v := 43) d_M_numberEnd_126 (by decide) ?_
      refine x_icmp_eq (tgt := 142) d_M_numberEnd_128 rfl (fun hc => ?_) (fun hc => ?_)
      · have h := h.1 hc
        refine x_sub [1, 3, 0] rfl ?_
        exact w_M_numberEnd_142 l D cs Ev hE o a d post  x2 v1 u h
      · have h := h.2 hc
        refine x_aload_n (x := o) d_M_numberEnd_131 rfl ?_
        refine x_iload (x := v1) d_M_numberEnd_132 rfl ?_
        refine x_callV (st := []) k_M_129 rfl (eM_o _ _ _ _) x_id (cf_M_at l D cs Ev hE o a (d + 1) v1 u h.1) hE (rmD_ok (by omega) (by decide)) rfl (Nat.le_of_ble_eq_true rfl) rfl d_M_numberEnd_134 (x_rI (fun x u1 h9 => ?_))
        obtain ⟨rfl, rfl⟩ := h9
        have h := h.2
        refine x_bipush (v := 45) d_M_numberEnd_137 (by decide) ?_
        refine x_icmp_ne (tgt := 149) d_M_numberEnd_139 rfl (fun hc => ?_) (fun hc => ?_)
        · have h := h.1 hc
          refine x_iload (x := v1) d_M_numberEnd_149 rfl ?_
          refine x_sub [1, 3] rfl ?_
          exact w_M_numberEnd_151 l D cs Ev hE o a d post  x2 v1 u h
        · have h := h.2 hc
          refine x_sub [1, 3, 0] rfl ?_
          exact w_M_numberEnd_142 l D cs Ev hE o a d post  x2 v1 u h
  · have h := h.2 hc
    refine x_iload_n (x := x1) d_M_numberEnd_103 rfl ?_
    refine x_iret d_M_numberEnd_104 ⟨_, rfl, ?_⟩
    exact h
def P_M_numberEnd_81 (post : Int32 → MS → Prop) : Nat → Int32 → Int32 → MS → Prop
  | 0, _, _, _ => False
  | f + 1, x1, x2, u => (qAt u x2 ∧ (((isDig (vAt u x2)) = 0 → P_M_numberEnd_98 post x1 x2 u) ∧ (¬ (isDig (vAt u x2)) = 0 → P_M_numberEnd_81 post f x1 (x2 + 1) u)))
set_option maxHeartbeats 600000 in
set_option maxRecDepth 100000 in
theorem w_M_numberEnd_81 (l : Launch) (D : va_G) (cs : Nat → ClassId) (Ev : (Nat → Prop) → State → Prop) (hE : xEok Ev) (o : Nat) (a : Nat → Nat) (d : Nat) (post : Int32 → MS → Prop) : ∀ (f : Nat) (x1 : Int32) (x2 : Int32) (u : MS), P_M_numberEnd_81 post  f x1 x2 u → RR l D clX (tysX cs) Ev "DeckFrontModel" b_M_numberEnd 6 w_M_numberEnd (rmD (d + 2)) (some .int) (wdM o a cs) (pI post) 0 0 0 0 81 [(0, .ref o), (1, .int x1), (2, .int x2)] [] u := by
  intro f
  induction f with
  | zero => intro x1 x2 u h; exact h.elim
  | succ f ih =>
    intro x1 x2 u h
    unfold P_M_numberEnd_81 at h
    refine x_aload_n (x := o) d_M_numberEnd_81 rfl ?_
    refine x_iload_n (x := x2) d_M_numberEnd_82 rfl ?_
    refine x_callV (st := []) k_M_129 rfl (eM_o _ _ _ _) x_id (cf_M_at l D cs Ev hE o a (d + 1) x2 u h.1) hE (rmD_ok (by omega) (by decide)) rfl (Nat.le_of_ble_eq_true rfl) rfl d_M_numberEnd_83 (x_rI (fun x u1 h9 => ?_))
    obtain ⟨rfl, rfl⟩ := h9
    have h := h.2
    refine x_callS (st := []) k_M_90 x_none (cf_M_isDigit l D cs Ev hE (d + 1) (vAt u x2)) hE (rmD_ok (by omega) (by decide)) rfl (Nat.le_of_ble_eq_true rfl) rfl d_M_numberEnd_86 (x_rI (fun x u1 h9 => ?_))
    obtain ⟨rfl, rfl⟩ := h9
    refine x_if_eq (tgt := 98) d_M_numberEnd_89 rfl (fun hc => ?_) (fun hc => ?_)
    · have h := h.1 hc
      exact w_M_numberEnd_98 l D cs Ev hE o a d post  x1 x2 u h
    · have h := h.2 hc
      refine x_iinc (v := x2 + 1) (lv' := [(2, .int (x2 + 1)), (0, .ref o), (1, .int x1)]) d_M_numberEnd_92 rfl rfl (by decide) rfl ?_
      refine x_goto (tgt := 81) d_M_numberEnd_95 rfl ?_
      refine x_sub [1, 2, 0] rfl ?_
      exact ih x1 (x2 + 1) u h
def P_M_numberEnd_78 (post : Int32 → MS → Prop) (x1 : Int32) (x2 : Int32) (u : MS) : Prop := (∃ g, P_M_numberEnd_81 post g x1 (x2 + 1) u)
set_option maxHeartbeats 600000 in
set_option maxRecDepth 100000 in
theorem w_M_numberEnd_78 (l : Launch) (D : va_G) (cs : Nat → ClassId) (Ev : (Nat → Prop) → State → Prop) (hE : xEok Ev) (o : Nat) (a : Nat → Nat) (d : Nat) (post : Int32 → MS → Prop) (x1 : Int32) (x2 : Int32) (u : MS) (h : P_M_numberEnd_78 post  x1 x2 u) : RR l D clX (tysX cs) Ev "DeckFrontModel" b_M_numberEnd 6 w_M_numberEnd (rmD (d + 2)) (some .int) (wdM o a cs) (pI post) 0 0 0 0 78 [(0, .ref o), (1, .int x1), (2, .int x2)] [] u := by
  unfold P_M_numberEnd_78 at h
  refine x_iinc (v := x2 + 1) (lv' := [(2, .int (x2 + 1)), (0, .ref o), (1, .int x1)]) d_M_numberEnd_78 rfl rfl (by decide) rfl ?_
  refine x_sub [1, 2, 0] rfl ?_
  obtain ⟨f9, h⟩ := h
  exact w_M_numberEnd_81 l D cs Ev hE o a d post  f9 x1 (x2 + 1) u h
def P_M_numberEnd_29 (post : Int32 → MS → Prop) (x1 : Int32) (x2 : Int32) (s0 : Int32) (u : MS) : Prop := ((s0 = 0 → (qAt u x2 ∧ ((¬ (vAt u x2) = 46 → P_M_numberEnd_98 post x1 x2 u) ∧ ((vAt u x2) = 46 → (qAt u (x2 + (1 : Int32)) ∧ (((isDig (vAt u (x2 + (1 : Int32)))) = 0 → P_M_numberEnd_98 post x1 x2 u) ∧ (¬ (isDig (vAt u (x2 + (1 : Int32)))) = 0 → P_M_numberEnd_78 post x1 x2 u))))))) ∧ (¬ s0 = 0 → (qAt u x2 ∧ ((¬ (vAt u x2) = 46 → P_M_numberEnd_98 post x1 x2 u) ∧ ((vAt u x2) = 46 → P_M_dots (fun r3 u2 => ((¬ r3 = 0 → P_M_numberEnd_98 post x1 x2 u2) ∧ (r3 = 0 → P_M_numberEnd_78 post x1 x2 u2))) x2 u)))))
set_option maxHeartbeats 600000 in
set_option maxRecDepth 100000 in
theorem w_M_numberEnd_29 (l : Launch) (D : va_G) (cs : Nat → ClassId) (Ev : (Nat → Prop) → State → Prop) (hE : xEok Ev) (o : Nat) (a : Nat → Nat) (d : Nat) (post : Int32 → MS → Prop) (x1 : Int32) (x2 : Int32) (s0 : Int32) (u : MS) (h : P_M_numberEnd_29 post  x1 x2 s0 u) : RR l D clX (tysX cs) Ev "DeckFrontModel" b_M_numberEnd 6 w_M_numberEnd (rmD (d + 2)) (some .int) (wdM o a cs) (pI post) 0 0 0 0 29 [(0, .ref o), (1, .int x1), (2, .int x2)] [.int s0] u := by
  unfold P_M_numberEnd_29 at h
  refine x_istore_n (lv' := [(3, .int s0), (0, .ref o), (1, .int x1), (2, .int x2)]) d_M_numberEnd_29 (by decide) rfl ?_
  refine x_iload_n (x := s0) d_M_numberEnd_30 rfl ?_
  refine x_if_eq (tgt := 55) d_M_numberEnd_31 rfl (fun hc => ?_) (fun hc => ?_)
  · have h := h.1 hc
    refine x_aload_n (x := o) d_M_numberEnd_55 rfl ?_
    refine x_iload_n (x := x2) d_M_numberEnd_56 rfl ?_
    refine x_callV (st := []) k_M_129 rfl (eM_o _ _ _ _) x_id (cf_M_at l D cs Ev hE o a (d + 1) x2 u h.1) hE (rmD_ok (by omega) (by decide)) rfl (Nat.le_of_ble_eq_true rfl) rfl d_M_numberEnd_57 (x_rI (fun x u1 h9 => ?_))
    obtain ⟨rfl, rfl⟩ := h9
    have h := h.2
    refine x_bipush (v := 46) d_M_numberEnd_60 (by decide) ?_
    refine x_icmp_ne (tgt := 98) d_M_numberEnd_62 rfl (fun hc => ?_) (fun hc => ?_)
    · have h := h.1 hc
      refine x_sub [1, 2, 3] rfl ?_
      exact w_M_numberEnd_98 l D cs Ev hE o a d post  x1 x2 u h
    · have h := h.2 hc
      refine x_aload_n (x := o) d_M_numberEnd_65 rfl ?_
      refine x_iload_n (x := x2) d_M_numberEnd_66 rfl ?_
      refine x_iconst (v := 1) d_M_numberEnd_67 (by decide) ?_
      refine x_iadd d_M_numberEnd_68 ?_
      refine x_callV (st := []) k_M_129 rfl (eM_o _ _ _ _) x_id (cf_M_at l D cs Ev hE o a (d + 1) (x2 + (1 : Int32)) u h.1) hE (rmD_ok (by omega) (by decide)) rfl (Nat.le_of_ble_eq_true rfl) rfl d_M_numberEnd_69 (x_rI (fun x u1 h9 => ?_))
      obtain ⟨rfl, rfl⟩ := h9
      have h := h.2
      refine x_callS (st := []) k_M_90 x_none (cf_M_isDigit l D cs Ev hE (d + 1) (vAt u (x2 + (1 : Int32)))) hE (rmD_ok (by omega) (by decide)) rfl (Nat.le_of_ble_eq_true rfl) rfl d_M_numberEnd_72 (x_rI (fun x u1 h9 => ?_))
      obtain ⟨rfl, rfl⟩ := h9
      refine x_if_eq (tgt := 98) d_M_numberEnd_75 rfl (fun hc => ?_) (fun hc => ?_)
      · have h := h.1 hc
        refine x_sub [1, 2, 3] rfl ?_
        exact w_M_numberEnd_98 l D cs Ev hE o a d post  x1 x2 u h
      · have h := h.2 hc
        refine x_sub [1, 2, 3] rfl ?_
        exact w_M_numberEnd_78 l D cs Ev hE o a d post  x1 x2 u h
  · have h := h.2 hc
    refine x_aload_n (x := o) d_M_numberEnd_34 rfl ?_
    refine x_iload_n (x := x2) d_M_numberEnd_35 rfl ?_
    refine x_callV (st := []) k_M_129 rfl (eM_o _ _ _ _) x_id (cf_M_at l D cs Ev hE o a (d + 1) x2 u h.1) hE (rmD_ok (by omega) (by decide)) rfl (Nat.le_of_ble_eq_true rfl) rfl d_M_numberEnd_36 (x_rI (fun x u1 h9 => ?_))
    obtain ⟨rfl, rfl⟩ := h9
    have h := h.2
    refine x_bipush (v := 46) d_M_numberEnd_39 (by decide) ?_
    refine x_icmp_ne (tgt := 98) d_M_numberEnd_41 rfl (fun hc => ?_) (fun hc => ?_)
    · have h := h.1 hc
      refine x_sub [1, 2, 3] rfl ?_
      exact w_M_numberEnd_98 l D cs Ev hE o a d post  x1 x2 u h
    · have h := h.2 hc
      refine x_aload_n (x := o) d_M_numberEnd_44 rfl ?_
      refine x_iload_n (x := x2) d_M_numberEnd_45 rfl ?_
      refine x_callV (st := []) k_M_170 rfl (eM_o _ _ _ _) x_id (c_M_dots l D cs Ev hE o a (d + 0) _ x2 u h) hE (rmD_ok (by omega) (by decide)) rfl (Nat.le_of_ble_eq_true rfl) rfl d_M_numberEnd_46 (x_rI (fun r3 u2 h => ?_))
      refine x_if_ne (tgt := 98) d_M_numberEnd_49 rfl (fun hc => ?_) (fun hc => ?_)
      · have h := h.1 hc
        refine x_sub [1, 2, 3] rfl ?_
        exact w_M_numberEnd_98 l D cs Ev hE o a d post  x1 x2 u2 h
      · have h := h.2 hc
        refine x_goto (tgt := 78) d_M_numberEnd_52 rfl ?_
        refine x_sub [1, 2, 3] rfl ?_
        exact w_M_numberEnd_78 l D cs Ev hE o a d post  x1 x2 u2 h
def P_M_numberEnd_2 (post : Int32 → MS → Prop) : Nat → Int32 → Int32 → MS → Prop
  | 0, _, _, _ => False
  | f + 1, x1, x2, u => (qAt u x2 ∧ (((isDig (vAt u x2)) = 0 → ((x2 ≤ x1 → P_M_numberEnd_29 post x1 x2 0 u) ∧ (¬ x2 ≤ x1 → P_M_numberEnd_29 post x1 x2 1 u))) ∧ (¬ (isDig (vAt u x2)) = 0 → P_M_numberEnd_2 post f x1 (x2 + 1) u)))
set_option maxHeartbeats 600000 in
set_option maxRecDepth 100000 in
theorem w_M_numberEnd_2 (l : Launch) (D : va_G) (cs : Nat → ClassId) (Ev : (Nat → Prop) → State → Prop) (hE : xEok Ev) (o : Nat) (a : Nat → Nat) (d : Nat) (post : Int32 → MS → Prop) : ∀ (f : Nat) (x1 : Int32) (x2 : Int32) (u : MS), P_M_numberEnd_2 post  f x1 x2 u → RR l D clX (tysX cs) Ev "DeckFrontModel" b_M_numberEnd 6 w_M_numberEnd (rmD (d + 2)) (some .int) (wdM o a cs) (pI post) 0 0 0 0 2 [(0, .ref o), (1, .int x1), (2, .int x2)] [] u := by
  intro f
  induction f with
  | zero => intro x1 x2 u h; exact h.elim
  | succ f ih =>
    intro x1 x2 u h
    unfold P_M_numberEnd_2 at h
    refine x_aload_n (x := o) d_M_numberEnd_2 rfl ?_
    refine x_iload_n (x := x2) d_M_numberEnd_3 rfl ?_
    refine x_callV (st := []) k_M_129 rfl (eM_o _ _ _ _) x_id (cf_M_at l D cs Ev hE o a (d + 1) x2 u h.1) hE (rmD_ok (by omega) (by decide)) rfl (Nat.le_of_ble_eq_true rfl) rfl d_M_numberEnd_4 (x_rI (fun x u1 h9 => ?_))
    obtain ⟨rfl, rfl⟩ := h9
    have h := h.2
    refine x_callS (st := []) k_M_90 x_none (cf_M_isDigit l D cs Ev hE (d + 1) (vAt u x2)) hE (rmD_ok (by omega) (by decide)) rfl (Nat.le_of_ble_eq_true rfl) rfl d_M_numberEnd_7 (x_rI (fun x u1 h9 => ?_))
    obtain ⟨rfl, rfl⟩ := h9
    refine x_if_eq (tgt := 19) d_M_numberEnd_10 rfl (fun hc => ?_) (fun hc => ?_)
    · have h := h.1 hc
      refine x_iload_n (x := x2) d_M_numberEnd_19 rfl ?_
      refine x_iload_n (x := x1) d_M_numberEnd_20 rfl ?_
      refine x_icmp_le (tgt := 28) d_M_numberEnd_21 rfl (fun hc => ?_) (fun hc => ?_)
      · have h := h.1 hc
        refine x_iconst (v := 0) d_M_numberEnd_28 (by decide) ?_
        exact w_M_numberEnd_29 l D cs Ev hE o a d post  x1 x2 0 u h
      · have h := h.2 hc
        refine x_iconst (v := 1) d_M_numberEnd_24 (by decide) ?_
        refine x_goto (tgt := 29) d_M_numberEnd_25 rfl ?_
        exact w_M_numberEnd_29 l D cs Ev hE o a d post  x1 x2 1 u h
    · have h := h.2 hc
      refine x_iinc (v := x2 + 1) (lv' := [(2, .int (x2 + 1)), (0, .ref o), (1, .int x1)]) d_M_numberEnd_13 rfl rfl (by decide) rfl ?_
      refine x_goto (tgt := 2) d_M_numberEnd_16 rfl ?_
      refine x_sub [1, 2, 0] rfl ?_
      exact ih x1 (x2 + 1) u h
def P_M_numberEnd (post : Int32 → MS → Prop) (a0 : Int32) (u : MS) : Prop := (∃ g, P_M_numberEnd_2 post g a0 a0 u)
set_option maxHeartbeats 600000 in
set_option maxRecDepth 100000 in
theorem c_M_numberEnd (l : Launch) (D : va_G) (cs : Nat → ClassId) (Ev : (Nat → Prop) → State → Prop) (hE : xEok Ev) (o : Nat) (a : Nat → Nat) (d : Nat) (post : Int32 → MS → Prop) (a0 : Int32) (u : MS) (h : P_M_numberEnd post a0 u) : xC l D clX (tysX cs) Ev y_M_numberEnd w_M_numberEnd (rmD (d + 2)) (wdM o a cs) [.ref o, .int a0] u (pI post) 0 0 := by
  unfold P_M_numberEnd at h
  refine xC.of (cc := b_M_numberEnd) (nL := 6) (ret := (some .int)) (by decide) rfl (Nat.le_of_ble_eq_true rfl) ?_
  show RR l D clX (tysX cs) Ev "DeckFrontModel" b_M_numberEnd 6 w_M_numberEnd (rmD (d + 2)) (some .int) (wdM o a cs) (pI post) 0 0 0 0 0 [(0, .ref o), (1, .int a0)] [] u
  refine x_iload_n (x := a0) d_M_numberEnd_0 rfl ?_
  refine x_istore_n (lv' := [(2, .int a0), (0, .ref o), (1, .int a0)]) d_M_numberEnd_1 (by decide) rfl ?_
  refine x_sub [1, 2, 0] rfl ?_
  obtain ⟨f9, h⟩ := h
  exact w_M_numberEnd_2 l D cs Ev hE o a d post  f9 a0 a0 u h
def P_M_part (post : Int32 → MS → Prop) (a0 : Int32) (a1 : Int32) (a2 : Int32) (a3 : Int32) (a4 : Int32) (u : MS) : Prop := (vp_in (gI u 18) 100 ∧ (vp_in (gI u 18) 100 ∧ (vp_in (gI u 18) 100 ∧ (vp_in (gI u 18) 100 ∧ (vp_in (gI u 18) 100 ∧ (vp_in (gI u 18) 100 ∧ post (((gI u 18) + (1 : Int32)) - (1 : Int32)) (sI (sA (sA (sA (sA (sA (sA u 24 (gI u 18).toNatClampNeg a0) 19 (gI u 18).toNatClampNeg a1) 20 (gI u 18).toNatClampNeg a2) 21 (gI u 18).toNatClampNeg a3) 22 (gI u 18).toNatClampNeg a4) 23 (gI u 18).toNatClampNeg (-1 : Int32)) 18 ((gI u 18) + (1 : Int32)))))))))
set_option maxHeartbeats 600000 in
set_option maxRecDepth 100000 in
theorem c_M_part (l : Launch) (D : va_G) (cs : Nat → ClassId) (Ev : (Nat → Prop) → State → Prop) (hE : xEok Ev) (o : Nat) (a : Nat → Nat) (d : Nat) (post : Int32 → MS → Prop) (a0 : Int32) (a1 : Int32) (a2 : Int32) (a3 : Int32) (a4 : Int32) (u : MS) (h : P_M_part post a0 a1 a2 a3 a4 u) : xC l D clX (tysX cs) Ev y_M_part w_M_part (rmD (d + 0)) (wdM o a cs) [.ref o, .int a0, .int a1, .int a2, .int a3, .int a4] u (pI post) 0 0 := by
  unfold P_M_part at h
  refine xC.of (cc := b_M_part) (nL := 6) (ret := (some .int)) (by decide) rfl (Nat.le_of_ble_eq_true rfl) ?_
  show RR l D clX (tysX cs) Ev "DeckFrontModel" b_M_part 6 w_M_part (rmD (d + 0)) (some .int) (wdM o a cs) (pI post) 0 0 0 0 0 [(0, .ref o), (1, .int a0), (2, .int a1), (3, .int a2), (4, .int a3), (5, .int a4)] [] u
  refine x_aload_n (x := o) d_M_part_0 rfl ?_
  refine x_get (v := .ref (a 24)) f_M_54 (eM_o _ _ _ _) rfl d_M_part_1 ?_
  refine x_aload_n (x := o) d_M_part_4 rfl ?_
  refine x_get (v := .int (gI u 18)) f_M_173 (eM_o _ _ _ _) rfl d_M_part_5 ?_
  refine x_iload_n (x := a0) d_M_part_8 rfl ?_
  refine x_iast (t0 := 0) (eM_24 _ _ _ _) rfl h.1 (sM_24 _ _ _ _ _ _) d_M_part_9 ?_
  have h := h.2
  refine x_aload_n (x := o) d_M_part_10 rfl ?_
  refine x_get (v := .ref (a 19)) f_M_39 (eM_o _ _ _ _) rfl d_M_part_11 ?_
  refine x_aload_n (x := o) d_M_part_14 rfl ?_
  refine x_get (v := .int (gI u 18)) f_M_173 (eM_o _ _ _ _) rfl d_M_part_15 ?_
  refine x_iload_n (x := a1) d_M_part_18 rfl ?_
  refine x_iast (t0 := 0) (eM_19 _ _ _ _) rfl h.1 (sM_19 _ _ _ _ _ _) d_M_part_19 ?_
  have h := h.2
  refine x_aload_n (x := o) d_M_part_20 rfl ?_
  refine x_get (v := .ref (a 20)) f_M_42 (eM_o _ _ _ _) rfl d_M_part_21 ?_
  refine x_aload_n (x := o) d_M_part_24 rfl ?_
  refine x_get (v := .int (gI u 18)) f_M_173 (eM_o _ _ _ _) rfl d_M_part_25 ?_
  refine x_iload_n (x := a2) d_M_part_28 rfl ?_
  refine x_iast (t0 := 0) (eM_20 _ _ _ _) rfl h.1 (sM_20 _ _ _ _ _ _) d_M_part_29 ?_
  have h := h.2
  refine x_aload_n (x := o) d_M_part_30 rfl ?_
  refine x_get (v := .ref (a 21)) f_M_45 (eM_o _ _ _ _) rfl d_M_part_31 ?_
  refine x_aload_n (x := o) d_M_part_34 rfl ?_
  refine x_get (v := .int (gI u 18)) f_M_173 (eM_o _ _ _ _) rfl d_M_part_35 ?_
  refine x_iload (x := a3) d_M_part_38 rfl ?_
  refine x_iast (t0 := 0) (eM_21 _ _ _ _) rfl h.1 (sM_21 _ _ _ _ _ _) d_M_part_40 ?_
  have h := h.2
  refine x_aload_n (x := o) d_M_part_41 rfl ?_
  refine x_get (v := .ref (a 22)) f_M_48 (eM_o _ _ _ _) rfl d_M_part_42 ?_
  refine x_aload_n (x := o) d_M_part_45 rfl ?_
  refine x_get (v := .int (gI u 18)) f_M_173 (eM_o _ _ _ _) rfl d_M_part_46 ?_
  refine x_iload (x := a4) d_M_part_49 rfl ?_
  refine x_iast (t0 := 0) (eM_22 _ _ _ _) rfl h.1 (sM_22 _ _ _ _ _ _) d_M_part_51 ?_
  have h := h.2
  refine x_aload_n (x := o) d_M_part_52 rfl ?_
  refine x_get (v := .ref (a 23)) f_M_51 (eM_o _ _ _ _) rfl d_M_part_53 ?_
  refine x_aload_n (x := o) d_M_part_56 rfl ?_
  refine x_get (v := .int (gI u 18)) f_M_173 (eM_o _ _ _ _) rfl d_M_part_57 ?_
  refine x_iconst (v := (-1)) d_M_part_60 (by decide) ?_
  refine x_iast (t0 := 0) (eM_23 _ _ _ _) rfl h.1 (sM_23 _ _ _ _ _ _) d_M_part_61 ?_
  have h := h.2
  refine x_aload_n (x := o) d_M_part_62 rfl ?_
  refine x_dup d_M_part_63 rfl ?_
  refine x_get (v := .int (gI u 18)) f_M_173 (eM_o _ _ _ _) rfl d_M_part_64 ?_
  refine x_iconst (v := 1) d_M_part_67 (by decide) ?_
  refine x_iadd d_M_part_68 ?_
  refine x_put f_M_173 fw_M_18 (eM_o _ _ _ _) rfl rfl (Nat.le_of_ble_eq_true rfl) (sM_18 _ _ _ _ _) d_M_part_69 ?_
  refine x_aload_n (x := o) d_M_part_72 rfl ?_
  refine x_get (v := .int ((gI u 18) + (1 : Int32))) f_M_173 (eM_o _ _ _ _) rfl d_M_part_73 ?_
  refine x_iconst (v := 1) d_M_part_76 (by decide) ?_
  refine x_isub d_M_part_77 ?_
  refine x_iret d_M_part_78 ⟨_, rfl, ?_⟩
  exact h
def P_M_value (post : MS → Prop) (a0 : Int32) (u : MS) : Prop := (vp_in (gI u 25) 100 ∧ post (sI (sA u 26 (gI u 25).toNatClampNeg a0) 25 ((gI u 25) + (1 : Int32))))
set_option maxHeartbeats 600000 in
set_option maxRecDepth 100000 in
theorem c_M_value (l : Launch) (D : va_G) (cs : Nat → ClassId) (Ev : (Nat → Prop) → State → Prop) (hE : xEok Ev) (o : Nat) (a : Nat → Nat) (d : Nat) (post : MS → Prop) (a0 : Int32) (u : MS) (h : P_M_value post a0 u) : xC l D clX (tysX cs) Ev y_M_value w_M_value (rmD (d + 0)) (wdM o a cs) [.ref o, .int a0] u (pV post) 0 0 := by
  unfold P_M_value at h
  refine xC.of (cc := b_M_value) (nL := 2) (ret := none) (by decide) rfl (Nat.le_of_ble_eq_true rfl) ?_
  show RR l D clX (tysX cs) Ev "DeckFrontModel" b_M_value 2 w_M_value (rmD (d + 0)) none (wdM o a cs) (pV post) 0 0 0 0 0 [(0, .ref o), (1, .int a0)] [] u
  refine x_aload_n (x := o) d_M_value_0 rfl ?_
  refine x_get (v := .ref (a 26)) f_M_57 (eM_o _ _ _ _) rfl d_M_value_1 ?_
  refine x_aload_n (x := o) d_M_value_4 rfl ?_
  refine x_get (v := .int (gI u 25)) f_M_176 (eM_o _ _ _ _) rfl d_M_value_5 ?_
  refine x_iload_n (x := a0) d_M_value_8 rfl ?_
  refine x_iast (t0 := 0) (eM_26 _ _ _ _) rfl h.1 (sM_26 _ _ _ _ _ _) d_M_value_9 ?_
  have h := h.2
  refine x_aload_n (x := o) d_M_value_10 rfl ?_
  refine x_dup d_M_value_11 rfl ?_
  refine x_get (v := .int (gI u 25)) f_M_176 (eM_o _ _ _ _) rfl d_M_value_12 ?_
  refine x_iconst (v := 1) d_M_value_15 (by decide) ?_
  refine x_iadd d_M_value_16 ?_
  refine x_put f_M_176 fw_M_25 (eM_o _ _ _ _) rfl rfl (Nat.le_of_ble_eq_true rfl) (sM_25 _ _ _ _ _) d_M_value_17 ?_
  refine x_vret d_M_value_20 ⟨rfl, ?_⟩
  exact h
def P_M_push (post : MS → Prop) (a0 : Int32) (a1 : Int32) (a2 : Int32) (a3 : Int32) (u : MS) : Prop := (vp_in (gI u 27) 100 ∧ (vp_in (gI u 27) 100 ∧ (vp_in (gI u 27) 100 ∧ (vp_in (gI u 27) 100 ∧ post (sI (sA (sA (sA (sA u 28 (gI u 27).toNatClampNeg a0) 29 (gI u 27).toNatClampNeg a1) 30 (gI u 27).toNatClampNeg a2) 31 (gI u 27).toNatClampNeg (vp_nar .boolean a3)) 27 ((gI u 27) + (1 : Int32)))))))
set_option maxHeartbeats 600000 in
set_option maxRecDepth 100000 in
theorem c_M_push (l : Launch) (D : va_G) (cs : Nat → ClassId) (Ev : (Nat → Prop) → State → Prop) (hE : xEok Ev) (o : Nat) (a : Nat → Nat) (d : Nat) (post : MS → Prop) (a0 : Int32) (a1 : Int32) (a2 : Int32) (a3 : Int32) (u : MS) (h : P_M_push post a0 a1 a2 a3 u) : xC l D clX (tysX cs) Ev y_M_push w_M_push (rmD (d + 0)) (wdM o a cs) [.ref o, .int a0, .int a1, .int a2, .int a3] u (pV post) 0 0 := by
  unfold P_M_push at h
  refine xC.of (cc := b_M_push) (nL := 5) (ret := none) (by decide) rfl (Nat.le_of_ble_eq_true rfl) ?_
  show RR l D clX (tysX cs) Ev "DeckFrontModel" b_M_push 5 w_M_push (rmD (d + 0)) none (wdM o a cs) (pV post) 0 0 0 0 0 [(0, .ref o), (1, .int a0), (2, .int a1), (3, .int a2), (4, .int a3)] [] u
  refine x_aload_n (x := o) d_M_push_0 rfl ?_
  refine x_get (v := .ref (a 28)) f_M_60 (eM_o _ _ _ _) rfl d_M_push_1 ?_
  refine x_aload_n (x := o) d_M_push_4 rfl ?_
  refine x_get (v := .int (gI u 27)) f_M_179 (eM_o _ _ _ _) rfl d_M_push_5 ?_
  refine x_iload_n (x := a0) d_M_push_8 rfl ?_
  refine x_iast (t0 := 0) (eM_28 _ _ _ _) rfl h.1 (sM_28 _ _ _ _ _ _) d_M_push_9 ?_
  have h := h.2
  refine x_aload_n (x := o) d_M_push_10 rfl ?_
  refine x_get (v := .ref (a 29)) f_M_63 (eM_o _ _ _ _) rfl d_M_push_11 ?_
  refine x_aload_n (x := o) d_M_push_14 rfl ?_
  refine x_get (v := .int (gI u 27)) f_M_179 (eM_o _ _ _ _) rfl d_M_push_15 ?_
  refine x_iload_n (x := a1) d_M_push_18 rfl ?_
  refine x_iast (t0 := 0) (eM_29 _ _ _ _) rfl h.1 (sM_29 _ _ _ _ _ _) d_M_push_19 ?_
  have h := h.2
  refine x_aload_n (x := o) d_M_push_20 rfl ?_
  refine x_get (v := .ref (a 30)) f_M_66 (eM_o _ _ _ _) rfl d_M_push_21 ?_
  refine x_aload_n (x := o) d_M_push_24 rfl ?_
  refine x_get (v := .int (gI u 27)) f_M_179 (eM_o _ _ _ _) rfl d_M_push_25 ?_
  refine x_iload_n (x := a2) d_M_push_28 rfl ?_
  refine x_iast (t0 := 0) (eM_30 _ _ _ _) rfl h.1 (sM_30 _ _ _ _ _ _) d_M_push_29 ?_
  have h := h.2
  refine x_aload_n (x := o) d_M_push_30 rfl ?_
  refine x_get (v := .ref (a 31)) f_M_69 (eM_o _ _ _ _) rfl d_M_push_31 ?_
  refine x_aload_n (x := o) d_M_push_34 rfl ?_
  refine x_get (v := .int (gI u 27)) f_M_179 (eM_o _ _ _ _) rfl d_M_push_35 ?_
  refine x_iload (x := a3) d_M_push_38 rfl ?_
  refine x_zast (t0 := 3) (eM_31 _ _ _ _) rfl h.1 (sM_31 _ _ _ _ _ _) d_M_push_40 ?_
  have h := h.2
  refine x_aload_n (x := o) d_M_push_41 rfl ?_
  refine x_dup d_M_push_42 rfl ?_
  refine x_get (v := .int (gI u 27)) f_M_179 (eM_o _ _ _ _) rfl d_M_push_43 ?_
  refine x_iconst (v := 1) d_M_push_46 (by decide) ?_
  refine x_iadd d_M_push_47 ?_
  refine x_put f_M_179 fw_M_27 (eM_o _ _ _ _) rfl rfl (Nat.le_of_ble_eq_true rfl) (sM_27 _ _ _ _ _) d_M_push_48 ?_
  refine x_vret d_M_push_51 ⟨rfl, ?_⟩
  exact h
