def P_S_fits_434 (post : Int32 → MS → Prop) (u : MS) : Prop := P_S_series (fun r70 u69 => ((r70 = 0 → post 0 u69) ∧ (¬ r70 = 0 → post 1 u69))) (15 : Int32) u
set_option maxHeartbeats 600000 in
set_option maxRecDepth 100000 in
theorem w_S_fits_434 (l : Launch) (D : va_G) (cs : Nat → ClassId) (Ev : (Nat → Prop) → State → Prop) (hE : xEok Ev) (adK adV : Nat → Nat) (fm : Option Nat) (X : xEv adK adV fm Ev) (o : Nat) (a : Nat → Nat) (d : Nat) (post : Int32 → MS → Prop) (u : MS) (h : P_S_fits_434 post   u) : RR l D clX (tysX cs) Ev "DeckFront$Statement" b_S_fits 2 w_S_fits (rmD (d + 779)) (some .boolean) (wdS o a cs) (pI post) 0 0 0 0 434 [(0, .ref o)] [] u := by
  unfold P_S_fits_434 at h
  refine x_aload_n (x := o) d_S_fits_434 rfl ?_
  refine x_bipush (v := 15) d_S_fits_435 (by decide) ?_
  refine x_callV (st := []) k_S_106 rfl (eS_o _ _ _ _) x_id (c_S_series l D cs Ev hE adK adV fm X o a (d + 771) _ (15 : Int32) u h) hE (rmD_ok (by omega) (by decide)) rfl (Nat.le_of_ble_eq_true rfl) rfl d_S_fits_437 (x_rI (fun r70 u69 h => ?_))
  refine x_if_eq (tgt := 447) d_S_fits_440 rfl (fun hc => ?_) (fun hc => ?_)
  · have h := h.1 hc
    refine x_iconst (v := 0) d_S_fits_447 (by decide) ?_
    refine x_zret rfl d_S_fits_448 ⟨_, rfl, ?_⟩
    exact h
  · have h := h.2 hc
    refine x_iconst (v := 1) d_S_fits_443 (by decide) ?_
    refine x_goto (tgt := 448) d_S_fits_444 rfl ?_
    refine x_zret rfl d_S_fits_448 ⟨_, rfl, ?_⟩
    exact h
def P_S_fits (post : Int32 → MS → Prop) (a0 : Int32) (u : MS) : Prop := ((a0 = 1 → P_T_take (fun r2 u1 => ((r2 = 0 → post 0 u1) ∧ (¬ r2 = 0 → P_T_takeDigits (fun r4 u3 => ((r4 = 0 → post 0 u3) ∧ (¬ r4 = 0 → P_T_takeIdleComma (fun r6 u5 => ((r6 = 0 → post 0 u5) ∧ (¬ r6 = 0 → P_T_takeName (fun r8 u7 => ((r8 = 0 → post 0 u7) ∧ (¬ r8 = 0 → P_T_take (fun r10 u9 => ((r10 = 0 → post 0 u9) ∧ (¬ r10 = 0 → PEX (fun r12 u11 => ((r12 = 0 → post 0 u11) ∧ (¬ r12 = 0 → P_T_take (fun r14 u13 => ((r14 = 0 → post 0 u13) ∧ (¬ r14 = 0 → PEX (fun r16 u15 => ((r16 = 0 → post 0 u15) ∧ (¬ r16 = 0 → P_T_take (fun r18 u17 => ((r18 = 0 → post 1 u17) ∧ (¬ r18 = 0 → PEX (fun r20 u19 => ((r20 = 0 → post 0 u19) ∧ (¬ r20 = 0 → post 1 u19))) (1 : Int32) (0 : Int32) u17))) 23 u15))) (1 : Int32) (0 : Int32) u13))) 23 u11))) (1 : Int32) (0 : Int32) u9))) 4 u7))) (4 : Int32) u5))) u3))) (5 : Int32) (6 : Int32) u1))) 3 u) ∧ (¬ a0 = 1 → ((a0 = 2 → P_S_reference (fun r22 u21 => ((r22 = 0 → post 0 u21) ∧ (¬ r22 = 0 → P_T_take (fun r24 u23 => ((r24 = 0 → post 0 u23) ∧ (¬ r24 = 0 → PEX (fun r26 u25 => ((r26 = 0 → post 0 u25) ∧ (¬ r26 = 0 → post 1 u25))) (1 : Int32) (0 : Int32) u23))) 4 u21))) PEX (1 : Int32) (0 : Int32) u) ∧ (¬ a0 = 2 → ((a0 = 3 → P_T_take (fun r28 u27 => ((r28 = 0 → post 0 u27) ∧ (¬ r28 = 0 → PEX (fun r30 u29 => ((r30 = 0 → post 0 u29) ∧ (¬ r30 = 0 → P_T_take (fun r32 u31 => ((r32 = 0 → post 0 u31) ∧ (¬ r32 = 0 → post 1 u31))) 40 u29))) (1 : Int32) (1 : Int32) u27))) 39 u) ∧ (¬ a0 = 3 → ((a0 = 4 → post 0 u) ∧ (¬ a0 = 4 → ((a0 = 5 → P_T_take (fun r34 u33 => ((r34 = 0 → post 0 u33) ∧ (¬ r34 = 0 → PEX (fun r36 u35 => ((r36 = 0 → post 0 u35) ∧ (¬ r36 = 0 → P_T_take (fun r38 u37 => ((r38 = 0 → post 0 u37) ∧ (¬ r38 = 0 → post 1 u37))) 40 u35))) (1 : Int32) (1 : Int32) u33))) 41 u) ∧ (¬ a0 = 5 → ((a0 = 6 → P_T_take (fun r40 u39 => (narrow .boolean (.int r40) = .int r40 ∧ post r40 u39)) 42 u) ∧ (¬ a0 = 6 → ((a0 = 7 → P_T_take (fun r42 u41 => (narrow .boolean (.int r42) = .int r42 ∧ post r42 u41)) 43 u) ∧ (¬ a0 = 7 → ((a0 = 8 → P_T_take (fun r44 u43 => (narrow .boolean (.int r44) = .int r44 ∧ post r44 u43)) 44 u) ∧ (¬ a0 = 8 → ((a0 = 9 → P_T_take (fun r46 u45 => ((r46 = 0 → post 0 u45) ∧ (¬ r46 = 0 → P_T_takeDigits (fun r48 u47 => ((r48 = 0 → post 0 u47) ∧ (¬ r48 = 0 → post 1 u47))) (5 : Int32) (6 : Int32) u45))) 45 u) ∧ (¬ a0 = 9 → ((a0 = 10 → P_T_take (fun r50 u49 => ((r50 = 0 → post 0 u49) ∧ (¬ r50 = 0 → P_T_takeName (fun r52 u51 => ((r52 = 0 → post 0 u51) ∧ (¬ r52 = 0 → P_T_isNext (fun r54 u53 => ((r54 = 0 → post 1 u53) ∧ (¬ r54 = 0 → P_S_list (fun r56 u55 => ((r56 = 0 → post 0 u55) ∧ (¬ r56 = 0 → post 1 u55))) PEX (1 : Int32) u53))) (40 : Int32) u51))) (2 : Int32) u49))) 46 u) ∧ (¬ a0 = 10 → ((a0 = 11 → P_T_take (fun r58 u57 => (narrow .boolean (.int r58) = .int r58 ∧ post r58 u57)) 47 u) ∧ (¬ a0 = 11 → ((a0 = 12 → P_T_take (fun r60 u59 => (narrow .boolean (.int r60) = .int r60 ∧ post r60 u59)) 48 u) ∧ (¬ a0 = 12 → ((a0 = 13 → P_T_take (fun r62 u61 => ((r62 = 0 → post 0 u61) ∧ (¬ r62 = 0 → P_S_expressions (fun r64 u63 => ((r64 = 0 → post 0 u63) ∧ (¬ r64 = 0 → post 1 u63))) PEX (0 : Int32) u61))) 49 u) ∧ (¬ a0 = 13 → ((a0 = 14 → P_T_take (fun r66 u65 => (narrow .boolean (.int r66) = .int r66 ∧ post r66 u65)) 50 u) ∧ (¬ a0 = 14 → ((a0 = 15 → P_T_take (fun r68 u67 => ((¬ r68 = 0 → P_S_fits_434 post u67) ∧ (r68 = 0 → P_T_take (fun r72 u71 => ((¬ r72 = 0 → P_S_fits_434 post u71) ∧ (r72 = 0 → P_T_take (fun r74 u73 => ((r74 = 0 → post 0 u73) ∧ (¬ r74 = 0 → P_S_fits_434 post u73))) 53 u71))) 52 u67))) 51 u) ∧ (¬ a0 = 15 → ((a0 = 16 → P_T_take (fun r76 u75 => ((r76 = 0 → post 0 u75) ∧ (¬ r76 = 0 → P_S_series (fun r78 u77 => ((r78 = 0 → post 0 u77) ∧ (¬ r78 = 0 → post 1 u77))) (16 : Int32) u75))) 54 u) ∧ (¬ a0 = 16 → ((a0 = 17 → P_T_take (fun r80 u79 => ((r80 = 0 → post 0 u79) ∧ (¬ r80 = 0 → P_S_series (fun r82 u81 => ((r82 = 0 → post 0 u81) ∧ (¬ r82 = 0 → P_T_take (fun r84 u83 => ((r84 = 0 → post 0 u83) ∧ (¬ r84 = 0 → P_T_takeIdleComma (fun r86 u85 => ((r86 = 0 → post 0 u85) ∧ (¬ r86 = 0 → PEX (fun r88 u87 => ((r88 = 0 → post 0 u87) ∧ (¬ r88 = 0 → post 1 u87))) (1 : Int32) (0 : Int32) u85))) u83))) 24 u81))) (17 : Int32) u79))) 55 u) ∧ (¬ a0 = 17 → post 0 u))))))))))))))))))))))))))))))))))
set_option maxHeartbeats 600000 in
set_option maxRecDepth 100000 in
theorem c_S_fits (l : Launch) (D : va_G) (cs : Nat → ClassId) (Ev : (Nat → Prop) → State → Prop) (hE : xEok Ev) (adK adV : Nat → Nat) (fm : Option Nat) (X : xEv adK adV fm Ev) (o : Nat) (a : Nat → Nat) (d : Nat) (post : Int32 → MS → Prop) (a0 : Int32) (u : MS) (h : P_S_fits post a0 u) : xC l D clX (tysX cs) Ev y_S_fits w_S_fits (rmD (d + 779)) (wdS o a cs) [.ref o, .int a0] u (pI post) 0 0 := by
  unfold P_S_fits at h
  refine xC.of (cc := b_S_fits) (nL := 2) (ret := (some .boolean)) (by decide) rfl (Nat.le_of_ble_eq_true rfl) ?_
  show RR l D clX (tysX cs) Ev "DeckFront$Statement" b_S_fits 2 w_S_fits (rmD (d + 779)) (some .boolean) (wdS o a cs) (pI post) 0 0 0 0 0 [(0, .ref o), (1, .int a0)] [] u
  refine x_iload_n (x := a0) d_S_fits_0 rfl ?_
  by_cases hx1 : a0 = 1
  · have h := h.1 hx1
    refine x_tableIn (off := 83) (tgt := 84) d_S_fits_1 (by rw [hx1]; decide) (by rw [hx1]; decide) (by rw [hx1]; rfl) rfl ?_
    refine x_aload_n (x := o) d_S_fits_84 rfl ?_
    refine x_ldcS (fun A s h9 => ((X A s h9).2.1 3 (by decide)).1) d_S_fits_85 ?_
    refine x_callU (st := []) k_S_27 rfl (eS_o _ _ _ _) x_id (c_T_take l D cs Ev hE adK adV fm X o a 3 (by decide) (d + 773) _ u h) hE (rmD_ok (by omega) (by decide)) rfl (Nat.le_of_ble_eq_true rfl) rfl d_S_fits_87 (x_rI (fun r2 u1 h => ?_))
    refine x_if_eq (tgt := 176) d_S_fits_90 rfl (fun hc => ?_) (fun hc => ?_)
    · have h := h.1 hc
      refine x_iconst (v := 0) d_S_fits_176 (by decide) ?_
      refine x_zret rfl d_S_fits_177 ⟨_, rfl, ?_⟩
      exact h
    · have h := h.2 hc
      refine x_aload_n (x := o) d_S_fits_93 rfl ?_
      refine x_iconst (v := 5) d_S_fits_94 (by decide) ?_
      refine x_bipush (v := 6) d_S_fits_95 (by decide) ?_
      refine x_callU (st := []) k_S_50 rfl (eS_o _ _ _ _) x_id (c_T_takeDigits l D cs Ev hE adK adV fm X o a (d + 777) _ (5 : Int32) (6 : Int32) u1 h) hE (rmD_ok (by omega) (by decide)) rfl (Nat.le_of_ble_eq_true rfl) rfl d_S_fits_97 (x_rI (fun r4 u3 h => ?_))
      refine x_if_eq (tgt := 176) d_S_fits_100 rfl (fun hc => ?_) (fun hc => ?_)
      · have h := h.1 hc
        refine x_iconst (v := 0) d_S_fits_176 (by decide) ?_
        refine x_zret rfl d_S_fits_177 ⟨_, rfl, ?_⟩
        exact h
      · have h := h.2 hc
        refine x_aload_n (x := o) d_S_fits_103 rfl ?_
        refine x_callU (st := []) k_S_53 rfl (eS_o _ _ _ _) x_id (c_T_takeIdleComma l D cs Ev hE adK adV fm X o a (d + 777) _ u3 h) hE (rmD_ok (by omega) (by decide)) rfl (Nat.le_of_ble_eq_true rfl) rfl d_S_fits_104 (x_rI (fun r6 u5 h => ?_))
        refine x_if_eq (tgt := 176) d_S_fits_107 rfl (fun hc => ?_) (fun hc => ?_)
        · have h := h.1 hc
          refine x_iconst (v := 0) d_S_fits_176 (by decide) ?_
          refine x_zret rfl d_S_fits_177 ⟨_, rfl, ?_⟩
          exact h
        · have h := h.2 hc
          refine x_aload_n (x := o) d_S_fits_110 rfl ?_
          refine x_iconst (v := 4) d_S_fits_111 (by decide) ?_
          refine x_callU (st := []) k_S_57 rfl (eS_o _ _ _ _) x_id (c_T_takeName l D cs Ev hE adK adV fm X o a (d + 777) _ (4 : Int32) u5 h) hE (rmD_ok (by omega) (by decide)) rfl (Nat.le_of_ble_eq_true rfl) rfl d_S_fits_112 (x_rI (fun r8 u7 h => ?_))
          refine x_if_eq (tgt := 176) d_S_fits_115 rfl (fun hc => ?_) (fun hc => ?_)
          · have h := h.1 hc
            refine x_iconst (v := 0) d_S_fits_176 (by decide) ?_
            refine x_zret rfl d_S_fits_177 ⟨_, rfl, ?_⟩
            exact h
          · have h := h.2 hc
            refine x_aload_n (x := o) d_S_fits_118 rfl ?_
            refine x_ldcS (fun A s h9 => ((X A s h9).2.1 4 (by decide)).1) d_S_fits_119 ?_
            refine x_callU (st := []) k_S_27 rfl (eS_o _ _ _ _) x_id (c_T_take l D cs Ev hE adK adV fm X o a 4 (by decide) (d + 773) _ u7 h) hE (rmD_ok (by omega) (by decide)) rfl (Nat.le_of_ble_eq_true rfl) rfl d_S_fits_121 (x_rI (fun r10 u9 h => ?_))
            refine x_if_eq (tgt := 176) d_S_fits_124 rfl (fun hc => ?_) (fun hc => ?_)
            · have h := h.1 hc
              refine x_iconst (v := 0) d_S_fits_176 (by decide) ?_
              refine x_zret rfl d_S_fits_177 ⟨_, rfl, ?_⟩
              exact h
            · have h := h.2 hc
              refine x_aload_n (x := o) d_S_fits_127 rfl ?_
              refine x_iconst (v := 1) d_S_fits_128 (by decide) ?_
              refine x_iconst (v := 0) d_S_fits_129 (by decide) ?_
              refine x_callV (st := []) k_S_31 rfl (eS_o _ _ _ _) x_id (cX_S_expression l D cs Ev hE adK adV fm X o a (d + 8) _ (1 : Int32) (0 : Int32) u9 h) hE (rmD_ok (by omega) (by decide)) rfl (Nat.le_of_ble_eq_true rfl) rfl d_S_fits_130 (x_rI (fun r12 u11 h => ?_))
              refine x_if_eq (tgt := 176) d_S_fits_133 rfl (fun hc => ?_) (fun hc => ?_)
              · have h := h.1 hc
                refine x_iconst (v := 0) d_S_fits_176 (by decide) ?_
                refine x_zret rfl d_S_fits_177 ⟨_, rfl, ?_⟩
                exact h
              · have h := h.2 hc
                refine x_aload_n (x := o) d_S_fits_136 rfl ?_
                refine x_ldcS (fun A s h9 => ((X A s h9).2.1 23 (by decide)).1) d_S_fits_137 ?_
                refine x_callU (st := []) k_S_27 rfl (eS_o _ _ _ _) x_id (c_T_take l D cs Ev hE adK adV fm X o a 23 (by decide) (d + 773) _ u11 h) hE (rmD_ok (by omega) (by decide)) rfl (Nat.le_of_ble_eq_true rfl) rfl d_S_fits_139 (x_rI (fun r14 u13 h => ?_))
                refine x_if_eq (tgt := 176) d_S_fits_142 rfl (fun hc => ?_) (fun hc => ?_)
                · have h := h.1 hc
                  refine x_iconst (v := 0) d_S_fits_176 (by decide) ?_
                  refine x_zret rfl d_S_fits_177 ⟨_, rfl, ?_⟩
                  exact h
                · have h := h.2 hc
                  refine x_aload_n (x := o) d_S_fits_145 rfl ?_
                  refine x_iconst (v := 1) d_S_fits_146 (by decide) ?_
                  refine x_iconst (v := 0) d_S_fits_147 (by decide) ?_
                  refine x_callV (st := []) k_S_31 rfl (eS_o _ _ _ _) x_id (cX_S_expression l D cs Ev hE adK adV fm X o a (d + 8) _ (1 : Int32) (0 : Int32) u13 h) hE (rmD_ok (by omega) (by decide)) rfl (Nat.le_of_ble_eq_true rfl) rfl d_S_fits_148 (x_rI (fun r16 u15 h => ?_))
                  refine x_if_eq (tgt := 176) d_S_fits_151 rfl (fun hc => ?_) (fun hc => ?_)
                  · have h := h.1 hc
                    refine x_iconst (v := 0) d_S_fits_176 (by decide) ?_
                    refine x_zret rfl d_S_fits_177 ⟨_, rfl, ?_⟩
                    exact h
                  · have h := h.2 hc
                    refine x_aload_n (x := o) d_S_fits_154 rfl ?_
                    refine x_ldcS (fun A s h9 => ((X A s h9).2.1 23 (by decide)).1) d_S_fits_155 ?_
                    refine x_callU (st := []) k_S_27 rfl (eS_o _ _ _ _) x_id (c_T_take l D cs Ev hE adK adV fm X o a 23 (by decide) (d + 773) _ u15 h) hE (rmD_ok (by omega) (by decide)) rfl (Nat.le_of_ble_eq_true rfl) rfl d_S_fits_157 (x_rI (fun r18 u17 h => ?_))
                    refine x_if_eq (tgt := 172) d_S_fits_160 rfl (fun hc => ?_) (fun hc => ?_)
                    · have h := h.1 hc
                      refine x_iconst (v := 1) d_S_fits_172 (by decide) ?_
                      refine x_goto (tgt := 177) d_S_fits_173 rfl ?_
                      refine x_zret rfl d_S_fits_177 ⟨_, rfl, ?_⟩
                      exact h
                    · have h := h.2 hc
                      refine x_aload_n (x := o) d_S_fits_163 rfl ?_
                      refine x_iconst (v := 1) d_S_fits_164 (by decide) ?_
                      refine x_iconst (v := 0) d_S_fits_165 (by decide) ?_
                      refine x_callV (st := []) k_S_31 rfl (eS_o _ _ _ _) x_id (cX_S_expression l D cs Ev hE adK adV fm X o a (d + 8) _ (1 : Int32) (0 : Int32) u17 h) hE (rmD_ok (by omega) (by decide)) rfl (Nat.le_of_ble_eq_true rfl) rfl d_S_fits_166 (x_rI (fun r20 u19 h => ?_))
                      refine x_if_eq (tgt := 176) d_S_fits_169 rfl (fun hc => ?_) (fun hc => ?_)
                      · have h := h.1 hc
                        refine x_iconst (v := 0) d_S_fits_176 (by decide) ?_
                        refine x_zret rfl d_S_fits_177 ⟨_, rfl, ?_⟩
                        exact h
                      · have h := h.2 hc
                        refine x_iconst (v := 1) d_S_fits_172 (by decide) ?_
                        refine x_goto (tgt := 177) d_S_fits_173 rfl ?_
                        refine x_zret rfl d_S_fits_177 ⟨_, rfl, ?_⟩
                        exact h
  · have h := h.2 hx1
    by_cases hx2 : a0 = 2
    · have h := h.1 hx2
      refine x_tableIn (off := 177) (tgt := 178) d_S_fits_1 (by rw [hx2]; decide) (by rw [hx2]; decide) (by rw [hx2]; rfl) rfl ?_
      refine x_aload_n (x := o) d_S_fits_178 rfl ?_
      refine x_iconst (v := 1) d_S_fits_179 (by decide) ?_
      refine x_iconst (v := 0) d_S_fits_180 (by decide) ?_
      refine x_callV (st := []) k_S_64 rfl (eS_o _ _ _ _) x_id (cX_S_reference l D cs Ev hE adK adV fm X o a (d + 0) _ (1 : Int32) (0 : Int32) u h) hE (rmD_ok (by omega) (by decide)) rfl (Nat.le_of_ble_eq_true rfl) rfl d_S_fits_181 (x_rI (fun r22 u21 h => ?_))
      refine x_if_eq (tgt := 209) d_S_fits_184 rfl (fun hc => ?_) (fun hc => ?_)
      · have h := h.1 hc
        refine x_iconst (v := 0) d_S_fits_209 (by decide) ?_
        refine x_zret rfl d_S_fits_210 ⟨_, rfl, ?_⟩
        exact h
      · have h := h.2 hc
        refine x_aload_n (x := o) d_S_fits_187 rfl ?_
        refine x_ldcS (fun A s h9 => ((X A s h9).2.1 4 (by decide)).1) d_S_fits_188 ?_
        refine x_callU (st := []) k_S_27 rfl (eS_o _ _ _ _) x_id (c_T_take l D cs Ev hE adK adV fm X o a 4 (by decide) (d + 773) _ u21 h) hE (rmD_ok (by omega) (by decide)) rfl (Nat.le_of_ble_eq_true rfl) rfl d_S_fits_190 (x_rI (fun r24 u23 h => ?_))
        refine x_if_eq (tgt := 209) d_S_fits_193 rfl (fun hc => ?_) (fun hc => ?_)
        · have h := h.1 hc
          refine x_iconst (v := 0) d_S_fits_209 (by decide) ?_
          refine x_zret rfl d_S_fits_210 ⟨_, rfl, ?_⟩
          exact h
        · have h := h.2 hc
          refine x_aload_n (x := o) d_S_fits_196 rfl ?_
          refine x_iconst (v := 1) d_S_fits_197 (by decide) ?_
          refine x_iconst (v := 0) d_S_fits_198 (by decide) ?_
          refine x_callV (st := []) k_S_31 rfl (eS_o _ _ _ _) x_id (cX_S_expression l D cs Ev hE adK adV fm X o a (d + 8) _ (1 : Int32) (0 : Int32) u23 h) hE (rmD_ok (by omega) (by decide)) rfl (Nat.le_of_ble_eq_true rfl) rfl d_S_fits_199 (x_rI (fun r26 u25 h => ?_))
          refine x_if_eq (tgt := 209) d_S_fits_202 rfl (fun hc => ?_) (fun hc => ?_)
          · have h := h.1 hc
            refine x_iconst (v := 0) d_S_fits_209 (by decide) ?_
            refine x_zret rfl d_S_fits_210 ⟨_, rfl, ?_⟩
            exact h
          · have h := h.2 hc
            refine x_iconst (v := 1) d_S_fits_205 (by decide) ?_
            refine x_goto (tgt := 210) d_S_fits_206 rfl ?_
            refine x_zret rfl d_S_fits_210 ⟨_, rfl, ?_⟩
            exact h
    · have h := h.2 hx2
      by_cases hx3 : a0 = 3
      · have h := h.1 hx3
        refine x_tableIn (off := 210) (tgt := 211) d_S_fits_1 (by rw [hx3]; decide) (by rw [hx3]; decide) (by rw [hx3]; rfl) rfl ?_
        refine x_aload_n (x := o) d_S_fits_211 rfl ?_
        refine x_ldcS (fun A s h9 => ((X A s h9).2.1 39 (by decide)).1) d_S_fits_212 ?_
        refine x_callU (st := []) k_S_27 rfl (eS_o _ _ _ _) x_id (c_T_take l D cs Ev hE adK adV fm X o a 39 (by decide) (d + 773) _ u h) hE (rmD_ok (by omega) (by decide)) rfl (Nat.le_of_ble_eq_true rfl) rfl d_S_fits_214 (x_rI (fun r28 u27 h => ?_))
        refine x_if_eq (tgt := 242) d_S_fits_217 rfl (fun hc => ?_) (fun hc => ?_)
        · have h := h.1 hc
          refine x_iconst (v := 0) d_S_fits_242 (by decide) ?_
          refine x_zret rfl d_S_fits_243 ⟨_, rfl, ?_⟩
          exact h
        · have h := h.2 hc
          refine x_aload_n (x := o) d_S_fits_220 rfl ?_
          refine x_iconst (v := 1) d_S_fits_221 (by decide) ?_
          refine x_iconst (v := 1) d_S_fits_222 (by decide) ?_
          refine x_callV (st := []) k_S_31 rfl (eS_o _ _ _ _) x_id (cX_S_expression l D cs Ev hE adK adV fm X o a (d + 8) _ (1 : Int32) (1 : Int32) u27 h) hE (rmD_ok (by omega) (by decide)) rfl (Nat.le_of_ble_eq_true rfl) rfl d_S_fits_223 (x_rI (fun r30 u29 h => ?_))
          refine x_if_eq (tgt := 242) d_S_fits_226 rfl (fun hc => ?_) (fun hc => ?_)
          · have h := h.1 hc
            refine x_iconst (v := 0) d_S_fits_242 (by decide) ?_
            refine x_zret rfl d_S_fits_243 ⟨_, rfl, ?_⟩
            exact h
          · have h := h.2 hc
            refine x_aload_n (x := o) d_S_fits_229 rfl ?_
            refine x_ldcS (fun A s h9 => ((X A s h9).2.1 40 (by decide)).1) d_S_fits_230 ?_
            refine x_callU (st := []) k_S_27 rfl (eS_o _ _ _ _) x_id (c_T_take l D cs Ev hE adK adV fm X o a 40 (by decide) (d + 773) _ u29 h) hE (rmD_ok (by omega) (by decide)) rfl (Nat.le_of_ble_eq_true rfl) rfl d_S_fits_232 (x_rI (fun r32 u31 h => ?_))
            refine x_if_eq (tgt := 242) d_S_fits_235 rfl (fun hc => ?_) (fun hc => ?_)
            · have h := h.1 hc
              refine x_iconst (v := 0) d_S_fits_242 (by decide) ?_
              refine x_zret rfl d_S_fits_243 ⟨_, rfl, ?_⟩
              exact h
            · have h := h.2 hc
              refine x_iconst (v := 1) d_S_fits_238 (by decide) ?_
              refine x_goto (tgt := 243) d_S_fits_239 rfl ?_
              refine x_zret rfl d_S_fits_243 ⟨_, rfl, ?_⟩
              exact h
      · have h := h.2 hx3
        by_cases hx4 : a0 = 4
        · have h := h.1 hx4
          refine x_tableIn (off := 521) (tgt := 522) d_S_fits_1 (by rw [hx4]; decide) (by rw [hx4]; decide) (by rw [hx4]; rfl) rfl ?_
          refine x_iconst (v := 0) d_S_fits_522 (by decide) ?_
          refine x_zret rfl d_S_fits_523 ⟨_, rfl, ?_⟩
          exact h
        · have h := h.2 hx4
          by_cases hx5 : a0 = 5
          · have h := h.1 hx5
            refine x_tableIn (off := 243) (tgt := 244) d_S_fits_1 (by rw [hx5]; decide) (by rw [hx5]; decide) (by rw [hx5]; rfl) rfl ?_
            refine x_aload_n (x := o) d_S_fits_244 rfl ?_
            refine x_ldcS (fun A s h9 => ((X A s h9).2.1 41 (by decide)).1) d_S_fits_245 ?_
            refine x_callU (st := []) k_S_27 rfl (eS_o _ _ _ _) x_id (c_T_take l D cs Ev hE adK adV fm X o a 41 (by decide) (d + 773) _ u h) hE (rmD_ok (by omega) (by decide)) rfl (Nat.le_of_ble_eq_true rfl) rfl d_S_fits_247 (x_rI (fun r34 u33 h => ?_))
            refine x_if_eq (tgt := 275) d_S_fits_250 rfl (fun hc => ?_) (fun hc => ?_)
            · have h := h.1 hc
              refine x_iconst (v := 0) d_S_fits_275 (by decide) ?_
              refine x_zret rfl d_S_fits_276 ⟨_, rfl, ?_⟩
              exact h
            · have h := h.2 hc
              refine x_aload_n (x := o) d_S_fits_253 rfl ?_
              refine x_iconst (v := 1) d_S_fits_254 (by decide) ?_
              refine x_iconst (v := 1) d_S_fits_255 (by decide) ?_
              refine x_callV (st := []) k_S_31 rfl (eS_o _ _ _ _) x_id (cX_S_expression l D cs Ev hE adK adV fm X o a (d + 8) _ (1 : Int32) (1 : Int32) u33 h) hE (rmD_ok (by omega) (by decide)) rfl (Nat.le_of_ble_eq_true rfl) rfl d_S_fits_256 (x_rI (fun r36 u35 h => ?_))
              refine x_if_eq (tgt := 275) d_S_fits_259 rfl (fun hc => ?_) (fun hc => ?_)
              · have h := h.1 hc
                refine x_iconst (v := 0) d_S_fits_275 (by decide) ?_
                refine x_zret rfl d_S_fits_276 ⟨_, rfl, ?_⟩
                exact h
              · have h := h.2 hc
                refine x_aload_n (x := o) d_S_fits_262 rfl ?_
                refine x_ldcS (fun A s h9 => ((X A s h9).2.1 40 (by decide)).1) d_S_fits_263 ?_
                refine x_callU (st := []) k_S_27 rfl (eS_o _ _ _ _) x_id (c_T_take l D cs Ev hE adK adV fm X o a 40 (by decide) (d + 773) _ u35 h) hE (rmD_ok (by omega) (by decide)) rfl (Nat.le_of_ble_eq_true rfl) rfl d_S_fits_265 (x_rI (fun r38 u37 h => ?_))
                refine x_if_eq (tgt := 275) d_S_fits_268 rfl (fun hc => ?_) (fun hc => ?_)
                · have h := h.1 hc
                  refine x_iconst (v := 0) d_S_fits_275 (by decide) ?_
                  refine x_zret rfl d_S_fits_276 ⟨_, rfl, ?_⟩
                  exact h
                · have h := h.2 hc
                  refine x_iconst (v := 1) d_S_fits_271 (by decide) ?_
                  refine x_goto (tgt := 276) d_S_fits_272 rfl ?_
                  refine x_zret rfl d_S_fits_276 ⟨_, rfl, ?_⟩
                  exact h
          · have h := h.2 hx5
            by_cases hx6 : a0 = 6
            · have h := h.1 hx6
              refine x_tableIn (off := 276) (tgt := 277) d_S_fits_1 (by rw [hx6]; decide) (by rw [hx6]; decide) (by rw [hx6]; rfl) rfl ?_
              refine x_aload_n (x := o) d_S_fits_277 rfl ?_
              refine x_ldcS (fun A s h9 => ((X A s h9).2.1 42 (by decide)).1) d_S_fits_278 ?_
              refine x_callU (st := []) k_S_27 rfl (eS_o _ _ _ _) x_id (c_T_take l D cs Ev hE adK adV fm X o a 42 (by decide) (d + 773) _ u h) hE (rmD_ok (by omega) (by decide)) rfl (Nat.le_of_ble_eq_true rfl) rfl d_S_fits_280 (x_rI (fun r40 u39 h => ?_))
              refine x_zret h.1 d_S_fits_283 ⟨_, rfl, ?_⟩
              exact h.2
            · have h := h.2 hx6
              by_cases hx7 : a0 = 7
              · have h := h.1 hx7
                refine x_tableIn (off := 283) (tgt := 284) d_S_fits_1 (by rw [hx7]; decide) (by rw [hx7]; decide) (by rw [hx7]; rfl) rfl ?_
                refine x_aload_n (x := o) d_S_fits_284 rfl ?_
                refine x_ldcS (fun A s h9 => ((X A s h9).2.1 43 (by decide)).1) d_S_fits_285 ?_
                refine x_callU (st := []) k_S_27 rfl (eS_o _ _ _ _) x_id (c_T_take l D cs Ev hE adK adV fm X o a 43 (by decide) (d + 773) _ u h) hE (rmD_ok (by omega) (by decide)) rfl (Nat.le_of_ble_eq_true rfl) rfl d_S_fits_287 (x_rI (fun r42 u41 h => ?_))
                refine x_zret h.1 d_S_fits_290 ⟨_, rfl, ?_⟩
                exact h.2
              · have h := h.2 hx7
                by_cases hx8 : a0 = 8
                · have h := h.1 hx8
                  refine x_tableIn (off := 290) (tgt := 291) d_S_fits_1 (by rw [hx8]; decide) (by rw [hx8]; decide) (by rw [hx8]; rfl) rfl ?_
                  refine x_aload_n (x := o) d_S_fits_291 rfl ?_
                  refine x_ldcS (fun A s h9 => ((X A s h9).2.1 44 (by decide)).1) d_S_fits_292 ?_
                  refine x_callU (st := []) k_S_27 rfl (eS_o _ _ _ _) x_id (c_T_take l D cs Ev hE adK adV fm X o a 44 (by decide) (d + 773) _ u h) hE (rmD_ok (by omega) (by decide)) rfl (Nat.le_of_ble_eq_true rfl) rfl d_S_fits_294 (x_rI (fun r44 u43 h => ?_))
                  refine x_zret h.1 d_S_fits_297 ⟨_, rfl, ?_⟩
                  exact h.2
                · have h := h.2 hx8
                  by_cases hx9 : a0 = 9
                  · have h := h.1 hx9
                    refine x_tableIn (off := 297) (tgt := 298) d_S_fits_1 (by rw [hx9]; decide) (by rw [hx9]; decide) (by rw [hx9]; rfl) rfl ?_
                    refine x_aload_n (x := o) d_S_fits_298 rfl ?_
                    refine x_ldcS (fun A s h9 => ((X A s h9).2.1 45 (by decide)).1) d_S_fits_299 ?_
                    refine x_callU (st := []) k_S_27 rfl (eS_o _ _ _ _) x_id (c_T_take l D cs Ev hE adK adV fm X o a 45 (by decide) (d + 773) _ u h) hE (rmD_ok (by omega) (by decide)) rfl (Nat.le_of_ble_eq_true rfl) rfl d_S_fits_301 (x_rI (fun r46 u45 h => ?_))
                    refine x_if_eq (tgt := 321) d_S_fits_304 rfl (fun hc => ?_) (fun hc => ?_)
                    · have h := h.1 hc
                      refine x_iconst (v := 0) d_S_fits_321 (by decide) ?_
                      refine x_zret rfl d_S_fits_322 ⟨_, rfl, ?_⟩
                      exact h
                    · have h := h.2 hc
                      refine x_aload_n (x := o) d_S_fits_307 rfl ?_
                      refine x_iconst (v := 5) d_S_fits_308 (by decide) ?_
                      refine x_bipush (v := 6) d_S_fits_309 (by decide) ?_
                      refine x_callU (st := []) k_S_50 rfl (eS_o _ _ _ _) x_id (c_T_takeDigits l D cs Ev hE adK adV fm X o a (d + 777) _ (5 : Int32) (6 : Int32) u45 h) hE (rmD_ok (by omega) (by decide)) rfl (Nat.le_of_ble_eq_true rfl) rfl d_S_fits_311 (x_rI (fun r48 u47 h => ?_))
                      refine x_if_eq (tgt := 321) d_S_fits_314 rfl (fun hc => ?_) (fun hc => ?_)
                      · have h := h.1 hc
                        refine x_iconst (v := 0) d_S_fits_321 (by decide) ?_
                        refine x_zret rfl d_S_fits_322 ⟨_, rfl, ?_⟩
                        exact h
                      · have h := h.2 hc
                        refine x_iconst (v := 1) d_S_fits_317 (by decide) ?_
                        refine x_goto (tgt := 322) d_S_fits_318 rfl ?_
                        refine x_zret rfl d_S_fits_322 ⟨_, rfl, ?_⟩
                        exact h
                  · have h := h.2 hx9
                    by_cases hx10 : a0 = 10
                    · have h := h.1 hx10
                      refine x_tableIn (off := 322) (tgt := 323) d_S_fits_1 (by rw [hx10]; decide) (by rw [hx10]; decide) (by rw [hx10]; rfl) rfl ?_
                      refine x_aload_n (x := o) d_S_fits_323 rfl ?_
                      refine x_ldcS (fun A s h9 => ((X A s h9).2.1 46 (by decide)).1) d_S_fits_324 ?_
                      refine x_callU (st := []) k_S_27 rfl (eS_o _ _ _ _) x_id (c_T_take l D cs Ev hE adK adV fm X o a 46 (by decide) (d + 773) _ u h) hE (rmD_ok (by omega) (by decide)) rfl (Nat.le_of_ble_eq_true rfl) rfl d_S_fits_326 (x_rI (fun r50 u49 h => ?_))
                      refine x_if_eq (tgt := 361) d_S_fits_329 rfl (fun hc => ?_) (fun hc => ?_)
                      · have h := h.1 hc
                        refine x_iconst (v := 0) d_S_fits_361 (by decide) ?_
                        refine x_zret rfl d_S_fits_362 ⟨_, rfl, ?_⟩
                        exact h
                      · have h := h.2 hc
                        refine x_aload_n (x := o) d_S_fits_332 rfl ?_
                        refine x_iconst (v := 2) d_S_fits_333 (by decide) ?_
                        refine x_callU (st := []) k_S_57 rfl (eS_o _ _ _ _) x_id (c_T_takeName l D cs Ev hE adK adV fm X o a (d + 777) _ (2 : Int32) u49 h) hE (rmD_ok (by omega) (by decide)) rfl (Nat.le_of_ble_eq_true rfl) rfl d_S_fits_334 (x_rI (fun r52 u51 h => ?_))
                        refine x_if_eq (tgt := 361) d_S_fits_337 rfl (fun hc => ?_) (fun hc => ?_)
                        · have h := h.1 hc
                          refine x_iconst (v := 0) d_S_fits_361 (by decide) ?_
                          refine x_zret rfl d_S_fits_362 ⟨_, rfl, ?_⟩
                          exact h
                        · have h := h.2 hc
                          refine x_aload_n (x := o) d_S_fits_340 rfl ?_
                          refine x_bipush (v := 40) d_S_fits_341 (by decide) ?_
                          refine x_callU (st := []) k_S_82 rfl (eS_o _ _ _ _) x_id (c_T_isNext l D cs Ev hE adK adV fm X o a (d + 778) _ (40 : Int32) u51 h) hE (rmD_ok (by omega) (by decide)) rfl (Nat.le_of_ble_eq_true rfl) rfl d_S_fits_343 (x_rI (fun r54 u53 h => ?_))
                          refine x_if_eq (tgt := 357) d_S_fits_346 rfl (fun hc => ?_) (fun hc => ?_)
                          · have h := h.1 hc
                            refine x_iconst (v := 1) d_S_fits_357 (by decide) ?_
                            refine x_goto (tgt := 362) d_S_fits_358 rfl ?_
                            refine x_zret rfl d_S_fits_362 ⟨_, rfl, ?_⟩
                            exact h
                          · have h := h.2 hc
                            refine x_aload_n (x := o) d_S_fits_349 rfl ?_
                            refine x_iconst (v := 1) d_S_fits_350 (by decide) ?_
                            refine x_callV (st := []) k_S_86 rfl (eS_o _ _ _ _) x_id (cX_S_list l D cs Ev hE adK adV fm X o a (d + 1) _ (1 : Int32) u53 h) hE (rmD_ok (by omega) (by decide)) rfl (Nat.le_of_ble_eq_true rfl) rfl d_S_fits_351 (x_rI (fun r56 u55 h => ?_))
                            refine x_if_eq (tgt := 361) d_S_fits_354 rfl (fun hc => ?_) (fun hc => ?_)
                            · have h := h.1 hc
                              refine x_iconst (v := 0) d_S_fits_361 (by decide) ?_
                              refine x_zret rfl d_S_fits_362 ⟨_, rfl, ?_⟩
                              exact h
                            · have h := h.2 hc
                              refine x_iconst (v := 1) d_S_fits_357 (by decide) ?_
                              refine x_goto (tgt := 362) d_S_fits_358 rfl ?_
                              refine x_zret rfl d_S_fits_362 ⟨_, rfl, ?_⟩
                              exact h
                    · have h := h.2 hx10
                      by_cases hx11 : a0 = 11
                      · have h := h.1 hx11
                        refine x_tableIn (off := 362) (tgt := 363) d_S_fits_1 (by rw [hx11]; decide) (by rw [hx11]; decide) (by rw [hx11]; rfl) rfl ?_
                        refine x_aload_n (x := o) d_S_fits_363 rfl ?_
                        refine x_ldcS (fun A s h9 => ((X A s h9).2.1 47 (by decide)).1) d_S_fits_364 ?_
                        refine x_callU (st := []) k_S_27 rfl (eS_o _ _ _ _) x_id (c_T_take l D cs Ev hE adK adV fm X o a 47 (by decide) (d + 773) _ u h) hE (rmD_ok (by omega) (by decide)) rfl (Nat.le_of_ble_eq_true rfl) rfl d_S_fits_366 (x_rI (fun r58 u57 h => ?_))
                        refine x_zret h.1 d_S_fits_369 ⟨_, rfl, ?_⟩
                        exact h.2
                      · have h := h.2 hx11
                        by_cases hx12 : a0 = 12
                        · have h := h.1 hx12
                          refine x_tableIn (off := 369) (tgt := 370) d_S_fits_1 (by rw [hx12]; decide) (by rw [hx12]; decide) (by rw [hx12]; rfl) rfl ?_
                          refine x_aload_n (x := o) d_S_fits_370 rfl ?_
                          refine x_ldcS (fun A s h9 => ((X A s h9).2.1 48 (by decide)).1) d_S_fits_371 ?_
                          refine x_callU (st := []) k_S_27 rfl (eS_o _ _ _ _) x_id (c_T_take l D cs Ev hE adK adV fm X o a 48 (by decide) (d + 773) _ u h) hE (rmD_ok (by omega) (by decide)) rfl (Nat.le_of_ble_eq_true rfl) rfl d_S_fits_373 (x_rI (fun r60 u59 h => ?_))
                          refine x_zret h.1 d_S_fits_376 ⟨_, rfl, ?_⟩
                          exact h.2
                        · have h := h.2 hx12
                          by_cases hx13 : a0 = 13
                          · have h := h.1 hx13
                            refine x_tableIn (off := 376) (tgt := 377) d_S_fits_1 (by rw [hx13]; decide) (by rw [hx13]; decide) (by rw [hx13]; rfl) rfl ?_
                            refine x_aload_n (x := o) d_S_fits_377 rfl ?_
                            refine x_ldcS (fun A s h9 => ((X A s h9).2.1 49 (by decide)).1) d_S_fits_378 ?_
                            refine x_callU (st := []) k_S_27 rfl (eS_o _ _ _ _) x_id (c_T_take l D cs Ev hE adK adV fm X o a 49 (by decide) (d + 773) _ u h) hE (rmD_ok (by omega) (by decide)) rfl (Nat.le_of_ble_eq_true rfl) rfl d_S_fits_380 (x_rI (fun r62 u61 h => ?_))
                            refine x_if_eq (tgt := 398) d_S_fits_383 rfl (fun hc => ?_) (fun hc => ?_)
                            · have h := h.1 hc
                              refine x_iconst (v := 0) d_S_fits_398 (by decide) ?_
                              refine x_zret rfl d_S_fits_399 ⟨_, rfl, ?_⟩
                              exact h
                            · have h := h.2 hc
                              refine x_aload_n (x := o) d_S_fits_386 rfl ?_
                              refine x_iconst (v := 0) d_S_fits_387 (by decide) ?_
                              refine x_callV (st := []) k_S_95 rfl (eS_o _ _ _ _) x_id (cX_S_expressions l D cs Ev hE adK adV fm X o a (d + 2) _ (0 : Int32) u61 h) hE (rmD_ok (by omega) (by decide)) rfl (Nat.le_of_ble_eq_true rfl) rfl d_S_fits_388 (x_rI (fun r64 u63 h => ?_))
                              refine x_if_eq (tgt := 398) d_S_fits_391 rfl (fun hc => ?_) (fun hc => ?_)
                              · have h := h.1 hc
                                refine x_iconst (v := 0) d_S_fits_398 (by decide) ?_
                                refine x_zret rfl d_S_fits_399 ⟨_, rfl, ?_⟩
                                exact h
                              · have h := h.2 hc
                                refine x_iconst (v := 1) d_S_fits_394 (by decide) ?_
                                refine x_goto (tgt := 399) d_S_fits_395 rfl ?_
                                refine x_zret rfl d_S_fits_399 ⟨_, rfl, ?_⟩
                                exact h
                          · have h := h.2 hx13
                            by_cases hx14 : a0 = 14
                            · have h := h.1 hx14
                              refine x_tableIn (off := 399) (tgt := 400) d_S_fits_1 (by rw [hx14]; decide) (by rw [hx14]; decide) (by rw [hx14]; rfl) rfl ?_
                              refine x_aload_n (x := o) d_S_fits_400 rfl ?_
                              refine x_ldcS (fun A s h9 => ((X A s h9).2.1 50 (by decide)).1) d_S_fits_401 ?_
                              refine x_callU (st := []) k_S_27 rfl (eS_o _ _ _ _) x_id (c_T_take l D cs Ev hE adK adV fm X o a 50 (by decide) (d + 773) _ u h) hE (rmD_ok (by omega) (by decide)) rfl (Nat.le_of_ble_eq_true rfl) rfl d_S_fits_403 (x_rI (fun r66 u65 h => ?_))
                              refine x_zret h.1 d_S_fits_406 ⟨_, rfl, ?_⟩
                              exact h.2
                            · have h := h.2 hx14
                              by_cases hx15 : a0 = 15
                              · have h := h.1 hx15
                                refine x_tableIn (off := 406) (tgt := 407) d_S_fits_1 (by rw [hx15]; decide) (by rw [hx15]; decide) (by rw [hx15]; rfl) rfl ?_
                                refine x_aload_n (x := o) d_S_fits_407 rfl ?_
                                refine x_ldcS (fun A s h9 => ((X A s h9).2.1 51 (by decide)).1) d_S_fits_408 ?_
                                refine x_callU (st := []) k_S_27 rfl (eS_o _ _ _ _) x_id (c_T_take l D cs Ev hE adK adV fm X o a 51 (by decide) (d + 773) _ u h) hE (rmD_ok (by omega) (by decide)) rfl (Nat.le_of_ble_eq_true rfl) rfl d_S_fits_410 (x_rI (fun r68 u67 h => ?_))
                                refine x_if_ne (tgt := 434) d_S_fits_413 rfl (fun hc => ?_) (fun hc => ?_)
                                · have h := h.1 hc
                                  refine x_sub [0] rfl ?_
                                  exact w_S_fits_434 l D cs Ev hE adK adV fm X o a d post  u67 h
                                · have h := h.2 hc
                                  refine x_aload_n (x := o) d_S_fits_416 rfl ?_
                                  refine x_ldcS (fun A s h9 => ((X A s h9).2.1 52 (by decide)).1) d_S_fits_417 ?_
                                  refine x_callU (st := []) k_S_27 rfl (eS_o _ _ _ _) x_id (c_T_take l D cs Ev hE adK adV fm X o a 52 (by decide) (d + 773) _ u67 h) hE (rmD_ok (by omega) (by decide)) rfl (Nat.le_of_ble_eq_true rfl) rfl d_S_fits_419 (x_rI (fun r72 u71 h => ?_))
                                  refine x_if_ne (tgt := 434) d_S_fits_422 rfl (fun hc => ?_) (fun hc => ?_)
                                  · have h := h.1 hc
                                    refine x_sub [0] rfl ?_
                                    exact w_S_fits_434 l D cs Ev hE adK adV fm X o a d post  u71 h
                                  · have h := h.2 hc
                                    refine x_aload_n (x := o) d_S_fits_425 rfl ?_
                                    refine x_ldcS (fun A s h9 => ((X A s h9).2.1 53 (by decide)).1) d_S_fits_426 ?_
                                    refine x_callU (st := []) k_S_27 rfl (eS_o _ _ _ _) x_id (c_T_take l D cs Ev hE adK adV fm X o a 53 (by decide) (d + 773) _ u71 h) hE (rmD_ok (by omega) (by decide)) rfl (Nat.le_of_ble_eq_true rfl) rfl d_S_fits_428 (x_rI (fun r74 u73 h => ?_))
                                    refine x_if_eq (tgt := 447) d_S_fits_431 rfl (fun hc => ?_) (fun hc => ?_)
                                    · have h := h.1 hc
                                      refine x_iconst (v := 0) d_S_fits_447 (by decide) ?_
                                      refine x_zret rfl d_S_fits_448 ⟨_, rfl, ?_⟩
                                      exact h
                                    · have h := h.2 hc
                                      refine x_sub [0] rfl ?_
                                      exact w_S_fits_434 l D cs Ev hE adK adV fm X o a d post  u73 h
                              · have h := h.2 hx15
                                by_cases hx16 : a0 = 16
                                · have h := h.1 hx16
                                  refine x_tableIn (off := 448) (tgt := 449) d_S_fits_1 (by rw [hx16]; decide) (by rw [hx16]; decide) (by rw [hx16]; rfl) rfl ?_
                                  refine x_aload_n (x := o) d_S_fits_449 rfl ?_
                                  refine x_ldcS (fun A s h9 => ((X A s h9).2.1 54 (by decide)).1) d_S_fits_450 ?_
                                  refine x_callU (st := []) k_S_27 rfl (eS_o _ _ _ _) x_id (c_T_take l D cs Ev hE adK adV fm X o a 54 (by decide) (d + 773) _ u h) hE (rmD_ok (by omega) (by decide)) rfl (Nat.le_of_ble_eq_true rfl) rfl d_S_fits_452 (x_rI (fun r76 u75 h => ?_))
                                  refine x_if_eq (tgt := 471) d_S_fits_455 rfl (fun hc => ?_) (fun hc => ?_)
                                  · have h := h.1 hc
                                    refine x_iconst (v := 0) d_S_fits_471 (by decide) ?_
                                    refine x_zret rfl d_S_fits_472 ⟨_, rfl, ?_⟩
                                    exact h
                                  · have h := h.2 hc
                                    refine x_aload_n (x := o) d_S_fits_458 rfl ?_
                                    refine x_bipush (v := 16) d_S_fits_459 (by decide) ?_
                                    refine x_callV (st := []) k_S_106 rfl (eS_o _ _ _ _) x_id (c_S_series l D cs Ev hE adK adV fm X o a (d + 771) _ (16 : Int32) u75 h) hE (rmD_ok (by omega) (by decide)) rfl (Nat.le_of_ble_eq_true rfl) rfl d_S_fits_461 (x_rI (fun r78 u77 h => ?_))
                                    refine x_if_eq (tgt := 471) d_S_fits_464 rfl (fun hc => ?_) (fun hc => ?_)
                                    · have h := h.1 hc
                                      refine x_iconst (v := 0) d_S_fits_471 (by decide) ?_
                                      refine x_zret rfl d_S_fits_472 ⟨_, rfl, ?_⟩
                                      exact h
                                    · have h := h.2 hc
                                      refine x_iconst (v := 1) d_S_fits_467 (by decide) ?_
                                      refine x_goto (tgt := 472) d_S_fits_468 rfl ?_
                                      refine x_zret rfl d_S_fits_472 ⟨_, rfl, ?_⟩
                                      exact h
                                · have h := h.2 hx16
                                  by_cases hx17 : a0 = 17
                                  · have h := h.1 hx17
                                    refine x_tableIn (off := 472) (tgt := 473) d_S_fits_1 (by rw [hx17]; decide) (by rw [hx17]; decide) (by rw [hx17]; rfl) rfl ?_
                                    refine x_aload_n (x := o) d_S_fits_473 rfl ?_
                                    refine x_ldcS (fun A s h9 => ((X A s h9).2.1 55 (by decide)).1) d_S_fits_474 ?_
                                    refine x_callU (st := []) k_S_27 rfl (eS_o _ _ _ _) x_id (c_T_take l D cs Ev hE adK adV fm X o a 55 (by decide) (d + 773) _ u h) hE (rmD_ok (by omega) (by decide)) rfl (Nat.le_of_ble_eq_true rfl) rfl d_S_fits_476 (x_rI (fun r80 u79 h => ?_))
                                    refine x_if_eq (tgt := 520) d_S_fits_479 rfl (fun hc => ?_) (fun hc => ?_)
                                    · have h := h.1 hc
                                      refine x_iconst (v := 0) d_S_fits_520 (by decide) ?_
                                      refine x_zret rfl d_S_fits_521 ⟨_, rfl, ?_⟩
                                      exact h
                                    · have h := h.2 hc
                                      refine x_aload_n (x := o) d_S_fits_482 rfl ?_
                                      refine x_bipush (v := 17) d_S_fits_483 (by decide) ?_
                                      refine x_callV (st := []) k_S_106 rfl (eS_o _ _ _ _) x_id (c_S_series l D cs Ev hE adK adV fm X o a (d + 771) _ (17 : Int32) u79 h) hE (rmD_ok (by omega) (by decide)) rfl (Nat.le_of_ble_eq_true rfl) rfl d_S_fits_485 (x_rI (fun r82 u81 h => ?_))
                                      refine x_if_eq (tgt := 520) d_S_fits_488 rfl (fun hc => ?_) (fun hc => ?_)
                                      · have h := h.1 hc
                                        refine x_iconst (v := 0) d_S_fits_520 (by decide) ?_
                                        refine x_zret rfl d_S_fits_521 ⟨_, rfl, ?_⟩
                                        exact h
                                      · have h := h.2 hc
                                        refine x_aload_n (x := o) d_S_fits_491 rfl ?_
                                        refine x_ldcS (fun A s h9 => ((X A s h9).2.1 24 (by decide)).1) d_S_fits_492 ?_
                                        refine x_callU (st := []) k_S_27 rfl (eS_o _ _ _ _) x_id (c_T_take l D cs Ev hE adK adV fm X o a 24 (by decide) (d + 773) _ u81 h) hE (rmD_ok (by omega) (by decide)) rfl (Nat.le_of_ble_eq_true rfl) rfl d_S_fits_494 (x_rI (fun r84 u83 h => ?_))
                                        refine x_if_eq (tgt := 520) d_S_fits_497 rfl (fun hc => ?_) (fun hc => ?_)
                                        · have h := h.1 hc
                                          refine x_iconst (v := 0) d_S_fits_520 (by decide) ?_
                                          refine x_zret rfl d_S_fits_521 ⟨_, rfl, ?_⟩
                                          exact h
                                        · have h := h.2 hc
                                          refine x_aload_n (x := o) d_S_fits_500 rfl ?_
                                          refine x_callU (st := []) k_S_53 rfl (eS_o _ _ _ _) x_id (c_T_takeIdleComma l D cs Ev hE adK adV fm X o a (d + 777) _ u83 h) hE (rmD_ok (by omega) (by decide)) rfl (Nat.le_of_ble_eq_true rfl) rfl d_S_fits_501 (x_rI (fun r86 u85 h => ?_))
                                          refine x_if_eq (tgt := 520) d_S_fits_504 rfl (fun hc => ?_) (fun hc => ?_)
                                          · have h := h.1 hc
                                            refine x_iconst (v := 0) d_S_fits_520 (by decide) ?_
                                            refine x_zret rfl d_S_fits_521 ⟨_, rfl, ?_⟩
                                            exact h
                                          · have h := h.2 hc
                                            refine x_aload_n (x := o) d_S_fits_507 rfl ?_
                                            refine x_iconst (v := 1) d_S_fits_508 (by decide) ?_
                                            refine x_iconst (v := 0) d_S_fits_509 (by decide) ?_
                                            refine x_callV (st := []) k_S_31 rfl (eS_o _ _ _ _) x_id (cX_S_expression l D cs Ev hE adK adV fm X o a (d + 8) _ (1 : Int32) (0 : Int32) u85 h) hE (rmD_ok (by omega) (by decide)) rfl (Nat.le_of_ble_eq_true rfl) rfl d_S_fits_510 (x_rI (fun r88 u87 h => ?_))
                                            refine x_if_eq (tgt := 520) d_S_fits_513 rfl (fun hc => ?_) (fun hc => ?_)
                                            · have h := h.1 hc
                                              refine x_iconst (v := 0) d_S_fits_520 (by decide) ?_
                                              refine x_zret rfl d_S_fits_521 ⟨_, rfl, ?_⟩
                                              exact h
                                            · have h := h.2 hc
                                              refine x_iconst (v := 1) d_S_fits_516 (by decide) ?_
                                              refine x_goto (tgt := 521) d_S_fits_517 rfl ?_
                                              refine x_zret rfl d_S_fits_521 ⟨_, rfl, ?_⟩
                                              exact h
                                  · have h := h.2 hx17
                                    have t1 := lv_neT (a := 1) hx1 (by decide)
                                    have t2 := lv_neT (a := 2) hx2 (by decide)
                                    have t3 := lv_neT (a := 3) hx3 (by decide)
                                    have t4 := lv_neT (a := 4) hx4 (by decide)
                                    have t5 := lv_neT (a := 5) hx5 (by decide)
                                    have t6 := lv_neT (a := 6) hx6 (by decide)
                                    have t7 := lv_neT (a := 7) hx7 (by decide)
                                    have t8 := lv_neT (a := 8) hx8 (by decide)
                                    have t9 := lv_neT (a := 9) hx9 (by decide)
                                    have t10 := lv_neT (a := 10) hx10 (by decide)
                                    have t11 := lv_neT (a := 11) hx11 (by decide)
                                    have t12 := lv_neT (a := 12) hx12 (by decide)
                                    have t13 := lv_neT (a := 13) hx13 (by decide)
                                    have t14 := lv_neT (a := 14) hx14 (by decide)
                                    have t15 := lv_neT (a := 15) hx15 (by decide)
                                    have t16 := lv_neT (a := 16) hx16 (by decide)
                                    have t17 := lv_neT (a := 17) hx17 (by decide)
                                    refine x_tableOut (tgt := 522) d_S_fits_1 (by omega) rfl ?_
                                    refine x_iconst (v := 0) d_S_fits_522 (by decide) ?_
                                    refine x_zret rfl d_S_fits_523 ⟨_, rfl, ?_⟩
                                    exact h
def P_S_firstThatFits_34 (post : Int32 → MS → Prop) (K2 : Int32 → Int32 → MS → Prop) (x1 : Int32) (x2 : Int32) (u : MS) : Prop := K2 x1 (x2 + 1) u
set_option maxHeartbeats 600000 in
set_option maxRecDepth 100000 in
theorem w_S_firstThatFits_34 (l : Launch) (D : va_G) (cs : Nat → ClassId) (Ev : (Nat → Prop) → State → Prop) (hE : xEok Ev) (adK adV : Nat → Nat) (fm : Option Nat) (X : xEv adK adV fm Ev) (o : Nat) (a : Nat → Nat) (d : Nat) (post : Int32 → MS → Prop) (K2 : Int32 → Int32 → MS → Prop) (hK2 : ∀ (x1 : Int32) (x2 : Int32) (u : MS), K2 x1 x2 u → RR l D clX (tysX cs) Ev "DeckFront$Statement" b_S_firstThatFits 3 w_S_firstThatFits (rmD (d + 780)) (some .int) (wdS o a cs) (pI post) 0 0 0 0 2 [(0, .ref o), (1, .int x1), (2, .int x2)] [] u) (x1 : Int32) (x2 : Int32) (u : MS) (h : P_S_firstThatFits_34 post K2 x1 x2 u) : RR l D clX (tysX cs) Ev "DeckFront$Statement" b_S_firstThatFits 3 w_S_firstThatFits (rmD (d + 780)) (some .int) (wdS o a cs) (pI post) 0 0 0 0 34 [(0, .ref o), (1, .int x1), (2, .int x2)] [] u := by
  unfold P_S_firstThatFits_34 at h
  refine x_iinc (v := x2 + 1) (lv' := [(2, .int (x2 + 1)), (0, .ref o), (1, .int x1)]) d_S_firstThatFits_34 rfl rfl (by decide) rfl ?_
  refine x_goto (tgt := 2) d_S_firstThatFits_37 rfl ?_
  refine x_sub [1, 2, 0] rfl ?_
  exact hK2 x1 (x2 + 1) u h
def P_S_firstThatFits_2 (post : Int32 → MS → Prop) : Nat → Int32 → Int32 → MS → Prop
  | 0, _, _, _ => False
  | f + 1, x1, x2, u => ((17 < x2 → P_T_goBackTo (fun u1 => post 0 u1) x1 u) ∧ (¬ 17 < x2 → P_T_goBackTo (fun u2 => P_S_fits (fun r4 u3 => ((r4 = 0 → P_S_firstThatFits_34 post (fun zx1 zx2 zu => P_S_firstThatFits_2 post f zx1 zx2 zu) x1 x2 u3) ∧ (¬ r4 = 0 → ((¬ (gI u3 5) = (gI u3 4) → P_S_firstThatFits_34 post (fun zx1 zx2 zu => P_S_firstThatFits_2 post f zx1 zx2 zu) x1 x2 u3) ∧ ((gI u3 5) = (gI u3 4) → post x2 u3))))) x2 u2) x1 u))
set_option maxHeartbeats 600000 in
set_option maxRecDepth 100000 in
theorem w_S_firstThatFits_2 (l : Launch) (D : va_G) (cs : Nat → ClassId) (Ev : (Nat → Prop) → State → Prop) (hE : xEok Ev) (adK adV : Nat → Nat) (fm : Option Nat) (X : xEv adK adV fm Ev) (o : Nat) (a : Nat → Nat) (d : Nat) (post : Int32 → MS → Prop) : ∀ (f : Nat) (x1 : Int32) (x2 : Int32) (u : MS), P_S_firstThatFits_2 post  f x1 x2 u → RR l D clX (tysX cs) Ev "DeckFront$Statement" b_S_firstThatFits 3 w_S_firstThatFits (rmD (d + 780)) (some .int) (wdS o a cs) (pI post) 0 0 0 0 2 [(0, .ref o), (1, .int x1), (2, .int x2)] [] u := by
  intro f
  induction f with
  | zero => intro x1 x2 u h; exact h.elim
  | succ f ih =>
    intro x1 x2 u h
    unfold P_S_firstThatFits_2 at h
    refine x_iload_n (x := x2) d_S_firstThatFits_2 rfl ?_
    refine x_bipush (v := 17) d_S_firstThatFits_3 (by decide) ?_
    refine x_icmp_gt (tgt := 40) d_S_firstThatFits_5 rfl (fun hc => ?_) (fun hc => ?_)
    · have h := h.1 hc
      refine x_aload_n (x := o) d_S_firstThatFits_40 rfl ?_
      refine x_iload_n (x := x1) d_S_firstThatFits_41 rfl ?_
      refine x_callU (st := []) k_S_41 rfl (eS_o _ _ _ _) x_id (c_T_goBackTo l D cs Ev hE adK adV fm X o a (d + 779) _ x1 u h) hE (rmD_ok (by omega) (by decide)) rfl (Nat.le_of_ble_eq_true rfl) rfl d_S_firstThatFits_42 (x_rV (fun u1 h => ?_))
      refine x_iconst (v := 0) d_S_firstThatFits_45 (by decide) ?_
      refine x_iret d_S_firstThatFits_46 ⟨_, rfl, ?_⟩
      exact h
    · have h := h.2 hc
      refine x_aload_n (x := o) d_S_firstThatFits_8 rfl ?_
      refine x_iload_n (x := x1) d_S_firstThatFits_9 rfl ?_
      refine x_callU (st := []) k_S_41 rfl (eS_o _ _ _ _) x_id (c_T_goBackTo l D cs Ev hE adK adV fm X o a (d + 779) _ x1 u h) hE (rmD_ok (by omega) (by decide)) rfl (Nat.le_of_ble_eq_true rfl) rfl d_S_firstThatFits_10 (x_rV (fun u2 h => ?_))
      refine x_aload_n (x := o) d_S_firstThatFits_13 rfl ?_
      refine x_iload_n (x := x2) d_S_firstThatFits_14 rfl ?_
      refine x_callV (st := []) k_S_45 rfl (eS_o _ _ _ _) x_id (c_S_fits l D cs Ev hE adK adV fm X o a (d + 0) _ x2 u2 h) hE (rmD_ok (by omega) (by decide)) rfl (Nat.le_of_ble_eq_true rfl) rfl d_S_firstThatFits_15 (x_rI (fun r4 u3 h => ?_))
      refine x_if_eq (tgt := 34) d_S_firstThatFits_18 rfl (fun hc => ?_) (fun hc => ?_)
      · have h := h.1 hc
        exact w_S_firstThatFits_34 l D cs Ev hE adK adV fm X o a d post (fun zx1 zx2 zu => P_S_firstThatFits_2 post f zx1 zx2 zu) ih x1 x2 u3 h
      · have h := h.2 hc
        refine x_aload_n (x := o) d_S_firstThatFits_21 rfl ?_
        refine x_get (v := .int (gI u3 5)) f_S_15 (eS_o _ _ _ _) rfl d_S_firstThatFits_22 ?_
        refine x_aload_n (x := o) d_S_firstThatFits_25 rfl ?_
        refine x_get (v := .int (gI u3 4)) f_S_9 (eS_o _ _ _ _) rfl d_S_firstThatFits_26 ?_
        refine x_icmp_ne (tgt := 34) d_S_firstThatFits_29 rfl (fun hc => ?_) (fun hc => ?_)
        · have h := h.1 hc
          exact w_S_firstThatFits_34 l D cs Ev hE adK adV fm X o a d post (fun zx1 zx2 zu => P_S_firstThatFits_2 post f zx1 zx2 zu) ih x1 x2 u3 h
        · have h := h.2 hc
          refine x_iload_n (x := x2) d_S_firstThatFits_32 rfl ?_
          refine x_iret d_S_firstThatFits_33 ⟨_, rfl, ?_⟩
          exact h
def P_S_firstThatFits (post : Int32 → MS → Prop) (a0 : Int32) (u : MS) : Prop := (∃ g, P_S_firstThatFits_2 post g a0 1 u)
set_option maxHeartbeats 600000 in
set_option maxRecDepth 100000 in
theorem c_S_firstThatFits (l : Launch) (D : va_G) (cs : Nat → ClassId) (Ev : (Nat → Prop) → State → Prop) (hE : xEok Ev) (adK adV : Nat → Nat) (fm : Option Nat) (X : xEv adK adV fm Ev) (o : Nat) (a : Nat → Nat) (d : Nat) (post : Int32 → MS → Prop) (a0 : Int32) (u : MS) (h : P_S_firstThatFits post a0 u) : xC l D clX (tysX cs) Ev y_S_firstThatFits w_S_firstThatFits (rmD (d + 780)) (wdS o a cs) [.ref o, .int a0] u (pI post) 0 0 := by
  unfold P_S_firstThatFits at h
  refine xC.of (cc := b_S_firstThatFits) (nL := 3) (ret := (some .int)) (by decide) rfl (Nat.le_of_ble_eq_true rfl) ?_
  show RR l D clX (tysX cs) Ev "DeckFront$Statement" b_S_firstThatFits 3 w_S_firstThatFits (rmD (d + 780)) (some .int) (wdS o a cs) (pI post) 0 0 0 0 0 [(0, .ref o), (1, .int a0)] [] u
  refine x_iconst (v := 1) d_S_firstThatFits_0 (by decide) ?_
  refine x_istore_n (lv' := [(2, .int 1), (0, .ref o), (1, .int a0)]) d_S_firstThatFits_1 (by decide) rfl ?_
  refine x_sub [1, 2, 0] rfl ?_
  obtain ⟨f9, h⟩ := h
  exact w_S_firstThatFits_2 l D cs Ev hE adK adV fm X o a d post  f9 a0 1 u h
def P_S_recognise_70 (post : MS → Prop) (u : MS) : Prop := ((¬ (gI u 8) = 0 → post u) ∧ ((gI u 8) = 0 → P_T_goBackTo (fun u3 => post u3) (0 : Int32) u))
set_option maxHeartbeats 600000 in
set_option maxRecDepth 100000 in
theorem w_S_recognise_70 (l : Launch) (D : va_G) (cs : Nat → ClassId) (Ev : (Nat → Prop) → State → Prop) (hE : xEok Ev) (adK adV : Nat → Nat) (fm : Option Nat) (X : xEv adK adV fm Ev) (o : Nat) (a : Nat → Nat) (d : Nat) (post : MS → Prop) (u : MS) (h : P_S_recognise_70 post   u) : RR l D clX (tysX cs) Ev "DeckFront$Statement" b_S_recognise 1 w_S_recognise (rmD (d + 781)) none (wdS o a cs) (pV post) 0 0 0 0 70 [(0, .ref o)] [] u := by
  unfold P_S_recognise_70 at h
  refine x_aload_n (x := o) d_S_recognise_70 rfl ?_
  refine x_get (v := .int (gI u 8)) f_S_22 (eS_o _ _ _ _) rfl d_S_recognise_71 ?_
  refine x_if_ne (tgt := 82) d_S_recognise_74 rfl (fun hc => ?_) (fun hc => ?_)
  · have h := h.1 hc
    refine x_vret d_S_recognise_82 ⟨rfl, ?_⟩
    exact h
  · have h := h.2 hc
    refine x_aload_n (x := o) d_S_recognise_77 rfl ?_
    refine x_iconst (v := 0) d_S_recognise_78 (by decide) ?_
    refine x_callU (st := []) k_S_41 rfl (eS_o _ _ _ _) x_id (c_T_goBackTo l D cs Ev hE adK adV fm X o a (d + 780) _ (0 : Int32) u h) hE (rmD_ok (by omega) (by decide)) rfl (Nat.le_of_ble_eq_true rfl) rfl d_S_recognise_79 (x_rV (fun u3 h => ?_))
    refine x_vret d_S_recognise_82 ⟨rfl, ?_⟩
    exact h
def P_S_recognise (post : MS → Prop) (u : MS) : Prop := P_S_firstThatFits (fun r2 u1 => ((¬ r2 = 0 → P_S_recognise_70 post (sI u1 8 r2)) ∧ (r2 = 0 → P_T_take (fun r5 u4 => ((r5 = 0 → P_S_recognise_70 post u4) ∧ (¬ r5 = 0 → PEX (fun r7 u6 => ((r7 = 0 → P_S_recognise_70 post u6) ∧ (¬ r7 = 0 → P_T_take (fun r9 u8 => ((r9 = 0 → P_S_recognise_70 post u8) ∧ (¬ r9 = 0 → P_S_firstThatFits (fun r11 u10 => P_S_mayStandInIf (fun r13 u12 => ((r13 = 0 → P_S_recognise_70 post u10) ∧ (¬ r13 = 0 → P_S_recognise_70 post (sI u10 8 (4 : Int32))))) r11 ()) (gI u8 5) u8))) 24 u6))) (1 : Int32) (1 : Int32) u4))) 39 (sI u1 8 r2)))) (0 : Int32) (sI u 5 (gI u 4))
set_option maxHeartbeats 600000 in
set_option maxRecDepth 100000 in
theorem c_S_recognise (l : Launch) (D : va_G) (cs : Nat → ClassId) (Ev : (Nat → Prop) → State → Prop) (hE : xEok Ev) (adK adV : Nat → Nat) (fm : Option Nat) (X : xEv adK adV fm Ev) (o : Nat) (a : Nat → Nat) (d : Nat) (post : MS → Prop) (u : MS) (h : P_S_recognise post  u) : xC l D clX (tysX cs) Ev y_S_recognise w_S_recognise (rmD (d + 781)) (wdS o a cs) [.ref o] u (pV post) 0 0 := by
  unfold P_S_recognise at h
  refine xC.of (cc := b_S_recognise) (nL := 1) (ret := none) (by decide) rfl (Nat.le_of_ble_eq_true rfl) ?_
  show RR l D clX (tysX cs) Ev "DeckFront$Statement" b_S_recognise 1 w_S_recognise (rmD (d + 781)) none (wdS o a cs) (pV post) 0 0 0 0 0 [(0, .ref o)] [] u
  refine x_aload_n (x := o) d_S_recognise_0 rfl ?_
  refine x_aload_n (x := o) d_S_recognise_1 rfl ?_
  refine x_get (v := .int (gI u 4)) f_S_9 (eS_o _ _ _ _) rfl d_S_recognise_2 ?_
  refine x_put f_S_15 fw_S_5 (eS_o _ _ _ _) rfl rfl (Nat.le_of_ble_eq_true rfl) (sS_5 _ _ _ _ _) d_S_recognise_5 ?_
  refine x_aload_n (x := o) d_S_recognise_8 rfl ?_
  refine x_aload_n (x := o) d_S_recognise_9 rfl ?_
  refine x_iconst (v := 0) d_S_recognise_10 (by decide) ?_
  refine x_callV (st := [.ref o]) k_S_18 rfl (eS_o _ _ _ _) x_id (c_S_firstThatFits l D cs Ev hE adK adV fm X o a (d + 0) _ (0 : Int32) (sI u 5 (gI u 4)) h) hE (rmD_ok (by omega) (by decide)) rfl (Nat.le_of_ble_eq_true rfl) rfl d_S_recognise_11 (x_rI (fun r2 u1 h => ?_))
  refine x_put f_S_22 fw_S_8 (eS_o _ _ _ _) rfl rfl (Nat.le_of_ble_eq_true rfl) (sS_8 _ _ _ _ _) d_S_recognise_14 ?_
  refine x_aload_n (x := o) d_S_recognise_17 rfl ?_
  refine x_get (v := .int r2) f_S_22 (eS_o _ _ _ _) rfl d_S_recognise_18 ?_
  refine x_if_ne (tgt := 70) d_S_recognise_21 rfl (fun hc => ?_) (fun hc => ?_)
  · have h := h.1 hc
    exact w_S_recognise_70 l D cs Ev hE adK adV fm X o a d post  (sI u1 8 r2) h
  · have h := h.2 hc
    refine x_aload_n (x := o) d_S_recognise_24 rfl ?_
    refine x_ldcS (fun A s h9 => ((X A s h9).2.1 39 (by decide)).1) d_S_recognise_25 ?_
    refine x_callU (st := []) k_S_27 rfl (eS_o _ _ _ _) x_id (c_T_take l D cs Ev hE adK adV fm X o a 39 (by decide) (d + 775) _ (sI u1 8 r2) h) hE (rmD_ok (by omega) (by decide)) rfl (Nat.le_of_ble_eq_true rfl) rfl d_S_recognise_27 (x_rI (fun r5 u4 h => ?_))
    refine x_if_eq (tgt := 70) d_S_recognise_30 rfl (fun hc => ?_) (fun hc => ?_)
    · have h := h.1 hc
      exact w_S_recognise_70 l D cs Ev hE adK adV fm X o a d post  u4 h
    · have h := h.2 hc
      refine x_aload_n (x := o) d_S_recognise_33 rfl ?_
      refine x_iconst (v := 1) d_S_recognise_34 (by decide) ?_
      refine x_iconst (v := 1) d_S_recognise_35 (by decide) ?_
      refine x_callV (st := []) k_S_31 rfl (eS_o _ _ _ _) x_id (cX_S_expression l D cs Ev hE adK adV fm X o a (d + 10) _ (1 : Int32) (1 : Int32) u4 h) hE (rmD_ok (by omega) (by decide)) rfl (Nat.le_of_ble_eq_true rfl) rfl d_S_recognise_36 (x_rI (fun r7 u6 h => ?_))
      refine x_if_eq (tgt := 70) d_S_recognise_39 rfl (fun hc => ?_) (fun hc => ?_)
      · have h := h.1 hc
        exact w_S_recognise_70 l D cs Ev hE adK adV fm X o a d post  u6 h
      · have h := h.2 hc
        refine x_aload_n (x := o) d_S_recognise_42 rfl ?_
        refine x_ldcS (fun A s h9 => ((X A s h9).2.1 24 (by decide)).1) d_S_recognise_43 ?_
        refine x_callU (st := []) k_S_27 rfl (eS_o _ _ _ _) x_id (c_T_take l D cs Ev hE adK adV fm X o a 24 (by decide) (d + 775) _ u6 h) hE (rmD_ok (by omega) (by decide)) rfl (Nat.le_of_ble_eq_true rfl) rfl d_S_recognise_45 (x_rI (fun r9 u8 h => ?_))
        refine x_if_eq (tgt := 70) d_S_recognise_48 rfl (fun hc => ?_) (fun hc => ?_)
        · have h := h.1 hc
          exact w_S_recognise_70 l D cs Ev hE adK adV fm X o a d post  u8 h
        · have h := h.2 hc
          refine x_aload_n (x := o) d_S_recognise_51 rfl ?_
          refine x_aload_n (x := o) d_S_recognise_52 rfl ?_
          refine x_get (v := .int (gI u8 5)) f_S_15 (eS_o _ _ _ _) rfl d_S_recognise_53 ?_
          refine x_callV (st := []) k_S_18 rfl (eS_o _ _ _ _) x_id (c_S_firstThatFits l D cs Ev hE adK adV fm X o a (d + 0) _ (gI u8 5) u8 h) hE (rmD_ok (by omega) (by decide)) rfl (Nat.le_of_ble_eq_true rfl) rfl d_S_recognise_56 (x_rI (fun r11 u10 h => ?_))
          refine x_callS (st := []) k_S_37 x_none (c_S_mayStandInIf l D cs Ev hE adK adV fm X (d + 780) _ r11 () h) hE (rmD_ok (by omega) (by decide)) rfl (Nat.le_of_ble_eq_true rfl) rfl d_S_recognise_59 (x_rI (fun r13 u12 h => ?_))
          refine x_if_eq (tgt := 70) d_S_recognise_62 rfl (fun hc => ?_) (fun hc => ?_)
          · have h := h.1 hc
            exact w_S_recognise_70 l D cs Ev hE adK adV fm X o a d post  u10 h
          · have h := h.2 hc
            refine x_aload_n (x := o) d_S_recognise_65 rfl ?_
            refine x_iconst (v := 4) d_S_recognise_66 (by decide) ?_
            refine x_put f_S_22 fw_S_8 (eS_o _ _ _ _) rfl rfl (Nat.le_of_ble_eq_true rfl) (sS_8 _ _ _ _ _) d_S_recognise_67 ?_
            exact w_S_recognise_70 l D cs Ev hE adK adV fm X o a d post  (sI u10 8 (4 : Int32)) h
