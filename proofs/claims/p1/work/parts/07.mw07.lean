def P_M_expression_444 (post : Int32 → MS → Prop) (K25 : Int32 → Int32 → Int32 → Int32 → MS → Prop) (x2 : Int32) (x3 : Int32) (x4 : Int32) (x5 : Int32) (u : MS) : Prop := K25 x2 x3 x4 (x5 + 1) u
set_option maxHeartbeats 600000 in
set_option maxRecDepth 100000 in
theorem w_M_expression_444 (l : Launch) (D : va_G) (cs : Nat → ClassId) (Ev : (Nat → Prop) → State → Prop) (hE : xEok Ev) (o : Nat) (a : Nat → Nat) (d : Nat) (post : Int32 → MS → Prop) (K25 : Int32 → Int32 → Int32 → Int32 → MS → Prop) (hK25 : ∀ (x2 : Int32) (x3 : Int32) (x4 : Int32) (x5 : Int32) (u : MS), K25 x2 x3 x4 x5 u → RR l D clX (tysX cs) Ev "DeckFrontModel" b_M_expression 9 w_M_expression (rmD (d + 4)) (some .boolean) (wdM o a cs) (pI post) 0 0 0 0 25 [(0, .ref o), (2, .int x2), (3, .int x3), (4, .int x4), (5, .int x5)] [] u) (x2 : Int32) (x3 : Int32) (x4 : Int32) (x5 : Int32) (u : MS) (h : P_M_expression_444 post K25 x2 x3 x4 x5 u) : RR l D clX (tysX cs) Ev "DeckFrontModel" b_M_expression 9 w_M_expression (rmD (d + 4)) (some .boolean) (wdM o a cs) (pI post) 0 0 0 0 444 [(0, .ref o), (2, .int x2), (3, .int x3), (4, .int x4), (5, .int x5)] [] u := by
  unfold P_M_expression_444 at h
  refine x_iinc (v := x5 + 1) (lv' := [(5, .int (x5 + 1)), (0, .ref o), (2, .int x2), (3, .int x3), (4, .int x4)]) d_M_expression_444 rfl rfl (by decide) rfl ?_
  refine x_goto (tgt := 25) d_M_expression_447 rfl ?_
  refine x_sub [1, 2, 3, 4, 0] rfl ?_
  exact hK25 x2 x3 x4 (x5 + 1) u h
def P_M_expression_441 (post : Int32 → MS → Prop) (K25 : Int32 → Int32 → Int32 → Int32 → MS → Prop) (x4 : Int32) (x5 : Int32) (s0 : Int32) (u : MS) : Prop := P_M_expression_444 post K25 s0 2 x4 x5 u
set_option maxHeartbeats 600000 in
set_option maxRecDepth 100000 in
theorem w_M_expression_441 (l : Launch) (D : va_G) (cs : Nat → ClassId) (Ev : (Nat → Prop) → State → Prop) (hE : xEok Ev) (o : Nat) (a : Nat → Nat) (d : Nat) (post : Int32 → MS → Prop) (K25 : Int32 → Int32 → Int32 → Int32 → MS → Prop) (hK25 : ∀ (x2 : Int32) (x3 : Int32) (x4 : Int32) (x5 : Int32) (u : MS), K25 x2 x3 x4 x5 u → RR l D clX (tysX cs) Ev "DeckFrontModel" b_M_expression 9 w_M_expression (rmD (d + 4)) (some .boolean) (wdM o a cs) (pI post) 0 0 0 0 25 [(0, .ref o), (2, .int x2), (3, .int x3), (4, .int x4), (5, .int x5)] [] u) (x4 : Int32) (x5 : Int32) (s0 : Int32) (u : MS) (h : P_M_expression_441 post K25 x4 x5 s0 u) : RR l D clX (tysX cs) Ev "DeckFrontModel" b_M_expression 9 w_M_expression (rmD (d + 4)) (some .boolean) (wdM o a cs) (pI post) 0 0 0 0 441 [(0, .ref o), (4, .int x4), (5, .int x5)] [.int s0] u := by
  unfold P_M_expression_441 at h
  refine x_istore_n (lv' := [(2, .int s0), (0, .ref o), (4, .int x4), (5, .int x5)]) d_M_expression_441 (by decide) rfl ?_
  refine x_iconst (v := 2) d_M_expression_442 (by decide) ?_
  refine x_istore_n (lv' := [(3, .int 2), (2, .int s0), (0, .ref o), (4, .int x4), (5, .int x5)]) d_M_expression_443 (by decide) rfl ?_
  refine x_sub [2, 1, 0, 3, 4] rfl ?_
  exact w_M_expression_444 l D cs Ev hE o a d post K25 hK25 s0 2 x4 x5 u h
def P_M_expression_426 (post : Int32 → MS → Prop) (K25 : Int32 → Int32 → Int32 → Int32 → MS → Prop) (x2 : Int32) (x4 : Int32) (x5 : Int32) (s0 : Int32) (u : MS) : Prop := ((x4 = 0 → P_M_expression_441 post K25 x4 x5 (x2 - (1 : Int32)) (sI u 27 s0)) ∧ (¬ x4 = 0 → P_M_expression_441 post K25 x4 x5 x2 (sI u 27 s0)))
set_option maxHeartbeats 600000 in
set_option maxRecDepth 100000 in
theorem w_M_expression_426 (l : Launch) (D : va_G) (cs : Nat → ClassId) (Ev : (Nat → Prop) → State → Prop) (hE : xEok Ev) (o : Nat) (a : Nat → Nat) (d : Nat) (post : Int32 → MS → Prop) (K25 : Int32 → Int32 → Int32 → Int32 → MS → Prop) (hK25 : ∀ (x2 : Int32) (x3 : Int32) (x4 : Int32) (x5 : Int32) (u : MS), K25 x2 x3 x4 x5 u → RR l D clX (tysX cs) Ev "DeckFrontModel" b_M_expression 9 w_M_expression (rmD (d + 4)) (some .boolean) (wdM o a cs) (pI post) 0 0 0 0 25 [(0, .ref o), (2, .int x2), (3, .int x3), (4, .int x4), (5, .int x5)] [] u) (x2 : Int32) (x4 : Int32) (x5 : Int32) (s0 : Int32) (u : MS) (h : P_M_expression_426 post K25 x2 x4 x5 s0 u) : RR l D clX (tysX cs) Ev "DeckFrontModel" b_M_expression 9 w_M_expression (rmD (d + 4)) (some .boolean) (wdM o a cs) (pI post) 0 0 0 0 426 [(0, .ref o), (2, .int x2), (4, .int x4), (5, .int x5)] [.int s0, .ref o] u := by
  unfold P_M_expression_426 at h
  refine x_put f_M_179 fw_M_27 (eM_o _ _ _ _) rfl rfl (Nat.le_of_ble_eq_true rfl) (sM_27 _ _ _ _ _) d_M_expression_426 ?_
  refine x_iload (x := x4) d_M_expression_429 rfl ?_
  refine x_if_eq (tgt := 438) d_M_expression_431 rfl (fun hc => ?_) (fun hc => ?_)
  · have h := h.1 hc
    refine x_iload_n (x := x2) d_M_expression_438 rfl ?_
    refine x_iconst (v := 1) d_M_expression_439 (by decide) ?_
    refine x_isub d_M_expression_440 ?_
    refine x_sub [0, 2, 3] rfl ?_
    exact w_M_expression_441 l D cs Ev hE o a d post K25 hK25 x4 x5 (x2 - (1 : Int32)) (sI u 27 s0) h
  · have h := h.2 hc
    refine x_iload_n (x := x2) d_M_expression_434 rfl ?_
    refine x_goto (tgt := 441) d_M_expression_435 rfl ?_
    refine x_sub [0, 2, 3] rfl ?_
    exact w_M_expression_441 l D cs Ev hE o a d post K25 hK25 x4 x5 x2 (sI u 27 s0) h
def P_M_expression_407 (post : Int32 → MS → Prop) (K25 : Int32 → Int32 → Int32 → Int32 → MS → Prop) (x2 : Int32) (x4 : Int32) (x5 : Int32) (u : MS) : Prop := ((x4 = 0 → P_M_expression_426 post K25 x2 x4 x5 ((gI u 27) - (1 : Int32)) u) ∧ (¬ x4 = 0 → P_M_expression_426 post K25 x2 x4 x5 (gI u 27) u))
set_option maxHeartbeats 600000 in
set_option maxRecDepth 100000 in
theorem w_M_expression_407 (l : Launch) (D : va_G) (cs : Nat → ClassId) (Ev : (Nat → Prop) → State → Prop) (hE : xEok Ev) (o : Nat) (a : Nat → Nat) (d : Nat) (post : Int32 → MS → Prop) (K25 : Int32 → Int32 → Int32 → Int32 → MS → Prop) (hK25 : ∀ (x2 : Int32) (x3 : Int32) (x4 : Int32) (x5 : Int32) (u : MS), K25 x2 x3 x4 x5 u → RR l D clX (tysX cs) Ev "DeckFrontModel" b_M_expression 9 w_M_expression (rmD (d + 4)) (some .boolean) (wdM o a cs) (pI post) 0 0 0 0 25 [(0, .ref o), (2, .int x2), (3, .int x3), (4, .int x4), (5, .int x5)] [] u) (x2 : Int32) (x4 : Int32) (x5 : Int32) (u : MS) (h : P_M_expression_407 post K25 x2 x4 x5 u) : RR l D clX (tysX cs) Ev "DeckFrontModel" b_M_expression 9 w_M_expression (rmD (d + 4)) (some .boolean) (wdM o a cs) (pI post) 0 0 0 0 407 [(0, .ref o), (2, .int x2), (4, .int x4), (5, .int x5)] [] u := by
  unfold P_M_expression_407 at h
  refine x_aload_n (x := o) d_M_expression_407 rfl ?_
  refine x_iload (x := x4) d_M_expression_408 rfl ?_
  refine x_if_eq (tgt := 420) d_M_expression_410 rfl (fun hc => ?_) (fun hc => ?_)
  · have h := h.1 hc
    refine x_aload_n (x := o) d_M_expression_420 rfl ?_
    refine x_get (v := .int (gI u 27)) f_M_179 (eM_o _ _ _ _) rfl d_M_expression_421 ?_
    refine x_iconst (v := 1) d_M_expression_424 (by decide) ?_
    refine x_isub d_M_expression_425 ?_
    exact w_M_expression_426 l D cs Ev hE o a d post K25 hK25 x2 x4 x5 ((gI u 27) - (1 : Int32)) u h
  · have h := h.2 hc
    refine x_aload_n (x := o) d_M_expression_413 rfl ?_
    refine x_get (v := .int (gI u 27)) f_M_179 (eM_o _ _ _ _) rfl d_M_expression_414 ?_
    refine x_goto (tgt := 426) d_M_expression_417 rfl ?_
    exact w_M_expression_426 l D cs Ev hE o a d post K25 hK25 x2 x4 x5 (gI u 27) u h
def P_M_expression_386 (post : Int32 → MS → Prop) (K25 : Int32 → Int32 → Int32 → Int32 → MS → Prop) (x2 : Int32) (x5 : Int32) (x7 : Int32) (s0 : Int32) (u : MS) : Prop := ((x7 = 0 → P_M_expression_407 post K25 x2 s0 x5 (sI u 9 ((gI u 9) + (1 : Int32)))) ∧ (¬ x7 = 0 → P_M_joins (fun u4 => P_M_expression_407 post K25 x2 s0 x5 u4) (sI u 9 ((gI u 9) + (1 : Int32)))))
set_option maxHeartbeats 600000 in
set_option maxRecDepth 100000 in
theorem w_M_expression_386 (l : Launch) (D : va_G) (cs : Nat → ClassId) (Ev : (Nat → Prop) → State → Prop) (hE : xEok Ev) (o : Nat) (a : Nat → Nat) (d : Nat) (post : Int32 → MS → Prop) (K25 : Int32 → Int32 → Int32 → Int32 → MS → Prop) (hK25 : ∀ (x2 : Int32) (x3 : Int32) (x4 : Int32) (x5 : Int32) (u : MS), K25 x2 x3 x4 x5 u → RR l D clX (tysX cs) Ev "DeckFrontModel" b_M_expression 9 w_M_expression (rmD (d + 4)) (some .boolean) (wdM o a cs) (pI post) 0 0 0 0 25 [(0, .ref o), (2, .int x2), (3, .int x3), (4, .int x4), (5, .int x5)] [] u) (x2 : Int32) (x5 : Int32) (x7 : Int32) (s0 : Int32) (u : MS) (h : P_M_expression_386 post K25 x2 x5 x7 s0 u) : RR l D clX (tysX cs) Ev "DeckFrontModel" b_M_expression 9 w_M_expression (rmD (d + 4)) (some .boolean) (wdM o a cs) (pI post) 0 0 0 0 386 [(0, .ref o), (2, .int x2), (5, .int x5), (7, .int x7)] [.int s0] u := by
  unfold P_M_expression_386 at h
  refine x_istore (lv' := [(4, .int s0), (0, .ref o), (2, .int x2), (5, .int x5), (7, .int x7)]) d_M_expression_386 (by decide) rfl ?_
  refine x_aload_n (x := o) d_M_expression_388 rfl ?_
  refine x_dup d_M_expression_389 rfl ?_
  refine x_get (v := .int (gI u 9)) f_M_126 (eM_o _ _ _ _) rfl d_M_expression_390 ?_
  refine x_iconst (v := 1) d_M_expression_393 (by decide) ?_
  refine x_iadd d_M_expression_394 ?_
  refine x_put f_M_126 fw_M_9 (eM_o _ _ _ _) rfl rfl (Nat.le_of_ble_eq_true rfl) (sM_9 _ _ _ _ _) d_M_expression_395 ?_
  refine x_iload (x := x7) d_M_expression_398 rfl ?_
  refine x_if_eq (tgt := 407) d_M_expression_400 rfl (fun hc => ?_) (fun hc => ?_)
  · have h := h.1 hc
    refine x_sub [1, 2, 0, 3] rfl ?_
    exact w_M_expression_407 l D cs Ev hE o a d post K25 hK25 x2 s0 x5 (sI u 9 ((gI u 9) + (1 : Int32))) h
  · have h := h.2 hc
    refine x_aload_n (x := o) d_M_expression_403 rfl ?_
    refine x_callV (st := []) k_M_216 rfl (eM_o _ _ _ _) x_id (c_M_joins l D cs Ev hE o a (d + 3) _ (sI u 9 ((gI u 9) + (1 : Int32))) h) hE (rmD_ok (by omega) (by decide)) rfl (Nat.le_of_ble_eq_true rfl) rfl d_M_expression_404 (x_rV (fun u4 h => ?_))
    refine x_sub [1, 2, 0, 3] rfl ?_
    exact w_M_expression_407 l D cs Ev hE o a d post K25 hK25 x2 s0 x5 u4 h
def P_M_expression_368 (post : Int32 → MS → Prop) (K25 : Int32 → Int32 → Int32 → Int32 → MS → Prop) (x2 : Int32) (x5 : Int32) (x7 : Int32) (u : MS) : Prop := (qAt u (gI u 9) ∧ ((¬ (vAt u (gI u 9)) = 44 → P_M_expression_386 post K25 x2 x5 x7 0 u) ∧ ((vAt u (gI u 9)) = 44 → P_M_expression_386 post K25 x2 x5 x7 1 u)))
set_option maxHeartbeats 600000 in
set_option maxRecDepth 100000 in
theorem w_M_expression_368 (l : Launch) (D : va_G) (cs : Nat → ClassId) (Ev : (Nat → Prop) → State → Prop) (hE : xEok Ev) (o : Nat) (a : Nat → Nat) (d : Nat) (post : Int32 → MS → Prop) (K25 : Int32 → Int32 → Int32 → Int32 → MS → Prop) (hK25 : ∀ (x2 : Int32) (x3 : Int32) (x4 : Int32) (x5 : Int32) (u : MS), K25 x2 x3 x4 x5 u → RR l D clX (tysX cs) Ev "DeckFrontModel" b_M_expression 9 w_M_expression (rmD (d + 4)) (some .boolean) (wdM o a cs) (pI post) 0 0 0 0 25 [(0, .ref o), (2, .int x2), (3, .int x3), (4, .int x4), (5, .int x5)] [] u) (x2 : Int32) (x5 : Int32) (x7 : Int32) (u : MS) (h : P_M_expression_368 post K25 x2 x5 x7 u) : RR l D clX (tysX cs) Ev "DeckFrontModel" b_M_expression 9 w_M_expression (rmD (d + 4)) (some .boolean) (wdM o a cs) (pI post) 0 0 0 0 368 [(0, .ref o), (2, .int x2), (5, .int x5), (7, .int x7)] [] u := by
  unfold P_M_expression_368 at h
  refine x_aload_n (x := o) d_M_expression_368 rfl ?_
  refine x_aload_n (x := o) d_M_expression_369 rfl ?_
  refine x_get (v := .int (gI u 9)) f_M_126 (eM_o _ _ _ _) rfl d_M_expression_370 ?_
  refine x_callV (st := []) k_M_129 rfl (eM_o _ _ _ _) x_id (cf_M_at l D cs Ev hE o a (d + 3) (gI u 9) u h.1) hE (rmD_ok (by omega) (by decide)) rfl (Nat.le_of_ble_eq_true rfl) rfl d_M_expression_373 (x_rI (fun x u1 h9 => ?_))
  obtain ⟨rfl, rfl⟩ := h9
  have h := h.2
  refine x_bipush (v := 44) d_M_expression_376 (by decide) ?_
  refine x_icmp_ne (tgt := 385) d_M_expression_378 rfl (fun hc => ?_) (fun hc => ?_)
  · have h := h.1 hc
    refine x_iconst (v := 0) d_M_expression_385 (by decide) ?_
    exact w_M_expression_386 l D cs Ev hE o a d post K25 hK25 x2 x5 x7 0 u h
  · have h := h.2 hc
    refine x_iconst (v := 1) d_M_expression_381 (by decide) ?_
    refine x_goto (tgt := 386) d_M_expression_382 rfl ?_
    exact w_M_expression_386 l D cs Ev hE o a d post K25 hK25 x2 x5 x7 1 u h
def P_M_expression_333 (post : Int32 → MS → Prop) (K25 : Int32 → Int32 → Int32 → Int32 → MS → Prop) (x2 : Int32) (x5 : Int32) (s0 : Int32) (u : MS) : Prop := (qAt u (gI u 9) ∧ (((vAt u (gI u 9)) = 41 → P_M_expression_368 post K25 x2 x5 s0 u) ∧ (¬ (vAt u (gI u 9)) = 41 → (qAt u (gI u 9) ∧ ((¬ (vAt u (gI u 9)) = 44 → post 0 u) ∧ ((vAt u (gI u 9)) = 44 → ((¬ s0 = 0 → P_M_expression_368 post K25 x2 x5 s0 u) ∧ (s0 = 0 → post 0 u))))))))
set_option maxHeartbeats 600000 in
set_option maxRecDepth 100000 in
theorem w_M_expression_333 (l : Launch) (D : va_G) (cs : Nat → ClassId) (Ev : (Nat → Prop) → State → Prop) (hE : xEok Ev) (o : Nat) (a : Nat → Nat) (d : Nat) (post : Int32 → MS → Prop) (K25 : Int32 → Int32 → Int32 → Int32 → MS → Prop) (hK25 : ∀ (x2 : Int32) (x3 : Int32) (x4 : Int32) (x5 : Int32) (u : MS), K25 x2 x3 x4 x5 u → RR l D clX (tysX cs) Ev "DeckFrontModel" b_M_expression 9 w_M_expression (rmD (d + 4)) (some .boolean) (wdM o a cs) (pI post) 0 0 0 0 25 [(0, .ref o), (2, .int x2), (3, .int x3), (4, .int x4), (5, .int x5)] [] u) (x2 : Int32) (x5 : Int32) (s0 : Int32) (u : MS) (h : P_M_expression_333 post K25 x2 x5 s0 u) : RR l D clX (tysX cs) Ev "DeckFrontModel" b_M_expression 9 w_M_expression (rmD (d + 4)) (some .boolean) (wdM o a cs) (pI post) 0 0 0 0 333 [(0, .ref o), (2, .int x2), (5, .int x5)] [.int s0] u := by
  unfold P_M_expression_333 at h
  refine x_istore (lv' := [(7, .int s0), (0, .ref o), (2, .int x2), (5, .int x5)]) d_M_expression_333 (by decide) rfl ?_
  refine x_aload_n (x := o) d_M_expression_335 rfl ?_
  refine x_aload_n (x := o) d_M_expression_336 rfl ?_
  refine x_get (v := .int (gI u 9)) f_M_126 (eM_o _ _ _ _) rfl d_M_expression_337 ?_
  refine x_callV (st := []) k_M_129 rfl (eM_o _ _ _ _) x_id (cf_M_at l D cs Ev hE o a (d + 3) (gI u 9) u h.1) hE (rmD_ok (by omega) (by decide)) rfl (Nat.le_of_ble_eq_true rfl) rfl d_M_expression_340 (x_rI (fun x u1 h9 => ?_))
  obtain ⟨rfl, rfl⟩ := h9
  have h := h.2
  refine x_bipush (v := 41) d_M_expression_343 (by decide) ?_
  refine x_icmp_eq (tgt := 368) d_M_expression_345 rfl (fun hc => ?_) (fun hc => ?_)
  · have h := h.1 hc
    refine x_sub [1, 2, 3, 0] rfl ?_
    exact w_M_expression_368 l D cs Ev hE o a d post K25 hK25 x2 x5 s0 u h
  · have h := h.2 hc
    refine x_aload_n (x := o) d_M_expression_348 rfl ?_
    refine x_aload_n (x := o) d_M_expression_349 rfl ?_
    refine x_get (v := .int (gI u 9)) f_M_126 (eM_o _ _ _ _) rfl d_M_expression_350 ?_
    refine x_callV (st := []) k_M_129 rfl (eM_o _ _ _ _) x_id (cf_M_at l D cs Ev hE o a (d + 3) (gI u 9) u h.1) hE (rmD_ok (by omega) (by decide)) rfl (Nat.le_of_ble_eq_true rfl) rfl d_M_expression_353 (x_rI (fun x u1 h9 => ?_))
    obtain ⟨rfl, rfl⟩ := h9
    have h := h.2
    refine x_bipush (v := 44) d_M_expression_356 (by decide) ?_
    refine x_icmp_ne (tgt := 366) d_M_expression_358 rfl (fun hc => ?_) (fun hc => ?_)
    · have h := h.1 hc
      refine x_iconst (v := 0) d_M_expression_366 (by decide) ?_
      refine x_zret rfl d_M_expression_367 ⟨_, rfl, ?_⟩
      exact h
    · have h := h.2 hc
      refine x_iload (x := s0) d_M_expression_361 rfl ?_
      refine x_if_ne (tgt := 368) d_M_expression_363 rfl (fun hc => ?_) (fun hc => ?_)
      · have h := h.1 hc
        refine x_sub [1, 2, 3, 0] rfl ?_
        exact w_M_expression_368 l D cs Ev hE o a d post K25 hK25 x2 x5 s0 u h
      · have h := h.2 hc
        refine x_iconst (v := 0) d_M_expression_366 (by decide) ?_
        refine x_zret rfl d_M_expression_367 ⟨_, rfl, ?_⟩
        exact h
def P_M_expression_288 (post : Int32 → MS → Prop) (K25 : Int32 → Int32 → Int32 → Int32 → MS → Prop) (x2 : Int32) (x5 : Int32) (u : MS) : Prop := P_M_reduce (fun u3 => ((¬ (gI u3 27) = 0 → (vp_in ((gI u3 27) - (1 : Int32)) 100 ∧ ((¬ (gA u3 28 ((gI u3 27) - (1 : Int32)).toNatClampNeg) = 9 → P_M_expression_333 post K25 x2 x5 0 u3) ∧ ((gA u3 28 ((gI u3 27) - (1 : Int32)).toNatClampNeg) = 9 → P_M_expression_333 post K25 x2 x5 1 u3)))) ∧ ((gI u3 27) = 0 → (vp_in (0 : Int32) 100 ∧ P_M_print (fun u5 => post 1 u5) (gA u3 26 (0 : Int32).toNatClampNeg) u3)))) (1 : Int32) u
set_option maxHeartbeats 600000 in
set_option maxRecDepth 100000 in
theorem w_M_expression_288 (l : Launch) (D : va_G) (cs : Nat → ClassId) (Ev : (Nat → Prop) → State → Prop) (hE : xEok Ev) (o : Nat) (a : Nat → Nat) (d : Nat) (post : Int32 → MS → Prop) (K25 : Int32 → Int32 → Int32 → Int32 → MS → Prop) (hK25 : ∀ (x2 : Int32) (x3 : Int32) (x4 : Int32) (x5 : Int32) (u : MS), K25 x2 x3 x4 x5 u → RR l D clX (tysX cs) Ev "DeckFrontModel" b_M_expression 9 w_M_expression (rmD (d + 4)) (some .boolean) (wdM o a cs) (pI post) 0 0 0 0 25 [(0, .ref o), (2, .int x2), (3, .int x3), (4, .int x4), (5, .int x5)] [] u) (x2 : Int32) (x5 : Int32) (u : MS) (h : P_M_expression_288 post K25 x2 x5 u) : RR l D clX (tysX cs) Ev "DeckFrontModel" b_M_expression 9 w_M_expression (rmD (d + 4)) (some .boolean) (wdM o a cs) (pI post) 0 0 0 0 288 [(0, .ref o), (2, .int x2), (5, .int x5)] [] u := by
  unfold P_M_expression_288 at h
  refine x_aload_n (x := o) d_M_expression_288 rfl ?_
  refine x_iconst (v := 1) d_M_expression_289 (by decide) ?_
  refine x_callV (st := []) k_M_210 rfl (eM_o _ _ _ _) x_id (c_M_reduce l D cs Ev hE o a (d + 2) _ (1 : Int32) u h) hE (rmD_ok (by omega) (by decide)) rfl (Nat.le_of_ble_eq_true rfl) rfl d_M_expression_290 (x_rV (fun u3 h => ?_))
  refine x_aload_n (x := o) d_M_expression_293 rfl ?_
  refine x_get (v := .int (gI u3 27)) f_M_179 (eM_o _ _ _ _) rfl d_M_expression_294 ?_
  refine x_if_ne (tgt := 312) d_M_expression_297 rfl (fun hc => ?_) (fun hc => ?_)
  · have h := h.1 hc
    refine x_aload_n (x := o) d_M_expression_312 rfl ?_
    refine x_get (v := .ref (a 28)) f_M_60 (eM_o _ _ _ _) rfl d_M_expression_313 ?_
    refine x_aload_n (x := o) d_M_expression_316 rfl ?_
    refine x_get (v := .int (gI u3 27)) f_M_179 (eM_o _ _ _ _) rfl d_M_expression_317 ?_
    refine x_iconst (v := 1) d_M_expression_320 (by decide) ?_
    refine x_isub d_M_expression_321 ?_
    refine x_iald (t0 := 0) (eM_28 _ _ _ _) rfl h.1 d_M_expression_322 ?_
    have h := h.2
    refine x_bipush (v := 9) d_M_expression_323 (by decide) ?_
    refine x_icmp_ne (tgt := 332) d_M_expression_325 rfl (fun hc => ?_) (fun hc => ?_)
    · have h := h.1 hc
      refine x_iconst (v := 0) d_M_expression_332 (by decide) ?_
      exact w_M_expression_333 l D cs Ev hE o a d post K25 hK25 x2 x5 0 u3 h
    · have h := h.2 hc
      refine x_iconst (v := 1) d_M_expression_328 (by decide) ?_
      refine x_goto (tgt := 333) d_M_expression_329 rfl ?_
      exact w_M_expression_333 l D cs Ev hE o a d post K25 hK25 x2 x5 1 u3 h
  · have h := h.2 hc
    refine x_aload_n (x := o) d_M_expression_300 rfl ?_
    refine x_aload_n (x := o) d_M_expression_301 rfl ?_
    refine x_get (v := .ref (a 26)) f_M_57 (eM_o _ _ _ _) rfl d_M_expression_302 ?_
    refine x_iconst (v := 0) d_M_expression_305 (by decide) ?_
    refine x_iald (t0 := 0) (eM_26 _ _ _ _) rfl h.1 d_M_expression_306 ?_
    have h := h.2
    refine x_callV (st := []) k_M_213 rfl (eM_o _ _ _ _) x_id (c_M_print l D cs Ev hE o a (d + 1) _ (gA u3 26 (0 : Int32).toNatClampNeg) u3 h) hE (rmD_ok (by omega) (by decide)) rfl (Nat.le_of_ble_eq_true rfl) rfl d_M_expression_307 (x_rV (fun u5 h => ?_))
    refine x_iconst (v := 1) d_M_expression_310 (by decide) ?_
    refine x_zret rfl d_M_expression_311 ⟨_, rfl, ?_⟩
    exact h
def P_M_expression_284 (post : Int32 → MS → Prop) (K25 : Int32 → Int32 → Int32 → Int32 → MS → Prop) (x2 : Int32) (x4 : Int32) (x5 : Int32) (s0 : Int32) (u : MS) : Prop := P_M_expression_444 post K25 x2 s0 x4 x5 u
set_option maxHeartbeats 600000 in
set_option maxRecDepth 100000 in
theorem w_M_expression_284 (l : Launch) (D : va_G) (cs : Nat → ClassId) (Ev : (Nat → Prop) → State → Prop) (hE : xEok Ev) (o : Nat) (a : Nat → Nat) (d : Nat) (post : Int32 → MS → Prop) (K25 : Int32 → Int32 → Int32 → Int32 → MS → Prop) (hK25 : ∀ (x2 : Int32) (x3 : Int32) (x4 : Int32) (x5 : Int32) (u : MS), K25 x2 x3 x4 x5 u → RR l D clX (tysX cs) Ev "DeckFrontModel" b_M_expression 9 w_M_expression (rmD (d + 4)) (some .boolean) (wdM o a cs) (pI post) 0 0 0 0 25 [(0, .ref o), (2, .int x2), (3, .int x3), (4, .int x4), (5, .int x5)] [] u) (x2 : Int32) (x4 : Int32) (x5 : Int32) (s0 : Int32) (u : MS) (h : P_M_expression_284 post K25 x2 x4 x5 s0 u) : RR l D clX (tysX cs) Ev "DeckFrontModel" b_M_expression 9 w_M_expression (rmD (d + 4)) (some .boolean) (wdM o a cs) (pI post) 0 0 0 0 284 [(0, .ref o), (2, .int x2), (4, .int x4), (5, .int x5)] [.int s0] u := by
  unfold P_M_expression_284 at h
  refine x_istore_n (lv' := [(3, .int s0), (0, .ref o), (2, .int x2), (4, .int x4), (5, .int x5)]) d_M_expression_284 (by decide) rfl ?_
  refine x_goto (tgt := 444) d_M_expression_285 rfl ?_
  refine x_sub [1, 2, 0, 3, 4] rfl ?_
  exact w_M_expression_444 l D cs Ev hE o a d post K25 hK25 x2 s0 x4 x5 u h
def P_M_expression_269 (post : Int32 → MS → Prop) (K25 : Int32 → Int32 → Int32 → Int32 → MS → Prop) (x2 : Int32) (x4 : Int32) (x5 : Int32) (u : MS) : Prop := P_M_expression_284 post K25 x2 x4 x5 2 u
set_option maxHeartbeats 600000 in
set_option maxRecDepth 100000 in
theorem w_M_expression_269 (l : Launch) (D : va_G) (cs : Nat → ClassId) (Ev : (Nat → Prop) → State → Prop) (hE : xEok Ev) (o : Nat) (a : Nat → Nat) (d : Nat) (post : Int32 → MS → Prop) (K25 : Int32 → Int32 → Int32 → Int32 → MS → Prop) (hK25 : ∀ (x2 : Int32) (x3 : Int32) (x4 : Int32) (x5 : Int32) (u : MS), K25 x2 x3 x4 x5 u → RR l D clX (tysX cs) Ev "DeckFrontModel" b_M_expression 9 w_M_expression (rmD (d + 4)) (some .boolean) (wdM o a cs) (pI post) 0 0 0 0 25 [(0, .ref o), (2, .int x2), (3, .int x3), (4, .int x4), (5, .int x5)] [] u) (x2 : Int32) (x4 : Int32) (x5 : Int32) (u : MS) (h : P_M_expression_269 post K25 x2 x4 x5 u) : RR l D clX (tysX cs) Ev "DeckFrontModel" b_M_expression 9 w_M_expression (rmD (d + 4)) (some .boolean) (wdM o a cs) (pI post) 0 0 0 0 269 [(0, .ref o), (2, .int x2), (4, .int x4), (5, .int x5)] [] u := by
  unfold P_M_expression_269 at h
  refine x_iconst (v := 2) d_M_expression_269 (by decide) ?_
  refine x_goto (tgt := 284) d_M_expression_270 rfl ?_
  exact w_M_expression_284 l D cs Ev hE o a d post K25 hK25 x2 x4 x5 2 u h
def P_M_expression_238 (post : Int32 → MS → Prop) (K25 : Int32 → Int32 → Int32 → Int32 → MS → Prop) (x2 : Int32) (x5 : Int32) (x6 : Int32) (x7 : Int32) (s0 : Int32) (u : MS) : Prop := P_M_reduce (fun u7 => P_M_push (fun u8 => ((x6 = 1 → P_M_expression_269 post K25 x2 1 x5 u8) ∧ (¬ x6 = 1 → ((¬ x6 = 2 → ((¬ x6 = 4 → P_M_expression_284 post K25 x2 1 x5 0 u8) ∧ (x6 = 4 → P_M_expression_284 post K25 x2 1 x5 1 u8))) ∧ (x6 = 2 → P_M_expression_269 post K25 x2 1 x5 u8))))) x6 x7 (gI u7 9) (0 : Int32) u7) s0 u
set_option maxHeartbeats 600000 in
set_option maxRecDepth 100000 in
theorem w_M_expression_238 (l : Launch) (D : va_G) (cs : Nat → ClassId) (Ev : (Nat → Prop) → State → Prop) (hE : xEok Ev) (o : Nat) (a : Nat → Nat) (d : Nat) (post : Int32 → MS → Prop) (K25 : Int32 → Int32 → Int32 → Int32 → MS → Prop) (hK25 : ∀ (x2 : Int32) (x3 : Int32) (x4 : Int32) (x5 : Int32) (u : MS), K25 x2 x3 x4 x5 u → RR l D clX (tysX cs) Ev "DeckFrontModel" b_M_expression 9 w_M_expression (rmD (d + 4)) (some .boolean) (wdM o a cs) (pI post) 0 0 0 0 25 [(0, .ref o), (2, .int x2), (3, .int x3), (4, .int x4), (5, .int x5)] [] u) (x2 : Int32) (x5 : Int32) (x6 : Int32) (x7 : Int32) (s0 : Int32) (u : MS) (h : P_M_expression_238 post K25 x2 x5 x6 x7 s0 u) : RR l D clX (tysX cs) Ev "DeckFrontModel" b_M_expression 9 w_M_expression (rmD (d + 4)) (some .boolean) (wdM o a cs) (pI post) 0 0 0 0 238 [(0, .ref o), (2, .int x2), (5, .int x5), (6, .int x6), (7, .int x7)] [.int s0, .ref o] u := by
  unfold P_M_expression_238 at h
  refine x_callV (st := []) k_M_210 rfl (eM_o _ _ _ _) x_id (c_M_reduce l D cs Ev hE o a (d + 2) _ s0 u h) hE (rmD_ok (by omega) (by decide)) rfl (Nat.le_of_ble_eq_true rfl) rfl d_M_expression_238 (x_rV (fun u7 h => ?_))
  refine x_aload_n (x := o) d_M_expression_241 rfl ?_
  refine x_iload (x := x6) d_M_expression_242 rfl ?_
  refine x_iload (x := x7) d_M_expression_244 rfl ?_
  refine x_aload_n (x := o) d_M_expression_246 rfl ?_
  refine x_get (v := .int (gI u7 9)) f_M_126 (eM_o _ _ _ _) rfl d_M_expression_247 ?_
  refine x_iconst (v := 0) d_M_expression_250 (by decide) ?_
  refine x_callV (st := []) k_M_192 rfl (eM_o _ _ _ _) x_id (c_M_push l D cs Ev hE o a (d + 3) _ x6 x7 (gI u7 9) (0 : Int32) u7 h) hE (rmD_ok (by omega) (by decide)) rfl (Nat.le_of_ble_eq_true rfl) rfl d_M_expression_251 (x_rV (fun u8 h => ?_))
  refine x_iconst (v := 1) d_M_expression_254 (by decide) ?_
  refine x_istore (lv' := [(4, .int 1), (0, .ref o), (2, .int x2), (5, .int x5), (6, .int x6), (7, .int x7)]) d_M_expression_255 (by decide) rfl ?_
  refine x_iload (x := x6) d_M_expression_257 rfl ?_
  refine x_iconst (v := 1) d_M_expression_259 (by decide) ?_
  refine x_icmp_eq (tgt := 269) d_M_expression_260 rfl (fun hc => ?_) (fun hc => ?_)
  · have h := h.1 hc
    refine x_sub [1, 2, 0, 3] rfl ?_
    exact w_M_expression_269 l D cs Ev hE o a d post K25 hK25 x2 1 x5 u8 h
  · have h := h.2 hc
    refine x_iload (x := x6) d_M_expression_263 rfl ?_
    refine x_iconst (v := 2) d_M_expression_265 (by decide) ?_
    refine x_icmp_ne (tgt := 273) d_M_expression_266 rfl (fun hc => ?_) (fun hc => ?_)
    · have h := h.1 hc
      refine x_iload (x := x6) d_M_expression_273 rfl ?_
      refine x_iconst (v := 4) d_M_expression_275 (by decide) ?_
      refine x_icmp_ne (tgt := 283) d_M_expression_276 rfl (fun hc => ?_) (fun hc => ?_)
      · have h := h.1 hc
        refine x_iconst (v := 0) d_M_expression_283 (by decide) ?_
        refine x_sub [1, 2, 0, 3] rfl ?_
        exact w_M_expression_284 l D cs Ev hE o a d post K25 hK25 x2 1 x5 0 u8 h
      · have h := h.2 hc
        refine x_iconst (v := 1) d_M_expression_279 (by decide) ?_
        refine x_goto (tgt := 284) d_M_expression_280 rfl ?_
        refine x_sub [1, 2, 0, 3] rfl ?_
        exact w_M_expression_284 l D cs Ev hE o a d post K25 hK25 x2 1 x5 1 u8 h
    · have h := h.2 hc
      refine x_sub [1, 2, 0, 3] rfl ?_
      exact w_M_expression_269 l D cs Ev hE o a d post K25 hK25 x2 1 x5 u8 h
def P_M_expression_220 (post : Int32 → MS → Prop) (K25 : Int32 → Int32 → Int32 → Int32 → MS → Prop) (x2 : Int32) (x5 : Int32) (x6 : Int32) (x7 : Int32) (s0 : Int32) (u : MS) : Prop := ((¬ x6 = 7 → P_M_expression_238 post K25 x2 x5 x6 x7 x6 (sI u 9 s0)) ∧ (x6 = 7 → P_M_expression_238 post K25 x2 x5 x6 x7 8 (sI u 9 s0)))
set_option maxHeartbeats 600000 in
set_option maxRecDepth 100000 in
theorem w_M_expression_220 (l : Launch) (D : va_G) (cs : Nat → ClassId) (Ev : (Nat → Prop) → State → Prop) (hE : xEok Ev) (o : Nat) (a : Nat → Nat) (d : Nat) (post : Int32 → MS → Prop) (K25 : Int32 → Int32 → Int32 → Int32 → MS → Prop) (hK25 : ∀ (x2 : Int32) (x3 : Int32) (x4 : Int32) (x5 : Int32) (u : MS), K25 x2 x3 x4 x5 u → RR l D clX (tysX cs) Ev "DeckFrontModel" b_M_expression 9 w_M_expression (rmD (d + 4)) (some .boolean) (wdM o a cs) (pI post) 0 0 0 0 25 [(0, .ref o), (2, .int x2), (3, .int x3), (4, .int x4), (5, .int x5)] [] u) (x2 : Int32) (x5 : Int32) (x6 : Int32) (x7 : Int32) (s0 : Int32) (u : MS) (h : P_M_expression_220 post K25 x2 x5 x6 x7 s0 u) : RR l D clX (tysX cs) Ev "DeckFrontModel" b_M_expression 9 w_M_expression (rmD (d + 4)) (some .boolean) (wdM o a cs) (pI post) 0 0 0 0 220 [(0, .ref o), (2, .int x2), (5, .int x5), (6, .int x6), (7, .int x7)] [.int s0, .ref o] u := by
  unfold P_M_expression_220 at h
  refine x_put f_M_126 fw_M_9 (eM_o _ _ _ _) rfl rfl (Nat.le_of_ble_eq_true rfl) (sM_9 _ _ _ _ _) d_M_expression_220 ?_
  refine x_aload_n (x := o) d_M_expression_223 rfl ?_
  refine x_iload (x := x6) d_M_expression_224 rfl ?_
  refine x_bipush (v := 7) d_M_expression_226 (by decide) ?_
  refine x_icmp_ne (tgt := 236) d_M_expression_228 rfl (fun hc => ?_) (fun hc => ?_)
  · have h := h.1 hc
    refine x_iload (x := x6) d_M_expression_236 rfl ?_
    exact w_M_expression_238 l D cs Ev hE o a d post K25 hK25 x2 x5 x6 x7 x6 (sI u 9 s0) h
  · have h := h.2 hc
    refine x_bipush (v := 8) d_M_expression_231 (by decide) ?_
    refine x_goto (tgt := 238) d_M_expression_233 rfl ?_
    exact w_M_expression_238 l D cs Ev hE o a d post K25 hK25 x2 x5 x6 x7 8 (sI u 9 s0) h
def P_M_expression_174 (post : Int32 → MS → Prop) (K25 : Int32 → Int32 → Int32 → Int32 → MS → Prop) (x2 : Int32) (x5 : Int32) (x6 : Int32) (u : MS) : Prop := (∀ v6, v6 = (gI u 9) → ((¬ x6 = 7 → ((5 ≤ x6 → P_M_expression_220 post K25 x2 x5 x6 v6 ((gI u 9) + (1 : Int32)) u) ∧ (¬ 5 ≤ x6 → P_M_dotted (fun r10 u9 => P_M_expression_220 post K25 x2 x5 x6 v6 r10 u9) (gI u 9) u))) ∧ (x6 = 7 → P_M_expression_220 post K25 x2 x5 x6 v6 ((gI u 9) + (2 : Int32)) u)))
set_option maxHeartbeats 600000 in
set_option maxRecDepth 100000 in
theorem w_M_expression_174 (l : Launch) (D : va_G) (cs : Nat → ClassId) (Ev : (Nat → Prop) → State → Prop) (hE : xEok Ev) (o : Nat) (a : Nat → Nat) (d : Nat) (post : Int32 → MS → Prop) (K25 : Int32 → Int32 → Int32 → Int32 → MS → Prop) (hK25 : ∀ (x2 : Int32) (x3 : Int32) (x4 : Int32) (x5 : Int32) (u : MS), K25 x2 x3 x4 x5 u → RR l D clX (tysX cs) Ev "DeckFrontModel" b_M_expression 9 w_M_expression (rmD (d + 4)) (some .boolean) (wdM o a cs) (pI post) 0 0 0 0 25 [(0, .ref o), (2, .int x2), (3, .int x3), (4, .int x4), (5, .int x5)] [] u) (x2 : Int32) (x5 : Int32) (x6 : Int32) (u : MS) (h : P_M_expression_174 post K25 x2 x5 x6 u) : RR l D clX (tysX cs) Ev "DeckFrontModel" b_M_expression 9 w_M_expression (rmD (d + 4)) (some .boolean) (wdM o a cs) (pI post) 0 0 0 0 174 [(0, .ref o), (2, .int x2), (5, .int x5), (6, .int x6)] [] u := by
  unfold P_M_expression_174 at h
  refine x_aload_n (x := o) d_M_expression_174 rfl ?_
  refine x_get (v := .int (gI u 9)) f_M_126 (eM_o _ _ _ _) rfl d_M_expression_175 ?_
  refine x_topI (fun v6 ev6 => ?_)
  have h := h v6 ev6
  refine x_istore (lv' := [(7, .int v6), (0, .ref o), (2, .int x2), (5, .int x5), (6, .int x6)]) d_M_expression_178 (by decide) rfl ?_
  refine x_aload_n (x := o) d_M_expression_180 rfl ?_
  refine x_iload (x := x6) d_M_expression_181 rfl ?_
  refine x_bipush (v := 7) d_M_expression_183 (by decide) ?_
  refine x_icmp_ne (tgt := 197) d_M_expression_185 rfl (fun hc => ?_) (fun hc => ?_)
  · have h := h.1 hc
    refine x_iload (x := x6) d_M_expression_197 rfl ?_
    refine x_iconst (v := 5) d_M_expression_199 (by decide) ?_
    refine x_icmp_ge (tgt := 214) d_M_expression_200 rfl (fun hc => ?_) (fun hc => ?_)
    · have h := h.1 hc
      refine x_aload_n (x := o) d_M_expression_214 rfl ?_
      refine x_get (v := .int (gI u 9)) f_M_126 (eM_o _ _ _ _) rfl d_M_expression_215 ?_
      refine x_iconst (v := 1) d_M_expression_218 (by decide) ?_
      refine x_iadd d_M_expression_219 ?_
      refine x_sub [1, 2, 3, 4, 0] rfl ?_
      exact w_M_expression_220 l D cs Ev hE o a d post K25 hK25 x2 x5 x6 v6 ((gI u 9) + (1 : Int32)) u h
    · have h := h.2 hc
      refine x_aload_n (x := o) d_M_expression_203 rfl ?_
      refine x_aload_n (x := o) d_M_expression_204 rfl ?_
      refine x_get (v := .int (gI u 9)) f_M_126 (eM_o _ _ _ _) rfl d_M_expression_205 ?_
      refine x_callV (st := [.ref o]) k_M_196 rfl (eM_o _ _ _ _) x_id (c_M_dotted l D cs Ev hE o a (d + 2) _ (gI u 9) u h) hE (rmD_ok (by omega) (by decide)) rfl (Nat.le_of_ble_eq_true rfl) rfl d_M_expression_208 (x_rI (fun r10 u9 h => ?_))
      refine x_goto (tgt := 220) d_M_expression_211 rfl ?_
      refine x_sub [1, 2, 3, 4, 0] rfl ?_
      exact w_M_expression_220 l D cs Ev hE o a d post K25 hK25 x2 x5 x6 v6 r10 u9 h
  · have h := h.2 hc
    refine x_aload_n (x := o) d_M_expression_188 rfl ?_
    refine x_get (v := .int (gI u 9)) f_M_126 (eM_o _ _ _ _) rfl d_M_expression_189 ?_
    refine x_iconst (v := 2) d_M_expression_192 (by decide) ?_
    refine x_iadd d_M_expression_193 ?_
    refine x_goto (tgt := 220) d_M_expression_194 rfl ?_
    refine x_sub [1, 2, 3, 4, 0] rfl ?_
    exact w_M_expression_220 l D cs Ev hE o a d post K25 hK25 x2 x5 x6 v6 ((gI u 9) + (2 : Int32)) u h
def P_M_expression_146 (post : Int32 → MS → Prop) (K25 : Int32 → Int32 → Int32 → Int32 → MS → Prop) (x2 : Int32) (x4 : Int32) (x5 : Int32) (s0 : Int32) (u : MS) : Prop := P_M_expression_444 post K25 x2 s0 x4 x5 u
set_option maxHeartbeats 600000 in
set_option maxRecDepth 100000 in
theorem w_M_expression_146 (l : Launch) (D : va_G) (cs : Nat → ClassId) (Ev : (Nat → Prop) → State → Prop) (hE : xEok Ev) (o : Nat) (a : Nat → Nat) (d : Nat) (post : Int32 → MS → Prop) (K25 : Int32 → Int32 → Int32 → Int32 → MS → Prop) (hK25 : ∀ (x2 : Int32) (x3 : Int32) (x4 : Int32) (x5 : Int32) (u : MS), K25 x2 x3 x4 x5 u → RR l D clX (tysX cs) Ev "DeckFrontModel" b_M_expression 9 w_M_expression (rmD (d + 4)) (some .boolean) (wdM o a cs) (pI post) 0 0 0 0 25 [(0, .ref o), (2, .int x2), (3, .int x3), (4, .int x4), (5, .int x5)] [] u) (x2 : Int32) (x4 : Int32) (x5 : Int32) (s0 : Int32) (u : MS) (h : P_M_expression_146 post K25 x2 x4 x5 s0 u) : RR l D clX (tysX cs) Ev "DeckFrontModel" b_M_expression 9 w_M_expression (rmD (d + 4)) (some .boolean) (wdM o a cs) (pI post) 0 0 0 0 146 [(0, .ref o), (2, .int x2), (4, .int x4), (5, .int x5)] [.int s0] u := by
  unfold P_M_expression_146 at h
  refine x_istore_n (lv' := [(3, .int s0), (0, .ref o), (2, .int x2), (4, .int x4), (5, .int x5)]) d_M_expression_146 (by decide) rfl ?_
  refine x_goto (tgt := 444) d_M_expression_147 rfl ?_
  refine x_sub [1, 2, 0, 3, 4] rfl ?_
  exact w_M_expression_444 l D cs Ev hE o a d post K25 hK25 x2 s0 x4 x5 u h
def P_M_expression_141 (post : Int32 → MS → Prop) (K25 : Int32 → Int32 → Int32 → Int32 → MS → Prop) (x2 : Int32) (x4 : Int32) (x5 : Int32) (u : MS) : Prop := P_M_expression_146 post K25 x2 x4 x5 2 u
set_option maxHeartbeats 600000 in
set_option maxRecDepth 100000 in
theorem w_M_expression_141 (l : Launch) (D : va_G) (cs : Nat → ClassId) (Ev : (Nat → Prop) → State → Prop) (hE : xEok Ev) (o : Nat) (a : Nat → Nat) (d : Nat) (post : Int32 → MS → Prop) (K25 : Int32 → Int32 → Int32 → Int32 → MS → Prop) (hK25 : ∀ (x2 : Int32) (x3 : Int32) (x4 : Int32) (x5 : Int32) (u : MS), K25 x2 x3 x4 x5 u → RR l D clX (tysX cs) Ev "DeckFrontModel" b_M_expression 9 w_M_expression (rmD (d + 4)) (some .boolean) (wdM o a cs) (pI post) 0 0 0 0 25 [(0, .ref o), (2, .int x2), (3, .int x3), (4, .int x4), (5, .int x5)] [] u) (x2 : Int32) (x4 : Int32) (x5 : Int32) (u : MS) (h : P_M_expression_141 post K25 x2 x4 x5 u) : RR l D clX (tysX cs) Ev "DeckFrontModel" b_M_expression 9 w_M_expression (rmD (d + 4)) (some .boolean) (wdM o a cs) (pI post) 0 0 0 0 141 [(0, .ref o), (2, .int x2), (4, .int x4), (5, .int x5)] [] u := by
  unfold P_M_expression_141 at h
  refine x_iconst (v := 2) d_M_expression_141 (by decide) ?_
  refine x_goto (tgt := 146) d_M_expression_142 rfl ?_
  exact w_M_expression_146 l D cs Ev hE o a d post K25 hK25 x2 x4 x5 2 u h
def P_M_expression_145 (post : Int32 → MS → Prop) (K25 : Int32 → Int32 → Int32 → Int32 → MS → Prop) (x2 : Int32) (x4 : Int32) (x5 : Int32) (u : MS) : Prop := P_M_expression_146 post K25 x2 x4 x5 0 u
set_option maxHeartbeats 600000 in
set_option maxRecDepth 100000 in
theorem w_M_expression_145 (l : Launch) (D : va_G) (cs : Nat → ClassId) (Ev : (Nat → Prop) → State → Prop) (hE : xEok Ev) (o : Nat) (a : Nat → Nat) (d : Nat) (post : Int32 → MS → Prop) (K25 : Int32 → Int32 → Int32 → Int32 → MS → Prop) (hK25 : ∀ (x2 : Int32) (x3 : Int32) (x4 : Int32) (x5 : Int32) (u : MS), K25 x2 x3 x4 x5 u → RR l D clX (tysX cs) Ev "DeckFrontModel" b_M_expression 9 w_M_expression (rmD (d + 4)) (some .boolean) (wdM o a cs) (pI post) 0 0 0 0 25 [(0, .ref o), (2, .int x2), (3, .int x3), (4, .int x4), (5, .int x5)] [] u) (x2 : Int32) (x4 : Int32) (x5 : Int32) (u : MS) (h : P_M_expression_145 post K25 x2 x4 x5 u) : RR l D clX (tysX cs) Ev "DeckFrontModel" b_M_expression 9 w_M_expression (rmD (d + 4)) (some .boolean) (wdM o a cs) (pI post) 0 0 0 0 145 [(0, .ref o), (2, .int x2), (4, .int x4), (5, .int x5)] [] u := by
  unfold P_M_expression_145 at h
  refine x_iconst (v := 0) d_M_expression_145 (by decide) ?_
  exact w_M_expression_146 l D cs Ev hE o a d post K25 hK25 x2 x4 x5 0 u h
def P_M_expression_115 (post : Int32 → MS → Prop) (K25 : Int32 → Int32 → Int32 → Int32 → MS → Prop) (x4 : Int32) (x5 : Int32) (x8 : Int32) (s0 : Int32) (u : MS) : Prop := ((¬ x8 = 0 → P_M_expression_141 post K25 s0 x4 x5 u) ∧ (x8 = 0 → ((x4 = 0 → P_M_expression_145 post K25 s0 x4 x5 u) ∧ (¬ x4 = 0 → (vp_in ((gI u 27) - (1 : Int32)) 100 ∧ ((¬ (gA u 28 ((gI u 27) - (1 : Int32)).toNatClampNeg) = 3 → P_M_expression_145 post K25 s0 x4 x5 u) ∧ ((gA u 28 ((gI u 27) - (1 : Int32)).toNatClampNeg) = 3 → P_M_expression_141 post K25 s0 x4 x5 u)))))))
set_option maxHeartbeats 600000 in
set_option maxRecDepth 100000 in
theorem w_M_expression_115 (l : Launch) (D : va_G) (cs : Nat → ClassId) (Ev : (Nat → Prop) → State → Prop) (hE : xEok Ev) (o : Nat) (a : Nat → Nat) (d : Nat) (post : Int32 → MS → Prop) (K25 : Int32 → Int32 → Int32 → Int32 → MS → Prop) (hK25 : ∀ (x2 : Int32) (x3 : Int32) (x4 : Int32) (x5 : Int32) (u : MS), K25 x2 x3 x4 x5 u → RR l D clX (tysX cs) Ev "DeckFrontModel" b_M_expression 9 w_M_expression (rmD (d + 4)) (some .boolean) (wdM o a cs) (pI post) 0 0 0 0 25 [(0, .ref o), (2, .int x2), (3, .int x3), (4, .int x4), (5, .int x5)] [] u) (x4 : Int32) (x5 : Int32) (x8 : Int32) (s0 : Int32) (u : MS) (h : P_M_expression_115 post K25 x4 x5 x8 s0 u) : RR l D clX (tysX cs) Ev "DeckFrontModel" b_M_expression 9 w_M_expression (rmD (d + 4)) (some .boolean) (wdM o a cs) (pI post) 0 0 0 0 115 [(0, .ref o), (4, .int x4), (5, .int x5), (8, .int x8)] [.int s0] u := by
  unfold P_M_expression_115 at h
  refine x_istore_n (lv' := [(2, .int s0), (0, .ref o), (4, .int x4), (5, .int x5), (8, .int x8)]) d_M_expression_115 (by decide) rfl ?_
  refine x_iload (x := x8) d_M_expression_116 rfl ?_
  refine x_if_ne (tgt := 141) d_M_expression_118 rfl (fun hc => ?_) (fun hc => ?_)
  · have h := h.1 hc
    refine x_sub [1, 0, 2, 3] rfl ?_
    exact w_M_expression_141 l D cs Ev hE o a d post K25 hK25 s0 x4 x5 u h
  · have h := h.2 hc
    refine x_iload (x := x4) d_M_expression_121 rfl ?_
    refine x_if_eq (tgt := 145) d_M_expression_123 rfl (fun hc => ?_) (fun hc => ?_)
    · have h := h.1 hc
      refine x_sub [1, 0, 2, 3] rfl ?_
      exact w_M_expression_145 l D cs Ev hE o a d post K25 hK25 s0 x4 x5 u h
    · have h := h.2 hc
      refine x_aload_n (x := o) d_M_expression_126 rfl ?_
      refine x_get (v := .ref (a 28)) f_M_60 (eM_o _ _ _ _) rfl d_M_expression_127 ?_
      refine x_aload_n (x := o) d_M_expression_130 rfl ?_
      refine x_get (v := .int (gI u 27)) f_M_179 (eM_o _ _ _ _) rfl d_M_expression_131 ?_
      refine x_iconst (v := 1) d_M_expression_134 (by decide) ?_
      refine x_isub d_M_expression_135 ?_
      refine x_iald (t0 := 0) (eM_28 _ _ _ _) rfl h.1 d_M_expression_136 ?_
      have h := h.2
      refine x_iconst (v := 3) d_M_expression_137 (by decide) ?_
      refine x_icmp_ne (tgt := 145) d_M_expression_138 rfl (fun hc => ?_) (fun hc => ?_)
      · have h := h.1 hc
        refine x_sub [1, 0, 2, 3] rfl ?_
        exact w_M_expression_145 l D cs Ev hE o a d post K25 hK25 s0 x4 x5 u h
      · have h := h.2 hc
        refine x_sub [1, 0, 2, 3] rfl ?_
        exact w_M_expression_141 l D cs Ev hE o a d post K25 hK25 s0 x4 x5 u h
def P_M_expression_101 (post : Int32 → MS → Prop) (K25 : Int32 → Int32 → Int32 → Int32 → MS → Prop) (x2 : Int32) (x4 : Int32) (x5 : Int32) (s0 : Int32) (u : MS) : Prop := ((s0 = 0 → P_M_expression_115 post K25 x4 x5 s0 x2 u) ∧ (¬ s0 = 0 → P_M_expression_115 post K25 x4 x5 s0 (x2 + (1 : Int32)) u))
set_option maxHeartbeats 600000 in
set_option maxRecDepth 100000 in
theorem w_M_expression_101 (l : Launch) (D : va_G) (cs : Nat → ClassId) (Ev : (Nat → Prop) → State → Prop) (hE : xEok Ev) (o : Nat) (a : Nat → Nat) (d : Nat) (post : Int32 → MS → Prop) (K25 : Int32 → Int32 → Int32 → Int32 → MS → Prop) (hK25 : ∀ (x2 : Int32) (x3 : Int32) (x4 : Int32) (x5 : Int32) (u : MS), K25 x2 x3 x4 x5 u → RR l D clX (tysX cs) Ev "DeckFrontModel" b_M_expression 9 w_M_expression (rmD (d + 4)) (some .boolean) (wdM o a cs) (pI post) 0 0 0 0 25 [(0, .ref o), (2, .int x2), (3, .int x3), (4, .int x4), (5, .int x5)] [] u) (x2 : Int32) (x4 : Int32) (x5 : Int32) (s0 : Int32) (u : MS) (h : P_M_expression_101 post K25 x2 x4 x5 s0 u) : RR l D clX (tysX cs) Ev "DeckFrontModel" b_M_expression 9 w_M_expression (rmD (d + 4)) (some .boolean) (wdM o a cs) (pI post) 0 0 0 0 101 [(0, .ref o), (2, .int x2), (4, .int x4), (5, .int x5)] [.int s0] u := by
  unfold P_M_expression_101 at h
  refine x_istore (lv' := [(8, .int s0), (0, .ref o), (2, .int x2), (4, .int x4), (5, .int x5)]) d_M_expression_101 (by decide) rfl ?_
  refine x_iload (x := s0) d_M_expression_103 rfl ?_
  refine x_if_eq (tgt := 114) d_M_expression_105 rfl (fun hc => ?_) (fun hc => ?_)
  · have h := h.1 hc
    refine x_iload_n (x := x2) d_M_expression_114 rfl ?_
    refine x_sub [1, 3, 4, 0] rfl ?_
    exact w_M_expression_115 l D cs Ev hE o a d post K25 hK25 x4 x5 s0 x2 u h
  · have h := h.2 hc
    refine x_iload_n (x := x2) d_M_expression_108 rfl ?_
    refine x_iconst (v := 1) d_M_expression_109 (by decide) ?_
    refine x_iadd d_M_expression_110 ?_
    refine x_goto (tgt := 115) d_M_expression_111 rfl ?_
    refine x_sub [1, 3, 4, 0] rfl ?_
    exact w_M_expression_115 l D cs Ev hE o a d post K25 hK25 x4 x5 s0 (x2 + (1 : Int32)) u h
def P_M_expression_100 (post : Int32 → MS → Prop) (K25 : Int32 → Int32 → Int32 → Int32 → MS → Prop) (x2 : Int32) (x4 : Int32) (x5 : Int32) (u : MS) : Prop := P_M_expression_101 post K25 x2 x4 x5 0 u
set_option maxHeartbeats 600000 in
set_option maxRecDepth 100000 in
theorem w_M_expression_100 (l : Launch) (D : va_G) (cs : Nat → ClassId) (Ev : (Nat → Prop) → State → Prop) (hE : xEok Ev) (o : Nat) (a : Nat → Nat) (d : Nat) (post : Int32 → MS → Prop) (K25 : Int32 → Int32 → Int32 → Int32 → MS → Prop) (hK25 : ∀ (x2 : Int32) (x3 : Int32) (x4 : Int32) (x5 : Int32) (u : MS), K25 x2 x3 x4 x5 u → RR l D clX (tysX cs) Ev "DeckFrontModel" b_M_expression 9 w_M_expression (rmD (d + 4)) (some .boolean) (wdM o a cs) (pI post) 0 0 0 0 25 [(0, .ref o), (2, .int x2), (3, .int x3), (4, .int x4), (5, .int x5)] [] u) (x2 : Int32) (x4 : Int32) (x5 : Int32) (u : MS) (h : P_M_expression_100 post K25 x2 x4 x5 u) : RR l D clX (tysX cs) Ev "DeckFrontModel" b_M_expression 9 w_M_expression (rmD (d + 4)) (some .boolean) (wdM o a cs) (pI post) 0 0 0 0 100 [(0, .ref o), (2, .int x2), (4, .int x4), (5, .int x5)] [] u := by
  unfold P_M_expression_100 at h
  refine x_iconst (v := 0) d_M_expression_100 (by decide) ?_
  exact w_M_expression_101 l D cs Ev hE o a d post K25 hK25 x2 x4 x5 0 u h
def P_M_expression_69 (post : Int32 → MS → Prop) (K25 : Int32 → Int32 → Int32 → Int32 → MS → Prop) (x2 : Int32) (x5 : Int32) (x6 : Int32) (s0 : Int32) (u : MS) : Prop := (((gI u 27) ≤ x6 → P_M_expression_100 post K25 x2 s0 x5 u) ∧ (¬ (gI u 27) ≤ x6 → (vp_in ((gI u 27) - (1 : Int32)) 100 ∧ (((gA u 28 ((gI u 27) - (1 : Int32)).toNatClampNeg) < 8 → P_M_expression_100 post K25 x2 s0 x5 u) ∧ (¬ (gA u 28 ((gI u 27) - (1 : Int32)).toNatClampNeg) < 8 → P_M_expression_101 post K25 x2 s0 x5 1 u)))))
set_option maxHeartbeats 600000 in
set_option maxRecDepth 100000 in
theorem w_M_expression_69 (l : Launch) (D : va_G) (cs : Nat → ClassId) (Ev : (Nat → Prop) → State → Prop) (hE : xEok Ev) (o : Nat) (a : Nat → Nat) (d : Nat) (post : Int32 → MS → Prop) (K25 : Int32 → Int32 → Int32 → Int32 → MS → Prop) (hK25 : ∀ (x2 : Int32) (x3 : Int32) (x4 : Int32) (x5 : Int32) (u : MS), K25 x2 x3 x4 x5 u → RR l D clX (tysX cs) Ev "DeckFrontModel" b_M_expression 9 w_M_expression (rmD (d + 4)) (some .boolean) (wdM o a cs) (pI post) 0 0 0 0 25 [(0, .ref o), (2, .int x2), (3, .int x3), (4, .int x4), (5, .int x5)] [] u) (x2 : Int32) (x5 : Int32) (x6 : Int32) (s0 : Int32) (u : MS) (h : P_M_expression_69 post K25 x2 x5 x6 s0 u) : RR l D clX (tysX cs) Ev "DeckFrontModel" b_M_expression 9 w_M_expression (rmD (d + 4)) (some .boolean) (wdM o a cs) (pI post) 0 0 0 0 69 [(0, .ref o), (2, .int x2), (5, .int x5), (6, .int x6)] [.int s0] u := by
  unfold P_M_expression_69 at h
  refine x_istore (lv' := [(4, .int s0), (0, .ref o), (2, .int x2), (5, .int x5), (6, .int x6)]) d_M_expression_69 (by decide) rfl ?_
  refine x_aload_n (x := o) d_M_expression_71 rfl ?_
  refine x_get (v := .int (gI u 27)) f_M_179 (eM_o _ _ _ _) rfl d_M_expression_72 ?_
  refine x_iload (x := x6) d_M_expression_75 rfl ?_
  refine x_icmp_le (tgt := 100) d_M_expression_77 rfl (fun hc => ?_) (fun hc => ?_)
  · have h := h.1 hc
    refine x_sub [1, 2, 0, 3] rfl ?_
    exact w_M_expression_100 l D cs Ev hE o a d post K25 hK25 x2 s0 x5 u h
  · have h := h.2 hc
    refine x_aload_n (x := o) d_M_expression_80 rfl ?_
    refine x_get (v := .ref (a 28)) f_M_60 (eM_o _ _ _ _) rfl d_M_expression_81 ?_
    refine x_aload_n (x := o) d_M_expression_84 rfl ?_
    refine x_get (v := .int (gI u 27)) f_M_179 (eM_o _ _ _ _) rfl d_M_expression_85 ?_
    refine x_iconst (v := 1) d_M_expression_88 (by decide) ?_
    refine x_isub d_M_expression_89 ?_
    refine x_iald (t0 := 0) (eM_28 _ _ _ _) rfl h.1 d_M_expression_90 ?_
    have h := h.2
    refine x_bipush (v := 8) d_M_expression_91 (by decide) ?_
    refine x_icmp_lt (tgt := 100) d_M_expression_93 rfl (fun hc => ?_) (fun hc => ?_)
    · have h := h.1 hc
      refine x_sub [1, 2, 0, 3] rfl ?_
      exact w_M_expression_100 l D cs Ev hE o a d post K25 hK25 x2 s0 x5 u h
    · have h := h.2 hc
      refine x_iconst (v := 1) d_M_expression_96 (by decide) ?_
      refine x_goto (tgt := 101) d_M_expression_97 rfl ?_
      refine x_sub [1, 2, 0, 3] rfl ?_
      exact w_M_expression_101 l D cs Ev hE o a d post K25 hK25 x2 s0 x5 1 u h
def P_M_expression_25 (post : Int32 → MS → Prop) : Nat → Int32 → Int32 → Int32 → Int32 → MS → Prop
  | 0, _, _, _, _, _ => False
  | f + 1, x2, x3, x4, x5, u => ((300 ≤ x5 → post 0 u) ∧ (¬ 300 ≤ x5 → ((x4 = 0 → P_M_between (fun r2 u1 => ((r2 ≤ 0 → P_M_expression_288 post (fun zx2 zx3 zx4 zx5 zu => P_M_expression_25 post f zx2 zx3 zx4 zx5 zu) x2 x5 u1) ∧ (¬ r2 ≤ 0 → ((¬ r2 = 4 → P_M_expression_174 post (fun zx2 zx3 zx4 zx5 zu => P_M_expression_25 post f zx2 zx3 zx4 zx5 zu) x2 x5 r2 u1) ∧ (r2 = 4 → P_M_related (fun r12 u11 => ((¬ r12 = 0 → P_M_expression_288 post (fun zx2 zx3 zx4 zx5 zu => P_M_expression_25 post f zx2 zx3 zx4 zx5 zu) x2 x5 u11) ∧ (r12 = 0 → P_M_expression_174 post (fun zx2 zx3 zx4 zx5 zu => P_M_expression_25 post f zx2 zx3 zx4 zx5 zu) x2 x5 r2 u11))) u1))))) u) ∧ (¬ x4 = 0 → (∀ v13, v13 = (gI u 27) → P_M_wanted (fun r15 u14 => ((0 ≤ r15 → ((¬ r15 = 0 → P_M_expression_69 post (fun zx2 zx3 zx4 zx5 zu => P_M_expression_25 post f zx2 zx3 zx4 zx5 zu) x2 x5 v13 0 u14) ∧ (r15 = 0 → P_M_expression_69 post (fun zx2 zx3 zx4 zx5 zu => P_M_expression_25 post f zx2 zx3 zx4 zx5 zu) x2 x5 v13 1 u14))) ∧ (¬ 0 ≤ r15 → post 0 u14))) x3 x2 u)))))
set_option maxHeartbeats 600000 in
set_option maxRecDepth 100000 in
theorem w_M_expression_25 (l : Launch) (D : va_G) (cs : Nat → ClassId) (Ev : (Nat → Prop) → State → Prop) (hE : xEok Ev) (o : Nat) (a : Nat → Nat) (d : Nat) (post : Int32 → MS → Prop) : ∀ (f : Nat) (x2 : Int32) (x3 : Int32) (x4 : Int32) (x5 : Int32) (u : MS), P_M_expression_25 post  f x2 x3 x4 x5 u → RR l D clX (tysX cs) Ev "DeckFrontModel" b_M_expression 9 w_M_expression (rmD (d + 4)) (some .boolean) (wdM o a cs) (pI post) 0 0 0 0 25 [(0, .ref o), (2, .int x2), (3, .int x3), (4, .int x4), (5, .int x5)] [] u := by
  intro f
  induction f with
  | zero => intro x2 x3 x4 x5 u h; exact h.elim
  | succ f ih =>
    intro x2 x3 x4 x5 u h
    unfold P_M_expression_25 at h
    refine x_iload (x := x5) d_M_expression_25 rfl ?_
    refine x_sipush (v := 300) d_M_expression_27 (by decide) ?_
    refine x_icmp_ge (tgt := 450) d_M_expression_30 rfl (fun hc => ?_) (fun hc => ?_)
    · have h := h.1 hc
      refine x_iconst (v := 0) d_M_expression_450 (by decide) ?_
      refine x_zret rfl d_M_expression_451 ⟨_, rfl, ?_⟩
      exact h
    · have h := h.2 hc
      refine x_iload (x := x4) d_M_expression_33 rfl ?_
      refine x_if_eq (tgt := 150) d_M_expression_35 rfl (fun hc => ?_) (fun hc => ?_)
      · have h := h.1 hc
        refine x_aload_n (x := o) d_M_expression_150 rfl ?_
        refine x_callV (st := []) k_M_203 rfl (eM_o _ _ _ _) x_id (c_M_between l D cs Ev hE o a (d + 1) _ u h) hE (rmD_ok (by omega) (by decide)) rfl (Nat.le_of_ble_eq_true rfl) rfl d_M_expression_151 (x_rI (fun r2 u1 h => ?_))
        refine x_istore (lv' := [(6, .int r2), (0, .ref o), (2, .int x2), (3, .int x3), (4, .int x4), (5, .int x5)]) d_M_expression_154 (by decide) rfl ?_
        refine x_iload (x := r2) d_M_expression_156 rfl ?_
        refine x_if_le (tgt := 288) d_M_expression_158 rfl (fun hc => ?_) (fun hc => ?_)
        · have h := h.1 hc
          refine x_sub [1, 2, 5] rfl ?_
          exact w_M_expression_288 l D cs Ev hE o a d post (fun zx2 zx3 zx4 zx5 zu => P_M_expression_25 post f zx2 zx3 zx4 zx5 zu) ih x2 x5 u1 h
        · have h := h.2 hc
          refine x_iload (x := r2) d_M_expression_161 rfl ?_
          refine x_iconst (v := 4) d_M_expression_163 (by decide) ?_
          refine x_icmp_ne (tgt := 174) d_M_expression_164 rfl (fun hc => ?_) (fun hc => ?_)
          · have h := h.1 hc
            refine x_sub [1, 2, 5, 0] rfl ?_
            exact w_M_expression_174 l D cs Ev hE o a d post (fun zx2 zx3 zx4 zx5 zu => P_M_expression_25 post f zx2 zx3 zx4 zx5 zu) ih x2 x5 r2 u1 h
          · have h := h.2 hc
            refine x_aload_n (x := o) d_M_expression_167 rfl ?_
            refine x_callV (st := []) k_M_207 rfl (eM_o _ _ _ _) x_id (c_M_related l D cs Ev hE o a (d + 3) _ u1 h) hE (rmD_ok (by omega) (by decide)) rfl (Nat.le_of_ble_eq_true rfl) rfl d_M_expression_168 (x_rI (fun r12 u11 h => ?_))
            refine x_if_ne (tgt := 288) d_M_expression_171 rfl (fun hc => ?_) (fun hc => ?_)
            · have h := h.1 hc
              refine x_sub [1, 2, 5] rfl ?_
              exact w_M_expression_288 l D cs Ev hE o a d post (fun zx2 zx3 zx4 zx5 zu => P_M_expression_25 post f zx2 zx3 zx4 zx5 zu) ih x2 x5 u11 h
            · have h := h.2 hc
              refine x_sub [1, 2, 5, 0] rfl ?_
              exact w_M_expression_174 l D cs Ev hE o a d post (fun zx2 zx3 zx4 zx5 zu => P_M_expression_25 post f zx2 zx3 zx4 zx5 zu) ih x2 x5 r2 u11 h
      · have h := h.2 hc
        refine x_aload_n (x := o) d_M_expression_38 rfl ?_
        refine x_get (v := .int (gI u 27)) f_M_179 (eM_o _ _ _ _) rfl d_M_expression_39 ?_
        refine x_topI (fun v13 ev13 => ?_)
        have h := h v13 ev13
        refine x_istore (lv' := [(6, .int v13), (0, .ref o), (2, .int x2), (3, .int x3), (4, .int x4), (5, .int x5)]) d_M_expression_42 (by decide) rfl ?_
        refine x_aload_n (x := o) d_M_expression_44 rfl ?_
        refine x_iload_n (x := x3) d_M_expression_45 rfl ?_
        refine x_iload_n (x := x2) d_M_expression_46 rfl ?_
        refine x_callV (st := []) k_M_199 rfl (eM_o _ _ _ _) x_id (c_M_wanted l D cs Ev hE o a (d + 0) _ x3 x2 u h) hE (rmD_ok (by omega) (by decide)) rfl (Nat.le_of_ble_eq_true rfl) rfl d_M_expression_47 (x_rI (fun r15 u14 h => ?_))
        refine x_istore (lv' := [(7, .int r15), (6, .int v13), (0, .ref o), (2, .int x2), (3, .int x3), (4, .int x4), (5, .int x5)]) d_M_expression_50 (by decide) rfl ?_
        refine x_iload (x := r15) d_M_expression_52 rfl ?_
        refine x_if_ge (tgt := 59) d_M_expression_54 rfl (fun hc => ?_) (fun hc => ?_)
        · have h := h.1 hc
          refine x_iload (x := r15) d_M_expression_59 rfl ?_
          refine x_if_ne (tgt := 68) d_M_expression_61 rfl (fun hc => ?_) (fun hc => ?_)
          · have h := h.1 hc
            refine x_iconst (v := 0) d_M_expression_68 (by decide) ?_
            refine x_sub [2, 3, 6, 1] rfl ?_
            exact w_M_expression_69 l D cs Ev hE o a d post (fun zx2 zx3 zx4 zx5 zu => P_M_expression_25 post f zx2 zx3 zx4 zx5 zu) ih x2 x5 v13 0 u14 h
          · have h := h.2 hc
            refine x_iconst (v := 1) d_M_expression_64 (by decide) ?_
            refine x_goto (tgt := 69) d_M_expression_65 rfl ?_
            refine x_sub [2, 3, 6, 1] rfl ?_
            exact w_M_expression_69 l D cs Ev hE o a d post (fun zx2 zx3 zx4 zx5 zu => P_M_expression_25 post f zx2 zx3 zx4 zx5 zu) ih x2 x5 v13 1 u14 h
        · have h := h.2 hc
          refine x_iconst (v := 0) d_M_expression_57 (by decide) ?_
          refine x_zret rfl d_M_expression_58 ⟨_, rfl, ?_⟩
          exact h
def P_M_expression (post : Int32 → MS → Prop) (a0 : Int32) (u : MS) : Prop := (∃ g, P_M_expression_25 post g a0 2 1 0 (sI (sI (sI u 18 (0 : Int32)) 25 (0 : Int32)) 27 (0 : Int32)))
set_option maxHeartbeats 600000 in
set_option maxRecDepth 100000 in
theorem c_M_expression (l : Launch) (D : va_G) (cs : Nat → ClassId) (Ev : (Nat → Prop) → State → Prop) (hE : xEok Ev) (o : Nat) (a : Nat → Nat) (d : Nat) (post : Int32 → MS → Prop) (a0 : Int32) (u : MS) (h : P_M_expression post a0 u) : xC l D clX (tysX cs) Ev y_M_expression w_M_expression (rmD (d + 4)) (wdM o a cs) [.ref o, .int a0] u (pI post) 0 0 := by
  unfold P_M_expression at h
  refine xC.of (cc := b_M_expression) (nL := 9) (ret := (some .boolean)) (by decide) rfl (Nat.le_of_ble_eq_true rfl) ?_
  show RR l D clX (tysX cs) Ev "DeckFrontModel" b_M_expression 9 w_M_expression (rmD (d + 4)) (some .boolean) (wdM o a cs) (pI post) 0 0 0 0 0 [(0, .ref o), (1, .int a0)] [] u
  refine x_aload_n (x := o) d_M_expression_0 rfl ?_
  refine x_iconst (v := 0) d_M_expression_1 (by decide) ?_
  refine x_put f_M_173 fw_M_18 (eM_o _ _ _ _) rfl rfl (Nat.le_of_ble_eq_true rfl) (sM_18 _ _ _ _ _) d_M_expression_2 ?_
  refine x_aload_n (x := o) d_M_expression_5 rfl ?_
  refine x_iconst (v := 0) d_M_expression_6 (by decide) ?_
  refine x_put f_M_176 fw_M_25 (eM_o _ _ _ _) rfl rfl (Nat.le_of_ble_eq_true rfl) (sM_25 _ _ _ _ _) d_M_expression_7 ?_
  refine x_aload_n (x := o) d_M_expression_10 rfl ?_
  refine x_iconst (v := 0) d_M_expression_11 (by decide) ?_
  refine x_put f_M_179 fw_M_27 (eM_o _ _ _ _) rfl rfl (Nat.le_of_ble_eq_true rfl) (sM_27 _ _ _ _ _) d_M_expression_12 ?_
  refine x_iload_n (x := a0) d_M_expression_15 rfl ?_
  refine x_istore_n (lv' := [(2, .int a0), (0, .ref o), (1, .int a0)]) d_M_expression_16 (by decide) rfl ?_
  refine x_iconst (v := 2) d_M_expression_17 (by decide) ?_
  refine x_istore_n (lv' := [(3, .int 2), (2, .int a0), (0, .ref o), (1, .int a0)]) d_M_expression_18 (by decide) rfl ?_
  refine x_iconst (v := 1) d_M_expression_19 (by decide) ?_
  refine x_istore (lv' := [(4, .int 1), (3, .int 2), (2, .int a0), (0, .ref o), (1, .int a0)]) d_M_expression_20 (by decide) rfl ?_
  refine x_iconst (v := 0) d_M_expression_22 (by decide) ?_
  refine x_istore (lv' := [(5, .int 0), (4, .int 1), (3, .int 2), (2, .int a0), (0, .ref o), (1, .int a0)]) d_M_expression_23 (by decide) rfl ?_
  refine x_sub [4, 3, 2, 1, 0] rfl ?_
  obtain ⟨f9, h⟩ := h
  exact w_M_expression_25 l D cs Ev hE o a d post  f9 a0 2 1 0 (sI (sI (sI u 18 (0 : Int32)) 25 (0 : Int32)) 27 (0 : Int32)) h
