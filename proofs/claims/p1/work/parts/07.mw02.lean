def P_M_joined_157 (post : Int32 → MS → Prop) (u : MS) : Prop := post 0 (sI u 0 (1 : Int32))
set_option maxHeartbeats 600000 in
set_option maxRecDepth 100000 in
theorem w_M_joined_157 (l : Launch) (D : va_G) (cs : Nat → ClassId) (Ev : (Nat → Prop) → State → Prop) (hE : xEok Ev) (o : Nat) (a : Nat → Nat) (d : Nat) (post : Int32 → MS → Prop) (u : MS) (h : P_M_joined_157 post   u) : RR l D clX (tysX cs) Ev "DeckFrontModel" b_M_joined 10 w_M_joined (rmD (d + 1)) (some .int) (wdM o a cs) (pI post) 0 0 0 0 157 [(0, .ref o)] [] u := by
  unfold P_M_joined_157 at h
  refine x_aload_n (x := o) d_M_joined_157 rfl ?_
  refine x_iconst (v := 1) d_M_joined_158 (by decide) ?_
  refine x_put f_M_82 fw_M_0 (eM_o _ _ _ _) rfl rfl (Nat.le_of_ble_eq_true rfl) (sM_0 _ _ _ _ _) d_M_joined_159 ?_
  refine x_iconst (v := 0) d_M_joined_162 (by decide) ?_
  refine x_iret d_M_joined_163 ⟨_, rfl, ?_⟩
  exact h
def P_M_joined_196 (post : Int32 → MS → Prop) (u : MS) : Prop := post 0 (sI u 0 (2 : Int32))
set_option maxHeartbeats 600000 in
set_option maxRecDepth 100000 in
theorem w_M_joined_196 (l : Launch) (D : va_G) (cs : Nat → ClassId) (Ev : (Nat → Prop) → State → Prop) (hE : xEok Ev) (o : Nat) (a : Nat → Nat) (d : Nat) (post : Int32 → MS → Prop) (u : MS) (h : P_M_joined_196 post   u) : RR l D clX (tysX cs) Ev "DeckFrontModel" b_M_joined 10 w_M_joined (rmD (d + 1)) (some .int) (wdM o a cs) (pI post) 0 0 0 0 196 [(0, .ref o)] [] u := by
  unfold P_M_joined_196 at h
  refine x_aload_n (x := o) d_M_joined_196 rfl ?_
  refine x_iconst (v := 2) d_M_joined_197 (by decide) ?_
  refine x_put f_M_82 fw_M_0 (eM_o _ _ _ _) rfl rfl (Nat.le_of_ble_eq_true rfl) (sM_0 _ _ _ _ _) d_M_joined_198 ?_
  refine x_iconst (v := 0) d_M_joined_201 (by decide) ?_
  refine x_iret d_M_joined_202 ⟨_, rfl, ?_⟩
  exact h
def P_M_joined_380 (post : Int32 → MS → Prop) (x5 : Int32) (x6 : Int32) (s0 : Int32) (s1 : Int32) (u : MS) : Prop := (vp_in s1 24 ∧ ((x5 = 0 → post x6 (sI (sA u 4 s1.toNatClampNeg s0) 3 ((gI u 3) + (1 : Int32)))) ∧ (¬ x5 = 0 → post x6 (sI (sA u 4 s1.toNatClampNeg s0) 3 (gI u 3)))))
set_option maxHeartbeats 600000 in
set_option maxRecDepth 100000 in
theorem w_M_joined_380 (l : Launch) (D : va_G) (cs : Nat → ClassId) (Ev : (Nat → Prop) → State → Prop) (hE : xEok Ev) (o : Nat) (a : Nat → Nat) (d : Nat) (post : Int32 → MS → Prop) (x5 : Int32) (x6 : Int32) (s0 : Int32) (s1 : Int32) (u : MS) (h : P_M_joined_380 post  x5 x6 s0 s1 u) : RR l D clX (tysX cs) Ev "DeckFrontModel" b_M_joined 10 w_M_joined (rmD (d + 1)) (some .int) (wdM o a cs) (pI post) 0 0 0 0 380 [(0, .ref o), (5, .int x5), (6, .int x6)] [.int s0, .int s1, .ref (a 4)] u := by
  unfold P_M_joined_380 at h
  refine x_iast (t0 := 0) (eM_4 _ _ _ _) rfl h.1 (sM_4 _ _ _ _ _ _) d_M_joined_380 ?_
  have h := h.2
  refine x_aload_n (x := o) d_M_joined_381 rfl ?_
  refine x_iload (x := x5) d_M_joined_382 rfl ?_
  refine x_if_eq (tgt := 394) d_M_joined_384 rfl (fun hc => ?_) (fun hc => ?_)
  · have h := h.1 hc
    refine x_aload_n (x := o) d_M_joined_394 rfl ?_
    refine x_get (v := .int (gI u 3)) f_M_99 (eM_o _ _ _ _) rfl d_M_joined_395 ?_
    refine x_iconst (v := 1) d_M_joined_398 (by decide) ?_
    refine x_iadd d_M_joined_399 ?_
    refine x_put f_M_99 fw_M_3 (eM_o _ _ _ _) rfl rfl (Nat.le_of_ble_eq_true rfl) (sM_3 _ _ _ _ _) d_M_joined_400 ?_
    refine x_iload (x := x6) d_M_joined_403 rfl ?_
    refine x_iret d_M_joined_405 ⟨_, rfl, ?_⟩
    exact h
  · have h := h.2 hc
    refine x_aload_n (x := o) d_M_joined_387 rfl ?_
    refine x_get (v := .int (gI u 3)) f_M_99 (eM_o _ _ _ _) rfl d_M_joined_388 ?_
    refine x_goto (tgt := 400) d_M_joined_391 rfl ?_
    refine x_put f_M_99 fw_M_3 (eM_o _ _ _ _) rfl rfl (Nat.le_of_ble_eq_true rfl) (sM_3 _ _ _ _ _) d_M_joined_400 ?_
    refine x_iload (x := x6) d_M_joined_403 rfl ?_
    refine x_iret d_M_joined_405 ⟨_, rfl, ?_⟩
    exact h
def P_M_joined_328 (post : Int32 → MS → Prop) (K246 : Int32 → Int32 → Int32 → Int32 → Int32 → Int32 → Int32 → MS → Prop) (x1 : Int32) (x4 : Int32) (x5 : Int32) (x6 : Int32) (x7 : Int32) (x8 : Int32) (x9 : Int32) (u : MS) : Prop := K246 x1 x4 x5 x6 x7 x8 (x9 + 1) u
set_option maxHeartbeats 600000 in
set_option maxRecDepth 100000 in
theorem w_M_joined_328 (l : Launch) (D : va_G) (cs : Nat → ClassId) (Ev : (Nat → Prop) → State → Prop) (hE : xEok Ev) (o : Nat) (a : Nat → Nat) (d : Nat) (post : Int32 → MS → Prop) (K246 : Int32 → Int32 → Int32 → Int32 → Int32 → Int32 → Int32 → MS → Prop) (hK246 : ∀ (x1 : Int32) (x4 : Int32) (x5 : Int32) (x6 : Int32) (x7 : Int32) (x8 : Int32) (x9 : Int32) (u : MS), K246 x1 x4 x5 x6 x7 x8 x9 u → RR l D clX (tysX cs) Ev "DeckFrontModel" b_M_joined 10 w_M_joined (rmD (d + 1)) (some .int) (wdM o a cs) (pI post) 0 0 0 0 246 [(0, .ref o), (1, .int x1), (4, .int x4), (5, .int x5), (6, .int x6), (7, .int x7), (8, .int x8), (9, .int x9)] [] u) (x1 : Int32) (x4 : Int32) (x5 : Int32) (x6 : Int32) (x7 : Int32) (x8 : Int32) (x9 : Int32) (u : MS) (h : P_M_joined_328 post K246 x1 x4 x5 x6 x7 x8 x9 u) : RR l D clX (tysX cs) Ev "DeckFrontModel" b_M_joined 10 w_M_joined (rmD (d + 1)) (some .int) (wdM o a cs) (pI post) 0 0 0 0 328 [(0, .ref o), (1, .int x1), (4, .int x4), (5, .int x5), (6, .int x6), (7, .int x7), (8, .int x8), (9, .int x9)] [] u := by
  unfold P_M_joined_328 at h
  refine x_iinc (v := x9 + 1) (lv' := [(9, .int (x9 + 1)), (0, .ref o), (1, .int x1), (4, .int x4), (5, .int x5), (6, .int x6), (7, .int x7), (8, .int x8)]) d_M_joined_328 rfl rfl (by decide) rfl ?_
  refine x_goto (tgt := 246) d_M_joined_331 rfl ?_
  refine x_sub [1, 2, 3, 4, 5, 6, 7, 0] rfl ?_
  exact hK246 x1 x4 x5 x6 x7 x8 (x9 + 1) u h
def P_M_joined_326 (post : Int32 → MS → Prop) (K246 : Int32 → Int32 → Int32 → Int32 → Int32 → Int32 → Int32 → MS → Prop) (x1 : Int32) (x4 : Int32) (x5 : Int32) (x6 : Int32) (x7 : Int32) (x9 : Int32) (s0 : Int32) (u : MS) : Prop := P_M_joined_328 post K246 x1 x4 x5 x6 x7 s0 x9 u
set_option maxHeartbeats 600000 in
set_option maxRecDepth 100000 in
theorem w_M_joined_326 (l : Launch) (D : va_G) (cs : Nat → ClassId) (Ev : (Nat → Prop) → State → Prop) (hE : xEok Ev) (o : Nat) (a : Nat → Nat) (d : Nat) (post : Int32 → MS → Prop) (K246 : Int32 → Int32 → Int32 → Int32 → Int32 → Int32 → Int32 → MS → Prop) (hK246 : ∀ (x1 : Int32) (x4 : Int32) (x5 : Int32) (x6 : Int32) (x7 : Int32) (x8 : Int32) (x9 : Int32) (u : MS), K246 x1 x4 x5 x6 x7 x8 x9 u → RR l D clX (tysX cs) Ev "DeckFrontModel" b_M_joined 10 w_M_joined (rmD (d + 1)) (some .int) (wdM o a cs) (pI post) 0 0 0 0 246 [(0, .ref o), (1, .int x1), (4, .int x4), (5, .int x5), (6, .int x6), (7, .int x7), (8, .int x8), (9, .int x9)] [] u) (x1 : Int32) (x4 : Int32) (x5 : Int32) (x6 : Int32) (x7 : Int32) (x9 : Int32) (s0 : Int32) (u : MS) (h : P_M_joined_326 post K246 x1 x4 x5 x6 x7 x9 s0 u) : RR l D clX (tysX cs) Ev "DeckFrontModel" b_M_joined 10 w_M_joined (rmD (d + 1)) (some .int) (wdM o a cs) (pI post) 0 0 0 0 326 [(0, .ref o), (1, .int x1), (4, .int x4), (5, .int x5), (6, .int x6), (7, .int x7), (9, .int x9)] [.int s0] u := by
  unfold P_M_joined_326 at h
  refine x_istore (lv' := [(8, .int s0), (0, .ref o), (1, .int x1), (4, .int x4), (5, .int x5), (6, .int x6), (7, .int x7), (9, .int x9)]) d_M_joined_326 (by decide) rfl ?_
  refine x_sub [1, 2, 3, 4, 5, 6, 0, 7] rfl ?_
  exact w_M_joined_328 l D cs Ev hE o a d post K246 hK246 x1 x4 x5 x6 x7 s0 x9 u h
def P_M_joined_296 (post : Int32 → MS → Prop) (K246 : Int32 → Int32 → Int32 → Int32 → Int32 → Int32 → Int32 → MS → Prop) (x1 : Int32) (x4 : Int32) (x5 : Int32) (x6 : Int32) (x7 : Int32) (x8 : Int32) (x9 : Int32) (u : MS) : Prop := (vp_in x9 72 ∧ ((¬ (gA u 2 x9.toNatClampNeg) = 39 → P_M_joined_326 post K246 x1 x4 x5 x6 (x7 + 1) x9 x8 u) ∧ ((gA u 2 x9.toNatClampNeg) = 39 → ((¬ x8 = 0 → P_M_joined_326 post K246 x1 x4 x5 x6 (x7 + 1) x9 0 u) ∧ (x8 = 0 → P_M_joined_326 post K246 x1 x4 x5 x6 (x7 + 1) x9 1 u)))))
set_option maxHeartbeats 600000 in
set_option maxRecDepth 100000 in
theorem w_M_joined_296 (l : Launch) (D : va_G) (cs : Nat → ClassId) (Ev : (Nat → Prop) → State → Prop) (hE : xEok Ev) (o : Nat) (a : Nat → Nat) (d : Nat) (post : Int32 → MS → Prop) (K246 : Int32 → Int32 → Int32 → Int32 → Int32 → Int32 → Int32 → MS → Prop) (hK246 : ∀ (x1 : Int32) (x4 : Int32) (x5 : Int32) (x6 : Int32) (x7 : Int32) (x8 : Int32) (x9 : Int32) (u : MS), K246 x1 x4 x5 x6 x7 x8 x9 u → RR l D clX (tysX cs) Ev "DeckFrontModel" b_M_joined 10 w_M_joined (rmD (d + 1)) (some .int) (wdM o a cs) (pI post) 0 0 0 0 246 [(0, .ref o), (1, .int x1), (4, .int x4), (5, .int x5), (6, .int x6), (7, .int x7), (8, .int x8), (9, .int x9)] [] u) (x1 : Int32) (x4 : Int32) (x5 : Int32) (x6 : Int32) (x7 : Int32) (x8 : Int32) (x9 : Int32) (u : MS) (h : P_M_joined_296 post K246 x1 x4 x5 x6 x7 x8 x9 u) : RR l D clX (tysX cs) Ev "DeckFrontModel" b_M_joined 10 w_M_joined (rmD (d + 1)) (some .int) (wdM o a cs) (pI post) 0 0 0 0 296 [(0, .ref o), (1, .int x1), (4, .int x4), (5, .int x5), (6, .int x6), (7, .int x7), (8, .int x8), (9, .int x9)] [] u := by
  unfold P_M_joined_296 at h
  refine x_iinc (v := x7 + 1) (lv' := [(7, .int (x7 + 1)), (0, .ref o), (1, .int x1), (4, .int x4), (5, .int x5), (6, .int x6), (8, .int x8), (9, .int x9)]) d_M_joined_296 rfl rfl (by decide) rfl ?_
  refine x_aload_n (x := o) d_M_joined_299 rfl ?_
  refine x_get (v := .ref (a 2)) f_M_7 (eM_o _ _ _ _) rfl d_M_joined_300 ?_
  refine x_iload (x := x9) d_M_joined_303 rfl ?_
  refine x_cald (t0 := 1) (eM_2 _ _ _ _) rfl h.1 d_M_joined_305 ?_
  have h := h.2
  refine x_bipush (v := 39) d_M_joined_306 (by decide) ?_
  refine x_icmp_ne (tgt := 324) d_M_joined_308 rfl (fun hc => ?_) (fun hc => ?_)
  · have h := h.1 hc
    refine x_iload (x := x8) d_M_joined_324 rfl ?_
    refine x_sub [1, 2, 3, 4, 5, 0, 7] rfl ?_
    exact w_M_joined_326 l D cs Ev hE o a d post K246 hK246 x1 x4 x5 x6 (x7 + 1) x9 x8 u h
  · have h := h.2 hc
    refine x_iload (x := x8) d_M_joined_311 rfl ?_
    refine x_if_ne (tgt := 320) d_M_joined_313 rfl (fun hc => ?_) (fun hc => ?_)
    · have h := h.1 hc
      refine x_iconst (v := 0) d_M_joined_320 (by decide) ?_
      refine x_goto (tgt := 326) d_M_joined_321 rfl ?_
      refine x_sub [1, 2, 3, 4, 5, 0, 7] rfl ?_
      exact w_M_joined_326 l D cs Ev hE o a d post K246 hK246 x1 x4 x5 x6 (x7 + 1) x9 0 u h
    · have h := h.2 hc
      refine x_iconst (v := 1) d_M_joined_316 (by decide) ?_
      refine x_goto (tgt := 326) d_M_joined_317 rfl ?_
      refine x_sub [1, 2, 3, 4, 5, 0, 7] rfl ?_
      exact w_M_joined_326 l D cs Ev hE o a d post K246 hK246 x1 x4 x5 x6 (x7 + 1) x9 1 u h
def P_M_joined_269 (post : Int32 → MS → Prop) (K246 : Int32 → Int32 → Int32 → Int32 → Int32 → Int32 → Int32 → MS → Prop) (x1 : Int32) (x4 : Int32) (x5 : Int32) (x6 : Int32) (x7 : Int32) (x8 : Int32) (x9 : Int32) (u : MS) : Prop := ((80 ≤ x7 → P_M_joined_296 post K246 x1 x4 x5 x6 x7 x8 x9 u) ∧ (¬ 80 ≤ x7 → (vp_in x9 72 ∧ (vp_in (((80 : Int32) * x6) + x7) 1920 ∧ P_M_joined_296 post K246 x1 x4 x5 x6 x7 x8 x9 (sA u 6 (((80 : Int32) * x6) + x7).toNatClampNeg (vp_nar .char (gA u 2 x9.toNatClampNeg)))))))
set_option maxHeartbeats 600000 in
set_option maxRecDepth 100000 in
theorem w_M_joined_269 (l : Launch) (D : va_G) (cs : Nat → ClassId) (Ev : (Nat → Prop) → State → Prop) (hE : xEok Ev) (o : Nat) (a : Nat → Nat) (d : Nat) (post : Int32 → MS → Prop) (K246 : Int32 → Int32 → Int32 → Int32 → Int32 → Int32 → Int32 → MS → Prop) (hK246 : ∀ (x1 : Int32) (x4 : Int32) (x5 : Int32) (x6 : Int32) (x7 : Int32) (x8 : Int32) (x9 : Int32) (u : MS), K246 x1 x4 x5 x6 x7 x8 x9 u → RR l D clX (tysX cs) Ev "DeckFrontModel" b_M_joined 10 w_M_joined (rmD (d + 1)) (some .int) (wdM o a cs) (pI post) 0 0 0 0 246 [(0, .ref o), (1, .int x1), (4, .int x4), (5, .int x5), (6, .int x6), (7, .int x7), (8, .int x8), (9, .int x9)] [] u) (x1 : Int32) (x4 : Int32) (x5 : Int32) (x6 : Int32) (x7 : Int32) (x8 : Int32) (x9 : Int32) (u : MS) (h : P_M_joined_269 post K246 x1 x4 x5 x6 x7 x8 x9 u) : RR l D clX (tysX cs) Ev "DeckFrontModel" b_M_joined 10 w_M_joined (rmD (d + 1)) (some .int) (wdM o a cs) (pI post) 0 0 0 0 269 [(0, .ref o), (1, .int x1), (4, .int x4), (5, .int x5), (6, .int x6), (7, .int x7), (8, .int x8), (9, .int x9)] [] u := by
  unfold P_M_joined_269 at h
  refine x_iload (x := x7) d_M_joined_269 rfl ?_
  refine x_bipush (v := 80) d_M_joined_271 (by decide) ?_
  refine x_icmp_ge (tgt := 296) d_M_joined_273 rfl (fun hc => ?_) (fun hc => ?_)
  · have h := h.1 hc
    exact w_M_joined_296 l D cs Ev hE o a d post K246 hK246 x1 x4 x5 x6 x7 x8 x9 u h
  · have h := h.2 hc
    refine x_aload_n (x := o) d_M_joined_276 rfl ?_
    refine x_get (v := .ref (a 6)) f_M_20 (eM_o _ _ _ _) rfl d_M_joined_277 ?_
    refine x_bipush (v := 80) d_M_joined_280 (by decide) ?_
    refine x_iload (x := x6) d_M_joined_282 rfl ?_
    refine x_imul d_M_joined_284 ?_
    refine x_iload (x := x7) d_M_joined_285 rfl ?_
    refine x_iadd d_M_joined_287 ?_
    refine x_aload_n (x := o) d_M_joined_288 rfl ?_
    refine x_get (v := .ref (a 2)) f_M_7 (eM_o _ _ _ _) rfl d_M_joined_289 ?_
    refine x_iload (x := x9) d_M_joined_292 rfl ?_
    refine x_cald (t0 := 1) (eM_2 _ _ _ _) rfl h.1 d_M_joined_294 ?_
    have h := h.2
    refine x_cast (t0 := 1) (eM_6 _ _ _ _) rfl h.1 (sM_6 _ _ _ _ _ _) d_M_joined_295 ?_
    have h := h.2
    exact w_M_joined_296 l D cs Ev hE o a d post K246 hK246 x1 x4 x5 x6 x7 x8 x9 (sA u 6 (((80 : Int32) * x6) + x7).toNatClampNeg (vp_nar .char (gA u 2 x9.toNatClampNeg))) h
def P_M_joined_246 (post : Int32 → MS → Prop) : Nat → Int32 → Int32 → Int32 → Int32 → Int32 → Int32 → Int32 → MS → Prop
  | 0, _, _, _, _, _, _, _, _ => False
  | f + 1, x1, x4, x5, x6, x7, x8, x9, u => ((x1 ≤ x9 → ((x7 ≤ 80 → (vp_in x6 24 ∧ ((x5 = 0 → P_M_joined_380 post x5 x6 x4 x6 (sA u 5 x6.toNatClampNeg x7)) ∧ (¬ x5 = 0 → (vp_in x6 24 ∧ P_M_joined_380 post x5 x6 (gA (sA u 5 x6.toNatClampNeg x7) 4 x6.toNatClampNeg) x6 (sA u 5 x6.toNatClampNeg x7)))))) ∧ (¬ x7 ≤ 80 → post 0 (sI u 0 (2 : Int32))))) ∧ (¬ x1 ≤ x9 → (vp_in x9 72 ∧ ((¬ (gA u 2 x9.toNatClampNeg) = 32 → P_M_joined_269 post (fun zx1 zx4 zx5 zx6 zx7 zx8 zx9 zu => P_M_joined_246 post f zx1 zx4 zx5 zx6 zx7 zx8 zx9 zu) x1 x4 x5 x6 x7 x8 x9 u) ∧ ((gA u 2 x9.toNatClampNeg) = 32 → ((x8 = 0 → P_M_joined_328 post (fun zx1 zx4 zx5 zx6 zx7 zx8 zx9 zu => P_M_joined_246 post f zx1 zx4 zx5 zx6 zx7 zx8 zx9 zu) x1 x4 x5 x6 x7 x8 x9 u) ∧ (¬ x8 = 0 → P_M_joined_269 post (fun zx1 zx4 zx5 zx6 zx7 zx8 zx9 zu => P_M_joined_246 post f zx1 zx4 zx5 zx6 zx7 zx8 zx9 zu) x1 x4 x5 x6 x7 x8 x9 u)))))))
set_option maxHeartbeats 600000 in
set_option maxRecDepth 100000 in
theorem w_M_joined_246 (l : Launch) (D : va_G) (cs : Nat → ClassId) (Ev : (Nat → Prop) → State → Prop) (hE : xEok Ev) (o : Nat) (a : Nat → Nat) (d : Nat) (post : Int32 → MS → Prop) : ∀ (f : Nat) (x1 : Int32) (x4 : Int32) (x5 : Int32) (x6 : Int32) (x7 : Int32) (x8 : Int32) (x9 : Int32) (u : MS), P_M_joined_246 post  f x1 x4 x5 x6 x7 x8 x9 u → RR l D clX (tysX cs) Ev "DeckFrontModel" b_M_joined 10 w_M_joined (rmD (d + 1)) (some .int) (wdM o a cs) (pI post) 0 0 0 0 246 [(0, .ref o), (1, .int x1), (4, .int x4), (5, .int x5), (6, .int x6), (7, .int x7), (8, .int x8), (9, .int x9)] [] u := by
  intro f
  induction f with
  | zero => intro x1 x4 x5 x6 x7 x8 x9 u h; exact h.elim
  | succ f ih =>
    intro x1 x4 x5 x6 x7 x8 x9 u h
    unfold P_M_joined_246 at h
    refine x_iload (x := x9) d_M_joined_246 rfl ?_
    refine x_iload_n (x := x1) d_M_joined_248 rfl ?_
    refine x_icmp_ge (tgt := 334) d_M_joined_249 rfl (fun hc => ?_) (fun hc => ?_)
    · have h := h.1 hc
      refine x_iload (x := x7) d_M_joined_334 rfl ?_
      refine x_bipush (v := 80) d_M_joined_336 (by decide) ?_
      refine x_icmp_le (tgt := 348) d_M_joined_338 rfl (fun hc => ?_) (fun hc => ?_)
      · have h := h.1 hc
        refine x_aload_n (x := o) d_M_joined_348 rfl ?_
        refine x_get (v := .ref (a 5)) f_M_17 (eM_o _ _ _ _) rfl d_M_joined_349 ?_
        refine x_iload (x := x6) d_M_joined_352 rfl ?_
        refine x_iload (x := x7) d_M_joined_354 rfl ?_
        refine x_iast (t0 := 0) (eM_5 _ _ _ _) rfl h.1 (sM_5 _ _ _ _ _ _) d_M_joined_356 ?_
        have h := h.2
        refine x_aload_n (x := o) d_M_joined_357 rfl ?_
        refine x_get (v := .ref (a 4)) f_M_13 (eM_o _ _ _ _) rfl d_M_joined_358 ?_
        refine x_iload (x := x6) d_M_joined_361 rfl ?_
        refine x_iload (x := x5) d_M_joined_363 rfl ?_
        refine x_if_eq (tgt := 378) d_M_joined_365 rfl (fun hc => ?_) (fun hc => ?_)
        · have h := h.1 hc
          refine x_iload (x := x4) d_M_joined_378 rfl ?_
          refine x_sub [0, 3, 4] rfl ?_
          exact w_M_joined_380 l D cs Ev hE o a d post  x5 x6 x4 x6 (sA u 5 x6.toNatClampNeg x7) h
        · have h := h.2 hc
          refine x_aload_n (x := o) d_M_joined_368 rfl ?_
          refine x_get (v := .ref (a 4)) f_M_13 (eM_o _ _ _ _) rfl d_M_joined_369 ?_
          refine x_iload (x := x6) d_M_joined_372 rfl ?_
          refine x_iald (t0 := 0) (eM_4 _ _ _ _) rfl h.1 d_M_joined_374 ?_
          have h := h.2
          refine x_goto (tgt := 380) d_M_joined_375 rfl ?_
          refine x_sub [0, 3, 4] rfl ?_
          exact w_M_joined_380 l D cs Ev hE o a d post  x5 x6 (gA (sA u 5 x6.toNatClampNeg x7) 4 x6.toNatClampNeg) x6 (sA u 5 x6.toNatClampNeg x7) h
      · have h := h.2 hc
        refine x_aload_n (x := o) d_M_joined_341 rfl ?_
        refine x_iconst (v := 2) d_M_joined_342 (by decide) ?_
        refine x_put f_M_82 fw_M_0 (eM_o _ _ _ _) rfl rfl (Nat.le_of_ble_eq_true rfl) (sM_0 _ _ _ _ _) d_M_joined_343 ?_
        refine x_iconst (v := 0) d_M_joined_346 (by decide) ?_
        refine x_iret d_M_joined_347 ⟨_, rfl, ?_⟩
        exact h
    · have h := h.2 hc
      refine x_aload_n (x := o) d_M_joined_252 rfl ?_
      refine x_get (v := .ref (a 2)) f_M_7 (eM_o _ _ _ _) rfl d_M_joined_253 ?_
      refine x_iload (x := x9) d_M_joined_256 rfl ?_
      refine x_cald (t0 := 1) (eM_2 _ _ _ _) rfl h.1 d_M_joined_258 ?_
      have h := h.2
      refine x_bipush (v := 32) d_M_joined_259 (by decide) ?_
      refine x_icmp_ne (tgt := 269) d_M_joined_261 rfl (fun hc => ?_) (fun hc => ?_)
      · have h := h.1 hc
        exact w_M_joined_269 l D cs Ev hE o a d post (fun zx1 zx4 zx5 zx6 zx7 zx8 zx9 zu => P_M_joined_246 post f zx1 zx4 zx5 zx6 zx7 zx8 zx9 zu) ih x1 x4 x5 x6 x7 x8 x9 u h
      · have h := h.2 hc
        refine x_iload (x := x8) d_M_joined_264 rfl ?_
        refine x_if_eq (tgt := 328) d_M_joined_266 rfl (fun hc => ?_) (fun hc => ?_)
        · have h := h.1 hc
          exact w_M_joined_328 l D cs Ev hE o a d post (fun zx1 zx4 zx5 zx6 zx7 zx8 zx9 zu => P_M_joined_246 post f zx1 zx4 zx5 zx6 zx7 zx8 zx9 zu) ih x1 x4 x5 x6 x7 x8 x9 u h
        · have h := h.2 hc
          exact w_M_joined_269 l D cs Ev hE o a d post (fun zx1 zx4 zx5 zx6 zx7 zx8 zx9 zu => P_M_joined_246 post f zx1 zx4 zx5 zx6 zx7 zx8 zx9 zu) ih x1 x4 x5 x6 x7 x8 x9 u h
def P_M_joined_240 (post : Int32 → MS → Prop) (x1 : Int32) (x4 : Int32) (x5 : Int32) (x6 : Int32) (x7 : Int32) (s0 : Int32) (u : MS) : Prop := (∃ g, P_M_joined_246 post g x1 x4 x5 x6 x7 s0 6 u)
set_option maxHeartbeats 600000 in
set_option maxRecDepth 100000 in
theorem w_M_joined_240 (l : Launch) (D : va_G) (cs : Nat → ClassId) (Ev : (Nat → Prop) → State → Prop) (hE : xEok Ev) (o : Nat) (a : Nat → Nat) (d : Nat) (post : Int32 → MS → Prop) (x1 : Int32) (x4 : Int32) (x5 : Int32) (x6 : Int32) (x7 : Int32) (s0 : Int32) (u : MS) (h : P_M_joined_240 post  x1 x4 x5 x6 x7 s0 u) : RR l D clX (tysX cs) Ev "DeckFrontModel" b_M_joined 10 w_M_joined (rmD (d + 1)) (some .int) (wdM o a cs) (pI post) 0 0 0 0 240 [(0, .ref o), (1, .int x1), (4, .int x4), (5, .int x5), (6, .int x6), (7, .int x7)] [.int s0] u := by
  unfold P_M_joined_240 at h
  refine x_istore (lv' := [(8, .int s0), (0, .ref o), (1, .int x1), (4, .int x4), (5, .int x5), (6, .int x6), (7, .int x7)]) d_M_joined_240 (by decide) rfl ?_
  refine x_bipush (v := 6) d_M_joined_242 (by decide) ?_
  refine x_istore (lv' := [(9, .int 6), (8, .int s0), (0, .ref o), (1, .int x1), (4, .int x4), (5, .int x5), (6, .int x6), (7, .int x7)]) d_M_joined_244 (by decide) rfl ?_
  refine x_sub [2, 3, 4, 5, 6, 7, 1, 0] rfl ?_
  obtain ⟨f9, h⟩ := h
  exact w_M_joined_246 l D cs Ev hE o a d post  f9 x1 x4 x5 x6 x7 s0 6 u h
def P_M_joined_239 (post : Int32 → MS → Prop) (x1 : Int32) (x4 : Int32) (x5 : Int32) (x6 : Int32) (x7 : Int32) (u : MS) : Prop := P_M_joined_240 post x1 x4 x5 x6 x7 0 u
set_option maxHeartbeats 600000 in
set_option maxRecDepth 100000 in
theorem w_M_joined_239 (l : Launch) (D : va_G) (cs : Nat → ClassId) (Ev : (Nat → Prop) → State → Prop) (hE : xEok Ev) (o : Nat) (a : Nat → Nat) (d : Nat) (post : Int32 → MS → Prop) (x1 : Int32) (x4 : Int32) (x5 : Int32) (x6 : Int32) (x7 : Int32) (u : MS) (h : P_M_joined_239 post  x1 x4 x5 x6 x7 u) : RR l D clX (tysX cs) Ev "DeckFrontModel" b_M_joined 10 w_M_joined (rmD (d + 1)) (some .int) (wdM o a cs) (pI post) 0 0 0 0 239 [(0, .ref o), (1, .int x1), (4, .int x4), (5, .int x5), (6, .int x6), (7, .int x7)] [] u := by
  unfold P_M_joined_239 at h
  refine x_iconst (v := 0) d_M_joined_239 (by decide) ?_
  exact w_M_joined_240 l D cs Ev hE o a d post  x1 x4 x5 x6 x7 0 u h
def P_M_joined_219 (post : Int32 → MS → Prop) (x1 : Int32) (x4 : Int32) (x5 : Int32) (x6 : Int32) (s0 : Int32) (u : MS) : Prop := ((x5 = 0 → P_M_joined_239 post x1 x4 x5 x6 s0 u) ∧ (¬ x5 = 0 → P_M_inQuote (fun r2 u1 => ((r2 = 0 → P_M_joined_239 post x1 x4 x5 x6 s0 u1) ∧ (¬ r2 = 0 → P_M_joined_240 post x1 x4 x5 x6 s0 1 u1))) x6 u))
set_option maxHeartbeats 600000 in
set_option maxRecDepth 100000 in
theorem w_M_joined_219 (l : Launch) (D : va_G) (cs : Nat → ClassId) (Ev : (Nat → Prop) → State → Prop) (hE : xEok Ev) (o : Nat) (a : Nat → Nat) (d : Nat) (post : Int32 → MS → Prop) (x1 : Int32) (x4 : Int32) (x5 : Int32) (x6 : Int32) (s0 : Int32) (u : MS) (h : P_M_joined_219 post  x1 x4 x5 x6 s0 u) : RR l D clX (tysX cs) Ev "DeckFrontModel" b_M_joined 10 w_M_joined (rmD (d + 1)) (some .int) (wdM o a cs) (pI post) 0 0 0 0 219 [(0, .ref o), (1, .int x1), (4, .int x4), (5, .int x5), (6, .int x6)] [.int s0] u := by
  unfold P_M_joined_219 at h
  refine x_istore (lv' := [(7, .int s0), (0, .ref o), (1, .int x1), (4, .int x4), (5, .int x5), (6, .int x6)]) d_M_joined_219 (by decide) rfl ?_
  refine x_iload (x := x5) d_M_joined_221 rfl ?_
  refine x_if_eq (tgt := 239) d_M_joined_223 rfl (fun hc => ?_) (fun hc => ?_)
  · have h := h.1 hc
    refine x_sub [1, 2, 3, 4, 5, 0] rfl ?_
    exact w_M_joined_239 l D cs Ev hE o a d post  x1 x4 x5 x6 s0 u h
  · have h := h.2 hc
    refine x_aload_n (x := o) d_M_joined_226 rfl ?_
    refine x_iload (x := x6) d_M_joined_227 rfl ?_
    refine x_callV (st := []) k_M_102 rfl (eM_o _ _ _ _) x_id (c_M_inQuote l D cs Ev hE o a (d + 0) _ x6 u h) hE (rmD_ok (by omega) (by decide)) rfl (Nat.le_of_ble_eq_true rfl) rfl d_M_joined_229 (x_rI (fun r2 u1 h => ?_))
    refine x_if_eq (tgt := 239) d_M_joined_232 rfl (fun hc => ?_) (fun hc => ?_)
    · have h := h.1 hc
      refine x_sub [1, 2, 3, 4, 5, 0] rfl ?_
      exact w_M_joined_239 l D cs Ev hE o a d post  x1 x4 x5 x6 s0 u1 h
    · have h := h.2 hc
      refine x_iconst (v := 1) d_M_joined_235 (by decide) ?_
      refine x_goto (tgt := 240) d_M_joined_236 rfl ?_
      refine x_sub [1, 2, 3, 4, 5, 0] rfl ?_
      exact w_M_joined_240 l D cs Ev hE o a d post  x1 x4 x5 x6 s0 1 u1 h
def P_M_joined_182 (post : Int32 → MS → Prop) (x1 : Int32) (x4 : Int32) (x5 : Int32) (s0 : Int32) (u : MS) : Prop := ((s0 < 0 → P_M_joined_196 post u) ∧ (¬ s0 < 0 → ((¬ s0 = 24 → ((x5 = 0 → P_M_joined_219 post x1 x4 x5 s0 0 u) ∧ (¬ x5 = 0 → (vp_in s0 24 ∧ P_M_joined_219 post x1 x4 x5 s0 (gA u 5 s0.toNatClampNeg) u)))) ∧ (s0 = 24 → P_M_joined_196 post u))))
set_option maxHeartbeats 600000 in
set_option maxRecDepth 100000 in
theorem w_M_joined_182 (l : Launch) (D : va_G) (cs : Nat → ClassId) (Ev : (Nat → Prop) → State → Prop) (hE : xEok Ev) (o : Nat) (a : Nat → Nat) (d : Nat) (post : Int32 → MS → Prop) (x1 : Int32) (x4 : Int32) (x5 : Int32) (s0 : Int32) (u : MS) (h : P_M_joined_182 post  x1 x4 x5 s0 u) : RR l D clX (tysX cs) Ev "DeckFrontModel" b_M_joined 10 w_M_joined (rmD (d + 1)) (some .int) (wdM o a cs) (pI post) 0 0 0 0 182 [(0, .ref o), (1, .int x1), (4, .int x4), (5, .int x5)] [.int s0] u := by
  unfold P_M_joined_182 at h
  refine x_istore (lv' := [(6, .int s0), (0, .ref o), (1, .int x1), (4, .int x4), (5, .int x5)]) d_M_joined_182 (by decide) rfl ?_
  refine x_iload (x := s0) d_M_joined_184 rfl ?_
  refine x_if_lt (tgt := 196) d_M_joined_186 rfl (fun hc => ?_) (fun hc => ?_)
  · have h := h.1 hc
    refine x_sub [1] rfl ?_
    exact w_M_joined_196 l D cs Ev hE o a d post  u h
  · have h := h.2 hc
    refine x_iload (x := s0) d_M_joined_189 rfl ?_
    refine x_bipush (v := 24) d_M_joined_191 (by decide) ?_
    refine x_icmp_ne (tgt := 203) d_M_joined_193 rfl (fun hc => ?_) (fun hc => ?_)
    · have h := h.1 hc
      refine x_iload (x := x5) d_M_joined_203 rfl ?_
      refine x_if_eq (tgt := 218) d_M_joined_205 rfl (fun hc => ?_) (fun hc => ?_)
      · have h := h.1 hc
        refine x_iconst (v := 0) d_M_joined_218 (by decide) ?_
        refine x_sub [1, 2, 3, 4, 0] rfl ?_
        exact w_M_joined_219 l D cs Ev hE o a d post  x1 x4 x5 s0 0 u h
      · have h := h.2 hc
        refine x_aload_n (x := o) d_M_joined_208 rfl ?_
        refine x_get (v := .ref (a 5)) f_M_17 (eM_o _ _ _ _) rfl d_M_joined_209 ?_
        refine x_iload (x := s0) d_M_joined_212 rfl ?_
        refine x_iald (t0 := 0) (eM_5 _ _ _ _) rfl h.1 d_M_joined_214 ?_
        have h := h.2
        refine x_goto (tgt := 219) d_M_joined_215 rfl ?_
        refine x_sub [1, 2, 3, 4, 0] rfl ?_
        exact w_M_joined_219 l D cs Ev hE o a d post  x1 x4 x5 s0 (gA u 5 s0.toNatClampNeg) u h
    · have h := h.2 hc
      refine x_sub [1] rfl ?_
      exact w_M_joined_196 l D cs Ev hE o a d post  u h
def P_M_joined_164 (post : Int32 → MS → Prop) (x1 : Int32) (x4 : Int32) (x5 : Int32) (u : MS) : Prop := ((x5 = 0 → P_M_joined_182 post x1 x4 x5 (gI u 3) u) ∧ (¬ x5 = 0 → P_M_joined_182 post x1 x4 x5 ((gI u 3) - (1 : Int32)) u))
set_option maxHeartbeats 600000 in
set_option maxRecDepth 100000 in
theorem w_M_joined_164 (l : Launch) (D : va_G) (cs : Nat → ClassId) (Ev : (Nat → Prop) → State → Prop) (hE : xEok Ev) (o : Nat) (a : Nat → Nat) (d : Nat) (post : Int32 → MS → Prop) (x1 : Int32) (x4 : Int32) (x5 : Int32) (u : MS) (h : P_M_joined_164 post  x1 x4 x5 u) : RR l D clX (tysX cs) Ev "DeckFrontModel" b_M_joined 10 w_M_joined (rmD (d + 1)) (some .int) (wdM o a cs) (pI post) 0 0 0 0 164 [(0, .ref o), (1, .int x1), (4, .int x4), (5, .int x5)] [] u := by
  unfold P_M_joined_164 at h
  refine x_iload (x := x5) d_M_joined_164 rfl ?_
  refine x_if_eq (tgt := 178) d_M_joined_166 rfl (fun hc => ?_) (fun hc => ?_)
  · have h := h.1 hc
    refine x_aload_n (x := o) d_M_joined_178 rfl ?_
    refine x_get (v := .int (gI u 3)) f_M_99 (eM_o _ _ _ _) rfl d_M_joined_179 ?_
    exact w_M_joined_182 l D cs Ev hE o a d post  x1 x4 x5 (gI u 3) u h
  · have h := h.2 hc
    refine x_aload_n (x := o) d_M_joined_169 rfl ?_
    refine x_get (v := .int (gI u 3)) f_M_99 (eM_o _ _ _ _) rfl d_M_joined_170 ?_
    refine x_iconst (v := 1) d_M_joined_173 (by decide) ?_
    refine x_isub d_M_joined_174 ?_
    refine x_goto (tgt := 182) d_M_joined_175 rfl ?_
    exact w_M_joined_182 l D cs Ev hE o a d post  x1 x4 x5 ((gI u 3) - (1 : Int32)) u h
def P_M_joined_142 (post : Int32 → MS → Prop) (x1 : Int32) (x2 : Int32) (x3 : Int32) (x4 : Int32) (s0 : Int32) (u : MS) : Prop := ((x2 = 0 → P_M_joined_157 post u) ∧ (¬ x2 = 0 → ((s0 = 0 → P_M_joined_164 post x1 x4 s0 u) ∧ (¬ s0 = 0 → ((x3 = 0 → P_M_joined_164 post x1 x4 s0 u) ∧ (¬ x3 = 0 → P_M_joined_157 post u))))))
set_option maxHeartbeats 600000 in
set_option maxRecDepth 100000 in
theorem w_M_joined_142 (l : Launch) (D : va_G) (cs : Nat → ClassId) (Ev : (Nat → Prop) → State → Prop) (hE : xEok Ev) (o : Nat) (a : Nat → Nat) (d : Nat) (post : Int32 → MS → Prop) (x1 : Int32) (x2 : Int32) (x3 : Int32) (x4 : Int32) (s0 : Int32) (u : MS) (h : P_M_joined_142 post  x1 x2 x3 x4 s0 u) : RR l D clX (tysX cs) Ev "DeckFrontModel" b_M_joined 10 w_M_joined (rmD (d + 1)) (some .int) (wdM o a cs) (pI post) 0 0 0 0 142 [(0, .ref o), (1, .int x1), (2, .int x2), (3, .int x3), (4, .int x4)] [.int s0] u := by
  unfold P_M_joined_142 at h
  refine x_istore (lv' := [(5, .int s0), (0, .ref o), (1, .int x1), (2, .int x2), (3, .int x3), (4, .int x4)]) d_M_joined_142 (by decide) rfl ?_
  refine x_iload_n (x := x2) d_M_joined_144 rfl ?_
  refine x_if_eq (tgt := 157) d_M_joined_145 rfl (fun hc => ?_) (fun hc => ?_)
  · have h := h.1 hc
    refine x_sub [1] rfl ?_
    exact w_M_joined_157 l D cs Ev hE o a d post  u h
  · have h := h.2 hc
    refine x_iload (x := s0) d_M_joined_148 rfl ?_
    refine x_if_eq (tgt := 164) d_M_joined_150 rfl (fun hc => ?_) (fun hc => ?_)
    · have h := h.1 hc
      refine x_sub [1, 2, 5, 0] rfl ?_
      exact w_M_joined_164 l D cs Ev hE o a d post  x1 x4 s0 u h
    · have h := h.2 hc
      refine x_iload_n (x := x3) d_M_joined_153 rfl ?_
      refine x_if_eq (tgt := 164) d_M_joined_154 rfl (fun hc => ?_) (fun hc => ?_)
      · have h := h.1 hc
        refine x_sub [1, 2, 5, 0] rfl ?_
        exact w_M_joined_164 l D cs Ev hE o a d post  x1 x4 s0 u h
      · have h := h.2 hc
        refine x_sub [1] rfl ?_
        exact w_M_joined_157 l D cs Ev hE o a d post  u h
def P_M_joined_141 (post : Int32 → MS → Prop) (x1 : Int32) (x2 : Int32) (x3 : Int32) (x4 : Int32) (u : MS) : Prop := P_M_joined_142 post x1 x2 x3 x4 0 u
set_option maxHeartbeats 600000 in
set_option maxRecDepth 100000 in
theorem w_M_joined_141 (l : Launch) (D : va_G) (cs : Nat → ClassId) (Ev : (Nat → Prop) → State → Prop) (hE : xEok Ev) (o : Nat) (a : Nat → Nat) (d : Nat) (post : Int32 → MS → Prop) (x1 : Int32) (x2 : Int32) (x3 : Int32) (x4 : Int32) (u : MS) (h : P_M_joined_141 post  x1 x2 x3 x4 u) : RR l D clX (tysX cs) Ev "DeckFrontModel" b_M_joined 10 w_M_joined (rmD (d + 1)) (some .int) (wdM o a cs) (pI post) 0 0 0 0 141 [(0, .ref o), (1, .int x1), (2, .int x2), (3, .int x3), (4, .int x4)] [] u := by
  unfold P_M_joined_141 at h
  refine x_iconst (v := 0) d_M_joined_141 (by decide) ?_
  exact w_M_joined_142 l D cs Ev hE o a d post  x1 x2 x3 x4 0 u h
def P_M_joined_110 (post : Int32 → MS → Prop) (x1 : Int32) (x2 : Int32) (x3 : Int32) (x4 : Int32) (u : MS) : Prop := ((x1 ≤ 5 → P_M_joined_141 post x1 x2 x3 x4 u) ∧ (¬ x1 ≤ 5 → (vp_in (5 : Int32) 72 ∧ (((gA u 2 (5 : Int32).toNatClampNeg) = 32 → P_M_joined_141 post x1 x2 x3 x4 u) ∧ (¬ (gA u 2 (5 : Int32).toNatClampNeg) = 32 → (vp_in (5 : Int32) 72 ∧ (((gA u 2 (5 : Int32).toNatClampNeg) = 48 → P_M_joined_141 post x1 x2 x3 x4 u) ∧ (¬ (gA u 2 (5 : Int32).toNatClampNeg) = 48 → P_M_joined_142 post x1 x2 x3 x4 1 u))))))))
set_option maxHeartbeats 600000 in
set_option maxRecDepth 100000 in
theorem w_M_joined_110 (l : Launch) (D : va_G) (cs : Nat → ClassId) (Ev : (Nat → Prop) → State → Prop) (hE : xEok Ev) (o : Nat) (a : Nat → Nat) (d : Nat) (post : Int32 → MS → Prop) (x1 : Int32) (x2 : Int32) (x3 : Int32) (x4 : Int32) (u : MS) (h : P_M_joined_110 post  x1 x2 x3 x4 u) : RR l D clX (tysX cs) Ev "DeckFrontModel" b_M_joined 10 w_M_joined (rmD (d + 1)) (some .int) (wdM o a cs) (pI post) 0 0 0 0 110 [(0, .ref o), (1, .int x1), (2, .int x2), (3, .int x3), (4, .int x4)] [] u := by
  unfold P_M_joined_110 at h
  refine x_iload_n (x := x1) d_M_joined_110 rfl ?_
  refine x_iconst (v := 5) d_M_joined_111 (by decide) ?_
  refine x_icmp_le (tgt := 141) d_M_joined_112 rfl (fun hc => ?_) (fun hc => ?_)
  · have h := h.1 hc
    exact w_M_joined_141 l D cs Ev hE o a d post  x1 x2 x3 x4 u h
  · have h := h.2 hc
    refine x_aload_n (x := o) d_M_joined_115 rfl ?_
    refine x_get (v := .ref (a 2)) f_M_7 (eM_o _ _ _ _) rfl d_M_joined_116 ?_
    refine x_iconst (v := 5) d_M_joined_119 (by decide) ?_
    refine x_cald (t0 := 1) (eM_2 _ _ _ _) rfl h.1 d_M_joined_120 ?_
    have h := h.2
    refine x_bipush (v := 32) d_M_joined_121 (by decide) ?_
    refine x_icmp_eq (tgt := 141) d_M_joined_123 rfl (fun hc => ?_) (fun hc => ?_)
    · have h := h.1 hc
      exact w_M_joined_141 l D cs Ev hE o a d post  x1 x2 x3 x4 u h
    · have h := h.2 hc
      refine x_aload_n (x := o) d_M_joined_126 rfl ?_
      refine x_get (v := .ref (a 2)) f_M_7 (eM_o _ _ _ _) rfl d_M_joined_127 ?_
      refine x_iconst (v := 5) d_M_joined_130 (by decide) ?_
      refine x_cald (t0 := 1) (eM_2 _ _ _ _) rfl h.1 d_M_joined_131 ?_
      have h := h.2
      refine x_bipush (v := 48) d_M_joined_132 (by decide) ?_
      refine x_icmp_eq (tgt := 141) d_M_joined_134 rfl (fun hc => ?_) (fun hc => ?_)
      · have h := h.1 hc
        exact w_M_joined_141 l D cs Ev hE o a d post  x1 x2 x3 x4 u h
      · have h := h.2 hc
        refine x_iconst (v := 1) d_M_joined_137 (by decide) ?_
        refine x_goto (tgt := 142) d_M_joined_138 rfl ?_
        exact w_M_joined_142 l D cs Ev hE o a d post  x1 x2 x3 x4 1 u h
def P_M_joined_102 (post : Int32 → MS → Prop) (K10 : Int32 → Int32 → Int32 → Int32 → Int32 → MS → Prop) (x1 : Int32) (x2 : Int32) (x3 : Int32) (x5 : Int32) (s0 : Int32) (u : MS) : Prop := K10 x1 x2 x3 s0 (x5 + 1) u
set_option maxHeartbeats 600000 in
set_option maxRecDepth 100000 in
theorem w_M_joined_102 (l : Launch) (D : va_G) (cs : Nat → ClassId) (Ev : (Nat → Prop) → State → Prop) (hE : xEok Ev) (o : Nat) (a : Nat → Nat) (d : Nat) (post : Int32 → MS → Prop) (K10 : Int32 → Int32 → Int32 → Int32 → Int32 → MS → Prop) (hK10 : ∀ (x1 : Int32) (x2 : Int32) (x3 : Int32) (x4 : Int32) (x5 : Int32) (u : MS), K10 x1 x2 x3 x4 x5 u → RR l D clX (tysX cs) Ev "DeckFrontModel" b_M_joined 10 w_M_joined (rmD (d + 1)) (some .int) (wdM o a cs) (pI post) 0 0 0 0 10 [(0, .ref o), (1, .int x1), (2, .int x2), (3, .int x3), (4, .int x4), (5, .int x5)] [] u) (x1 : Int32) (x2 : Int32) (x3 : Int32) (x5 : Int32) (s0 : Int32) (u : MS) (h : P_M_joined_102 post K10 x1 x2 x3 x5 s0 u) : RR l D clX (tysX cs) Ev "DeckFrontModel" b_M_joined 10 w_M_joined (rmD (d + 1)) (some .int) (wdM o a cs) (pI post) 0 0 0 0 102 [(0, .ref o), (1, .int x1), (2, .int x2), (3, .int x3), (5, .int x5)] [.int s0] u := by
  unfold P_M_joined_102 at h
  refine x_istore (lv' := [(4, .int s0), (0, .ref o), (1, .int x1), (2, .int x2), (3, .int x3), (5, .int x5)]) d_M_joined_102 (by decide) rfl ?_
  refine x_iinc (v := x5 + 1) (lv' := [(5, .int (x5 + 1)), (4, .int s0), (0, .ref o), (1, .int x1), (2, .int x2), (3, .int x3)]) d_M_joined_104 rfl rfl (by decide) rfl ?_
  refine x_goto (tgt := 10) d_M_joined_107 rfl ?_
  refine x_sub [2, 3, 4, 5, 1, 0] rfl ?_
  exact hK10 x1 x2 x3 s0 (x5 + 1) u h
def P_M_joined_75 (post : Int32 → MS → Prop) (K10 : Int32 → Int32 → Int32 → Int32 → Int32 → MS → Prop) (x1 : Int32) (x2 : Int32) (x4 : Int32) (x5 : Int32) (x6 : Int32) (s0 : Int32) (u : MS) : Prop := ((x6 = 0 → P_M_joined_102 post K10 x1 x2 s0 x5 x4 u) ∧ (¬ x6 = 0 → (vp_in x5 72 ∧ P_M_joined_102 post K10 x1 x2 s0 x5 ((((10 : Int32) * x4) + (gA u 2 x5.toNatClampNeg)) - (48 : Int32)) u)))
set_option maxHeartbeats 600000 in
set_option maxRecDepth 100000 in
theorem w_M_joined_75 (l : Launch) (D : va_G) (cs : Nat → ClassId) (Ev : (Nat → Prop) → State → Prop) (hE : xEok Ev) (o : Nat) (a : Nat → Nat) (d : Nat) (post : Int32 → MS → Prop) (K10 : Int32 → Int32 → Int32 → Int32 → Int32 → MS → Prop) (hK10 : ∀ (x1 : Int32) (x2 : Int32) (x3 : Int32) (x4 : Int32) (x5 : Int32) (u : MS), K10 x1 x2 x3 x4 x5 u → RR l D clX (tysX cs) Ev "DeckFrontModel" b_M_joined 10 w_M_joined (rmD (d + 1)) (some .int) (wdM o a cs) (pI post) 0 0 0 0 10 [(0, .ref o), (1, .int x1), (2, .int x2), (3, .int x3), (4, .int x4), (5, .int x5)] [] u) (x1 : Int32) (x2 : Int32) (x4 : Int32) (x5 : Int32) (x6 : Int32) (s0 : Int32) (u : MS) (h : P_M_joined_75 post K10 x1 x2 x4 x5 x6 s0 u) : RR l D clX (tysX cs) Ev "DeckFrontModel" b_M_joined 10 w_M_joined (rmD (d + 1)) (some .int) (wdM o a cs) (pI post) 0 0 0 0 75 [(0, .ref o), (1, .int x1), (2, .int x2), (4, .int x4), (5, .int x5), (6, .int x6)] [.int s0] u := by
  unfold P_M_joined_75 at h
  refine x_istore_n (lv' := [(3, .int s0), (0, .ref o), (1, .int x1), (2, .int x2), (4, .int x4), (5, .int x5), (6, .int x6)]) d_M_joined_75 (by decide) rfl ?_
  refine x_iload (x := x6) d_M_joined_76 rfl ?_
  refine x_if_eq (tgt := 100) d_M_joined_78 rfl (fun hc => ?_) (fun hc => ?_)
  · have h := h.1 hc
    refine x_iload (x := x4) d_M_joined_100 rfl ?_
    refine x_sub [1, 2, 3, 0, 5] rfl ?_
    exact w_M_joined_102 l D cs Ev hE o a d post K10 hK10 x1 x2 s0 x5 x4 u h
  · have h := h.2 hc
    refine x_bipush (v := 10) d_M_joined_81 (by decide) ?_
    refine x_iload (x := x4) d_M_joined_83 rfl ?_
    refine x_imul d_M_joined_85 ?_
    refine x_aload_n (x := o) d_M_joined_86 rfl ?_
    refine x_get (v := .ref (a 2)) f_M_7 (eM_o _ _ _ _) rfl d_M_joined_87 ?_
    refine x_iload (x := x5) d_M_joined_90 rfl ?_
    refine x_cald (t0 := 1) (eM_2 _ _ _ _) rfl h.1 d_M_joined_92 ?_
    have h := h.2
    refine x_iadd d_M_joined_93 ?_
    refine x_bipush (v := 48) d_M_joined_94 (by decide) ?_
    refine x_isub d_M_joined_96 ?_
    refine x_goto (tgt := 102) d_M_joined_97 rfl ?_
    refine x_sub [1, 2, 3, 0, 5] rfl ?_
    exact w_M_joined_102 l D cs Ev hE o a d post K10 hK10 x1 x2 s0 x5 ((((10 : Int32) * x4) + (gA u 2 x5.toNatClampNeg)) - (48 : Int32)) u h
def P_M_joined_70 (post : Int32 → MS → Prop) (K10 : Int32 → Int32 → Int32 → Int32 → Int32 → MS → Prop) (x1 : Int32) (x2 : Int32) (x4 : Int32) (x5 : Int32) (x6 : Int32) (u : MS) : Prop := P_M_joined_75 post K10 x1 x2 x4 x5 x6 1 u
set_option maxHeartbeats 600000 in
set_option maxRecDepth 100000 in
theorem w_M_joined_70 (l : Launch) (D : va_G) (cs : Nat → ClassId) (Ev : (Nat → Prop) → State → Prop) (hE : xEok Ev) (o : Nat) (a : Nat → Nat) (d : Nat) (post : Int32 → MS → Prop) (K10 : Int32 → Int32 → Int32 → Int32 → Int32 → MS → Prop) (hK10 : ∀ (x1 : Int32) (x2 : Int32) (x3 : Int32) (x4 : Int32) (x5 : Int32) (u : MS), K10 x1 x2 x3 x4 x5 u → RR l D clX (tysX cs) Ev "DeckFrontModel" b_M_joined 10 w_M_joined (rmD (d + 1)) (some .int) (wdM o a cs) (pI post) 0 0 0 0 10 [(0, .ref o), (1, .int x1), (2, .int x2), (3, .int x3), (4, .int x4), (5, .int x5)] [] u) (x1 : Int32) (x2 : Int32) (x4 : Int32) (x5 : Int32) (x6 : Int32) (u : MS) (h : P_M_joined_70 post K10 x1 x2 x4 x5 x6 u) : RR l D clX (tysX cs) Ev "DeckFrontModel" b_M_joined 10 w_M_joined (rmD (d + 1)) (some .int) (wdM o a cs) (pI post) 0 0 0 0 70 [(0, .ref o), (1, .int x1), (2, .int x2), (4, .int x4), (5, .int x5), (6, .int x6)] [] u := by
  unfold P_M_joined_70 at h
  refine x_iconst (v := 1) d_M_joined_70 (by decide) ?_
  refine x_goto (tgt := 75) d_M_joined_71 rfl ?_
  exact w_M_joined_75 l D cs Ev hE o a d post K10 hK10 x1 x2 x4 x5 x6 1 u h
def P_M_joined_60 (post : Int32 → MS → Prop) (K10 : Int32 → Int32 → Int32 → Int32 → Int32 → MS → Prop) (x1 : Int32) (x3 : Int32) (x4 : Int32) (x5 : Int32) (x6 : Int32) (s0 : Int32) (u : MS) : Prop := ((¬ x3 = 0 → P_M_joined_70 post K10 x1 s0 x4 x5 x6 u) ∧ (x3 = 0 → ((x6 = 0 → P_M_joined_75 post K10 x1 s0 x4 x5 x6 0 u) ∧ (¬ x6 = 0 → P_M_joined_70 post K10 x1 s0 x4 x5 x6 u))))
set_option maxHeartbeats 600000 in
set_option maxRecDepth 100000 in
theorem w_M_joined_60 (l : Launch) (D : va_G) (cs : Nat → ClassId) (Ev : (Nat → Prop) → State → Prop) (hE : xEok Ev) (o : Nat) (a : Nat → Nat) (d : Nat) (post : Int32 → MS → Prop) (K10 : Int32 → Int32 → Int32 → Int32 → Int32 → MS → Prop) (hK10 : ∀ (x1 : Int32) (x2 : Int32) (x3 : Int32) (x4 : Int32) (x5 : Int32) (u : MS), K10 x1 x2 x3 x4 x5 u → RR l D clX (tysX cs) Ev "DeckFrontModel" b_M_joined 10 w_M_joined (rmD (d + 1)) (some .int) (wdM o a cs) (pI post) 0 0 0 0 10 [(0, .ref o), (1, .int x1), (2, .int x2), (3, .int x3), (4, .int x4), (5, .int x5)] [] u) (x1 : Int32) (x3 : Int32) (x4 : Int32) (x5 : Int32) (x6 : Int32) (s0 : Int32) (u : MS) (h : P_M_joined_60 post K10 x1 x3 x4 x5 x6 s0 u) : RR l D clX (tysX cs) Ev "DeckFrontModel" b_M_joined 10 w_M_joined (rmD (d + 1)) (some .int) (wdM o a cs) (pI post) 0 0 0 0 60 [(0, .ref o), (1, .int x1), (3, .int x3), (4, .int x4), (5, .int x5), (6, .int x6)] [.int s0] u := by
  unfold P_M_joined_60 at h
  refine x_istore_n (lv' := [(2, .int s0), (0, .ref o), (1, .int x1), (3, .int x3), (4, .int x4), (5, .int x5), (6, .int x6)]) d_M_joined_60 (by decide) rfl ?_
  refine x_iload_n (x := x3) d_M_joined_61 rfl ?_
  refine x_if_ne (tgt := 70) d_M_joined_62 rfl (fun hc => ?_) (fun hc => ?_)
  · have h := h.1 hc
    refine x_sub [1, 2, 0, 4, 5, 6] rfl ?_
    exact w_M_joined_70 l D cs Ev hE o a d post K10 hK10 x1 s0 x4 x5 x6 u h
  · have h := h.2 hc
    refine x_iload (x := x6) d_M_joined_65 rfl ?_
    refine x_if_eq (tgt := 74) d_M_joined_67 rfl (fun hc => ?_) (fun hc => ?_)
    · have h := h.1 hc
      refine x_iconst (v := 0) d_M_joined_74 (by decide) ?_
      refine x_sub [1, 2, 0, 4, 5, 6] rfl ?_
      exact w_M_joined_75 l D cs Ev hE o a d post K10 hK10 x1 s0 x4 x5 x6 0 u h
    · have h := h.2 hc
      refine x_sub [1, 2, 0, 4, 5, 6] rfl ?_
      exact w_M_joined_70 l D cs Ev hE o a d post K10 hK10 x1 s0 x4 x5 x6 u h
def P_M_joined_59 (post : Int32 → MS → Prop) (K10 : Int32 → Int32 → Int32 → Int32 → Int32 → MS → Prop) (x1 : Int32) (x3 : Int32) (x4 : Int32) (x5 : Int32) (x6 : Int32) (u : MS) : Prop := P_M_joined_60 post K10 x1 x3 x4 x5 x6 0 u
set_option maxHeartbeats 600000 in
set_option maxRecDepth 100000 in
theorem w_M_joined_59 (l : Launch) (D : va_G) (cs : Nat → ClassId) (Ev : (Nat → Prop) → State → Prop) (hE : xEok Ev) (o : Nat) (a : Nat → Nat) (d : Nat) (post : Int32 → MS → Prop) (K10 : Int32 → Int32 → Int32 → Int32 → Int32 → MS → Prop) (hK10 : ∀ (x1 : Int32) (x2 : Int32) (x3 : Int32) (x4 : Int32) (x5 : Int32) (u : MS), K10 x1 x2 x3 x4 x5 u → RR l D clX (tysX cs) Ev "DeckFrontModel" b_M_joined 10 w_M_joined (rmD (d + 1)) (some .int) (wdM o a cs) (pI post) 0 0 0 0 10 [(0, .ref o), (1, .int x1), (2, .int x2), (3, .int x3), (4, .int x4), (5, .int x5)] [] u) (x1 : Int32) (x3 : Int32) (x4 : Int32) (x5 : Int32) (x6 : Int32) (u : MS) (h : P_M_joined_59 post K10 x1 x3 x4 x5 x6 u) : RR l D clX (tysX cs) Ev "DeckFrontModel" b_M_joined 10 w_M_joined (rmD (d + 1)) (some .int) (wdM o a cs) (pI post) 0 0 0 0 59 [(0, .ref o), (1, .int x1), (3, .int x3), (4, .int x4), (5, .int x5), (6, .int x6)] [] u := by
  unfold P_M_joined_59 at h
  refine x_iconst (v := 0) d_M_joined_59 (by decide) ?_
  exact w_M_joined_60 l D cs Ev hE o a d post K10 hK10 x1 x3 x4 x5 x6 0 u h
def P_M_joined_55 (post : Int32 → MS → Prop) (K10 : Int32 → Int32 → Int32 → Int32 → Int32 → MS → Prop) (x1 : Int32) (x3 : Int32) (x4 : Int32) (x5 : Int32) (x6 : Int32) (u : MS) : Prop := P_M_joined_60 post K10 x1 x3 x4 x5 x6 1 u
set_option maxHeartbeats 600000 in
set_option maxRecDepth 100000 in
theorem w_M_joined_55 (l : Launch) (D : va_G) (cs : Nat → ClassId) (Ev : (Nat → Prop) → State → Prop) (hE : xEok Ev) (o : Nat) (a : Nat → Nat) (d : Nat) (post : Int32 → MS → Prop) (K10 : Int32 → Int32 → Int32 → Int32 → Int32 → MS → Prop) (hK10 : ∀ (x1 : Int32) (x2 : Int32) (x3 : Int32) (x4 : Int32) (x5 : Int32) (u : MS), K10 x1 x2 x3 x4 x5 u → RR l D clX (tysX cs) Ev "DeckFrontModel" b_M_joined 10 w_M_joined (rmD (d + 1)) (some .int) (wdM o a cs) (pI post) 0 0 0 0 10 [(0, .ref o), (1, .int x1), (2, .int x2), (3, .int x3), (4, .int x4), (5, .int x5)] [] u) (x1 : Int32) (x3 : Int32) (x4 : Int32) (x5 : Int32) (x6 : Int32) (u : MS) (h : P_M_joined_55 post K10 x1 x3 x4 x5 x6 u) : RR l D clX (tysX cs) Ev "DeckFrontModel" b_M_joined 10 w_M_joined (rmD (d + 1)) (some .int) (wdM o a cs) (pI post) 0 0 0 0 55 [(0, .ref o), (1, .int x1), (3, .int x3), (4, .int x4), (5, .int x5), (6, .int x6)] [] u := by
  unfold P_M_joined_55 at h
  refine x_iconst (v := 1) d_M_joined_55 (by decide) ?_
  refine x_goto (tgt := 60) d_M_joined_56 rfl ?_
  exact w_M_joined_60 l D cs Ev hE o a d post K10 hK10 x1 x3 x4 x5 x6 1 u h
def P_M_joined_10 (post : Int32 → MS → Prop) : Nat → Int32 → Int32 → Int32 → Int32 → Int32 → MS → Prop
  | 0, _, _, _, _, _, _ => False
  | f + 1, x1, x2, x3, x4, x5, u => ((5 ≤ x5 → P_M_joined_110 post x1 x2 x3 x4 u) ∧ (¬ 5 ≤ x5 → ((x1 ≤ x5 → P_M_joined_110 post x1 x2 x3 x4 u) ∧ (¬ x1 ≤ x5 → (vp_in x5 72 ∧ (∀ v3, v3 = (isDig (gA u 2 x5.toNatClampNeg)) → ((x2 = 0 → P_M_joined_59 post (fun zx1 zx2 zx3 zx4 zx5 zu => P_M_joined_10 post f zx1 zx2 zx3 zx4 zx5 zu) x1 x3 x4 x5 v3 u) ∧ (¬ x2 = 0 → ((¬ v3 = 0 → P_M_joined_55 post (fun zx1 zx2 zx3 zx4 zx5 zu => P_M_joined_10 post f zx1 zx2 zx3 zx4 zx5 zu) x1 x3 x4 x5 v3 u) ∧ (v3 = 0 → (vp_in x5 72 ∧ ((¬ (gA u 2 x5.toNatClampNeg) = 32 → P_M_joined_59 post (fun zx1 zx2 zx3 zx4 zx5 zu => P_M_joined_10 post f zx1 zx2 zx3 zx4 zx5 zu) x1 x3 x4 x5 v3 u) ∧ ((gA u 2 x5.toNatClampNeg) = 32 → P_M_joined_55 post (fun zx1 zx2 zx3 zx4 zx5 zu => P_M_joined_10 post f zx1 zx2 zx3 zx4 zx5 zu) x1 x3 x4 x5 v3 u)))))))))))))
set_option maxHeartbeats 600000 in
set_option maxRecDepth 100000 in
theorem w_M_joined_10 (l : Launch) (D : va_G) (cs : Nat → ClassId) (Ev : (Nat → Prop) → State → Prop) (hE : xEok Ev) (o : Nat) (a : Nat → Nat) (d : Nat) (post : Int32 → MS → Prop) : ∀ (f : Nat) (x1 : Int32) (x2 : Int32) (x3 : Int32) (x4 : Int32) (x5 : Int32) (u : MS), P_M_joined_10 post  f x1 x2 x3 x4 x5 u → RR l D clX (tysX cs) Ev "DeckFrontModel" b_M_joined 10 w_M_joined (rmD (d + 1)) (some .int) (wdM o a cs) (pI post) 0 0 0 0 10 [(0, .ref o), (1, .int x1), (2, .int x2), (3, .int x3), (4, .int x4), (5, .int x5)] [] u := by
  intro f
  induction f with
  | zero => intro x1 x2 x3 x4 x5 u h; exact h.elim
  | succ f ih =>
    intro x1 x2 x3 x4 x5 u h
    unfold P_M_joined_10 at h
    refine x_iload (x := x5) d_M_joined_10 rfl ?_
    refine x_iconst (v := 5) d_M_joined_12 (by decide) ?_
    refine x_icmp_ge (tgt := 110) d_M_joined_13 rfl (fun hc => ?_) (fun hc => ?_)
    · have h := h.1 hc
      refine x_sub [0, 1, 2, 3, 4] rfl ?_
      exact w_M_joined_110 l D cs Ev hE o a d post  x1 x2 x3 x4 u h
    · have h := h.2 hc
      refine x_iload (x := x5) d_M_joined_16 rfl ?_
      refine x_iload_n (x := x1) d_M_joined_18 rfl ?_
      refine x_icmp_ge (tgt := 110) d_M_joined_19 rfl (fun hc => ?_) (fun hc => ?_)
      · have h := h.1 hc
        refine x_sub [0, 1, 2, 3, 4] rfl ?_
        exact w_M_joined_110 l D cs Ev hE o a d post  x1 x2 x3 x4 u h
      · have h := h.2 hc
        refine x_aload_n (x := o) d_M_joined_22 rfl ?_
        refine x_get (v := .ref (a 2)) f_M_7 (eM_o _ _ _ _) rfl d_M_joined_23 ?_
        refine x_iload (x := x5) d_M_joined_26 rfl ?_
        refine x_cald (t0 := 1) (eM_2 _ _ _ _) rfl h.1 d_M_joined_28 ?_
        have h := h.2
        refine x_callS (st := []) k_M_90 x_none (cf_M_isDigit l D cs Ev hE (d + 0) (gA u 2 x5.toNatClampNeg)) hE (rmD_ok (by omega) (by decide)) rfl (Nat.le_of_ble_eq_true rfl) rfl d_M_joined_29 (x_rI (fun x u1 h9 => ?_))
        obtain ⟨rfl, rfl⟩ := h9
        refine x_topI (fun v3 ev3 => ?_)
        have h := h v3 ev3
        refine x_istore (lv' := [(6, .int v3), (0, .ref o), (1, .int x1), (2, .int x2), (3, .int x3), (4, .int x4), (5, .int x5)]) d_M_joined_32 (by decide) rfl ?_
        refine x_iload_n (x := x2) d_M_joined_34 rfl ?_
        refine x_if_eq (tgt := 59) d_M_joined_35 rfl (fun hc => ?_) (fun hc => ?_)
        · have h := h.1 hc
          refine x_sub [1, 2, 4, 5, 6, 0] rfl ?_
          exact w_M_joined_59 l D cs Ev hE o a d post (fun zx1 zx2 zx3 zx4 zx5 zu => P_M_joined_10 post f zx1 zx2 zx3 zx4 zx5 zu) ih x1 x3 x4 x5 v3 u h
        · have h := h.2 hc
          refine x_iload (x := v3) d_M_joined_38 rfl ?_
          refine x_if_ne (tgt := 55) d_M_joined_40 rfl (fun hc => ?_) (fun hc => ?_)
          · have h := h.1 hc
            refine x_sub [1, 2, 4, 5, 6, 0] rfl ?_
            exact w_M_joined_55 l D cs Ev hE o a d post (fun zx1 zx2 zx3 zx4 zx5 zu => P_M_joined_10 post f zx1 zx2 zx3 zx4 zx5 zu) ih x1 x3 x4 x5 v3 u h
          · have h := h.2 hc
            refine x_aload_n (x := o) d_M_joined_43 rfl ?_
            refine x_get (v := .ref (a 2)) f_M_7 (eM_o _ _ _ _) rfl d_M_joined_44 ?_
            refine x_iload (x := x5) d_M_joined_47 rfl ?_
            refine x_cald (t0 := 1) (eM_2 _ _ _ _) rfl h.1 d_M_joined_49 ?_
            have h := h.2
            refine x_bipush (v := 32) d_M_joined_50 (by decide) ?_
            refine x_icmp_ne (tgt := 59) d_M_joined_52 rfl (fun hc => ?_) (fun hc => ?_)
            · have h := h.1 hc
              refine x_sub [1, 2, 4, 5, 6, 0] rfl ?_
              exact w_M_joined_59 l D cs Ev hE o a d post (fun zx1 zx2 zx3 zx4 zx5 zu => P_M_joined_10 post f zx1 zx2 zx3 zx4 zx5 zu) ih x1 x3 x4 x5 v3 u h
            · have h := h.2 hc
              refine x_sub [1, 2, 4, 5, 6, 0] rfl ?_
              exact w_M_joined_55 l D cs Ev hE o a d post (fun zx1 zx2 zx3 zx4 zx5 zu => P_M_joined_10 post f zx1 zx2 zx3 zx4 zx5 zu) ih x1 x3 x4 x5 v3 u h
def P_M_joined (post : Int32 → MS → Prop) (a0 : Int32) (u : MS) : Prop := (∃ g, P_M_joined_10 post g a0 1 0 0 0 u)
set_option maxHeartbeats 600000 in
set_option maxRecDepth 100000 in
theorem c_M_joined (l : Launch) (D : va_G) (cs : Nat → ClassId) (Ev : (Nat → Prop) → State → Prop) (hE : xEok Ev) (o : Nat) (a : Nat → Nat) (d : Nat) (post : Int32 → MS → Prop) (a0 : Int32) (u : MS) (h : P_M_joined post a0 u) : xC l D clX (tysX cs) Ev y_M_joined w_M_joined (rmD (d + 1)) (wdM o a cs) [.ref o, .int a0] u (pI post) 0 0 := by
  unfold P_M_joined at h
  refine xC.of (cc := b_M_joined) (nL := 10) (ret := (some .int)) (by decide) rfl (Nat.le_of_ble_eq_true rfl) ?_
  show RR l D clX (tysX cs) Ev "DeckFrontModel" b_M_joined 10 w_M_joined (rmD (d + 1)) (some .int) (wdM o a cs) (pI post) 0 0 0 0 0 [(0, .ref o), (1, .int a0)] [] u
  refine x_iconst (v := 1) d_M_joined_0 (by decide) ?_
  refine x_istore_n (lv' := [(2, .int 1), (0, .ref o), (1, .int a0)]) d_M_joined_1 (by decide) rfl ?_
  refine x_iconst (v := 0) d_M_joined_2 (by decide) ?_
  refine x_istore_n (lv' := [(3, .int 0), (2, .int 1), (0, .ref o), (1, .int a0)]) d_M_joined_3 (by decide) rfl ?_
  refine x_iconst (v := 0) d_M_joined_4 (by decide) ?_
  refine x_istore (lv' := [(4, .int 0), (3, .int 0), (2, .int 1), (0, .ref o), (1, .int a0)]) d_M_joined_5 (by decide) rfl ?_
  refine x_iconst (v := 0) d_M_joined_7 (by decide) ?_
  refine x_istore (lv' := [(5, .int 0), (4, .int 0), (3, .int 0), (2, .int 1), (0, .ref o), (1, .int a0)]) d_M_joined_8 (by decide) rfl ?_
  refine x_sub [4, 5, 3, 2, 1, 0] rfl ?_
  obtain ⟨f9, h⟩ := h
  exact w_M_joined_10 l D cs Ev hE o a d post  f9 a0 1 0 0 0 u h
def P_M_card (post : Int32 → MS → Prop) (u : MS) : Prop := (∀ v1, v1 = (gI u 1) → P_M_isComment (fun r3 u2 => ((r3 = 0 → P_M_joined (fun r5 u4 => post r5 u4) v1 (sI u2 1 (0 : Int32))) ∧ (¬ r3 = 0 → post (-1) (sI u2 1 (0 : Int32))))) (sI u 0 (0 : Int32)))
set_option maxHeartbeats 600000 in
set_option maxRecDepth 100000 in
theorem c_M_card (l : Launch) (D : va_G) (cs : Nat → ClassId) (Ev : (Nat → Prop) → State → Prop) (hE : xEok Ev) (o : Nat) (a : Nat → Nat) (d : Nat) (post : Int32 → MS → Prop) (u : MS) (h : P_M_card post  u) : xC l D clX (tysX cs) Ev y_M_card w_M_card (rmD (d + 2)) (wdM o a cs) [.ref o] u (pI post) 0 0 := by
  unfold P_M_card at h
  refine xC.of (cc := b_M_card) (nL := 3) (ret := (some .int)) (by decide) rfl (Nat.le_of_ble_eq_true rfl) ?_
  show RR l D clX (tysX cs) Ev "DeckFrontModel" b_M_card 3 w_M_card (rmD (d + 2)) (some .int) (wdM o a cs) (pI post) 0 0 0 0 0 [(0, .ref o)] [] u
  refine x_aload_n (x := o) d_M_card_0 rfl ?_
  refine x_iconst (v := 0) d_M_card_1 (by decide) ?_
  refine x_put f_M_82 fw_M_0 (eM_o _ _ _ _) rfl rfl (Nat.le_of_ble_eq_true rfl) (sM_0 _ _ _ _ _) d_M_card_2 ?_
  refine x_aload_n (x := o) d_M_card_5 rfl ?_
  refine x_get (v := .int (gI u 1)) f_M_96 (eM_o _ _ _ _) rfl d_M_card_6 ?_
  refine x_topI (fun v1 ev1 => ?_)
  have h := h v1 ev1
  refine x_istore_n (lv' := [(1, .int v1), (0, .ref o)]) d_M_card_9 (by decide) rfl ?_
  refine x_aload_n (x := o) d_M_card_10 rfl ?_
  refine x_callV (st := []) k_M_105 rfl (eM_o _ _ _ _) x_id (c_M_isComment l D cs Ev hE o a (d + 1) _ (sI u 0 (0 : Int32)) h) hE (rmD_ok (by omega) (by decide)) rfl (Nat.le_of_ble_eq_true rfl) rfl d_M_card_11 (x_rI (fun r3 u2 h => ?_))
  refine x_istore_n (lv' := [(2, .int r3), (1, .int v1), (0, .ref o)]) d_M_card_14 (by decide) rfl ?_
  refine x_aload_n (x := o) d_M_card_15 rfl ?_
  refine x_iconst (v := 0) d_M_card_16 (by decide) ?_
  refine x_put f_M_96 fw_M_1 (eM_o _ _ _ _) rfl rfl (Nat.le_of_ble_eq_true rfl) (sM_1 _ _ _ _ _) d_M_card_17 ?_
  refine x_iload_n (x := r3) d_M_card_20 rfl ?_
  refine x_if_eq (tgt := 28) d_M_card_21 rfl (fun hc => ?_) (fun hc => ?_)
  · have h := h.1 hc
    refine x_aload_n (x := o) d_M_card_28 rfl ?_
    refine x_iload_n (x := v1) d_M_card_29 rfl ?_
    refine x_callV (st := []) k_M_109 rfl (eM_o _ _ _ _) x_id (c_M_joined l D cs Ev hE o a (d + 0) _ v1 (sI u2 1 (0 : Int32)) h) hE (rmD_ok (by omega) (by decide)) rfl (Nat.le_of_ble_eq_true rfl) rfl d_M_card_30 (x_rI (fun r5 u4 h => ?_))
    refine x_iret d_M_card_33 ⟨_, rfl, ?_⟩
    exact h
  · have h := h.2 hc
    refine x_iconst (v := (-1)) d_M_card_24 (by decide) ?_
    refine x_goto (tgt := 33) d_M_card_25 rfl ?_
    refine x_iret d_M_card_33 ⟨_, rfl, ?_⟩
    exact h
def P_M_clear (post : MS → Prop) (u : MS) : Prop := post (sI (sI u 0 (0 : Int32)) 3 (0 : Int32))
set_option maxHeartbeats 600000 in
set_option maxRecDepth 100000 in
theorem c_M_clear (l : Launch) (D : va_G) (cs : Nat → ClassId) (Ev : (Nat → Prop) → State → Prop) (hE : xEok Ev) (o : Nat) (a : Nat → Nat) (d : Nat) (post : MS → Prop) (u : MS) (h : P_M_clear post  u) : xC l D clX (tysX cs) Ev y_M_clear w_M_clear (rmD (d + 0)) (wdM o a cs) [.ref o] u (pV post) 0 0 := by
  unfold P_M_clear at h
  refine xC.of (cc := b_M_clear) (nL := 1) (ret := none) (by decide) rfl (Nat.le_of_ble_eq_true rfl) ?_
  show RR l D clX (tysX cs) Ev "DeckFrontModel" b_M_clear 1 w_M_clear (rmD (d + 0)) none (wdM o a cs) (pV post) 0 0 0 0 0 [(0, .ref o)] [] u
  refine x_aload_n (x := o) d_M_clear_0 rfl ?_
  refine x_iconst (v := 0) d_M_clear_1 (by decide) ?_
  refine x_put f_M_82 fw_M_0 (eM_o _ _ _ _) rfl rfl (Nat.le_of_ble_eq_true rfl) (sM_0 _ _ _ _ _) d_M_clear_2 ?_
  refine x_aload_n (x := o) d_M_clear_5 rfl ?_
  refine x_iconst (v := 0) d_M_clear_6 (by decide) ?_
  refine x_put f_M_99 fw_M_3 (eM_o _ _ _ _) rfl rfl (Nat.le_of_ble_eq_true rfl) (sM_3 _ _ _ _ _) d_M_clear_7 ?_
  refine x_vret d_M_clear_10 ⟨rfl, ?_⟩
  exact h
def P_M_statements (post : Int32 → MS → Prop) (u : MS) : Prop := post (gI u 3) (sI u 0 (0 : Int32))
set_option maxHeartbeats 600000 in
set_option maxRecDepth 100000 in
theorem c_M_statements (l : Launch) (D : va_G) (cs : Nat → ClassId) (Ev : (Nat → Prop) → State → Prop) (hE : xEok Ev) (o : Nat) (a : Nat → Nat) (d : Nat) (post : Int32 → MS → Prop) (u : MS) (h : P_M_statements post  u) : xC l D clX (tysX cs) Ev y_M_statements w_M_statements (rmD (d + 0)) (wdM o a cs) [.ref o] u (pI post) 0 0 := by
  unfold P_M_statements at h
  refine xC.of (cc := b_M_statements) (nL := 1) (ret := (some .int)) (by decide) rfl (Nat.le_of_ble_eq_true rfl) ?_
  show RR l D clX (tysX cs) Ev "DeckFrontModel" b_M_statements 1 w_M_statements (rmD (d + 0)) (some .int) (wdM o a cs) (pI post) 0 0 0 0 0 [(0, .ref o)] [] u
  refine x_aload_n (x := o) d_M_statements_0 rfl ?_
  refine x_iconst (v := 0) d_M_statements_1 (by decide) ?_
  refine x_put f_M_82 fw_M_0 (eM_o _ _ _ _) rfl rfl (Nat.le_of_ble_eq_true rfl) (sM_0 _ _ _ _ _) d_M_statements_2 ?_
  refine x_aload_n (x := o) d_M_statements_5 rfl ?_
  refine x_get (v := .int (gI u 3)) f_M_99 (eM_o _ _ _ _) rfl d_M_statements_6 ?_
  refine x_iret d_M_statements_9 ⟨_, rfl, ?_⟩
  exact h
def P_M_there (post : Int32 → MS → Prop) (a0 : Int32) (u : MS) : Prop := ((a0 < 0 → post 0 u) ∧ (¬ a0 < 0 → (((gI u 3) ≤ a0 → post 0 u) ∧ (¬ (gI u 3) ≤ a0 → post 1 u))))
set_option maxHeartbeats 600000 in
set_option maxRecDepth 100000 in
theorem c_M_there (l : Launch) (D : va_G) (cs : Nat → ClassId) (Ev : (Nat → Prop) → State → Prop) (hE : xEok Ev) (o : Nat) (a : Nat → Nat) (d : Nat) (post : Int32 → MS → Prop) (a0 : Int32) (u : MS) (h : P_M_there post a0 u) : xC l D clX (tysX cs) Ev y_M_there w_M_there (rmD (d + 0)) (wdM o a cs) [.ref o, .int a0] u (pI post) 0 0 := by
  unfold P_M_there at h
  refine xC.of (cc := b_M_there) (nL := 2) (ret := (some .boolean)) (by decide) rfl (Nat.le_of_ble_eq_true rfl) ?_
  show RR l D clX (tysX cs) Ev "DeckFrontModel" b_M_there 2 w_M_there (rmD (d + 0)) (some .boolean) (wdM o a cs) (pI post) 0 0 0 0 0 [(0, .ref o), (1, .int a0)] [] u
  refine x_iload_n (x := a0) d_M_there_0 rfl ?_
  refine x_if_lt (tgt := 16) d_M_there_1 rfl (fun hc => ?_) (fun hc => ?_)
  · have h := h.1 hc
    refine x_iconst (v := 0) d_M_there_16 (by decide) ?_
    refine x_zret rfl d_M_there_17 ⟨_, rfl, ?_⟩
    exact h
  · have h := h.2 hc
    refine x_iload_n (x := a0) d_M_there_4 rfl ?_
    refine x_aload_n (x := o) d_M_there_5 rfl ?_
    refine x_get (v := .int (gI u 3)) f_M_99 (eM_o _ _ _ _) rfl d_M_there_6 ?_
    refine x_icmp_ge (tgt := 16) d_M_there_9 rfl (fun hc => ?_) (fun hc => ?_)
    · have h := h.1 hc
      refine x_iconst (v := 0) d_M_there_16 (by decide) ?_
      refine x_zret rfl d_M_there_17 ⟨_, rfl, ?_⟩
      exact h
    · have h := h.2 hc
      refine x_iconst (v := 1) d_M_there_12 (by decide) ?_
      refine x_goto (tgt := 17) d_M_there_13 rfl ?_
      refine x_zret rfl d_M_there_17 ⟨_, rfl, ?_⟩
      exact h
def P_M_label (post : Int32 → MS → Prop) (a0 : Int32) (u : MS) : Prop := P_M_there (fun r2 u1 => ((r2 = 0 → post (-1) u1) ∧ (¬ r2 = 0 → (vp_in a0 24 ∧ post (gA u1 4 a0.toNatClampNeg) u1)))) a0 (sI u 0 (0 : Int32))
set_option maxHeartbeats 600000 in
set_option maxRecDepth 100000 in
theorem c_M_label (l : Launch) (D : va_G) (cs : Nat → ClassId) (Ev : (Nat → Prop) → State → Prop) (hE : xEok Ev) (o : Nat) (a : Nat → Nat) (d : Nat) (post : Int32 → MS → Prop) (a0 : Int32) (u : MS) (h : P_M_label post a0 u) : xC l D clX (tysX cs) Ev y_M_label w_M_label (rmD (d + 1)) (wdM o a cs) [.ref o, .int a0] u (pI post) 0 0 := by
  unfold P_M_label at h
  refine xC.of (cc := b_M_label) (nL := 2) (ret := (some .int)) (by decide) rfl (Nat.le_of_ble_eq_true rfl) ?_
  show RR l D clX (tysX cs) Ev "DeckFrontModel" b_M_label 2 w_M_label (rmD (d + 1)) (some .int) (wdM o a cs) (pI post) 0 0 0 0 0 [(0, .ref o), (1, .int a0)] [] u
  refine x_aload_n (x := o) d_M_label_0 rfl ?_
  refine x_iconst (v := 0) d_M_label_1 (by decide) ?_
  refine x_put f_M_82 fw_M_0 (eM_o _ _ _ _) rfl rfl (Nat.le_of_ble_eq_true rfl) (sM_0 _ _ _ _ _) d_M_label_2 ?_
  refine x_aload_n (x := o) d_M_label_5 rfl ?_
  refine x_iload_n (x := a0) d_M_label_6 rfl ?_
  refine x_callV (st := []) k_M_113 rfl (eM_o _ _ _ _) x_id (c_M_there l D cs Ev hE o a (d + 0) _ a0 (sI u 0 (0 : Int32)) h) hE (rmD_ok (by omega) (by decide)) rfl (Nat.le_of_ble_eq_true rfl) rfl d_M_label_7 (x_rI (fun r2 u1 h => ?_))
  refine x_if_eq (tgt := 22) d_M_label_10 rfl (fun hc => ?_) (fun hc => ?_)
  · have h := h.1 hc
    refine x_iconst (v := (-1)) d_M_label_22 (by decide) ?_
    refine x_iret d_M_label_23 ⟨_, rfl, ?_⟩
    exact h
  · have h := h.2 hc
    refine x_aload_n (x := o) d_M_label_13 rfl ?_
    refine x_get (v := .ref (a 4)) f_M_13 (eM_o _ _ _ _) rfl d_M_label_14 ?_
    refine x_iload_n (x := a0) d_M_label_17 rfl ?_
    refine x_iald (t0 := 0) (eM_4 _ _ _ _) rfl h.1 d_M_label_18 ?_
    have h := h.2
    refine x_goto (tgt := 23) d_M_label_19 rfl ?_
    refine x_iret d_M_label_23 ⟨_, rfl, ?_⟩
    exact h
