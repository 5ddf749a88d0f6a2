/-! pure rows: write -/
/-- byte n of w, from the lowest -/
def wb (w : Int64) (n : Nat) : Int32 := ((((w.toUInt64 >>> ((nI (8 * n)).toInt64.toUInt64 &&& Int64.toUInt64 63)).toInt64).toInt32) &&& (255 : Int32))
theorem wb_ex (w : Int64) (n : Nat) : ∃ j, j < 256 ∧ wb w n = nI j := by
  obtain ⟨j, hj, e⟩ := pk_andE (((w.toUInt64 >>> ((nI (8 * n)).toInt64.toUInt64 &&& Int64.toUInt64 63)).toInt64).toInt32) (m := 255) 8 (by decide)
  exact ⟨j, hj, e⟩
theorem mul8 (n : Nat) : (8 : Int32) * nI n = nI (8 * n) := pk_mul 8 n
/-- whether a sign may stand on a card -/
def csg (c : Int32) : Int32 := if isLet c = 0 then (if isDig c = 0 then (if c = 32 then 1 else if c = 61 then 1 else if c < 40 then (if c = 39 then 1 else 0) else if c ≤ 47 then 1 else (if c = 39 then 1 else 0)) else 1) else 1
theorem mayStand_of {post : Int32 → Unit → Prop} {c : Int32} (h : post (csg c) ()) : P_M_mayStand post c () := by
  unfold csg at h
  unfold P_M_mayStand P_M_mayStand_38
  refine ⟨fun h1 => ?_, fun h1 => ⟨fun h2 => ?_, fun h2 => ⟨fun h3 => ?_, fun h3 => ⟨fun h4 => ?_, fun h4 => ⟨fun h5 => ⟨fun h6 => ?_, fun h6 => ?_⟩, fun h5 => ⟨fun h6 => ?_, fun h6 => ⟨fun h7 => ?_, fun h7 => ?_⟩⟩⟩⟩⟩⟩⟩
  · rw [if_neg h1] at h; exact h
  · rw [if_pos h1, if_neg h2] at h; exact h
  · rw [if_pos h1, if_pos h2, if_pos h3] at h; exact h
  · rw [if_pos h1, if_pos h2, if_neg h3, if_pos h4] at h; exact h
  · rw [if_pos h1, if_pos h2, if_neg h3, if_neg h4, if_pos h5, if_neg h6] at h; exact h
  · rw [if_pos h1, if_pos h2, if_neg h3, if_neg h4, if_pos h5, if_pos h6] at h; exact h
  · rw [if_pos h1, if_pos h2, if_neg h3, if_neg h4, if_neg h5, if_pos h6] at h; exact h
  · rw [if_pos h1, if_pos h2, if_neg h3, if_neg h4, if_neg h5, if_neg h6, if_neg h7] at h; exact h
  · rw [if_pos h1, if_pos h2, if_neg h3, if_neg h4, if_neg h5, if_neg h6, if_pos h7] at h; exact h
/-- indexOf of a String constant, from place k on -/
def ixS (i : Nat) (b : Int32) : Nat → Nat → Int32
  | 0, _ => -1
  | n + 1, k => if bytS i k = b then nI k else ixS i b n (k + 1)
theorem ix_loop {post : Int32 → Unit → Prop} {i : Nat} {b : Int32} : ∀ (n k : Nat), k + n = lenS i → post (ixS i b n k) () → P_JL_indexOfChar_7 post i (n + 1) (nI (lenS i)) b (nI k) () := by
  have hl := lenS_lt i
  intro n
  induction n with
  | zero =>
    intro k hk h
    unfold P_JL_indexOfChar_7
    exact ⟨fun _ => h, fun h0 => absurd (nI_le (by omega) (by omega)) h0⟩
  | succ n ih =>
    intro k hk h
    unfold P_JL_indexOfChar_7
    unfold ixS at h
    refine ⟨fun h0 => absurd h0 (nI_ge (by omega) (by omega)), fun _ => ⟨vp_in_nI (by omega) (by omega), ?_⟩⟩
    rw [nI_clamp (by omega)]
    refine ⟨fun h1 => ?_, fun h1 => ?_⟩
    · rw [if_neg h1] at h
      rw [← nI_succ]
      exact ih (k + 1) (by omega) h
    · rw [if_pos h1] at h
      exact h
theorem canE_byte : ∀ n, n < 256 → ¬ canE (nI n) = 0 := by decide +kernel
theorem ix_of {post : Int32 → Unit → Prop} {n : Nat} (hn : n < 256) (h : post (ixS 0 ((nI n).toInt8.toInt32) 11 0) ()) : P_JS_indexOf0 post 0 (((nI n).toUInt32 % 65536).toInt32) () := by
  have e : ((nI n).toUInt32 % 65536).toInt32 = nI n := by
    rw [pk_char, pk_tn (by omega), Nat.mod_eq_of_lt (by omega)]
  rw [e]
  unfold P_JS_indexOf0 P_JS_indexOf1 P_JL_indexOf
  refine ⟨fun _ v1 e1 v2 e2 => ?_, fun h0 => absurd h0 (canE_byte n hn)⟩
  have e1 : v1 = 0 := by rw [e1]; decide
  have e2 : v2 = nI (lenS 0) := by rw [e2, if_neg (fun q => absurd q (by decide +kernel))]
  subst e1; subst e2
  refine ⟨fun _ => ?_, fun h0 => absurd (by decide +kernel) h0⟩
  intro v e3
  subst e3
  exact ⟨12, ix_loop (i := 0) 11 0 (by decide +kernel) h⟩
theorem csg_ix : ∀ n, n < 256 → isLet (nI n) = 0 → isDig (nI n) = 0 → (if ixS 0 ((nI n).toInt8.toInt32) 11 0 < 0 then (0 : Int32) else 1) = csg (nI n) := by decide +kernel
theorem cardSign_of {post : Int32 → Unit → Prop} {c : Int32} {n : Nat} (hn : n < 256) (hc : c = nI n) (h : post (csg c) ()) : P_C_isCardSign post c () := by
  subst hc
  unfold P_C_isCardSign
  refine ⟨fun h1 => ?_, fun h1 => ⟨fun h2 => ?_, fun h2 => ix_of hn ⟨fun h3 => ?_, fun h3 => ?_⟩⟩⟩
  · unfold csg at h; rw [if_neg h1] at h; exact h
  · unfold csg at h; rw [if_pos h1, if_neg h2] at h; exact h
  · have := csg_ix n hn h1 h2
    rw [if_pos h3] at this
    rw [this]; exact h
  · have := csg_ix n hn h1 h2
    rw [if_neg h3] at this
    rw [this]; exact h
/-- the signs of the n lowest bytes: none if one may not stand; else how many there are, beside m -/
def okB (w : Int64) : Nat → Nat → Option Nat
  | 0, m => some m
  | n + 1, m => if wb w n = 0 then okB w n m else if csg (wb w n) = 0 then none else okB w n (m + 1)
theorem nI_m1 (n : Nat) : nI (n + 1) + (-1) = nI n := pk_m1 n
theorem nI_m8 (n : Nat) : nI (8 * (n + 1)) + (-8) = nI (8 * n) := by
  rw [show 8 * (n + 1) = 8 * n + 8 by omega, ← nI_add, Int32.add_assoc]
  exact Int32.add_zero _
def wTail (u : MS) (q : Option Nat) (P : Prop) (F : Prop) : Prop := match q with
  | none => F
  | some m => ((((gI u 1) + nI m) ≤ 72 → P) ∧ (¬ ((gI u 1) + nI m) ≤ 72 → F))
theorem mw_loop {w : Int64} {post : Int32 → MS → Prop} {u : MS} : ∀ (n m : Nat), n ≤ 8 → wTail u (okB w n m) (∃ g, P_M_write_81 post g w 7 u) (post 0 u) → P_M_write_11 post (n + 1) w (nI m) (nI n + (-1)) u := by
  intro n
  induction n with
  | zero =>
    intro m _ h
    unfold P_M_write_11
    exact ⟨fun _ => h, fun h0 => absurd (by decide) h0⟩
  | succ n ih =>
    intro m hn h
    rw [nI_m1]
    unfold P_M_write_11
    refine ⟨fun h0 => absurd h0 (nI_pos (by omega)), fun _ v2 e2 => ?_⟩
    rw [mul8] at e2
    have e2 : v2 = wb w n := e2
    subst e2
    unfold okB at h
    unfold P_M_write_45 P_M_write_57
    refine ⟨fun h1 => ?_, fun h1 => ?_⟩
    · rw [if_pos h1] at h
      exact ⟨fun _ => ih m (by omega) h, fun h2 => absurd h1 h2⟩
    · rw [if_neg h1] at h
      refine mayStand_of ⟨fun h2 => ?_, fun h2 => ?_⟩
      · rw [if_neg h2] at h
        refine ⟨fun h3 => absurd h3 h1, fun _ => ?_⟩
        have h4 := ih (m + 1) (by omega) h
        rw [nI_succ] at h4
        exact h4
      · rw [if_pos h2] at h
        exact h
theorem cw_loop {w : Int64} {post : Int32 → MS → Prop} {u : MS} : ∀ (n m : Nat), n ≤ 8 → wTail u (okB w n m) (∃ g, P_C_append_73 post g w 56 u) (post 0 u) → P_C_append_6 post (n + 1) w (nI m) (nI (8 * n) + (-8)) u := by
  intro n
  induction n with
  | zero =>
    intro m _ h
    unfold P_C_append_6
    exact ⟨fun _ => h, fun h0 => absurd (by decide) h0⟩
  | succ n ih =>
    intro m hn h
    rw [nI_m8]
    unfold P_C_append_6
    refine ⟨fun h0 => absurd h0 (nI_pos (by omega)), fun _ v2 e2 => ?_⟩
    have e2 : v2 = wb w n := e2
    subst e2
    unfold okB at h
    unfold P_C_append_37 P_C_append_48
    obtain ⟨j, hj, ej⟩ := wb_ex w n
    refine ⟨fun h1 => ?_, fun h1 => ?_⟩
    · rw [if_pos h1] at h
      refine ⟨fun h2 => absurd h1 h2, fun _ v3 e3 => ?_⟩
      rw [Int32.add_zero] at e3
      subst e3
      exact ih m (by omega) h
    · rw [if_neg h1] at h
      refine cardSign_of hj ej ⟨fun h2 => ?_, fun h2 => ?_⟩
      · rw [if_neg h2] at h
        refine ⟨fun _ v3 e3 => ?_, fun h3 => absurd h3 h1⟩
        rw [← nI_succ] at e3
        subst e3
        exact ih (m + 1) (by omega) h
      · rw [if_pos h2] at h
        exact h
/-- how many of the n lowest bytes are signs -/
def cB (w : Int64) : Nat → Nat
  | 0 => 0
  | n + 1 => (if wb w n = 0 then 0 else 1) + cB w n
theorem okB_c {w : Int64} : ∀ {n m m' : Nat}, okB w n m = some m' → m' = m + cB w n := by
  intro n
  induction n with
  | zero => intro m m' h; cases h; rfl
  | succ n ih =>
    intro m m' h
    unfold okB at h
    unfold cB
    by_cases h1 : wb w n = 0
    · rw [if_pos h1] at h ⊢
      have := ih h
      omega
    · rw [if_neg h1] at h ⊢
      by_cases h2 : csg (wb w n) = 0
      · rw [if_pos h2] at h; cases h
      · rw [if_neg h2] at h
        have := ih h
        omega
theorem cB_le (w : Int64) : ∀ n, cB w n ≤ n := by
  intro n
  induction n with
  | zero => exact Nat.le_refl _
  | succ n ih => unfold cB; split <;> omega
/-- a sign behind the others: of the array k, whose count is field 1 -/
def pS (k : Nat) (u : MS) (c : Int32) : MS := sI (sA u k (gI u 1).toNatClampNeg (vp_nar .char ((c.toUInt32 % 65536).toInt32))) 1 ((gI u 1) + (1 : Int32))
def apB (k : Nat) (w : Int64) : Nat → MS → MS
  | 0, u => u
  | n + 1, u => if wb w n = 0 then apB k w n u else apB k w n (pS k u (wb w n))
theorem pS_1 (k : Nat) (u : MS) (c : Int32) : gI (pS k u c) 1 = gI u 1 + 1 := rfl
theorem mp_loop {w : Int64} {post : Int32 → MS → Prop} : ∀ (n l : Nat) (u : MS), n ≤ 8 → gI u 1 = nI l → l + cB w n ≤ 72 → post 1 (apB 2 w n u) → P_M_write_81 post (n + 1) w (nI n + (-1)) u := by
  intro n
  induction n with
  | zero =>
    intro l u _ _ _ h
    unfold P_M_write_81
    exact ⟨fun _ => h, fun h0 => absurd (by decide) h0⟩
  | succ n ih =>
    intro l u hn hl hc h
    rw [nI_m1]
    unfold P_M_write_81
    refine ⟨fun h0 => absurd h0 (nI_pos (by omega)), fun _ v1 e1 => ?_⟩
    rw [mul8] at e1
    have e1 : v1 = wb w n := e1
    subst e1
    unfold apB at h
    unfold cB at hc
    unfold P_M_write_127
    refine ⟨fun h1 => ?_, fun h1 => ⟨?_, ?_⟩⟩
    · rw [if_pos h1] at h hc
      exact ih l u (by omega) hl (by omega) h
    · rw [if_neg h1] at hc
      rw [hl]
      exact vp_in_nI (by omega) (by omega)
    · rw [if_neg h1] at h hc
      exact ih (l + 1) (pS 2 u (wb w n)) (by omega) (by rw [pS_1, hl, nI_succ]) (by omega) h
theorem cp_loop {w : Int64} {post : Int32 → MS → Prop} : ∀ (n l : Nat) (u : MS), n ≤ 8 → gI u 1 = nI l → l + cB w n ≤ 72 → post 1 (apB 0 w n u) → P_C_append_73 post (n + 1) w (nI (8 * n) + (-8)) u := by
  intro n
  induction n with
  | zero =>
    intro l u _ _ _ h
    unfold P_C_append_73
    exact ⟨fun _ => h, fun h0 => absurd (by decide) h0⟩
  | succ n ih =>
    intro l u hn hl hc h
    rw [nI_m8]
    unfold P_C_append_73
    refine ⟨fun h0 => absurd h0 (nI_pos (by omega)), fun _ v1 e1 => ?_⟩
    have e1 : v1 = wb w n := e1
    subst e1
    unfold apB at h
    unfold cB at hc
    unfold P_C_append_116
    refine ⟨fun h1 => ?_, fun h1 => ⟨?_, ?_⟩⟩
    · rw [if_pos h1] at h hc
      exact ih l u (by omega) hl (by omega) h
    · rw [if_neg h1] at hc
      rw [hl]
      exact vp_in_nI (by omega) (by omega)
    · rw [if_neg h1] at h hc
      exact ih (l + 1) (pS 0 u (wb w n)) (by omega) (by rw [pS_1, hl, nI_succ]) (by omega) h
/-- write's answer at a card of l signs -/
def wrA (w : Int64) (l : Nat) : Int32 := match okB w 8 0 with
  | none => 0
  | some m => if l + m ≤ 72 then 1 else 0
theorem wTail_of {w : Int64} {u : MS} {l : Nat} {P : Prop} {post : Int32 → MS → Prop} {v : MS} (hl : gI u 1 = nI l) (hl2 : l ≤ 72) (h : post (wrA w l) (if wrA w l = 1 then v else u)) (hP : l + cB w 8 ≤ 72 → post 1 v → P) : wTail u (okB w 8 0) P (post 0 u) := by
  unfold wTail
  cases hq : okB w 8 0 with
  | none =>
    have e : wrA w l = 0 := by unfold wrA; rw [hq]
    rw [e, if_neg (by decide)] at h
    exact h
  | some m =>
    have hm := okB_c hq
    have hc := cB_le w 8
    show ((((gI u 1) + nI m) ≤ 72 → P) ∧ (¬ ((gI u 1) + nI m) ≤ 72 → post 0 u))
    rw [hl, nI_add]
    have e72 : (72 : Int32) = nI 72 := rfl
    rw [e72, nI_leI (by omega) (by omega)]
    refine ⟨fun h1 => ?_, fun h1 => ?_⟩
    · have e : wrA w l = 1 := by
        unfold wrA
        rw [hq]
        exact if_pos h1
      rw [e, if_pos rfl] at h
      exact hP (by omega) h
    · have e : wrA w l = 0 := by
        unfold wrA
        rw [hq]
        exact if_neg h1
      rw [e, if_neg (by decide)] at h
      exact h
theorem mWrite_of {w : Int64} {u : MS} {l : Nat} {post : Int32 → MS → Prop} (hl : gI u 1 = nI l) (hl2 : l ≤ 72) (h : post (wrA w l) (if wrA w l = 1 then apB 2 w 8 (sI u 0 0) else sI u 0 0)) : P_M_write post w u := by
  unfold P_M_write
  have hl' : gI (sI u 0 0) 1 = nI l := hl
  refine ⟨9, mw_loop (u := sI u 0 0) 8 0 (by omega) (wTail_of hl' hl2 h (fun h1 h2 => ⟨9, mp_loop 8 l _ (by omega) hl' h1 h2⟩))⟩
theorem cWrite_of {w : Int64} {u : MS} {l : Nat} {post : Int32 → MS → Prop} (hl : gI u 1 = nI l) (hl2 : l ≤ 72) (h : post (wrA w l) (if wrA w l = 1 then apB 0 w 8 u else u)) : P_C_append post w u := by
  unfold P_C_append
  exact ⟨9, cw_loop 8 0 (by omega) (wTail_of hl hl2 h (fun h1 h2 => ⟨9, cp_loop 8 l u (by omega) hl h1 h2⟩))⟩
theorem wrA_01 (w : Int64) (l : Nat) : wrA w l = 0 ∨ wrA w l = 1 := by
  unfold wrA
  cases okB w 8 0 with
  | none => exact Or.inl rfl
  | some m => dsimp only; split <;> simp
theorem dWrite_of {w : Int64} {u : XS} {l : Nat} {post : Int32 → XS → Prop} (hl : gI u.1 1 = nI l) (hl2 : l ≤ 72) (h : post (wrA w l) ((if wrA w l = 1 then apB 0 w 8 u.1 else u.1), u.2.1, u.2.2.1, u.2.2.2)) : P_D_write post w u := by
  unfold P_D_write
  refine cWrite_of hl hl2 ⟨?_, h⟩
  rcases wrA_01 w l with h1 | h1 <;> rw [h1] <;> rfl
