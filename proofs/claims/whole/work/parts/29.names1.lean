/-! pure rows: names, and a name's type by its letter -/
def bn (w : Int64) (n : Nat) : Nat := (wb w n).toNatClampNeg
theorem bn_eq (w : Int64) (n : Nat) : bn w n < 256 ∧ wb w n = nI (bn w n) := by
  obtain ⟨j, hj, e⟩ := wb_ex w n
  have : bn w n = j := by unfold bn; rw [e, nI_clamp (by omega)]
  rw [this]
  exact ⟨hj, e⟩
/-- the name that the n lowest bytes of w go on with, m signs of it being x; 0 if they are none -/
def nmB (w : Int64) : Nat → Nat → Nat → Nat
  | 0, x, _ => x
  | n + 1, x, m => if wb w n = 0 then nmB w n x m else if isLet (wb w n) = 0 then (if m = 0 then 0 else if isDig (wb w n) = 0 then 0 else if m = 6 then 0 else nmB w n (x * 256 + bn w n) (m + 1)) else if m = 6 then 0 else nmB w n (x * 256 + bn w n) (m + 1)
theorem nm_step {x m a : Nat} (hx : x < 2 ^ (8 * m)) (hm : m < 6) (ha : a < 256) : ((lN x <<< ((8 : Int32).toInt64 &&& 63)) ||| (nI a).toInt64) = lN (x * 256 + a) ∧ x * 256 + a < 2 ^ (8 * (m + 1)) := by
  have h1 : 2 ^ (8 * (m + 1)) = 2 ^ (8 * m) * 256 := by rw [show 8 * (m + 1) = 8 * m + 8 by omega, Nat.pow_add]
  have h2 : x * 256 + a < 2 ^ (8 * (m + 1)) := by rw [h1]; omega
  have h3 : 2 ^ (8 * (m + 1)) ≤ 2 ^ 48 := Nat.pow_le_pow_right (by decide) (by omega)
  refine ⟨?_, h2⟩
  rw [show ((8 : Int32).toInt64 &&& 63) = ((nI 8).toInt64 &&& 63) from rfl, wb_shl x (by decide), nI_l (by omega)]
  exact g_or (k := 8) (by decide) ha (by have : (2 : Nat) ^ 48 < 2 ^ 64 := by decide
                                         omega)
theorem nI0 {m : Nat} (h : m < 100) : nI m = 0 ↔ m = 0 := nI_eq (b := 0) (by omega) (by decide)
theorem nI6 {m : Nat} (h : m < 100) : nI m = 6 ↔ m = 6 := nI_eq (b := 6) (by omega) (by decide)
theorem nIle0 {m : Nat} (h : m < 100) : nI m ≤ 0 ↔ m = 0 := by
  rw [show (0 : Int32) = nI 0 from rfl, nI_leI (by omega) (by decide)]
  omega
theorem mPack_loop {w : Int64} {post : Int64 → Unit → Prop} : ∀ (n x m : Nat), n ≤ 8 → m ≤ 6 → x < 2 ^ (8 * m) → post (lN (nmB w n x m)) () → P_M_packed_9 post (n + 1) w (lN x) (nI m) (nI n + (-1)) () := by
  intro n
  induction n with
  | zero =>
    intro x m _ _ _ h
    unfold P_M_packed_9
    exact ⟨fun _ => h, fun h0 => absurd (by decide) h0⟩
  | succ n ih =>
    intro x m hn hm hx h
    rw [nI_m1]
    unfold P_M_packed_9
    refine ⟨fun h0 => absurd h0 (nI_pos (by omega)), fun _ v1 e1 => ?_⟩
    rw [mul8] at e1
    have e1 : v1 = wb w n := e1
    subst e1
    obtain ⟨hb, eb⟩ := bn_eq w n
    unfold nmB at h
    have key : (¬ m = 6 → post (lN (nmB w n (x * 256 + bn w n) (m + 1))) ()) → (m = 6 → post 0 ()) → P_M_packed_54 post (fun zx0 zx2 zx4 zx5 zu => P_M_packed_9 post (n + 1) zx0 zx2 zx4 zx5 zu) w (lN x) (nI m) (nI n) (wb w n) () := by
      intro k1 k2
      unfold P_M_packed_54 P_M_packed_75
      rw [nI6 (by omega)]
      refine ⟨fun h6 v2 e2 => ?_, k2⟩
      rw [eb] at e2
      obtain ⟨s1, s2⟩ := nm_step hx (by omega) hb
      rw [s1] at e2
      subst e2
      rw [← nI_succ]
      exact ih _ _ (by omega) (by omega) s2 (k1 h6)
    refine ⟨fun h1 => ?_, fun h1 => ?_⟩
    · rw [if_pos h1] at h
      exact ih x m (by omega) hm hx h
    · rw [if_neg h1] at h
      refine ⟨fun h2 => ?_, fun h2 => ?_⟩
      · rw [if_neg h2] at h
        refine key (fun h6 => ?_) (fun h6 => ?_)
        · rw [if_neg h6] at h; exact h
        · rw [if_pos h6] at h; exact h
      · rw [if_pos h2] at h
        rw [nI0 (by omega)]
        refine ⟨fun h3 => ?_, fun h3 => ⟨fun h4 => ?_, fun h4 => ?_⟩⟩
        · rw [if_pos h3] at h; exact h
        · rw [if_neg h3, if_pos h4] at h; exact h
        · rw [if_neg h3, if_neg h4] at h
          refine key (fun h6 => ?_) (fun h6 => ?_)
          · rw [if_neg h6] at h; exact h
          · rw [if_pos h6] at h; exact h
theorem cName_loop {w : Int64} {post : Int64 → Unit → Prop} : ∀ (n x m : Nat), n ≤ 8 → m ≤ 6 → x < 2 ^ (8 * m) → post (lN (nmB w n x m)) () → P_D_nameOf_9 post (n + 1) w (lN x) (nI m) (nI (8 * n) + (-8)) () := by
  intro n
  induction n with
  | zero =>
    intro x m _ _ _ h
    unfold P_D_nameOf_9
    exact ⟨fun _ => h, fun h0 => absurd (by decide) h0⟩
  | succ n ih =>
    intro x m hn hm hx h
    rw [nI_m8]
    unfold P_D_nameOf_9
    refine ⟨fun h0 => absurd h0 (nI_pos (by omega)), fun _ v1 e1 => ?_⟩
    have e1 : v1 = wb w n := e1
    subst e1
    obtain ⟨hb, eb⟩ := bn_eq w n
    unfold nmB at h
    have key : (¬ m = 6 → post (lN (nmB w n (x * 256 + bn w n) (m + 1))) ()) → (m = 6 → post 0 ()) → P_D_nameOf_54 post (fun zx0 zx2 zx4 zx5 zu => P_D_nameOf_9 post (n + 1) zx0 zx2 zx4 zx5 zu) w (lN x) (nI m) (nI (8 * n)) (wb w n) () := by
      intro k1 k2
      unfold P_D_nameOf_54 P_D_nameOf_59 P_D_nameOf_87
      rw [nI6 (by omega)]
      refine ⟨fun h0 => absurd h0 (by decide), fun _ => ⟨fun h6 v2 e2 => ?_, k2⟩⟩
      rw [eb] at e2
      obtain ⟨s1, s2⟩ := nm_step hx (by omega) hb
      rw [s1] at e2
      subst e2
      rw [← nI_succ]
      exact ih _ _ (by omega) (by omega) s2 (k1 h6)
    have bad : post 0 () → P_D_nameOf_58 post (fun zx0 zx2 zx4 zx5 zu => P_D_nameOf_9 post (n + 1) zx0 zx2 zx4 zx5 zu) w (lN x) (nI m) (nI (8 * n)) (wb w n) () := fun hp => ⟨fun _ => hp, fun h0 => absurd rfl h0⟩
    refine ⟨fun h1 => ?_, fun h1 => ?_⟩
    · rw [if_neg h1] at h
      refine ⟨fun h2 => ?_, fun h2 => ?_⟩
      · rw [if_neg h2] at h
        refine key (fun h6 => ?_) (fun h6 => ?_)
        · rw [if_neg h6] at h; exact h
        · rw [if_pos h6] at h; exact h
      · rw [if_pos h2] at h
        rw [nIle0 (by omega)]
        refine ⟨fun h3 => ?_, fun h3 => ⟨fun h4 => ?_, fun h4 => ?_⟩⟩
        · rw [if_pos h3] at h; exact bad h
        · rw [if_neg h3, if_pos h4] at h; exact bad h
        · rw [if_neg h3, if_neg h4] at h
          refine key (fun h6 => ?_) (fun h6 => ?_)
          · rw [if_neg h6] at h; exact h
          · rw [if_pos h6] at h; exact h
    · rw [if_pos h1] at h
      exact ih x m (by omega) hm hx h
theorem nmB_lt {w : Int64} : ∀ (n x m : Nat), m ≤ 6 → x < 2 ^ (8 * m) → nmB w n x m < 2 ^ 48 := by
  intro n
  induction n with
  | zero =>
    intro x m hm hx
    exact Nat.lt_of_lt_of_le hx (Nat.pow_le_pow_right (by decide) (by omega))
  | succ n ih =>
    intro x m hm hx
    unfold nmB
    have hb := (bn_eq w n).1
    have z : 0 < 2 ^ 48 := by decide
    by_cases h6 : m = 6
    · split
      · exact ih x m hm hx
      · split
        · split
          · exact z
          · split
            · exact z
            · exact z
        · exact z
    · have h2 := ih (x * 256 + bn w n) (m + 1) (by omega) (nm_step hx (by omega) hb).2
      split
      · exact ih x m hm hx
      · split
        · split
          · exact z
          · split
            · exact z
            · exact h2
        · exact h2
/-- the name that w is; 0 if it is none -/
def nmW (w : Int64) : Nat := nmB w 8 0 0
theorem nmW_lt (w : Int64) : nmW w < 2 ^ 48 := nmB_lt 8 0 0 (by decide) (by decide)
theorem packed_of {w : Int64} {post : Int64 → Unit → Prop} (h : post (lN (nmW w)) ()) : P_M_packed post w () := ⟨9, mPack_loop 8 0 0 (by decide) (by decide) (by decide) h⟩
theorem nameOf_of {w : Int64} {post : Int64 → Unit → Prop} (h : post (lN (nmW w)) ()) : P_D_nameOf post w () := ⟨9, cName_loop 8 0 0 (by decide) (by decide) (by decide) h⟩
theorem lgc0 {a b : Nat} (ha : a < 2 ^ 62) (hb : b < 2 ^ 62) : lg_cmp (lN a) (lN b) = 0 ↔ a = b := by
  unfold lg_cmp
  by_cases h1 : b < a
  · rw [if_pos ((pk_lLT (by omega) (by omega)).mpr h1)]
    constructor
    · intro h; cases h
    · intro h; omega
  · rw [if_neg (fun q => h1 ((pk_lLT (by omega) (by omega)).mp q))]
    by_cases h2 : a = b
    · rw [if_pos (by rw [h2])]
      exact ⟨fun _ => h2, fun _ => rfl⟩
    · rw [if_neg (fun q => h2 ((pk_lEQ (by omega) (by omega)).mp q))]
      constructor
      · intro h; cases h
      · intro h; exact absurd h h2
theorem lgcle {a b : Nat} (ha : a < 2 ^ 62) (hb : b < 2 ^ 62) : lg_cmp (lN a) (lN b) ≤ 0 ↔ a ≤ b := by
  unfold lg_cmp
  by_cases h1 : b < a
  · rw [if_pos ((pk_lLT (by omega) (by omega)).mpr h1)]
    constructor
    · intro h; exact absurd h (by decide)
    · intro h; omega
  · rw [if_neg (fun q => h1 ((pk_lLT (by omega) (by omega)).mp q))]
    refine ⟨fun _ => by omega, fun _ => ?_⟩
    split <;> decide
/-- INTEGER or REAL by the first letter -/
def tyT (x : Int64) : Int32 := if lg_cmp x 73 < 0 then 2 else if 0 < lg_cmp x 78 then 2 else 1
def frs : Nat → Nat → Nat
  | 0, X => X
  | n + 1, X => if X ≤ 255 then X else frs n (X / 256)
theorem tail_of {x : Int64} {P : Int32 → Prop} (h : P (tyT x)) : ((lg_cmp x 73) < 0 → P 2) ∧ (¬ (lg_cmp x 73) < 0 → ((0 < (lg_cmp x 78) → P 2) ∧ (¬ 0 < (lg_cmp x 78) → P 1))) := by
  unfold tyT at h
  refine ⟨fun h1 => ?_, fun h1 => ⟨fun h2 => ?_, fun h2 => ?_⟩⟩
  · rw [if_pos h1] at h; exact h
  · rw [if_neg h1, if_pos h2] at h; exact h
  · rw [if_neg h1, if_neg h2] at h; exact h
theorem cType_loop {post : Int32 → Unit → Prop} : ∀ (n c X : Nat), c + n = 6 → X < 2 ^ (8 * (n + 1)) → post (tyT (lN (frs n X))) () → P_D_typeByLetter_5 post (n + 1) (lN X) (nI c) () := by
  intro n
  induction n with
  | zero =>
    intro c X hc hX h
    obtain rfl : c = 6 := by omega
    unfold P_D_typeByLetter_5 P_D_typeByLetter_31
    exact ⟨fun _ => tail_of (P := fun r => post r ()) h, fun h0 => absurd (by decide) h0⟩
  | succ n ih =>
    intro c X hc hX h
    have h62 : X < 2 ^ 62 := Nat.lt_of_lt_of_le hX (Nat.pow_le_pow_right (by decide) (by omega))
    unfold P_D_typeByLetter_5 P_D_typeByLetter_31
    unfold frs at h
    refine ⟨fun h0 => absurd h0 (nI_ge (b := 6) (by omega) (by decide)), fun _ => ?_⟩
    rw [show (255 : Int64) = lN 255 from rfl, lgcle h62 (by decide)]
    refine ⟨fun h1 => ?_, fun h1 v1 e1 => ?_⟩
    · rw [if_pos h1] at h
      exact tail_of (P := fun r => post r ()) h
    · rw [if_neg h1] at h
      rw [pf_ushr (d := 8) (by decide) h62] at e1
      subst e1
      rw [← nI_succ]
      refine ih (c + 1) (X / 256) (by omega) ?_ h
      rw [show 8 * (n + 1 + 1) = 8 * (n + 1) + 8 by omega, Nat.pow_add] at hX
      exact Nat.div_lt_of_lt_mul (by omega)
theorem mType_loop {post : Int32 → MS → Prop} {u : MS} : ∀ (n X : Nat), n ≤ 5 → X < 2 ^ (8 * (n + 1)) → post (tyT (lN (frs n X))) u → P_M_type_95 post (n + 1) (lN X) u := by
  intro n
  induction n with
  | zero =>
    intro X _ hX h
    have h255 : X ≤ 255 := by
      have : X < 256 := hX
      omega
    unfold P_M_type_95
    rw [show (255 : Int64) = lN 255 from rfl, lgcle (by omega) (by decide)]
    exact ⟨fun _ => tail_of (P := fun r => post r u) h, fun h0 => absurd h255 h0⟩
  | succ n ih =>
    intro X hn hX h
    have h62 : X < 2 ^ 62 := Nat.lt_of_lt_of_le hX (Nat.pow_le_pow_right (by decide) (by omega))
    unfold P_M_type_95
    unfold frs at h
    rw [show (255 : Int64) = lN 255 from rfl, lgcle h62 (by decide)]
    refine ⟨fun h1 => ?_, fun h1 v1 e1 => ?_⟩
    · rw [if_pos h1] at h
      exact tail_of (P := fun r => post r u) h
    · rw [if_neg h1] at h
      rw [pf_shr (d := 8) (by decide) h62] at e1
      subst e1
      refine ih (X / 256) (by omega) ?_ h
      rw [show 8 * (n + 1 + 1) = 8 * (n + 1) + 8 by omega, Nat.pow_add] at hX
      exact Nat.div_lt_of_lt_mul (by omega)
/-- the type of a name by its first letter -/
def tyN (X : Nat) : Int32 := tyT (lN (frs 5 X))
theorem byLetter_of {post : Int32 → Unit → Prop} {X : Nat} (hX : X < 2 ^ 48) (h : post (tyN X) ()) : P_D_typeByLetter post (lN X) () := ⟨6, cType_loop 5 1 X rfl hX h⟩
theorem mByLetter_of {post : Int32 → MS → Prop} {u : MS} {X : Nat} (hX : X < 2 ^ 48) (h : post (tyN X) u) : P_M_type_95 post 6 (lN X) u := mType_loop 5 X (by decide) hX h
