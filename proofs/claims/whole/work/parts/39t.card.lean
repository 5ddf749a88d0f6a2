/-! a card joins the deck -/
def b2i (b : Bool) : Int32 := if b = true then 1 else 0
theorem b2i_0 (b : Bool) : b2i b = 0 ↔ b = false := by cases b <;> decide
theorem b2i_n (b : Bool) : narrow .boolean (.int (b2i b)) = .int (b2i b) ∧ fits .boolean (.int (b2i b)) = true := by cases b <;> decide
def blN (cd : Nat → Nat) : Nat → Bool
  | 0 => true
  | j + 1 => blN cd j && decide (cd j = 32)
def gdN (cd : Nat → Nat) : Nat → Bool
  | 0 => true
  | j + 1 => gdN cd j && (dg (cd j) || decide (cd j = 32))
def hdN (cd : Nat → Nat) : Nat → Bool
  | 0 => false
  | j + 1 => hdN cd j || dg (cd j)
def nuN (cd : Nat → Nat) : Nat → Nat
  | 0 => 0
  | j + 1 => if dg (cd j) = true then 10 * nuN cd j + (cd j - 48) else nuN cd j
def cmC (k : Nat) (cd : Nat → Nat) : Bool := blN cd k || (decide (cd 0 = 67) || decide (cd 0 = 42))
def coC (k : Nat) (cd : Nat → Nat) : Bool := decide (5 < k) && (!decide (cd 5 = 32) && !decide (cd 5 = 48))
def wlC (k : Nat) (cd : Nat → Nat) : Bool := gdN cd (min k 5) && !(coC k cd && hdN cd (min k 5))
abbrev TS : Type := Nat × Bool × (Nat → Nat)
def apS (ch : Nat) (t : TS) : TS := if ch ≠ 32 ∨ t.2.1 = true then (t.1 + 1, (if ch = 39 then !t.2.1 else t.2.1), fun j => if j = t.1 then ch else t.2.2 j) else t
def apF (cd : Nat → Nat) : Nat → Nat → TS → TS
  | 0, _, t => t
  | m + 1, i, t => apF cd m (i + 1) (apS (cd i) t)
theorem apS_le (ch : Nat) (t : TS) : t.1 ≤ (apS ch t).1 ∧ (apS ch t).1 ≤ t.1 + 1 := by
  unfold apS
  split
  · simp
  · exact ⟨Nat.le_refl _, by omega⟩
theorem apF_le (cd : Nat → Nat) : ∀ (m i : Nat) (t : TS), t.1 ≤ (apF cd m i t).1 ∧ (apF cd m i t).1 ≤ t.1 + m := by
  intro m
  induction m with
  | zero => intro i t; exact ⟨Nat.le_refl _, Nat.le_refl _⟩
  | succ m ih =>
    intro i t
    have h1 := apS_le (cd i) t
    have h2 := ih (i + 1) (apS (cd i) t)
    unfold apF
    omega
theorem nuN_lt (cd : Nat → Nat) : ∀ j, nuN cd j < 10 ^ j := by
  intro j
  induction j with
  | zero => show 0 < 1; decide
  | succ j ih =>
    unfold nuN
    rw [Nat.pow_succ]
    split
    · rename_i h
      have := dg_b h
      omega
    · omega
theorem bl_gd (cd : Nat → Nat) : ∀ j, blN cd j = (gdN cd j && !hdN cd j) := by
  intro j
  induction j with
  | zero => rfl
  | succ j ih =>
    simp only [blN, gdN, hdN, ih]
    by_cases h32 : cd j = 32
    · have : dg (cd j) = false := by rw [h32]; decide
      simp [h32, this]
      rw [h32] at this
      simp [this]
    · by_cases hd : dg (cd j) = true
      · simp [h32, hd]
      · have hd' : dg (cd j) = false := by simpa using hd
        simp [h32, hd']
section CRD
variable {k : Nat} {cd : Nat → Nat} {v : MS}
/-- the class's card -/
def Cv (k : Nat) (cd : Nat → Nat) (v : MS) : Prop := k ≤ 72 ∧ gI v 1 = nI k ∧ ∀ i, i < k → gA v 0 i = nI (cd i) ∧ 0 < cd i ∧ cd i < 256
theorem bt_loop {post : Int32 → MS → Prop} (h : Cv k cd v) {e : Nat} (he : e ≤ 72) : ∀ (f i : Nat), i + f = min e k → blN cd i = true → post (b2i (blN cd (min e k))) v → P_C_isBlankTo_2 post (f + 1) (nI e) (nI i) v := by
  have hk := h.1
  intro f
  induction f with
  | zero =>
    intro i hi hb hp
    have e1 : min e k = i := by omega
    rw [e1, hb] at hp
    refine ⟨fun _ => hp, fun h0 => ⟨fun _ => hp, fun h1 => ?_⟩⟩
    rw [nI_leI (by omega) (by omega)] at h0
    rw [h.2.1, nI_leI (by omega) (by omega)] at h1
    omega
  | succ f ih =>
    intro i hi hb hp
    have hlt : i < k := by omega
    have hc := h.2.2 i hlt
    refine ⟨fun h0 => absurd h0 (nI_ge (by omega) (by omega)), fun _ => ⟨fun h0 => absurd h0 (by rw [h.2.1]; exact nI_ge (by omega) (by omega)), fun _ => ⟨vp_in_nI (by omega) (by decide), ?_⟩⟩⟩
    rw [nI_clamp (by omega), hc.1, show (nI (cd i) = 32) ↔ cd i = 32 from nI_eq (b := 32) (by omega) (by decide), nI_1]
    refine ⟨fun h32 => ih (i + 1) (by omega) (by simp [blN, hb, h32]) hp, fun h32 => ?_⟩
    have hfalse : ∀ j, i < j → blN cd j = false := by
      intro j
      induction j with
      | zero => intro q; omega
      | succ j ihj =>
        intro q
        unfold blN
        by_cases e : i = j
        · subst e; simp [h32]
        · rw [ihj (by omega)]; rfl
    rw [hfalse (min e k) (by omega)] at hp
    exact hp
theorem blank_of {post : Int32 → MS → Prop} (h : Cv k cd v) {e : Nat} (he : e ≤ 72) (hp : post (b2i (blN cd (min e k))) v) : P_C_isBlankTo post (nI e) v := ⟨min e k + 1, bt_loop h he (min e k) 0 (by omega) rfl hp⟩
theorem comment_c {post : Int32 → MS → Prop} (h : Cv k cd v) (hp : post (b2i (cmC k cd)) v) : P_C_isComment post v := by
  have hk := h.1
  have blk : P_C_isComment_29 (fun r u => r = b2i (blN cd k) ∧ u = v) v := by
    unfold P_C_isComment_29
    rw [h.2.1]
    refine blank_of h hk ?_
    rw [Nat.min_self]
    cases blN cd k
    · exact ⟨fun _ => ⟨rfl, rfl⟩, fun q => absurd rfl q⟩
    · exact ⟨fun q => absurd q (by decide), fun _ => ⟨rfl, rfl⟩⟩
  have blk2 : (cmC k cd = blN cd k) → P_C_isComment_29 post v := by
    intro e
    unfold P_C_isComment_29
    rw [h.2.1]
    refine blank_of h hk ?_
    rw [Nat.min_self]
    rw [e] at hp
    cases hb : blN cd k
    · rw [hb] at hp; exact ⟨fun _ => hp, fun q => absurd rfl q⟩
    · rw [hb] at hp; exact ⟨fun q => absurd q (by decide), fun _ => hp⟩
  unfold P_C_isComment
  rw [h.2.1, show (nI k ≤ 0) ↔ k ≤ 0 from nI_leI (b := 0) (by omega) (by decide)]
  refine ⟨fun h0 => blk2 ?_, fun h0 => ?_⟩
  · have : k = 0 := by omega
    subst this
    rfl
  · have hc := h.2.2 0 (by omega)
    have e0 : gA v 0 (0 : Int32).toNatClampNeg = nI (cd 0) := hc.1
    rw [e0, show (nI (cd 0) = 67) ↔ cd 0 = 67 from nI_eq (b := 67) (by omega) (by decide), show (nI (cd 0) = 42) ↔ cd 0 = 42 from nI_eq (b := 42) (by omega) (by decide)]
    refine ⟨vp_in_nI (n := 0) (by decide) (by decide), fun h67 => ?_, fun h67 => ⟨vp_in_nI (n := 0) (by decide) (by decide), fun h42 => ?_, fun h42 => blk2 (by simp [cmC, h67, h42])⟩⟩
    · have : cmC k cd = true := by simp [cmC, h67]
      rw [this] at hp; exact hp
    · have : cmC k cd = true := by simp [cmC, h42]
      rw [this] at hp; exact hp
theorem cont_c {post : Int32 → MS → Prop} (h : Cv k cd v) (hp : post (b2i (coC k cd)) v) : P_C_continuesOne post v := by
  have hk := h.1
  unfold P_C_continuesOne
  rw [h.2.1, show (nI k ≤ 5) ↔ k ≤ 5 from nI_leI (b := 5) (by omega) (by decide)]
  unfold coC at hp
  refine ⟨fun h0 => ?_, fun h0 => ?_⟩
  · rw [show decide (5 < k) = false by simpa using h0] at hp
    exact hp
  · have hc := h.2.2 5 (by omega)
    have e0 : gA v 0 (5 : Int32).toNatClampNeg = nI (cd 5) := hc.1
    rw [show decide (5 < k) = true by simp; omega] at hp
    rw [e0, show (nI (cd 5) = 32) ↔ cd 5 = 32 from nI_eq (b := 32) (by omega) (by decide), show (nI (cd 5) = 48) ↔ cd 5 = 48 from nI_eq (b := 48) (by omega) (by decide)]
    refine ⟨vp_in_nI (n := 5) (by decide) (by decide), fun h32 => ?_, fun h32 => ⟨vp_in_nI (n := 5) (by decide) (by decide), fun h48 => ?_, fun h48 => ?_⟩⟩
    · simp only [h32] at hp; exact hp
    · simp only [h48] at hp; exact hp
    · simp only [h32, h48] at hp; exact hp
theorem gl_loop {post : Int32 → MS → Prop} (h : Cv k cd v) : ∀ (f i : Nat), i + f = min k 5 → gdN cd i = true → post (b2i (gdN cd (min k 5))) v → P_C_hasGoodLabelField_15 post (f + 1) (nI i) v := by
  have hk := h.1
  intro f
  induction f with
  | zero =>
    intro i hi hb hp
    have e1 : min k 5 = i := by omega
    rw [e1, hb] at hp
    refine ⟨fun _ => hp, fun h0 => ⟨fun _ => hp, fun h1 => ?_⟩⟩
    rw [show ((5 : Int32) ≤ nI i) ↔ 5 ≤ i from nI_leI (a := 5) (by decide) (by omega)] at h0
    rw [h.2.1, nI_leI (by omega) (by omega)] at h1
    omega
  | succ f ih =>
    intro i hi hb hp
    have hlt : i < k := by omega
    have hc := h.2.2 i hlt
    refine ⟨fun h0 => absurd h0 (nI_ge (b := 5) (by omega) (by omega)), fun _ => ⟨fun h0 => absurd h0 (by rw [h.2.1]; exact nI_ge (by omega) (by omega)), fun _ => ⟨vp_in_nI (by omega) (by decide), ?_⟩⟩⟩
    unfold P_C_hasGoodLabelField_53
    rw [nI_clamp (by omega), hc.1, show (nI (cd i) = 32) ↔ cd i = 32 from nI_eq (b := 32) (by omega) (by decide), nI_1, isDig_0 _ hc.2.2, Classical.not_not]
    refine ⟨fun h32 => ih (i + 1) (by omega) (by simp [gdN, hb, h32]) hp, fun h32 => ⟨vp_in_nI (by omega) (by decide), fun hd => ih (i + 1) (by omega) (by simp [gdN, hb, hd]) hp, fun hd => ?_⟩⟩
    have hfalse : ∀ j, i < j → gdN cd j = false := by
      intro j
      induction j with
      | zero => intro q; omega
      | succ j ihj =>
        intro q
        unfold gdN
        by_cases e : i = j
        · subst e; simp [h32, hd]
        · rw [ihj (by omega)]; rfl
    rw [hfalse (min k 5) (by omega)] at hp
    exact hp
theorem good_c {post : Int32 → MS → Prop} (h : Cv k cd v) (hp : post (b2i (wlC k cd)) v) : P_C_hasGoodLabelField post v := by
  refine cont_c h ?_
  have hbg := bl_gd cd (min k 5)
  unfold wlC at hp
  cases hco : coC k cd
  · refine ⟨fun _ => ⟨min k 5 + 1, gl_loop h (min k 5) 0 (by omega) rfl ?_⟩, fun q => absurd rfl q⟩
    rw [hco] at hp
    simpa using hp
  · refine ⟨fun q => absurd q (by decide), fun _ => blank_of (e := 5) h (by decide) ⟨(b2i_n _).1, ?_⟩⟩
    rw [hco] at hp
    rw [Nat.min_comm, hbg]
    simpa using hp
theorem num_loop {post : Int32 → MS → Prop} (h : Cv k cd v) (hp : post (nI (nuN cd (min k 5))) v) : ∀ (f i : Nat), i + f = min k 5 → P_C_numberInLabelField_4 post (f + 1) (nI (nuN cd i)) (nI i) v := by
  have hk := h.1
  intro f
  induction f with
  | zero =>
    intro i hi
    have e1 : min k 5 = i := by omega
    rw [e1] at hp
    refine ⟨fun _ => hp, fun h0 => ⟨fun _ => hp, fun h1 => ?_⟩⟩
    rw [show ((5 : Int32) ≤ nI i) ↔ 5 ≤ i from nI_leI (a := 5) (by decide) (by omega)] at h0
    rw [h.2.1, nI_leI (by omega) (by omega)] at h1
    omega
  | succ f ih =>
    intro i hi
    have hlt : i < k := by omega
    have hc := h.2.2 i hlt
    have h2 := ih (i + 1) (by omega)
    unfold nuN at h2
    refine ⟨fun h0 => absurd h0 (nI_ge (b := 5) (by omega) (by omega)), fun _ => ⟨fun h0 => absurd h0 (by rw [h.2.1]; exact nI_ge (by omega) (by omega)), fun _ => ⟨vp_in_nI (by omega) (by decide), ?_⟩⟩⟩
    unfold P_C_numberInLabelField_44
    rw [nI_clamp (by omega), hc.1, nI_1, isDig_0 _ hc.2.2, Classical.not_not]
    refine ⟨fun hd => by rw [if_neg hd] at h2; exact h2, fun hd => ⟨vp_in_nI (by omega) (by decide), fun v1 e1 => ?_⟩⟩
    rw [if_pos hd] at h2
    have hb := dg_b hd
    have e3 : v1 = nI (10 * nuN cd i + (cd i - 48)) := by
      rw [e1, show (10 : Int32) = nI 10 from rfl, show (48 : Int32) = nI 48 from rfl, pk_mul, nI_add, pk_sub (by omega)]
      congr 1
      omega
    subst e3
    exact h2
theorem number_c {post : Int32 → MS → Prop} (h : Cv k cd v) (hp : post (nI (nuN cd (min k 5))) v) : P_C_numberInLabelField post v := ⟨min k 5 + 1, num_loop h hp (min k 5) 0 (by omega)⟩
/-- a row whose text grows -/
def Fa (r r' : MS) : Prop := (∀ j, j ≠ 4 → j ≠ 6 → gI r' j = gI r j) ∧ ∀ f, f ≠ 0 → ∀ i, gA r' f i = gA r f i
def Gr (n0 : Nat) (c0 : Nat → Nat) (r0 : MS) (t : TS) (r : MS) : Prop := Tx t.2.2 t.1 r ∧ gI r 6 = b2i t.2.1 ∧ t.2.1 = iqN t.2.2 t.1 ∧ n0 ≤ t.1 ∧ (∀ j, j < n0 → t.2.2 j = c0 j) ∧ Fa r0 r
theorem ap_loop {post : Int32 → MS → Prop} {n0 : Nat} {c0 : Nat → Nat} {q0 : Bool} {r0 : MS} (h : Cv k cd v) (t0 : Tx c0 n0 r0) (hok : ∀ t r, t = apF cd (k - 6) 6 (n0, q0, c0) → t.1 ≤ 80 → Gr n0 c0 r0 t r → post 1 r) (hbad : ∀ r, 80 < (apF cd (k - 6) 6 (n0, q0, c0)).1 → Tx c0 n0 r → gI r 6 = b2i q0 → Fa r0 r → post 0 r) : ∀ (f i : Nat) (t : TS) (r : MS), (i + f = k ∨ (f = 0 ∧ k ≤ i)) → 6 ≤ i ∧ i ≤ 72 → apF cd f i t = apF cd (k - 6) 6 (n0, q0, c0) → Gr n0 c0 r0 t r → P_T_append_14 post v (f + 1) (nI n0) (b2i q0) (nI i) r := by
  have hk := h.1
  intro f
  induction f with
  | zero =>
    intro i t r hi h6 he hg
    refine ⟨fun _ => hok t r he hg.1.1 hg, fun h0 => ?_⟩
    rw [h.2.1, nI_leI (by omega) (by omega)] at h0
    omega
  | succ f ih =>
    intro i t r hi h6 he hg
    have hlt : i < k := by omega
    have hc := h.2.2 i hlt
    obtain ⟨tx, g6, gq, gn, gc, ga⟩ := hg
    have h80 := tx.1
    refine ⟨fun h0 => absurd h0 (by rw [h.2.1]; exact nI_ge (by omega) (by omega)), fun _ => ⟨vp_in_nI (by omega) (by decide), fun v3 e3 => ?_⟩⟩
    rw [nI_clamp (by omega), hc.1] at e3
    subst e3
    have he' : apF cd f (i + 1) (apS (cd i) t) = apF cd (k - 6) 6 (n0, q0, c0) := he
    have cq : ∀ x, x < 256 → (nI (cd i) = nI x ↔ cd i = x) := fun x hx => nI_eq (by omega) (by omega)
    -- the sign is kept
    have a72 : ∀ (r1 : MS), cd i ≠ 32 ∨ t.2.1 = true → (∀ j, j ≠ 6 → gI r1 j = gI r j) → gI r1 6 = b2i (if cd i = 39 then !t.2.1 else t.2.1) → (∀ f j, gA r1 f j = gA r f j) → P_T_append_72 post v (fun zx2 zx3 zx4 zu => P_T_append_14 post v (f + 1) zx2 zx3 zx4 zu) (nI n0) (b2i q0) (nI i) (nI (cd i)) r1 := by
      intro r1 hkeep hi1 h61 ha1
      have hS : apS (cd i) t = (t.1 + 1, (if cd i = 39 then !t.2.1 else t.2.1), fun j => if j = t.1 then cd i else t.2.2 j) := by unfold apS; rw [if_pos hkeep]
      unfold P_T_append_72
      rw [hi1 4 (by decide), tx.2.1, show (nI t.1 < 80) ↔ t.1 < 80 from nI_ltI (b := 80) (by omega) (by decide), nI_clamp (by omega)]
      refine ⟨fun hl => ⟨vp_in_nI (by omega) (by decide), ?_⟩, fun hl => ⟨b2i_n q0, ?_⟩⟩
      · unfold P_T_append_114
        rw [nI_1, nI_1]
        refine ih (i + 1) (apS (cd i) t) _ (by omega) (by omega) he' ?_
        rw [hS]
        have hnar : vp_nar .char (nI (cd i)) = nI (cd i) := by
          have : ∀ y, y < 256 → vp_nar .char (nI y) = nI y := by decide +kernel
          exact this _ hc.2.2
        rw [hnar]
        refine ⟨⟨by simp only; omega, by rw [gI_sI, if_pos rfl], fun j hj => ?_, fun j hj => ?_⟩, ?_, ?_, by simp only; omega, fun j hj => ?_, ⟨fun j h4 h6' => ?_, fun f' hf' j => ?_⟩⟩
        · simp only at hj ⊢
          rw [gA_sI, gA_sA]
          by_cases e : j = t.1
          · rw [if_pos ⟨rfl, e⟩, if_pos e]
            exact ⟨rfl, hc.2.1, hc.2.2⟩
          · rw [if_neg (fun q => e q.2), if_neg e, ha1]
            exact tx.2.2.1 j (by omega)
        · simp only at hj ⊢
          rw [if_neg (by omega)]
          exact tx.2.2.2 j (by omega)
        · rw [gI_sI, if_neg (by decide), gI_sA]
          exact h61
        · show (if cd i = 39 then !t.2.1 else t.2.1) = iqN (fun j => if j = t.1 then cd i else t.2.2 j) (t.1 + 1)
          have hsame : ∀ m, m ≤ t.1 → iqN (fun j => if j = t.1 then cd i else t.2.2 j) m = iqN t.2.2 m := by
            intro m
            induction m with
            | zero => intro _; rfl
            | succ m ihm =>
              intro hm
              unfold iqN
              rw [if_neg (show ¬ m = t.1 by omega), ihm (by omega)]
          have e9 : iqN (fun j => if j = t.1 then cd i else t.2.2 j) (t.1 + 1) = if cd i = 39 then !iqN (fun j => if j = t.1 then cd i else t.2.2 j) t.1 else iqN (fun j => if j = t.1 then cd i else t.2.2 j) t.1 := by
            show (if (if t.1 = t.1 then cd i else t.2.2 t.1) = 39 then _ else _) = _
            rw [if_pos (show t.1 = t.1 from rfl)]
          rw [e9, hsame t.1 (Nat.le_refl _), ← gq]
        · simp only
          rw [if_neg (by omega)]
          exact gc j hj
        · rw [gI_sI, if_neg h4, gI_sA, hi1 j h6']
          exact ga.1 j h4 h6'
        · rw [gA_sI, gA_sA, if_neg (fun q => hf' q.1), ha1]
          exact ga.2 f' hf' j
      · have hbig : 80 < (apF cd (k - 6) 6 (n0, q0, c0)).1 := by
          rw [← he', hS]
          have := (apF_le cd f (i + 1) (t.1 + 1, (if cd i = 39 then !t.2.1 else t.2.1), fun j => if j = t.1 then cd i else t.2.2 j)).1
          simp only at this
          omega
        refine hbad _ hbig ⟨t0.1, by rw [gI_sI, if_neg (by decide), gI_sI, if_pos rfl], fun j hj => ?_, t0.2.2.2⟩ (by rw [gI_sI, if_pos rfl]) ⟨fun j h4 h6' => ?_, fun f' hf' j => ?_⟩
        · rw [gA_sI, gA_sI, ha1, (tx.2.2.1 j (by omega)).1, gc j hj]
          exact ⟨rfl, (t0.2.2.1 j hj).2⟩
        · rw [gI_sI, if_neg h6', gI_sI, if_neg h4, hi1 j h6']
          exact ga.1 j h4 h6'
        · rw [gA_sI, gA_sI, ha1]
          exact ga.2 f' hf' j
    rw [show (39 : Int32) = nI 39 from rfl, cq 39 (by decide)]
    refine ⟨fun h39 => ?_, fun h39 => ?_⟩
    · have keep : cd i ≠ 32 ∨ t.2.1 = true → P_T_append_72 post v (fun zx2 zx3 zx4 zu => P_T_append_14 post v (f + 1) zx2 zx3 zx4 zu) (nI n0) (b2i q0) (nI i) (nI (cd i)) r := fun hkeep => a72 r hkeep (fun _ _ => rfl) (by rw [if_neg h39]; exact g6) (fun _ _ => rfl)
      unfold P_T_append_55
      rw [show (32 : Int32) = nI 32 from rfl, cq 32 (by decide), g6, b2i_0]
      refine ⟨fun h32 => keep (Or.inl h32), fun h32 => ⟨fun hq => keep (Or.inr (by simpa using hq)), fun hq => ?_⟩⟩
      unfold P_T_append_114
      rw [nI_1]
      have hS : apS (cd i) t = t := by unfold apS; rw [if_neg (by simp [h32, hq])]
      rw [hS] at he'
      exact ih (i + 1) t r (by omega) (by omega) he' ⟨tx, g6, gq, gn, gc, ga⟩
    · have go : ∀ s0 : Int32, s0 = b2i (!t.2.1) → P_T_append_52 post v (fun zx2 zx3 zx4 zu => P_T_append_14 post v (f + 1) zx2 zx3 zx4 zu) (nI n0) (b2i q0) (nI i) (nI (cd i)) s0 r := by
        intro s0 hs0
        refine ⟨by rw [hs0]; exact b2i_n _, ?_⟩
        have h72 := a72 (sI r 6 s0) (Or.inl (by omega)) (fun j hj => by rw [gI_sI, if_neg hj]) (by rw [gI_sI, if_pos rfl, if_pos h39]; exact hs0) (fun _ _ => rfl)
        unfold P_T_append_55
        rw [show (32 : Int32) = nI 32 from rfl, cq 32 (by decide)]
        exact ⟨fun _ => h72, fun h32 => by omega⟩
      rw [g6, b2i_0]
      refine ⟨fun hq => go 0 ?_, fun hq => go 1 ?_⟩
      · have : t.2.1 = true := by simpa using hq
        rw [this]; rfl
      · rw [hq]; rfl
theorem append_c {post : Int32 → MS → Prop} {n0 : Nat} {c0 : Nat → Nat} {r0 : MS} (h : Cv k cd v) (t0 : Tx c0 n0 r0) (h6 : gI r0 6 = b2i (iqN c0 n0)) (hok : ∀ t r, t = apF cd (k - 6) 6 (n0, iqN c0 n0, c0) → t.1 ≤ 80 → Gr n0 c0 r0 t r → post 1 r) (hbad : ∀ r, 80 < (apF cd (k - 6) 6 (n0, iqN c0 n0, c0)).1 → Tx c0 n0 r → gI r 6 = b2i (iqN c0 n0) → Fa r0 r → post 0 r) : P_T_append post v r0 := by
  intro v1 e1 v2 e2
  rw [t0.2.1] at e1
  rw [h6] at e2
  subst e1 e2
  exact ⟨k - 6 + 1, ap_loop h t0 hok hbad (k - 6) 6 (n0, iqN c0 n0, c0) r0 (by omega) (by omega) rfl ⟨t0, h6, rfl, Nat.le_refl _, fun _ _ => rfl, ⟨fun _ _ _ => rfl, fun _ _ _ => rfl⟩⟩⟩
end CRD
