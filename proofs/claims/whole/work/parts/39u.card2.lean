section CR2
variable {k : Nat} {cd : Nat → Nat}
theorem va_up2 {α : Type} (f : Nat → α) (i : Nat) (a b : α) : va_up (va_up f i a) i b = va_up f i b := by
  funext j
  unfold va_up
  split <;> rfl
abbrev c00 : Nat → Nat := fun _ => 0
def t00 (cd : Nat → Nat) (k : Nat) : TS := apF cd (k - 6) 6 (0, false, c00)
theorem join_c {x : XS} {N : Nat} {post : Int32 → XS → Prop} (hv : Cv k cd x.1) (hN : N ≤ 24) (hc : gI x.2.1 1 = nI N) {n : Nat} {c : Nat → Nat} (hrow : 0 < N → Tx c n (x.2.2.2 (N - 1)) ∧ gI (x.2.2.2 (N - 1)) 6 = b2i (iqN c n))
    (h1 : cmC k cd = true → post (-1) x)
    (h2 : cmC k cd = false → wlC k cd = false → post (-2) x)
    (h3 : cmC k cd = false → wlC k cd = true → ((coC k cd = true ∧ N = 0) ∨ (coC k cd = false ∧ N = 24)) → post (-3) x)
    (h4 : cmC k cd = false → wlC k cd = true → coC k cd = true → 0 < N → (∀ r, (apF cd (k - 6) 6 (n, iqN c n, c)).1 ≤ 80 → Gr n c (x.2.2.2 (N - 1)) (apF cd (k - 6) 6 (n, iqN c n, c)) r → post (nI (N - 1)) (x.1, x.2.1, x.2.2.1, va_up x.2.2.2 (N - 1) r)) ∧ (∀ r, 80 < (apF cd (k - 6) 6 (n, iqN c n, c)).1 → Tx c n r → gI r 6 = b2i (iqN c n) → Fa (x.2.2.2 (N - 1)) r → post (-3) (x.1, x.2.1, x.2.2.1, va_up x.2.2.2 (N - 1) r)))
    (h5 : cmC k cd = false → wlC k cd = true → coC k cd = false → N < 24 → (∀ r, (t00 cd k).1 ≤ 80 → Tx (t00 cd k).2.2 (t00 cd k).1 r → gI r 6 = b2i (iqN (t00 cd k).2.2 (t00 cd k).1) → gI r 7 = nI (nuN cd (min k 5)) → post (nI N) (x.1, sI x.2.1 1 (nI (N + 1)), x.2.2.1, va_up x.2.2.2 N r)) ∧ (∀ r, 80 < (t00 cd k).1 → post (-3) (x.1, x.2.1, x.2.2.1, va_up x.2.2.2 N r))) : P_K_join post x := by
  refine comment_c hv ?_
  cases hcm : cmC k cd
  · refine ⟨fun _ => good_c hv ?_, fun q => absurd rfl q⟩
    cases hwl : wlC k cd
    · exact ⟨fun q => absurd rfl q, fun _ => h2 hcm hwl⟩
    · refine ⟨fun _ => cont_c hv ?_, fun q => absurd q (by decide)⟩
      cases hco : coC k cd
      · refine ⟨fun _ => ?_, fun q => absurd rfl q⟩
        show P_K_begin _ x
        unfold P_K_begin
        rw [hc, show (nI N < 24) ↔ N < 24 from nI_ltI (b := 24) (by omega) (by decide), nI_clamp (by omega)]
        refine ⟨fun hlt => ⟨vp_in_nI hlt (by decide), number_c hv ⟨hlt, hlt, ?_⟩⟩, fun hge => h3 hcm hwl (Or.inr ⟨hco, by omega⟩)⟩
        obtain ⟨g1, g2⟩ := h5 hcm hwl hco hlt
        unfold P_T_wipe
        refine ⟨hlt, ?_⟩
        rw [va_up_at, va_up2, va_up_at]
        simp only [va_up2, nI_1, nI_pred]
        have t0 : Tx c00 0 (sI (sI (sI (sI (x.2.2.2 N) 7 (nI (nuN cd (min k 5)))) 4 (0 : Int32)) 5 (0 : Int32)) 6 (0 : Int32)) := ⟨by decide, by rw [gI_sI, if_neg (by decide), gI_sI, if_neg (by decide), gI_sI, if_pos rfl]; rfl, fun j hj => by omega, fun _ _ => rfl⟩
        refine append_c hv t0 (by rw [gI_sI, if_pos rfl]; rfl) (fun t r ht hl hg => ⟨fun _ => ?_, fun q => absurd q (by decide)⟩) (fun r hb _ _ _ => ⟨fun q => absurd rfl q, fun _ => g2 r hb⟩)
        have ht' : t = t00 cd k := ht
        subst ht'
        obtain ⟨q1, q2, q3, q4, q5, q6⟩ := hg
        refine g1 r hl q1 (by rw [q2, q3]) ?_
        rw [q6.1 7 (by decide) (by decide), gI_sI, if_neg (by decide), gI_sI, if_neg (by decide), gI_sI, if_neg (by decide), gI_sI, if_pos rfl]
      · refine ⟨fun q => absurd q (by decide), fun _ => ?_⟩
        show P_K_carryOn _ x
        unfold P_K_carryOn
        refine find_of hN hc ?_
        by_cases h0 : N = 0
        · subst h0
          have e : fnd 0 (gI x.2.1 1 - 1) = none := by rw [hc]; decide
          rw [e]
          exact ⟨fun _ => h3 hcm hwl (Or.inl ⟨hco, rfl⟩), fun j q => absurd q (by simp)⟩
        · have e1 : gI x.2.1 1 - 1 = nI (N - 1) := by
            rw [hc, show N = (N - 1) + 1 by omega, nI_pred]
            rfl
          have e : fnd N (gI x.2.1 1 - 1) = some (N - 1) := by
            rw [e1]
            unfold fnd
            rw [if_neg (nI_pos (by omega)), if_pos ((nI_ltI (by omega) (by omega)).mpr (by omega)), nI_clamp (by omega)]
          rw [e]
          refine ⟨fun q => absurd q (by simp), fun j q => ?_⟩
          have ej : N - 1 = j := Option.some.inj q
          subst ej
          obtain ⟨g1, g2⟩ := h4 hcm hwl hco (by omega)
          obtain ⟨tr, tr6⟩ := hrow (by omega)
          refine ⟨by omega, append_c hv tr tr6 (fun t r ht hl hg => ⟨fun _ => ?_, fun q => absurd q (by decide)⟩) (fun r hb htx h6 hfa => ⟨fun q => absurd rfl q, fun _ => g2 r hb htx h6 hfa⟩)⟩
          subst ht
          rw [e1]
          exact g1 r hl hg
  · exact ⟨fun q => absurd q (by decide), fun _ => h1 hcm⟩
/-! the reference's card -/
def Mc (k : Nat) (cd : Nat → Nat) (m : MS) : Prop := k ≤ 72 ∧ ∀ i, i < k → gA m 2 i = nI (cd i) ∧ 0 < cd i ∧ cd i < 256
theorem mc_loop {m : MS} {post : Int32 → MS → Prop} (h : Mc k cd m) (h1 : gI m 1 = nI k) (hp : post (b2i (cmC k cd)) m) : ∀ (f i : Nat), i + f = k → P_M_isComment_4 post (f + 1) (b2i (blN cd i)) (nI i) m := by
  have hk := h.1
  intro f
  induction f with
  | zero =>
    intro i hi
    have e : i = k := by omega
    subst e
    refine ⟨fun _ => ?_, fun h0 => absurd (by rw [h1]; exact nI_le (by omega) (by omega)) h0⟩
    rw [b2i_0]
    unfold cmC at hp
    cases hb : blN cd i
    · refine ⟨fun q => absurd rfl q, fun _ => ?_⟩
      rw [hb] at hp
      have hpos : 0 < i := by
        by_cases e0 : i = 0
        · subst e0
          exact absurd hb (by simp [blN])
        · omega
      have hc := h.2 0 hpos
      have e0 : gA m 2 (0 : Int32).toNatClampNeg = nI (cd 0) := hc.1
      rw [e0, show (nI (cd 0) = 67) ↔ cd 0 = 67 from nI_eq (b := 67) (by omega) (by decide), show (nI (cd 0) = 42) ↔ cd 0 = 42 from nI_eq (b := 42) (by omega) (by decide)]
      refine ⟨vp_in_nI (n := 0) (by decide) (by decide), fun q => ?_, fun q => ⟨vp_in_nI (n := 0) (by decide) (by decide), fun q2 => ?_, fun q2 => ?_⟩⟩
      · simp only [q] at hp; exact hp
      · simp only [q, q2] at hp; exact hp
      · simp only [q2] at hp
        have h9 : post (b2i true) m := by simpa using hp
        exact h9
    · refine ⟨fun _ => ?_, fun q => absurd q (by decide)⟩
      rw [hb] at hp
      exact hp
  | succ f ih =>
    intro i hi
    have h2 := ih (i + 1) (by omega)
    have hc := h.2 i (by omega)
    unfold blN at h2
    refine ⟨fun h0 => absurd h0 (by rw [h1]; exact nI_ge (by omega) (by omega)), fun _ => ?_⟩
    unfold P_M_isComment_31 P_M_isComment_32
    rw [b2i_0, nI_1]
    refine ⟨fun q => by rw [q] at h2; exact h2, fun q => ⟨vp_in_nI (by omega) (by decide), ?_⟩⟩
    have hb : blN cd i = true := by simpa using q
    rw [hb] at h2
    rw [nI_clamp (by omega), hc.1, show (nI (cd i) = 32) ↔ cd i = 32 from nI_eq (b := 32) (by omega) (by decide)]
    refine ⟨fun q2 => ?_, fun q2 => ?_⟩
    · simp only [q2] at h2; exact h2
    · simp only [q2] at h2; exact h2
theorem comment_m {m : MS} {post : Int32 → MS → Prop} (h : Mc k cd m) (h1 : gI m 1 = nI k) (hp : post (b2i (cmC k cd)) m) : P_M_isComment post m := ⟨k + 1, mc_loop h h1 hp k 0 (by omega)⟩
theorem iq_loop {m : MS} {post : Int32 → MS → Prop} {s n : Nat} {c : Nat → Nat} (hs : s < 24) (hn : n ≤ 80) (h5 : gA m 5 s = nI n) (h6 : ∀ i, i < n → gA m 6 (80 * s + i) = nI (c i) ∧ c i < 256) (hp : post (b2i (iqN c n)) m) : ∀ (f i : Nat), i + f = n → P_M_inQuote_4 post (f + 1) (nI s) (b2i (iqN c i)) (nI i) m := by
  have e80 : (80 : Int32) * nI s = nI (80 * s) := pk_mul 80 s
  intro f
  induction f with
  | zero =>
    intro i hi
    have e : i = n := by omega
    subst e
    refine ⟨vp_in_nI hs (by decide), fun _ => ⟨(b2i_n _).1, hp⟩, fun h0 => absurd (by rw [nI_clamp (by omega), h5]; exact nI_le (by omega) (by omega)) h0⟩
  | succ f ih =>
    intro i hi
    have h2 := ih (i + 1) (by omega)
    have hc := h6 i (by omega)
    unfold iqN at h2
    refine ⟨vp_in_nI hs (by decide), fun h0 => absurd h0 (by rw [nI_clamp (by omega), h5]; exact nI_ge (by omega) (by omega)), fun _ => ?_⟩
    unfold P_M_inQuote_43
    rw [e80, nI_add, nI_clamp (by omega), hc.1, show (nI (c i) = 39) ↔ c i = 39 from nI_eq (b := 39) (by omega) (by decide), nI_1, b2i_0]
    refine ⟨vp_in_nI (by omega) (by decide), fun q => by rw [if_neg q] at h2; exact h2, fun q => ⟨fun q2 => ?_, fun q2 => ?_⟩⟩
    · rw [if_pos q] at h2
      have : iqN c i = true := by simpa using q2
      rw [this] at h2
      exact h2
    · rw [if_pos q, q2] at h2
      exact h2
theorem inQuote_m {m : MS} {post : Int32 → MS → Prop} {s n : Nat} {c : Nat → Nat} (hs : s < 24) (hn : n ≤ 80) (h5 : gA m 5 s = nI n) (h6 : ∀ i, i < n → gA m 6 (80 * s + i) = nI (c i) ∧ c i < 256) (hp : post (b2i (iqN c n)) m) : P_M_inQuote post (nI s) m := ⟨n + 1, iq_loop hs hn h5 h6 hp n 0 (by omega)⟩
/-- only texts in a place change -/
def Wr (m w : MS) (lo hi : Nat) : Prop := (∀ j, gI w j = gI m j) ∧ (∀ f, f ≠ 6 → ∀ i, gA w f i = gA m f i) ∧ ∀ i, (i < lo ∨ hi ≤ i) → gA w 6 i = gA m 6 i
theorem jn_loop {m : MS} {post : Int32 → MS → Prop} {s n0 : Nat} {T : TS} {x4 x5 : Int32} (hs : s < 24) (h : Mc k cd m) (hn0 : n0 ≤ 80) (hfin : ∀ w, Wr m w (80 * s + n0) (80 * s + 80) → (∀ j, j < T.1 → j < 80 → gA w 6 (80 * s + j) = nI (T.2.2 j)) → (80 < T.1 → post 0 (sI w 0 (2 : Int32))) ∧ (T.1 ≤ 80 → ((x5 = 0 → post (nI s) (sI (sA (sA w 5 s (nI T.1)) 4 s x4) 3 (gI w 3 + 1))) ∧ (¬ x5 = 0 → post (nI s) (sI (sA (sA w 5 s (nI T.1)) 4 s (gA w 4 s)) 3 (gI w 3)))))) : ∀ (f i : Nat) (t : TS) (u : MS), (i + f = k ∨ (f = 0 ∧ k ≤ i)) → i ≤ 72 → apF cd f i t = T → n0 ≤ t.1 → t.1 ≤ 80 + i → Wr m u (80 * s + n0) (80 * s + 80) → (∀ j, j < t.1 → j < 80 → gA u 6 (80 * s + j) = nI (t.2.2 j)) → P_M_joined_246 post (f + 1) (nI k) x4 x5 (nI s) (nI t.1) (b2i t.2.1) (nI i) u := by
  have hk := h.1
  have e80 : (80 : Int32) * nI s = nI (80 * s) := pk_mul 80 s
  intro f
  induction f with
  | zero =>
    intro i t u hi hi72 he hn ht hw htx
    have e : t = T := he
    subst e
    obtain ⟨g1, g2⟩ := hfin u hw htx
    refine ⟨fun _ => ?_, fun h0 => ?_⟩
    · rw [show (nI t.1 ≤ 80) ↔ t.1 ≤ 80 from nI_leI (b := 80) (by omega) (by decide)]
      refine ⟨fun hle => ⟨vp_in_nI hs (by decide), ?_⟩, fun hgt => g1 (by omega)⟩
      unfold P_M_joined_380
      rw [nI_clamp (by omega)]
      have e4 : gA (sA u 5 s (nI t.1)) 4 s = gA u 4 s := by rw [gA_sA, if_neg (fun q => absurd q.1 (by decide))]
      have e3 : ∀ y, gI (sA u 5 s (nI t.1)) 3 = y ↔ gI u 3 = y := fun y => Iff.rfl
      exact ⟨fun q => ⟨vp_in_nI hs (by decide), fun _ => (g2 hle).1 q, fun q2 => absurd q q2⟩, fun q => ⟨vp_in_nI hs (by decide), vp_in_nI hs (by decide), fun q2 => absurd q2 q, fun _ => by rw [e4]; exact (g2 hle).2 q⟩⟩
    · rw [nI_leI (by omega) (by omega)] at h0
      omega
  | succ f ih =>
    intro i t u hi hi72 he hn ht hw htx
    have hlt : i < k := by omega
    have hc := h.2 i hlt
    have hcu : gA u 2 i = nI (cd i) := (hw.2.1 2 (by decide) i).trans hc.1
    have he' : apF cd f (i + 1) (apS (cd i) t) = T := he
    refine ⟨fun h0 => absurd h0 (nI_ge (by omega) (by omega)), fun _ => ⟨vp_in_nI (by omega) (by decide), ?_⟩⟩
    rw [nI_clamp (by omega), hcu, show (nI (cd i) = 32) ↔ cd i = 32 from nI_eq (b := 32) (by omega) (by decide), b2i_0]
    have keep : (cd i ≠ 32 ∨ t.2.1 = true) → P_M_joined_269 post (fun zx1 zx4 zx5 zx6 zx7 zx8 zx9 zu => P_M_joined_246 post (f + 1) zx1 zx4 zx5 zx6 zx7 zx8 zx9 zu) (nI k) x4 x5 (nI s) (nI t.1) (b2i t.2.1) (nI i) u := by
      intro hkeep
      have hS : apS (cd i) t = (t.1 + 1, (if cd i = 39 then !t.2.1 else t.2.1), fun j => if j = t.1 then cd i else t.2.2 j) := by unfold apS; rw [if_pos hkeep]
      rw [hS] at he'
      have g296 : ∀ u1, Wr m u1 (80 * s + n0) (80 * s + 80) → (∀ j, j < t.1 + 1 → j < 80 → gA u1 6 (80 * s + j) = nI (if j = t.1 then cd i else t.2.2 j)) → P_M_joined_296 post (fun zx1 zx4 zx5 zx6 zx7 zx8 zx9 zu => P_M_joined_246 post (f + 1) zx1 zx4 zx5 zx6 zx7 zx8 zx9 zu) (nI k) x4 x5 (nI s) (nI t.1) (b2i t.2.1) (nI i) u1 := by
        intro u1 hw1 htx1
        have hcu1 : gA u1 2 i = nI (cd i) := (hw1.2.1 2 (by decide) i).trans hc.1
        have nx := ih (i + 1) _ u1 (by omega) (by omega) he' (by simp only; omega) (by simp only; omega) hw1 htx1
        unfold P_M_joined_296 P_M_joined_326 P_M_joined_328
        rw [nI_clamp (by omega), hcu1, show (nI (cd i) = 39) ↔ cd i = 39 from nI_eq (b := 39) (by omega) (by decide), nI_1, nI_1, b2i_0]
        simp only at nx
        refine ⟨vp_in_nI (by omega) (by decide), fun q => by rw [if_neg q] at nx; exact nx, fun q => ⟨fun q2 => ?_, fun q2 => ?_⟩⟩
        · rw [if_pos q] at nx
          have : t.2.1 = true := by simpa using q2
          rw [this] at nx
          exact nx
        · rw [if_pos q, q2] at nx
          exact nx
      unfold P_M_joined_269
      rw [show ((80 : Int32) ≤ nI t.1) ↔ 80 ≤ t.1 from nI_leI (a := 80) (by decide) (by omega)]
      refine ⟨fun q => g296 u hw (fun j hj h80 => ?_), fun q => ⟨vp_in_nI (by omega) (by decide), ?_⟩⟩
      · rw [if_neg (by omega)]
        exact htx j (by omega) h80
      · have hnar : vp_nar .char (nI (cd i)) = nI (cd i) := by
          have : ∀ y, y < 256 → vp_nar .char (nI y) = nI y := by decide +kernel
          exact this _ hc.2.2
        rw [e80, nI_add, nI_clamp (by omega), nI_clamp (by omega), hcu, hnar]
        refine ⟨vp_in_nI (by omega) (by decide), g296 _ ⟨fun j => hw.1 j, fun f' hf' j => ?_, fun j hj => ?_⟩ (fun j hj h80 => ?_)⟩
        · rw [gA_sA, if_neg (fun q => hf' q.1)]
          exact hw.2.1 f' hf' j
        · rw [gA_sA, if_neg (fun q => by omega)]
          exact hw.2.2 j hj
        · rw [gA_sA]
          by_cases e : j = t.1
          · rw [if_pos ⟨rfl, by omega⟩, if_pos e]
          · rw [if_neg (fun q => by omega), if_neg e]
            exact htx j (by omega) h80
    refine ⟨fun q => keep (Or.inl q), fun q => ⟨fun q2 => ?_, fun q2 => keep (Or.inr (by simpa using q2))⟩⟩
    unfold P_M_joined_328
    rw [nI_1]
    have hS : apS (cd i) t = t := by unfold apS; rw [if_neg (by simp [q, q2])]
    rw [hS] at he'
    exact ih (i + 1) t u (by omega) (by omega) he' hn (by omega) hw htx
theorem joined_m {m : MS} {post : Int32 → MS → Prop} {N : Nat} (h : Mc k cd m) (hN : N ≤ 24) (h3 : gI m 3 = nI N) {n lb : Nat} {c : Nat → Nat} (hn : n ≤ 80) (hmd : 0 < N → MdI m (N - 1) c n lb ∧ ∀ i, i < n → c i < 256)
    (hW : wlC k cd = false → post 0 (sI m 0 (1 : Int32)))
    (hP : wlC k cd = true → ((coC k cd = true ∧ N = 0) ∨ (coC k cd = false ∧ N = 24)) → post 0 (sI m 0 (2 : Int32)))
    (hC : wlC k cd = true → coC k cd = true → 0 < N → ∀ w, Wr m w (80 * (N - 1) + n) (80 * (N - 1) + 80) → (∀ j, j < (apF cd (k - 6) 6 (n, iqN c n, c)).1 → j < 80 → gA w 6 (80 * (N - 1) + j) = nI ((apF cd (k - 6) 6 (n, iqN c n, c)).2.2 j)) → (80 < (apF cd (k - 6) 6 (n, iqN c n, c)).1 → post 0 (sI w 0 (2 : Int32))) ∧ ((apF cd (k - 6) 6 (n, iqN c n, c)).1 ≤ 80 → post (nI (N - 1)) (sI (sA (sA w 5 (N - 1) (nI (apF cd (k - 6) 6 (n, iqN c n, c)).1)) 4 (N - 1) (gA w 4 (N - 1))) 3 (gI w 3))))
    (hB : wlC k cd = true → coC k cd = false → N < 24 → ∀ w, Wr m w (80 * N) (80 * N + 80) → (∀ j, j < (t00 cd k).1 → j < 80 → gA w 6 (80 * N + j) = nI ((t00 cd k).2.2 j)) → (80 < (t00 cd k).1 → post 0 (sI w 0 (2 : Int32))) ∧ ((t00 cd k).1 ≤ 80 → post (nI N) (sI (sA (sA w 5 N (nI (t00 cd k).1)) 4 N (nI (nuN cd (min k 5)))) 3 (gI w 3 + 1)))) : P_M_joined post (nI k) m := by
  have hk := h.1
  have c164 : wlC k cd = true → P_M_joined_164 post (nI k) (nI (nuN cd (min k 5))) (b2i (coC k cd)) m := by
    intro hwl
    unfold P_M_joined_164
    rw [b2i_0, h3]
    refine ⟨fun hco => ?_, fun hco => ?_⟩
    · rw [hco]
      refine ⟨fun q => absurd q (nI_pos (by omega)), fun _ => ?_⟩
      rw [show (nI N = 24) ↔ N = 24 from nI_eq (b := 24) (by omega) (by decide)]
      refine ⟨fun q => ⟨fun _ => ⟨fun _ => ?_, fun r => absurd rfl r⟩, fun r => absurd rfl r⟩, fun q => hP hwl (Or.inr ⟨hco, q⟩)⟩
      refine ⟨k - 6 + 1, jn_loop (T := t00 cd k) (n0 := 0) (by omega) h (by decide) (fun w hw htx => ?_) (k - 6) 6 (0, false, c00) m (by omega) (by omega) rfl (Nat.zero_le _) (by simp only; omega) ⟨fun _ => rfl, fun _ _ _ => rfl, fun _ _ => rfl⟩ (fun j hj => by simp only at hj; omega)⟩
      obtain ⟨g1, g2⟩ := hB hwl hco (by omega) w (by simpa using hw) htx
      exact ⟨g1, fun hle => ⟨fun _ => g2 hle, fun r => absurd rfl r⟩⟩
    · have hco' : coC k cd = true := by simpa using hco
      rw [hco']
      by_cases h0 : N = 0
      · subst h0
        exact ⟨fun _ => hP hwl (Or.inl ⟨hco', rfl⟩), fun q => absurd (by decide) q⟩
      · have e1 : nI N - 1 = nI (N - 1) := by
          rw [show N = (N - 1) + 1 by omega, nI_pred]
          rfl
        rw [e1]
        obtain ⟨⟨m1, m2, m3⟩, m4⟩ := hmd (by omega)
        refine ⟨fun q => absurd q (nI_pos (by omega)), fun _ => ?_⟩
        rw [show (nI (N - 1) = 24) ↔ N - 1 = 24 from nI_eq (b := 24) (by omega) (by decide)]
        refine ⟨fun q => ⟨fun r => absurd r (by decide), fun _ => ⟨vp_in_nI (by omega) (by decide), ?_⟩⟩, fun q => by omega⟩
        rw [nI_clamp (by omega), m2]
        have go : ∀ bb, bb = iqN c n → P_M_joined_240 post (nI k) (nI (nuN cd (min k 5))) (b2i true) (nI (N - 1)) (nI n) (b2i bb) m := by
          intro bb hbb
          subst hbb
          refine ⟨k - 6 + 1, jn_loop (T := apF cd (k - 6) 6 (n, iqN c n, c)) (n0 := n) (by omega) h hn (fun w hw htx => ?_) (k - 6) 6 (n, iqN c n, c) m (by omega) (by omega) rfl (Nat.le_refl _) (by simp only; omega) ⟨fun _ => rfl, fun _ _ _ => rfl, fun _ _ => rfl⟩ (fun j hj _ => m3 j hj)⟩
          obtain ⟨g1, g2⟩ := hC hwl hco' (by omega) w hw htx
          exact ⟨g1, fun hle => ⟨fun r => absurd r (by decide), fun _ => g2 hle⟩⟩
        refine ⟨fun r => absurd r (by decide), fun _ => inQuote_m (by omega) hn m2 (fun i hi => ⟨m3 i hi, m4 i hi⟩) ?_⟩
        rw [b2i_0]
        refine ⟨fun r => ?_, fun r => ?_⟩
        · exact go false r.symm
        · exact go true (by
            have : iqN c n = true := by simpa using r
            rw [this])
  have c142 : P_M_joined_142 post (nI k) (b2i (gdN cd (min k 5))) (b2i (hdN cd (min k 5))) (nI (nuN cd (min k 5))) (b2i (coC k cd)) m := by
    unfold P_M_joined_142
    rw [b2i_0, b2i_0, b2i_0]
    have hw : wlC k cd = (gdN cd (min k 5) && !(coC k cd && hdN cd (min k 5))) := rfl
    refine ⟨fun q => hW (by rw [hw, q]; rfl), fun q => ?_⟩
    have hg : gdN cd (min k 5) = true := by simpa using q
    refine ⟨fun r => c164 (by rw [hw, hg, r]; rfl), fun r => ⟨fun r2 => c164 (by rw [hw, hg, r2]; simp), fun r2 => hW ?_⟩⟩
    have h1 : coC k cd = true := by simpa using r
    have h2 : hdN cd (min k 5) = true := by simpa using r2
    rw [hw, hg, h1, h2]
    rfl
  have c110 : P_M_joined_110 post (nI k) (b2i (gdN cd (min k 5))) (b2i (hdN cd (min k 5))) (nI (nuN cd (min k 5))) m := by
    unfold P_M_joined_110 P_M_joined_141
    rw [show (nI k ≤ 5) ↔ k ≤ 5 from nI_leI (b := 5) (by omega) (by decide)]
    have hco : coC k cd = (decide (5 < k) && (!decide (cd 5 = 32) && !decide (cd 5 = 48))) := rfl
    refine ⟨fun q => ?_, fun q => ?_⟩
    · have : coC k cd = false := by rw [hco, show decide (5 < k) = false by simpa using q]; rfl
      rw [this] at c142
      exact c142
    · have hc := h.2 5 (by omega)
      have e0 : gA m 2 (5 : Int32).toNatClampNeg = nI (cd 5) := hc.1
      rw [e0, show (nI (cd 5) = 32) ↔ cd 5 = 32 from nI_eq (b := 32) (by omega) (by decide), show (nI (cd 5) = 48) ↔ cd 5 = 48 from nI_eq (b := 48) (by omega) (by decide)]
      refine ⟨vp_in_nI (n := 5) (by decide) (by decide), fun r => ?_, fun r => ⟨vp_in_nI (n := 5) (by decide) (by decide), fun r2 => ?_, fun r2 => ?_⟩⟩
      · have : coC k cd = false := by rw [hco]; simp [r]
        rw [this] at c142
        exact c142
      · have : coC k cd = false := by rw [hco]; simp [r2]
        rw [this] at c142
        exact c142
      · have : coC k cd = true := by rw [hco]; simp [r, r2]; omega
        rw [this] at c142
        exact c142
  have loop : ∀ (f i : Nat), i + f = min k 5 → P_M_joined_10 post (f + 1) (nI k) (b2i (gdN cd i)) (b2i (hdN cd i)) (nI (nuN cd i)) (nI i) m := by
    intro f
    induction f with
    | zero =>
      intro i hi
      have e : min k 5 = i := by omega
      rw [e] at c110
      refine ⟨fun _ => c110, fun q => ⟨fun _ => c110, fun r => ?_⟩⟩
      rw [show ((5 : Int32) ≤ nI i) ↔ 5 ≤ i from nI_leI (a := 5) (by decide) (by omega)] at q
      rw [nI_leI (by omega) (by omega)] at r
      omega
    | succ f ih =>
      intro i hi
      have hc := h.2 i (by omega)
      have nx := ih (i + 1) (by omega)
      unfold gdN hdN nuN at nx
      refine ⟨fun q => absurd q (nI_ge (b := 5) (by omega) (by omega)), fun _ => ⟨fun q => absurd q (nI_ge (by omega) (by omega)), fun _ => ⟨vp_in_nI (by omega) (by decide), fun v3 e3 => ?_⟩⟩⟩
      have ev3 : v3 = b2i (dg (cd i)) := by
        rw [e3, nI_clamp (by omega), hc.1]
        have : ∀ y, y < 256 → isDig (nI y) = b2i (dg y) := by decide +kernel
        exact this _ hc.2.2
      subst ev3
      -- the three flags
      have fin : ∀ g hh : Bool, g = (gdN cd i && (dg (cd i) || decide (cd i = 32))) → P_M_joined_60 post (fun zx1 zx2 zx3 zx4 zx5 zu => P_M_joined_10 post (f + 1) zx1 zx2 zx3 zx4 zx5 zu) (nI k) (b2i (hdN cd i)) (nI (nuN cd i)) (nI i) (b2i (dg (cd i))) (b2i g) m := by
        intro g _ hg
        unfold P_M_joined_60 P_M_joined_70 P_M_joined_75 P_M_joined_102
        rw [nI_clamp (by omega), hc.1, nI_1, b2i_0, b2i_0]
        have tail : ∀ d2 : Bool, d2 = (hdN cd i || dg (cd i)) → ((dg (cd i) = false → P_M_joined_10 post (f + 1) (nI k) (b2i g) (b2i d2) (nI (nuN cd i)) (nI (i + 1)) m) ∧ (¬ dg (cd i) = false → vp_in (nI i) 72 ∧ P_M_joined_10 post (f + 1) (nI k) (b2i g) (b2i d2) ((10 : Int32) * nI (nuN cd i) + nI (cd i) - (48 : Int32)) (nI (i + 1)) m)) := by
          intro d2 hd2
          refine ⟨fun q => ?_, fun q => ⟨vp_in_nI (by omega) (by decide), ?_⟩⟩
          · rw [if_neg (by simp [q]), ← hg, ← hd2] at nx
            exact nx
          · have hd : dg (cd i) = true := by simpa using q
            have hb := dg_b hd
            rw [if_pos hd, ← hg, ← hd2] at nx
            have e9 : (10 : Int32) * nI (nuN cd i) + nI (cd i) - (48 : Int32) = nI (10 * nuN cd i + (cd i - 48)) := by
              rw [show (10 : Int32) = nI 10 from rfl, show (48 : Int32) = nI 48 from rfl, pk_mul, nI_add, pk_sub (by omega)]
              congr 1
              omega
            rw [e9]
            exact nx
        refine ⟨fun q => ?_, fun q => ⟨fun r => ?_, fun r => ?_⟩⟩
        · have : hdN cd i = true := by simpa using q
          exact tail true (by rw [this]; rfl)
        · have t9 := tail false (by rw [q, r]; rfl)
          exact t9
        · have : dg (cd i) = true := by simpa using r
          exact tail true (by rw [this, Bool.or_true])
      unfold P_M_joined_59 P_M_joined_55
      rw [b2i_0, b2i_0, nI_clamp (by omega), hc.1, show (nI (cd i) = 32) ↔ cd i = 32 from nI_eq (b := 32) (by omega) (by decide)]
      refine ⟨fun q => fin false true (by rw [q]; rfl), fun q => ?_⟩
      have hg : gdN cd i = true := by simpa using q
      refine ⟨fun r => fin true true ?_, fun r => ⟨vp_in_nI (by omega) (by decide), fun r2 => fin false true ?_, fun r2 => fin true true ?_⟩⟩
      · have : dg (cd i) = true := by simpa using r
        rw [hg, this]; rfl
      · rw [hg, r]; simp [r2]
      · rw [hg]; simp [r2]
  exact ⟨min k 5 + 1, loop (min k 5) 0 (by omega)⟩
end CR2
