/-! expressions: what the class finds -/
theorem wo_app {Z : List Tz} (h : Z ≠ []) (Y : List Tz) : wo (Z ++ Y) = wo Z ++ Y := by
  cases Z with
  | nil => exact absurd rfl h
  | cons t Z => rfl
theorem wc_cons (j : Nat) (t : Tz) {Z : List Tz} (h : Z ≠ []) : wc j (t :: Z) = t :: wc j Z := by
  cases Z with
  | nil => exact absurd rfl h
  | cons t' Z => rfl
theorem wc_app (j : Nat) (X : List Tz) {Y : List Tz} (h : Y ≠ []) : wc j (X ++ Y) = X ++ wc j Y := by
  induction X with
  | nil => rfl
  | cons t X ih =>
    have h1 : X ++ Y ≠ [] := fun e => h (List.append_eq_nil_iff.mp e).2
    rw [List.cons_append, wc_cons j t h1, ih]
    rfl
theorem wc_ne {j : Nat} {Z : List Tz} (h : Z ≠ []) : wc j Z ≠ [] := fun e => h (List.eq_nil_of_length_eq_zero (by rw [← wc_len j Z, e]; rfl))
theorem wo_ne {Z : List Tz} (h : Z ≠ []) : wo Z ≠ [] := fun e => h (List.eq_nil_of_length_eq_zero (by rw [← wo_len Z, e]; rfl))
theorem wc_wc (j k : Nat) : ∀ Z : List Tz, wc j (wc k Z) = wc (k + j) Z
  | [] => rfl
  | [(o, r, x)] => by simp only [wc, Nat.add_assoc]
  | t :: t' :: Z => by
    have h : t' :: Z ≠ [] := by simp
    rw [wc_cons k t h, wc_cons j t (wc_ne h), wc_wc j k (t' :: Z), wc_cons (k + j) t h]
theorem wc_0 : ∀ Z : List Tz, wc 0 Z = Z
  | [] => rfl
  | [(o, r, x)] => rfl
  | t :: t' :: Z => by rw [wc_cons 0 t (by simp), wc_0 (t' :: Z)]
theorem wc_get (k : Nat) : ∀ (Z : List Tz) (j : Nat), (wc k Z)[j]? = if j + 1 = Z.length then (Z[j]?).map (fun t => (t.1, t.2.1, t.2.2 + k)) else Z[j]?
  | [], j => by simp [wc]
  | [(o, r, x)], j => by
    cases j with
    | zero => simp [wc]
    | succ j => simp [wc]
  | t :: t' :: Z, j => by
    rw [wc_cons k t (by simp)]
    cases j with
    | zero => simp
    | succ j =>
      have h := wc_get k (t' :: Z) j
      simp only [List.getElem?_cons_succ, List.length_cons] at h ⊢
      rw [h]
      by_cases e : j + 1 = Z.length + 1
      · rw [if_pos e, if_pos (by omega)]
      · rw [if_neg e, if_neg (by omega)]
theorem nI_2 (a : Nat) : nI a + 2 = nI (a + 2) := nI_add a 2
theorem nI_5 (a : Nat) : nI a + 5 = nI (a + 5) := nI_add a 5
section CEX
variable {c : Nat → Nat} {n : Nat}
/-- the last one's closing brackets -/
theorem Ok.wc {a k : Nat} {u v : MS} {Z : List Tz} (h : Ok n u v a Z) (hZ : Z ≠ []) : Ok n u (sA v 2 (a + Z.length - 1) (gA v 2 (a + Z.length - 1) + nI k)) a (wc k Z) := by
  have hp : 0 < Z.length := List.length_pos_iff.mpr hZ
  refine ⟨by rw [wc_len]; exact h.1, by rw [wc_len]; exact h.2.1, ⟨h.2.2.1.1, fun i => ?_, fun f i hi => ?_⟩, fun j s hj => ?_⟩
  · rw [gA_sA, if_neg (fun q => absurd q.1 (by decide))]
    exact h.2.2.1.2.1 i
  · rw [wc_len] at hi
    rw [gA_sA, if_neg (fun q => by omega)]
    exact h.2.2.1.2.2 f i hi
  · rw [wc_get] at hj
    by_cases e : j + 1 = Z.length
    · rw [if_pos e] at hj
      cases h0 : Z[j]? with
      | none => rw [h0] at hj; exact absurd hj (by simp)
      | some t =>
        rw [h0] at hj
        simp only [Option.map_some, Option.some.injEq] at hj
        subst hj
        have h9 := h.2.2.2 j t h0
        refine ⟨by rw [gA_sA, if_neg (fun q => absurd q.1 (by decide))]; exact h9.1, by rw [gA_sA, if_neg (fun q => absurd q.1 (by decide))]; exact h9.2.1, ?_⟩
        rw [gA_sA, if_pos ⟨rfl, by omega⟩, show a + Z.length - 1 = a + j by omega, h9.2.2, nI_add]
    · rw [if_neg e] at hj
      have h9 := h.2.2.2 j s hj
      have hl := (List.getElem?_eq_some_iff.mp hj).1
      exact ⟨by rw [gA_sA, if_neg (fun q => absurd q.1 (by decide))]; exact h9.1, by rw [gA_sA, if_neg (fun q => absurd q.1 (by decide))]; exact h9.2.1, by rw [gA_sA, if_neg (fun q => by omega)]; exact h9.2.2⟩
theorem Ok.wo {a : Nat} {u v : MS} {Z : List Tz} (h : Ok n u v a Z) (hZ : Z ≠ []) : Ok n u (sA v 1 a (gA v 1 a + 1)) a (wo Z) := by
  obtain ⟨t, Z, rfl⟩ := List.exists_cons_of_ne_nil hZ
  refine ⟨by rw [wo_len]; exact h.1, by rw [wo_len]; exact h.2.1, ⟨h.2.2.1.1, fun i => ?_, fun f i hi => ?_⟩, fun j s hj => ?_⟩
  · rw [gA_sA, if_neg (fun q => absurd q.1 (by decide))]
    exact h.2.2.1.2.1 i
  · rw [wo_len] at hi
    have : (t :: Z).length = Z.length + 1 := rfl
    rw [gA_sA, if_neg (fun q => by omega)]
    exact h.2.2.1.2.2 f i hi
  · cases j with
    | zero =>
      have h9 := h.2.2.2 0 t rfl
      cases hj
      refine ⟨?_, by rw [gA_sA, if_neg (fun q => absurd q.1 (by decide))]; exact h9.2.1, by rw [gA_sA, if_neg (fun q => absurd q.1 (by decide))]; exact h9.2.2⟩
      rw [gA_sA, if_pos ⟨rfl, rfl⟩]
      rw [show gA v 1 a = nI t.1 from h9.1, nI_1]
    | succ j =>
      have h9 := h.2.2.2 (j + 1) s hj
      exact ⟨by rw [gA_sA, if_neg (fun q => by omega)]; exact h9.1, by rw [gA_sA, if_neg (fun q => absurd q.1 (by decide))]; exact h9.2.1, by rw [gA_sA, if_neg (fun q => absurd q.1 (by decide))]; exact h9.2.2⟩
theorem close_of {post : MS → Prop} {a k : Nat} {u v : MS} {Z : List Tz} (t : Tx c n u) (h : Ok n u v a Z) (hZ : Z ≠ []) (hp : ∀ w, Ok n u w a (wc k Z) → post w) : P_T_close post (nI k) v := by
  have hl : 0 < Z.length := List.length_pos_iff.mpr hZ
  have h80 := t.1
  have h1 := h.1
  unfold P_T_close
  rw [h.2.1]
  refine ⟨fun h0 => absurd h0 (nI_nle (by omega) (by omega)), fun _ => ?_⟩
  rw [show nI (a + Z.length) - 1 = nI (a + Z.length - 1) from by rw [← nI_pred (a + Z.length - 1)]; congr 2; omega]
  rw [nI_clamp (by omega)]
  exact ⟨t.vp (by omega), t.vp (by omega), hp _ (h.wc hZ)⟩
theorem numD_n {u : MS} (t : Tx c n u) {a : Nat} (ha : a ≤ n) : a ≤ numD c a ∧ numD c a ≤ n := by
  have h1 := dgN_le (c := c) 81 a
  have h2 := dgN_n (c := c) t.2.2.2 81 a ha
  have e1 : dgN c 81 a = dgE c a := rfl
  unfold numD
  split
  · rename_i h
    have h3 : st c (dgE c a) (wS 5) = true := (Bool.and_eq_true_iff.mp h).1
    have h4 := st_in t.2.2.2 (wS 5) (dgE c a) (by decide +kernel) (wS_pos 5 (by decide)) h3
    have h5 : (wS 5).length = 1 := by decide +kernel
    have h6 := dgN_le (c := c) 81 (dgE c a + 1)
    have h7 := dgN_n (c := c) t.2.2.2 81 (dgE c a + 1) (by omega)
    have e2 : dgN c 81 (dgE c a + 1) = dgE c (dgE c a + 1) := rfl
    split
    · omega
    · omega
  · omega
/-- a number up to its exponent -/
theorem decimal_of {post : Int32 → MS → Prop} {u : MS} {a : Nat} (p : Pre c n u a) (h1 : a < numD c a → ∀ w, Ok n u w a (zn (numD c a - a)) → post 1 w) (h2 : ¬ a < numD c a → ∀ w, Ok n u w a [] → post 0 w) : P_T_takeDecimal post u := by
  have h80 := p.1.1
  have han := p.2.1
  have hd1 := dgN_le (c := c) 81 a
  have hd2 := dgN_n (c := c) p.1.2.2.2 81 a han
  have e1 : dgN c 81 a = dgE c a := rfl
  rw [e1] at hd1 hd2
  -- the end, with a last place e
  have fin : ∀ e, a ≤ e → e ≤ n → numD c a = e → P_T_takeDecimal_64 post (nI e) u := by
    intro e h3 h4 h5
    unfold P_T_takeDecimal_64
    rw [p.2.2.1, nI_leI (by omega) (by omega)]
    refine ⟨fun h6 => ⟨rfl, ?_⟩, fun h6 => ⟨rfl, ?_⟩⟩
    · refine h2 (by omega) _ ?_
      have h7 := Ok.skip p (m := 0) (by omega)
      rw [show e = a + 0 by omega]
      exact h7
    · refine h1 (by omega) _ ?_
      have h7 := Ok.skip p (m := e - a) (by omega)
      rw [show a + (e - a) = e by omega] at h7
      rw [h5]
      exact h7
  have go : ∀ s0 : Int32, (s0 = 0 ↔ dgE c a = a) → P_T_takeDecimal_22 post (nI (dgE c a)) s0 u := by
    intro s0 hs
    unfold P_T_takeDecimal_22
    refine stands_of p.1 (by decide) (by omega) ?_
    by_cases h3 : st c (dgE c a) (wS 5) = true
    · rw [if_pos h3]
      refine ⟨fun e => absurd e (by decide), fun _ => lgw_of p.1 (by omega) ?_⟩
      by_cases h4 : lgw c (dgE c a) = true
      · rw [if_pos h4]
        refine ⟨fun _ => fin _ hd1 hd2 (by unfold numD; rw [if_neg (by rw [h4]; simp)]), fun e => absurd e (by decide)⟩
      · rw [if_neg h4]
        refine ⟨fun e => absurd rfl e, fun _ => ?_⟩
        have h5 := st_in p.1.2.2.2 (wS 5) (dgE c a) (by decide +kernel) (wS_pos 5 (by decide)) h3
        rw [show (wS 5).length = 1 by decide +kernel] at h5
        rw [nI_1]
        refine dgE_of p.1 h5 ?_
        have h6 := dgN_le (c := c) 81 (dgE c a + 1)
        have h7 := dgN_n (c := c) p.1.2.2.2 81 (dgE c a + 1) h5
        have e2 : dgN c 81 (dgE c a + 1) = dgE c (dgE c a + 1) := rfl
        rw [e2] at h6 h7
        have h8 : (st c (dgE c a) (wS 5) && !lgw c (dgE c a)) = true := by simp [h3, h4]
        have e3 : numD c a = if dgE c a = a ∧ dgE c (dgE c a + 1) = dgE c a + 1 then a else dgE c (dgE c a + 1) := by
          conv => lhs; unfold numD
          rw [if_pos h8]
        rw [nI_eq (by omega) (by omega), hs]
        refine ⟨fun h9 => fin _ (by omega) h7 (by rw [e3, if_neg (fun q => h9 q.1)]), fun h9 => ⟨fun h10 => fin _ (by omega) h7 (by rw [e3, if_neg (fun q => h10 q.2)]), fun h10 => ?_⟩⟩
        exact h2 (by rw [e3, if_pos ⟨h9, h10⟩]; omega) _ (Ok.nil p)
    · rw [if_neg h3]
      exact ⟨fun _ => fin _ hd1 hd2 (by unfold numD; rw [if_neg (by simp [h3])]), fun e => absurd rfl e⟩
  unfold P_T_takeDecimal
  rw [p.2.2.1]
  refine dgE_of p.1 han ?_
  rw [p.2.2.1, nI_leI (by omega) (by omega)]
  exact ⟨fun h3 => go 0 ⟨fun _ => by omega, fun _ => rfl⟩, fun h3 => go 1 ⟨fun e => absurd e (by decide), fun e => by omega⟩⟩
theorem expE_n {u : MS} (t : Tx c n u) {a : Nat} (ha : a ≤ n) : a ≤ expE c a ∧ expE c a ≤ n := by
  unfold expE exD
  split
  · rename_i h0
    have hn : a < n := t.in (by omega)
    split
    · rename_i h1
      have h3 : a + 2 ≤ n := by
        rcases Bool.or_eq_true_iff.mp h1 with h | h
        · have h4 := st_in t.2.2.2 (wS 17) a (by decide +kernel) (wS_pos 17 (by decide)) h
          rw [show (wS 17).length = 2 by decide +kernel] at h4
          exact h4
        · have h4 := st_in t.2.2.2 (wS 18) a (by decide +kernel) (wS_pos 18 (by decide)) h
          rw [show (wS 18).length = 2 by decide +kernel] at h4
          exact h4
      have h2 := dgN_n (c := c) t.2.2.2 81 (a + 2) h3
      have e2 : dgN c 81 (a + 2) = dgE c (a + 2) := rfl
      split <;> omega
    · have h2 := dgN_n (c := c) t.2.2.2 81 (a + 1) (by omega)
      have e2 : dgN c 81 (a + 1) = dgE c (a + 1) := rfl
      split <;> omega
  · omega
theorem exponent_of {post : Int32 → MS → Prop} {u : MS} {a : Nat} (p : Pre c n u a) (h : ∀ w, Ok n u w a (zn (expE c a - a)) → post 1 w) : P_T_takeExponent post u := by
  have h80 := p.1.1
  have han := p.2.1
  have hx := expE_n p.1 han
  unfold P_T_takeExponent
  refine isNext_of (x := 69) p (by decide) (by decide) ?_
  by_cases h0 : c a = 69
  · rw [if_pos h0]
    refine ⟨fun e => absurd e (by decide), fun _ => ?_⟩
    have hn : a < n := p.1.in (by omega)
    have fin : ∀ e, exD c a = e → e ≤ n → P_T_takeExponent_50 post (nI e) u := by
      intro e he hen
      unfold P_T_takeExponent_50
      refine dgE_of p.1 hen ?_
      have h2 := dgN_n (c := c) p.1.2.2.2 81 e hen
      have e2 : dgN c 81 e = dgE c e := rfl
      rw [nI_leI (by omega) (by omega)]
      have e3 : expE c a = if e < dgE c e then dgE c e else a := by
        unfold expE
        rw [if_pos h0, he]
      have h3 := Ok.skip p (m := expE c a - a) (by omega)
      rw [show a + (expE c a - a) = expE c a by omega] at h3
      refine ⟨fun h4 => ?_, fun h4 => ?_⟩
      · rw [e3, if_neg (by omega)] at h3
        rw [p.2.2.1]
        rw [e3, if_neg (by omega)] at h
        exact h _ h3
      · rw [e3, if_pos (by omega)] at h3
        rw [e3, if_pos (by omega)] at h
        exact h _ h3
    have two : ∀ i, i < 56 → (wS i).length = 2 → st c a (wS i) = true → a + 2 ≤ n := by
      intro i hi hl hs
      have h4 := st_in p.1.2.2.2 (wS i) a (fun e => by rw [e] at hl; exact absurd hl (by decide)) (wS_pos i hi) hs
      rw [hl] at h4
      exact h4
    rw [p.2.2.1]
    refine stands_of p.1 (by decide) (by omega) ?_
    by_cases h1 : st c a (wS 17) = true
    · rw [if_pos h1]
      refine ⟨fun _ => ?_, fun e => absurd e (by decide)⟩
      unfold P_T_takeExponent_35
      rw [p.2.2.1, nI_2]
      exact fin (a + 2) (by simp [exD, h1]) (two 17 (by decide) (by decide +kernel) h1)
    · rw [if_neg h1]
      refine ⟨fun e => absurd rfl e, fun _ => ?_⟩
      rw [p.2.2.1]
      refine stands_of p.1 (by decide) (by omega) ?_
      have h1f : st c a (wS 17) = false := by simpa using h1
      by_cases h2 : st c a (wS 18) = true
      · rw [if_pos h2]
        refine ⟨fun e => absurd e (by decide), fun _ => ?_⟩
        unfold P_T_takeExponent_35
        rw [p.2.2.1, nI_2]
        exact fin (a + 2) (by simp [exD, h2]) (two 18 (by decide) (by decide +kernel) h2)
      · rw [if_neg h2]
        have h2f : st c a (wS 18) = false := by simpa using h2
        refine ⟨fun _ => ?_, fun e => absurd rfl e⟩
        rw [p.2.2.1, nI_1]
        exact fin (a + 1) (by simp [exD, h1f, h2f]) (by omega)
  · rw [if_neg h0]
    refine ⟨fun _ => h u ?_, fun e => absurd rfl e⟩
    have e3 : expE c a = a := by unfold expE; rw [if_neg h0]
    rw [e3, Nat.sub_self]
    exact Ok.nil p
end CEX
