/-! the rounds of an expression -/
def btC (c : Nat → Nat) (p : Nat) : Nat := if c p = 43 ∨ c p = 45 then 5 else if c p = 42 then (if c (p + 1) = 42 then 7 else 6) else if c p = 47 then 6 else if dtC c p = 1 ∨ dtC c p = 2 ∨ dtC c p = 4 then dtC c p else 0
def blC (k : Nat) : Nat := if k = 7 then 2 else if k = 2 then 5 else if k = 1 ∨ k = 4 then 4 else 1
theorem redV_len (l : Nat) : ∀ (S : List Fm) (y : List Tz), (seg (redV l S y).2 ++ (redV l S y).1).length = (seg S ++ y).length := by
  intro S
  induction S with
  | nil => intro y; rfl
  | cons q S ih =>
    intro y
    unfold redV
    split
    · rw [ih]
      simp only [seg, List.length_append, wc_len, wo_len]
      omega
    · rfl
theorem redV_dp (l : Nat) : ∀ (S : List Fm) (y : List Tz), dp (redV l S y).2 = dp S := by
  intro S
  induction S with
  | nil => intro y; rfl
  | cons q S ih =>
    intro y
    unfold redV
    split
    · rename_i h
      rw [ih]
      simp only [dp]
      rw [if_neg (by omega)]
      rfl
    · rfl
theorem redV_top (l : Nat) : ∀ (S : List Fm) (y : List Tz) (q : Fm) (S' : List Fm), (redV l S y).2 = q :: S' → ¬ (q.1 < 8 ∧ l ≤ q.1) := by
  intro S
  induction S with
  | nil => intro y q S' h; exact absurd h (by simp [redV])
  | cons q0 S ih =>
    intro y q S' h
    unfold redV at h
    split at h
    · exact ih _ _ _ h
    · rename_i hc
      have e : q0 = q := (List.cons.inj h).1
      rw [← e]
      exact hc
section MRO
variable {c : Nat → Nat} {n b a0 : Nat} {u0 : MS} {sh : List Nat} {nm : List Nx} {d : Nat} {post : Int32 → MS → Prop}
theorem btC_lt (p : Nat) : btC c p < 100 := by
  unfold btC
  split
  · omega
  · split
    · split <;> omega
    · split
      · omega
      · split <;> omega
theorem between_of {Q : Int32 → MS → Prop} {u : MS} {p : Nat} (t : MT c n b u) (hp : p ≤ n) (h9 : gI u 9 = nI (b + p)) (h : Q (nI (btC c p)) u) : P_M_between Q u := by
  have h80 := t.1
  have h19 := t.2.1
  have cq : ∀ (i x : Nat), x < 256 → (nI (c i) = nI x ↔ c i = x) := fun i x hx => nI_eq (by have := t.lt i; omega) (by omega)
  unfold P_M_between
  rw [h9, t.v (by omega)]
  refine ⟨t.q (by omega), fun v1 e1 => ?_⟩
  subst e1
  rw [show (43 : Int32) = nI 43 from rfl, show (45 : Int32) = nI 45 from rfl, show (42 : Int32) = nI 42 from rfl, show (47 : Int32) = nI 47 from rfl, cq _ _ (by decide), cq _ _ (by decide), cq _ _ (by decide), cq _ _ (by decide)]
  unfold btC at h
  refine ⟨fun h43 => by rw [if_pos (Or.inl h43)] at h; exact h, fun h43 => ⟨fun h45 => ⟨fun h42 => ?_, fun h42 => ⟨fun h47 => ?_, fun h47 => ?_⟩⟩, fun h45 => by rw [if_pos (Or.inr h45)] at h; exact h⟩⟩
  · rw [if_neg (by omega), if_pos h42] at h
    unfold P_M_between_35
    rw [h9, nI_1, show b + p + 1 = b + (p + 1) by omega, t.v (by omega), show (42 : Int32) = nI 42 from rfl, cq _ _ (by decide), cq _ _ (by decide)]
    refine ⟨fun e => absurd h42 e, fun _ => ⟨t.q (by omega), fun h2 => by rw [if_neg h2] at h; exact h, fun h2 => by rw [if_pos h2] at h; exact h⟩⟩
  · rw [if_neg (by omega), if_neg h42, if_neg h47] at h
    refine dots_of t (by omega) ?_
    have hd100 : dtC c p < 100 := by
      by_cases h0 : dtC c p = 0
      · omega
      · obtain ⟨q, hq, e2, _⟩ := (dt_iff (k := p) h0).mp rfl
        have := (by decide : ∀ q ∈ dtW, q.2 < 100) q hq
        omega
    rw [show (1 : Int32) = nI 1 from rfl, show (2 : Int32) = nI 2 from rfl, show (4 : Int32) = nI 4 from rfl, nI_eq (by omega) (by decide), nI_eq (by omega) (by decide), nI_eq (by omega) (by decide)]
    refine ⟨fun e => by rw [if_pos (Or.inl e)] at h; exact h, fun e1 => ⟨fun e => by rw [if_pos (Or.inr (Or.inl e))] at h; exact h, fun e2 => ⟨fun e4 => by rw [if_neg (by omega)] at h; exact h, fun e => by rw [if_pos (Or.inr (Or.inr e))] at h; exact h⟩⟩⟩
  · rw [if_neg (by omega), if_neg h42, if_pos h47] at h
    unfold P_M_between_35
    rw [show (42 : Int32) = nI 42 from rfl, cq _ _ (by decide)]
    exact ⟨fun _ => h, fun e => absurd e h42⟩
theorem RH.ne {u : MS} {S : List Fm} {y : List Tz} {pos : Int32} (h : RH c n b a0 u0 sh nm pos u S y) : y ≠ [] := by
  obtain ⟨_, nv, lo, hi, _, ⟨k, _, pr⟩, _⟩ := h
  exact pr.2.2.2.2.1
/-- after what was wanted -/
theorem q_have {x : Nat} {v : MS} {S : List Fm} {y : List Tz} (hx : x ≤ (seg S).length) (hx2 : x ≤ 80) (hv : RH c n b a0 u0 sh nm (nI (b + (a0 + (seg S ++ y).length))) v S y) (hH : Hv c n b a0 u0 sh nm d post S y) : ((0 ≤ (1 : Int32) → ((¬ (1 : Int32) = 0 → P_M_expression_69 post (fun zx2 zx3 zx4 zx5 zu => P_M_expression_25 post (301 - (x + 1)) zx2 zx3 zx4 zx5 zu) (nI (d + dp S)) (nI x) (nI S.length) 0 v) ∧ ((1 : Int32) = 0 → P_M_expression_69 post (fun zx2 zx3 zx4 zx5 zu => P_M_expression_25 post (301 - (x + 1)) zx2 zx3 zx4 zx5 zu) (nI (d + dp S)) (nI x) (nI S.length) 1 v))) ∧ (¬ 0 ≤ (1 : Int32) → post 0 v)) := by
  have hne := List.length_pos_iff.mpr hv.ne
  have h27 : gI v 27 = nI S.length := by
    obtain ⟨_, nv, lo, hi, _, _, _, h, _⟩ := hv
    exact h
  have hS : S.length ≤ (seg S).length := by
    obtain ⟨_, nv, lo, hi, rs, _⟩ := hv
    exact (RepS.bd _ _ _ rs).2.1
  have hn : (seg S ++ y).length ≤ 1000000 → True := fun _ => trivial
  refine ⟨fun _ => ⟨fun _ => ?_, fun e => absurd e (by decide)⟩, fun e => absurd (by decide) e⟩
  have hfin := hH (x + 1) v 0 (by rw [List.length_append]; omega) hv
  refine ⟨fun _ => ⟨fun _ => ⟨fun e => absurd rfl e, fun _ => ⟨fun _ => ?_, fun e => absurd rfl e⟩⟩, fun e => absurd rfl e⟩, fun h9 => absurd (by rw [h27]; exact Int32.le_refl _) h9⟩
  unfold P_M_expression_145 P_M_expression_146 P_M_expression_444
  rw [nI_1]
  exact hfin
theorem q_push {x : Nat} {v : MS} {q : Fm} {S : List Fm} (hx : x ≤ (seg S).length) (hS : S.length ≤ 80) (hq : q.1 = 3 ∨ q.1 = 5 ∨ q.1 = 8 ∨ q.1 = 9) (hl : 1 ≤ (fY q).length) (hv : RW c n b a0 u0 sh nm v (q :: S)) (hW : Wn c n b a0 u0 sh nm d post (q :: S)) : ((0 ≤ (0 : Int32) → ((¬ (0 : Int32) = 0 → P_M_expression_69 post (fun zx2 zx3 zx4 zx5 zu => P_M_expression_25 post (301 - (x + 1)) zx2 zx3 zx4 zx5 zu) (nI (d + dp S)) (nI x) (nI S.length) 0 v) ∧ ((0 : Int32) = 0 → P_M_expression_69 post (fun zx2 zx3 zx4 zx5 zu => P_M_expression_25 post (301 - (x + 1)) zx2 zx3 zx4 zx5 zu) (nI (d + dp S)) (nI x) (nI S.length) 1 v))) ∧ (¬ 0 ≤ (0 : Int32) → post 0 v)) := by
  have hfin := hW (x + 1) v (by show _ ≤ (seg S ++ fY q).length; rw [List.length_append]; omega) hv
  obtain ⟨_, nv, hi, rs, _, h27, _⟩ := hv
  have h28 : gA v 28 S.length = nI q.1 := rs.1
  have hSl : (q :: S).length = S.length + 1 := rfl
  rw [hSl] at h27
  refine ⟨fun _ => ⟨fun e => absurd rfl e, fun _ => ?_⟩, fun e => absurd (by decide) e⟩
  have e1 : gI v 27 - 1 = nI S.length := by rw [h27, nI_pred]
  refine ⟨fun h9 => absurd h9 (by rw [h27]; exact nI_ge (by omega) (by omega)), fun _ => ?_⟩
  unfold P_M_expression_100 P_M_expression_101 P_M_expression_115 P_M_expression_141 P_M_expression_145 P_M_expression_146 P_M_expression_444
  rw [e1, nI_clamp (by omega), h28, nI_1, nI_1]
  refine ⟨vp_in_nI (by omega) (by decide), fun h8 => ⟨fun _ => ⟨fun e => absurd rfl e, fun _ => ⟨fun e => absurd e (by decide), fun _ => ⟨vp_in_nI (by omega) (by decide), fun h3 => ?_, fun h3 => ?_⟩⟩⟩, fun e => absurd rfl e⟩, fun h8 => ⟨fun e => absurd e (by decide), fun _ => ⟨fun _ => ?_, fun e => absurd e (by decide)⟩⟩⟩
  · have q5 : q.1 = 5 := by
      rcases hq with h | h | h | h
      · rw [h] at h3; exact absurd rfl h3
      · exact h
      · rw [h] at h8; exact absurd h8 (by decide)
      · rw [h] at h8; exact absurd h8 (by decide)
    have e2 : dp (q :: S) = dp S := by simp only [dp]; rw [if_neg (by omega)]; rfl
    have e3 : may (q :: S) = 0 := by simp [may, q5]
    rw [e2, e3] at hfin
    exact hfin
  · have q3 : q.1 = 3 := by
      rcases hq with h | h | h | h
      · exact h
      · rw [h] at h3; exact absurd h3 (by decide)
      · rw [h] at h8; exact absurd h8 (by decide)
      · rw [h] at h8; exact absurd h8 (by decide)
    have e2 : dp (q :: S) = dp S := by simp only [dp]; rw [if_neg (by omega)]; rfl
    have e3 : may (q :: S) = 2 := by simp [may, q3]
    rw [e2, e3] at hfin
    exact hfin
  · have q8 : 8 ≤ q.1 := by
      rcases hq with h | h | h | h
      · rw [h] at h8; exact absurd (by decide) h8
      · rw [h] at h8; exact absurd (by decide) h8
      · omega
      · omega
    have e2 : dp (q :: S) = dp S + 1 := by simp only [dp]; rw [if_pos q8]
    have e3 : may (q :: S) = 2 := by simp only [may]; rw [if_neg (by omega), if_neg (by omega)]
    rw [e2, e3] at hfin
    exact hfin
theorem W_of {S : List Fm} {p : Nat} (o : Os c n b u0 a0 sh nm) (hp : p = a0 + (seg S).length) (hd : d + dp S ≤ 8) (hF : wBad c (d + dp S) S p → ∀ v, Of c u0 v sh nm → post 0 v)
    (h1 : p < numE c p → Hv c n b a0 u0 sh nm d post S (zn (numE c p - p)))
    (h2 : ¬ p < numE c p → lr (c p) = true → (¬ c (alN c 6 p) = 40 → Hv c n b a0 u0 sh nm d post S (nmZ c 4 p)) ∧ (c (alN c 6 p) = 40 → d + dp S < 8 → (c (alN c 6 p + 1) = 41 → Hv c n b a0 u0 sh nm d post S (nmZ c 3 p ++ zn 2)) ∧ (¬ c (alN c 6 p + 1) = 41 → Wn c n b a0 u0 sh nm d post ((9, nmZ c 3 p ++ zn 1, 0) :: S))))
    (h3 : c p = 39 → ∀ e, qtN c 81 (p + 1) = some e → Hv c n b a0 u0 sh nm d post S (zn (e - p)))
    (h4 : c p = 40 → d + dp S < 8 → Wn c n b a0 u0 sh nm d post ((8, [], 0) :: S))
    (h5 : ¬ p < numE c p → dtC c p = 20 → ∀ m, (st c p (wS 19) = true ∧ m = 6 ∨ st c p (wS 20) = true ∧ m = 7) → Hv c n b a0 u0 sh nm d post S (zn m))
    (h6 : dtC c p = 3 → may S = 2 → Wn c n b a0 u0 sh nm d post ((3, [], 5) :: S))
    (h7 : c p = 43 ∨ c p = 45 → 0 < may S → Wn c n b a0 u0 sh nm d post ((5, [], 1) :: S)) : Wn c n b a0 u0 sh nm d post S := by
  intro x u hx hrw
  have h80 := o.1.1
  have hlen : a0 + (seg S).length ≤ n := hrw.1.2.1
  have hS : S.length ≤ (seg S).length := by
    obtain ⟨_, nv, hi, rs, _⟩ := hrw
    exact (RepS.bd _ _ _ rs).2.1
  have h27 : gI u 27 = nI S.length := by
    obtain ⟨_, nv, hi, _, _, h, _⟩ := hrw
    exact h
  rw [show 301 - x = (301 - (x + 1)) + 1 by omega]
  refine ⟨fun h9 => absurd h9 (nI_ge (b := 300) (by omega) (by decide)), fun _ => ⟨fun e => absurd e (by decide), fun _ v13 e13 => ?_⟩⟩
  rw [h27] at e13
  subst e13
  refine wanted_of o hrw hp (fun hB v hv => ⟨fun e => absurd e (by decide), fun _ => hF hB v hv⟩) (fun q v hv => q_have hx (by omega) hv (h1 q)) (fun q1 q2 => ⟨fun q3 v hv => q_have hx (by omega) hv ((h2 q1 q2).1 q3), fun q3 q4 => ⟨fun q5 v hv => q_have hx (by omega) hv (((h2 q1 q2).2 q3 q4).1 q5), fun q5 v hv => q_push hx (by omega) (Or.inr (Or.inr (Or.inr rfl))) ?_ hv (((h2 q1 q2).2 q3 q4).2 q5)⟩⟩) (fun q1 e q2 v hv => q_have hx (by omega) hv (h3 q1 e q2)) (fun q1 q2 v hv => q_push hx (by omega) (Or.inr (Or.inr (Or.inl rfl))) (by decide) hv (h4 q1 q2)) (fun q0 q1 m q2 v hv => q_have hx (by omega) hv (h5 q0 q1 m q2)) (fun q1 q2 v hv => q_push hx (by omega) (Or.inl rfl) (by decide) hv (h6 q1 q2)) (fun q1 q2 v hv => q_push hx (by omega) (Or.inr (Or.inl rfl)) (by decide) hv (h7 q1 q2)) hd
  show 1 ≤ (nmZ c 3 p ++ zn 1).length
  simp [nmZ]
/-- joined -/
def RJ (c : Nat → Nat) (n b a0 : Nat) (u0 : MS) (sh : List Nat) (nm : List Nx) (pos : Int32) (v : MS) (S : List Fm) (X y : List Tz) : Prop := Sc c n b a0 u0 sh nm pos v ((seg S ++ X) ++ y) ∧ ∃ nv lo hi m T, RepS c n b a0 v S nv lo ∧ gA v 26 nv = nI lo ∧ gI v 25 = nI (nv + 1) ∧ gI v 27 = nI (S.length + 1) ∧ gA v 28 S.length = nI 9 ∧ gI v 18 = nI hi ∧ Nd n b v lo (a0 + (seg S).length) m ∧ PrJ c n b v lo hi T ∧ lo < hi ∧ hi ≤ 100 ∧ hi - lo ≤ (X ++ y).length ∧ shZ c (a0 + (seg S).length) (X ++ y) = sgN c m (a0 + (seg S).length) ++ ([40] ++ T) ∧ (shZ c (a0 + (seg S).length) (X ++ y)).length ≤ 3 * (X ++ y).length ∧ y ≠ []
theorem joins_of {Q : MS → Prop} {u : MS} {S : List Fm} {X y : List Tz} {mm : Nat} {pos : Int32} (hn : n ≤ 80) (h : RH c n b a0 u0 sh nm pos u ((9, X, mm) :: S) y) (hQ : ∀ v, RJ c n b a0 u0 sh nm pos v S X y → Q v) : P_M_joins Q u := by
  obtain ⟨sc, nv1, mid, hi, rs, ⟨ky, kp, py⟩, h25, h27, h18⟩ := h
  have hlen := sc.2.1
  have eseg : seg ((9, X, mm) :: S) = seg S ++ X := rfl
  rw [eseg] at hlen py sc
  have hb := RepS.bd _ _ _ rs
  rw [eseg] at hb
  obtain ⟨p28, pp⟩ := rs
  rcases pp with ⟨_, p2, _⟩ | ⟨_, p2, _⟩ | ⟨p1, _⟩ | ⟨_, nv, lo, e1, rs', p26, m, nd, hlo, hmid, hX, hsX, pl⟩
  · exact absurd (show (9 : Nat) < 8 from p2) (by decide)
  · exact absurd (show (9 : Nat) < 8 from p2) (by decide)
  · exact absurd (show (9 : Nat) = 8 from p1) (by decide)
  subst e1
  simp only at hX hsX
  have hlo100 := nd.1
  have hp1 := py.1
  have hp2 := py.2.1
  have hp3 := py.2.2.1
  have hp4 := py.2.2.2.1
  have hp7 := py.2.2.2.2.2.2.1
  have e25 : gI u 25 - 1 = nI (nv + 1) := by rw [h25, nI_pred]
  have e25' : gI u 25 - 1 - 1 = nI nv := by rw [e25, nI_pred]
  rw [List.length_append, List.length_append] at hlen
  rw [List.length_append] at hb
  unfold P_M_joins
  rw [e25', e25, nI_clamp (by omega), nI_clamp (by omega)]
  refine ⟨vp_in_nI (by omega) (by decide), fun v1 ev1 => ⟨vp_in_nI (by omega) (by decide), fun v2 ev2 => ?_⟩⟩
  have ev1 : v1 = nI ky := ev1.trans kp
  have ev2 : v2 = nI lo := ev2.trans p26
  subst ev1 ev2
  rw [nI_clamp (by omega)]
  have gI25 : ∀ f i, gA (sI u 25 (nI (nv + 1))) f i = gA u f i := fun _ _ => rfl
  simp only [gI25]
  have epos : a0 + (seg S ++ X).length = a0 + (seg S).length + X.length := by rw [List.length_append]; omega
  rw [epos] at py hp7
  have esh : shZ c (a0 + (seg S).length) (X ++ y) = shZ c (a0 + (seg S).length) X ++ shZ c (a0 + (seg S).length + X.length) y := shZ_app c X y _
  -- what the two ends have in common
  have fin : ∀ (v : MS) (T : List Nat), KM u v → (∀ k, k ≠ 25 → gI v k = gI u k) → gI v 25 = nI (nv + 1) → (∀ k i, k < 21 ∨ 23 < k → gA v k i = gA u k i) → (∀ i, gL v i = gL u i) → (∀ k i, i < lo → gA v k i = gA u k i) → gA v 23 lo = -1 → PrJ c n b v lo hi T → shZ c (a0 + (seg S).length) (X ++ y) = sgN c m (a0 + (seg S).length) ++ ([40] ++ T) → Q v := by
    intro v T kv gi g25 ga gl glo g23 hJ hs
    refine hQ v ⟨sc.fr kv (gi 9 (by decide)) (gi 10 (by decide)) (gi 12 (by decide)) (fun i => ga 11 i (by omega)) (fun i => ga 14 i (by omega)) (fun i => ga 15 i (by omega)) gl rfl rfl, nv, lo, hi, m, T, RepS.fr S nv lo rs' ⟨fun f q1 q2 i q3 => ga f i (by omega), fun i _ => ga 26 i (by omega), fun f q1 q2 i q3 q4 => glo f i q4⟩, (ga 26 nv (by omega)).trans p26, g25, (gi 27 (by decide)).trans h27, (ga 28 _ (by omega)).trans p28, (gi 18 (by decide)).trans h18, ⟨nd.1, nd.2.1, (ga 24 lo (by omega)).trans nd.2.2.1, (ga 19 lo (by omega)).trans nd.2.2.2.1, (ga 20 lo (by omega)).trans nd.2.2.2.2.1, g23⟩, hJ, by omega, hp3, by rw [List.length_append]; omega, hs, ?_, py.2.2.2.2.1⟩
    rw [esh, List.length_append, List.length_append]
    omega
  rcases pl with ⟨e1, e2, e3⟩ | ⟨T, ⟨first, last, k0, k1, j1, jf, j2, j3, j4, j5, j6⟩, e3⟩
  · refine ⟨vp_in_nI (by omega) (by decide), fun h9 => absurd h9 (by rw [e2]; decide), fun _ => ⟨vp_in_nI (by omega) (by decide), vp_in_nI (by omega) (by decide), ?_⟩⟩
    rw [nI_clamp (by omega)]
    have eA : ∀ f i, gA (sA (sA (sI u 25 (nI (nv + 1))) 21 lo (nI ky)) 22 lo (nI ky)) f i = if f = 22 ∧ i = lo then nI ky else if f = 21 ∧ i = lo then nI ky else gA u f i := fun f i => by rw [gA_sA, gA_sA, gA_sI]
    have pyv : Pr0 c n b (sA (sA (sI u 25 (nI (nv + 1))) 21 lo (nI ky)) 22 lo (nI ky)) mid hi ky (a0 + (seg S).length + X.length) y := py.fr (fun f q1 q2 i q3 q4 => by rw [eA, if_neg (by omega), if_neg (by omega)])
    obtain ⟨c0, c1, hc⟩ := ChS.one pyv
    rw [e1] at hc
    refine fin _ (shZ c (a0 + (seg S).length + X.length) y) ((((KM.refl u).i _ rfl).a _ _ rfl).a _ _ rfl) (fun k hk => by rw [gI_sA, gI_sA, gI_sI, if_neg hk]) (by rw [gI_sA, gI_sA, gI_sI, if_pos rfl]) (fun k i hk => by rw [eA, if_neg (by omega), if_neg (by omega)]) (fun i => rfl) (fun k i hk => by rw [eA, if_neg (by omega), if_neg (by omega)]) (by rw [eA, if_neg (by omega), if_neg (by omega)]; exact nd.2.2.2.2.2) ⟨ky, ky, c0, c1, by rw [eA, if_neg (by omega), if_pos ⟨rfl, rfl⟩], by omega, by rw [eA, if_pos ⟨rfl, rfl⟩], by omega, hp2, ?_, hc⟩ ?_
    · exact pyv.2.2.2.2.2.1
    · rw [esh, e3, List.append_assoc]
  · refine ⟨vp_in_nI (by omega) (by decide), fun _ => ⟨vp_in_nI (by omega) (by decide), ?_⟩, fun h9 => absurd (by rw [j1]; exact nI_pos' (by omega)) h9⟩
    rw [j2, nI_clamp (by omega)]
    refine ⟨vp_in_nI (by omega) (by decide), vp_in_nI (by omega) (by decide), ?_⟩
    rw [nI_clamp (by omega)]
    have eA : ∀ f i, gA (sA (sA (sI u 25 (nI (nv + 1))) 23 last (nI ky)) 22 lo (nI ky)) f i = if f = 22 ∧ i = lo then nI ky else if f = 23 ∧ i = last then nI ky else gA u f i := fun f i => by rw [gA_sA, gA_sA, gA_sI]
    have pyv : Pr0 c n b (sA (sA (sI u 25 (nI (nv + 1))) 23 last (nI ky)) 22 lo (nI ky)) mid hi ky (a0 + (seg S).length + X.length) y := py.fr (fun f q1 q2 i q3 q4 => by rw [eA, if_neg (by omega), if_neg (by omega)])
    have j6v : ChS c n b (sA (sA (sI u 25 (nI (nv + 1))) 23 last (nI ky)) 22 lo (nI ky)) (lo + 1) mid first last T k0 k1 := fun w t ag => j6 w t (ag.left (fun f q1 q2 i q3 q4 q5 => by
      rw [eA, if_neg (by omega), if_neg (fun q => q5 q.1 q.2)]))
    obtain ⟨c0, c1, hc⟩ := ChS.snoc j6v j3 j4 pyv (by rw [eA, if_neg (by omega), if_pos ⟨rfl, rfl⟩])
    refine fin _ (T ++ ([44] ++ shZ c (a0 + (seg S).length + X.length) y)) ((((KM.refl u).i _ rfl).a _ _ rfl).a _ _ rfl) (fun k hk => by rw [gI_sA, gI_sA, gI_sI, if_neg hk]) (by rw [gI_sA, gI_sA, gI_sI, if_pos rfl]) (fun k i hk => by rw [eA, if_neg (by omega), if_neg (by omega)]) (fun i => rfl) (fun k i hk => by rw [eA, if_neg (by omega), if_neg (by omega)]) (by rw [eA, if_neg (by omega), if_neg (by omega)]; exact nd.2.2.2.2.2) ⟨first, ky, c0, c1, by rw [eA, if_neg (by omega), if_neg (by omega)]; exact j1, jf, by rw [eA, if_pos ⟨rfl, rfl⟩], by omega, hp2, ?_, hc⟩ ?_
    · exact pyv.2.2.2.2.2.1
    · rw [esh, e3]
      simp
end MRO
