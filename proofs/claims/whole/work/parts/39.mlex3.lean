section ML3
variable {c : Nat → Nat} {n b : Nat} {u : MS}
theorem nend_loop {post : Int32 → MS → Prop} {a : Nat} (t : MT c n b u) (ha : a ≤ 100) : ∀ (f m : Nat), m + f = 6 → (m = 0 ∧ post (nI (b + nmE c a)) u ∨ 0 < m ∧ post (nI (b + alN c f (a + m))) u) → P_M_nameEnd_2 post (f + 1) (nI (b + a)) (nI (b + (a + m))) u := by
  have h19 := t.2.1
  have e6 : nI (b + a) + 6 = nI (b + a + 6) := nI_add (b + a) 6
  intro f
  induction f with
  | zero =>
    intro m hm h
    refine ⟨fun _ => ?_, fun h0 => absurd (by rw [e6]; exact nI_le (by omega) (by omega)) h0⟩
    rcases h with h | h
    · omega
    · exact h.2
  | succ f ih =>
    intro m hm h
    refine ⟨fun h0 => absurd h0 (by rw [e6]; exact nI_ge (by omega) (by omega)), fun _ => ⟨t.q (by omega), ?_⟩⟩
    rw [t.v (by omega), isLet_0 _ (t.lt _), Classical.not_not, isDig_0 _ (t.lt _), Classical.not_not]
    have stop : ¬ (lr (c (a + m)) || (decide (0 < m) && dg (c (a + m)))) = true → post (nI (b + (a + m))) u := by
      intro h0
      rcases h with ⟨rfl, h⟩ | ⟨hp, h⟩
      · unfold nmE at h
        rw [if_neg (by simpa using h0)] at h
        exact h
      · unfold alN at h
        rw [if_neg (by simpa [hp] using h0)] at h
        exact h
    have go : (lr (c (a + m)) || (decide (0 < m) && dg (c (a + m)))) = true → P_M_nameEnd_37 post (fun zx1 zx2 zu => P_M_nameEnd_2 post (f + 1) zx1 zx2 zu) (nI (b + a)) (nI (b + (a + m))) u := by
      intro h0
      unfold P_M_nameEnd_37
      rw [nI_1, show b + (a + m) + 1 = b + (a + (m + 1)) by omega]
      refine ih (m + 1) (by omega) (Or.inr ⟨by omega, ?_⟩)
      rcases h with ⟨rfl, h⟩ | ⟨hp, h⟩
      · have h5 : f = 5 := by omega
        subst h5
        have hl : lr (c a) = true := by simpa using h0
        unfold nmE at h
        rw [if_pos hl] at h
        unfold alN at h
        rw [if_pos (by rw [hl]; rfl)] at h
        exact h
      · unfold alN at h
        rw [if_pos (by simpa [hp] using h0)] at h
        exact h
    rw [nI_leI (by omega) (by omega)]
    refine ⟨fun h0 => go (by rw [h0]; rfl), fun h0 => ⟨fun h1 => stop ?_, fun h1 => ⟨t.q (by omega), fun h2 => stop ?_, fun h2 => go ?_⟩⟩⟩
    · have : m = 0 := by omega
      simp [this]
      simpa [this] using h0
    · simp [h0, h2]
    · have : 0 < m := by omega
      simp [this, h2]
theorem nameEnd_of {post : Int32 → MS → Prop} {a : Nat} (t : MT c n b u) (ha : a ≤ 100) (h : post (nI (b + nmE c a)) u) : P_M_nameEnd post (nI (b + a)) u := ⟨7, nend_loop t ha 6 0 (by omega) (Or.inl ⟨rfl, h⟩)⟩
theorem alN_n (hz : ∀ i, n ≤ i → c i = 0) : ∀ (f k : Nat), k ≤ n → alN c f k ≤ n := by
  intro f
  induction f with
  | zero => intro k h; exact h
  | succ f ih =>
    intro k h
    unfold alN
    split
    · rename_i h1
      refine ih (k + 1) ?_
      by_cases h2 : k = n
      · rw [hz k (by omega)] at h1; exact absurd h1 (by decide)
      · omega
    · exact h
theorem alN_6 : ∀ (f k : Nat), alN c f k ≤ k + f := by
  intro f
  induction f with
  | zero => intro k; exact Nat.le_refl _
  | succ f ih =>
    intro k
    unfold alN
    split
    · have := ih (k + 1); omega
    · omega
theorem use_loop {post : MS → Prop} {how ty : Int32} {e : Nat} (t : MT c n b u) (he : e ≤ n) {X : Nat} {nl : Nat} (hnl : gI u 12 = nI nl) (hn9 : nl < 90) (h : post (sI (sA (sA (sL u nl (lN X)) 14 nl how) 15 nl ty) 12 (nI (nl + 1)))) : ∀ (m a x k : Nat), a + m = e → k + m ≤ 6 → x < 2 ^ (8 * k) → pkC c m a x = X → P_M_use_6 post (m + 1) (nI (b + e)) how ty (lN x) (nI (b + a)) u := by
  have h19 := t.2.1
  intro m
  induction m with
  | zero =>
    intro a x k ha hk hx hX
    have hX' : x = X := hX
    subst hX'
    refine ⟨fun _ => ?_, fun h0 => absurd (nI_le (by omega) (by omega)) h0⟩
    rw [hnl, nI_clamp (by omega), nI_1]
    exact ⟨vp_in_nI hn9 (by decide), vp_in_nI hn9 (by decide), vp_in_nI hn9 (by decide), h⟩
  | succ m ih =>
    intro a x k ha hk hx hX
    refine ⟨fun h0 => absurd h0 (nI_ge (by omega) (by omega)), fun _ => ⟨vp_in_nI (by omega) (by decide), fun v1 e1 => ?_⟩⟩
    have hc := t.2.2.2.2.1 a (by omega)
    rw [nI_clamp (by omega), hc.1] at e1
    obtain ⟨s1, s2⟩ := nm_step (m := k) hx (by omega) hc.2.2
    rw [s1] at e1
    subst e1
    rw [nI_1]
    exact ih (a + 1) _ (k + 1) (by omega) (by omega) s2 hX
theorem Nm.put {nm : List Nx} {a how ty : Nat} (hn : Nm c u nm) : Nm c (sI (sA (sA (sL u nm.length (lN (pkN c a))) 14 nm.length (nI how)) 15 nm.length (nI ty)) 12 (nI (nm.length + 1))) (nm ++ [(a, how, ty)]) := by
  intro j q hj
  have eL : ∀ (i : Nat), gL (sI (sA (sA (sL u nm.length (lN (pkN c a))) 14 nm.length (nI how)) 15 nm.length (nI ty)) 12 (nI (nm.length + 1))) i = if i = nm.length then lN (pkN c a) else gL u i := by
    intro i
    show vp_updL u.2.2 nm.length (lN (pkN c a)) i = _
    by_cases e : i = nm.length
    · rw [if_pos e, e, pk_uLs]
    · rw [if_neg e, pk_uLn e]; rfl
  by_cases e : j = nm.length
  · subst e
    rw [List.getElem?_append_right (Nat.le_refl _), Nat.sub_self] at hj
    cases hj
    refine ⟨by rw [eL, if_pos rfl], ?_, ?_⟩
    · rw [gA_sI, gA_sA, if_neg (fun q => absurd q.1 (by decide)), gA_sA, if_pos ⟨rfl, rfl⟩]
    · rw [gA_sI, gA_sA, if_pos ⟨rfl, rfl⟩]
  · have hlt := (List.getElem?_eq_some_iff.mp hj).1
    rw [List.length_append, List.length_singleton] at hlt
    rw [List.getElem?_append_left (by omega)] at hj
    have h9 := hn j q hj
    refine ⟨by rw [eL, if_neg e]; exact h9.1, ?_, ?_⟩
    · rw [gA_sI, gA_sA, if_neg (fun q => absurd q.1 (by decide)), gA_sA, if_neg (fun q => e q.2)]
      exact h9.2.1
    · rw [gA_sI, gA_sA, if_neg (fun q => e q.2)]
      exact h9.2.2
/-- only names change -/
def KN (u v : MS) : Prop := (∀ k, k ≠ 12 → gI v k = gI u k) ∧ ∀ k, k ≠ 14 → k ≠ 15 → ∀ i, gA v k i = gA u k i
theorem KN.km {v : MS} (h : KN u v) : KM u v := ⟨fun k hk => h.1 k (fun e => by subst e; exact absurd hk (by decide)), fun k hk => h.2 k (fun e => by subst e; exact absurd hk (by decide)) (fun e => by subst e; exact absurd hk (by decide))⟩
theorem use_of {post : MS → Prop} {a how ty : Nat} {sh : List Nat} {nm : List Nx} (o : Os c n b u a sh nm) (hl : lr (c a) = true) (h : ∀ v, KN u v → gI v 12 = nI (nm ++ [(a, how, ty)]).length → Nm c v (nm ++ [(a, how, ty)]) → post v) : P_M_use post (nI (b + a)) (nI (b + alN c 6 a)) (nI how) (nI ty) u := by
  have t := o.1
  have h80 := t.1
  have h19 := t.2.1
  have hle := alN_lt hl
  have hn := alN_n t.2.2.2.2.2 6 a o.2.1
  have h6 := alN_6 (c := c) 6 a
  have hnl := o.2.2.2.2.2.1
  refine ⟨alN c 6 a - a + 1, use_loop (k := 0) (X := pkN c a) t hn o.2.2.2.2.1 (by omega) (h _ ⟨fun k hk => ?_, fun k h14 h15 i => ?_⟩ ?_ o.2.2.2.2.2.2.put) (alN c 6 a - a) a 0 (by omega) (by omega) (by decide) rfl⟩
  · rw [gI_sI, if_neg hk]; rfl
  · rw [gA_sI, gA_sA, if_neg (fun q => h15 q.1), gA_sA, if_neg (fun q => h14 q.1)]
    rfl
  · rw [gI_sI, if_pos rfl, List.length_append, List.length_singleton]
theorem lr_no {a : Nat} (h : lr (c a) = true) : 0 < c a := by
  have : 65 ≤ c a := by
    unfold lr at h
    exact of_decide_eq_true (Bool.and_eq_true_iff.mp h).1
  omega
theorem name_tieM {how ty : Nat} (h1 : 1 ≤ how) (h4 : how ≤ 4) : TieM c n b ty (nmP c how) (fun post u => P_M_name post (nI how) (nI ty) u) := by
  intro post u a sh nm o g1 g2
  have t := o.1
  have h80 := t.1
  have h19 := t.2.1
  have han := o.2.1
  unfold P_M_name
  rw [o.2.2.1]
  refine nameEnd_of t (by omega) ?_
  rw [o.2.2.1]
  unfold nmE
  by_cases hl : lr (c a) = true
  · rw [if_pos hl]
    have hlt := alN_lt hl
    have hn := alN_n t.2.2.2.2.2 6 a han
    refine ⟨fun _ => ?_, fun h0 => absurd ((nI_eq (by omega) (by omega)).mp h0) (by omega)⟩
    refine use_of o hl (fun v kv q1 q2 => ?_)
    have e9 : gI v 9 = nI (b + a) := (kv.1 9 (by decide)).trans o.2.2.1
    rw [e9]
    have hsl := o.2.2.2.1.2.1
    have shv : Sh v sh := fun j x hj => (kv.2 11 (by decide) (by decide) j).trans (o.2.2.2.1.2.2 j x hj)
    refine putPart_of (t.of kv.km) (by omega) hn ((kv.1 10 (by decide)).trans o.2.2.2.1.1) (by omega) shv (fun w kw r1 r2 => ?_)
    have el : a + (nmZ c how a).length = alN c 6 a := nmZ_len hl
    have es : shZ c a (nmZ c how a) = sgN c (alN c 6 a - a) a := by
      rw [show alN c 6 a - a = (alN c 6 a - a - 1) + 1 by omega]
      simp only [nmZ, shZ, shZ_zn, sgN]
      rw [if_neg (by omega)]
      rfl
    have en : nmsZ ty a (nmZ c how a) = [(a, how, ty)] := by
      simp only [nmZ, nmsZ, nmsZ_zn]
      rw [if_pos ⟨h1, h4⟩]
      rfl
    have km : KM u (sI w 9 (nI (b + alN c 6 a))) := (kv.km.tr kw.km).i _ rfl
    refine g1 (nmZ c how a) _ (by unfold nmP; rw [if_pos hl]) km ?_
    rw [es, en, el]
    refine ⟨t.of km, hn, rfl, ⟨r1, ?_, r2⟩, (kw.1 12 (by decide)).trans q1, ?_, kw.nm q2⟩
    · rw [List.length_append, sgN_len]; omega
    · rw [List.length_append, List.length_singleton]
      have := o.2.2.2.2.2.1
      omega
  · rw [if_neg hl]
    exact ⟨fun h0 => absurd rfl h0, fun _ => g2 u (by unfold nmP; rw [if_neg hl]) o.of⟩
/-! dots -/
def pkR : List Nat → Nat
  | [] => 0
  | x :: r => pkR r * 256 + x
theorem pkR_inj : ∀ (l m : List Nat), (∀ x ∈ l, 0 < x ∧ x < 256) → (∀ x ∈ m, 0 < x ∧ x < 256) → pkR l = pkR m → l = m := by
  intro l
  induction l with
  | nil =>
    intro m _ hm h
    cases m with
    | nil => rfl
    | cons y s =>
      have := (hm y List.mem_cons_self).1
      have h' : (0 : Nat) = pkR s * 256 + y := h
      omega
  | cons x r ih =>
    intro m hl hm h
    cases m with
    | nil =>
      have := (hl x List.mem_cons_self).1
      have h' : pkR r * 256 + x = 0 := h
      omega
    | cons y s =>
      have hx := hl x List.mem_cons_self
      have hy := hm y List.mem_cons_self
      have h' : pkR r * 256 + x = pkR s * 256 + y := h
      have e1 : x = y := by omega
      have e2 : pkR r = pkR s := by omega
      rw [e1, ih s (fun z hz => hl z (List.mem_cons_of_mem _ hz)) (fun z hz => hm z (List.mem_cons_of_mem _ hz)) e2]
theorem pkR_lt : ∀ (l : List Nat), (∀ x ∈ l, 0 < x ∧ x < 256) → pkR l < 2 ^ (8 * l.length) := by
  intro l
  induction l with
  | nil => intro _; decide
  | cons x r ih =>
    intro h
    have h1 := ih (fun z hz => h z (List.mem_cons_of_mem _ hz))
    have h2 := h x List.mem_cons_self
    show pkR r * 256 + x < _
    rw [List.length_cons, show 8 * (r.length + 1) = 8 * r.length + 8 by omega, Nat.pow_add]
    omega
/-- letters from a on, at most so many, the last one first -/
def lts (c : Nat → Nat) : Nat → Nat → List Nat → List Nat
  | 0, _, r => r
  | f + 1, a, r => if lr (c a) = true then lts c f (a + 1) (c a :: r) else r
def dtW : List (List Nat × Nat) := [([82, 79], 1), ([68, 78, 65], 2), ([84, 79, 78], 3), ([69, 85, 82, 84], 20), ([69, 83, 76, 65, 70], 20), ([84, 76], 4), ([69, 76], 4), ([81, 69], 4), ([69, 78], 4), ([84, 71], 4), ([69, 71], 4)]
def dtF : List (List Nat × Nat) → List Nat → Nat
  | [], _ => 0
  | q :: r, l => if l = q.1 then q.2 else dtF r l
def dtC (c : Nat → Nat) (k : Nat) : Nat := if c k = 46 then (if c (k + 1 + (lts c 6 (k + 1) []).length) = 46 then dtF dtW (lts c 6 (k + 1) []) else 0) else 0
theorem lts_b (hc : ∀ i, c i < 256) : ∀ (f a : Nat) (r : List Nat), (∀ x ∈ r, 0 < x ∧ x < 256) → (∀ x ∈ lts c f a r, 0 < x ∧ x < 256) ∧ r.length ≤ (lts c f a r).length ∧ (lts c f a r).length ≤ r.length + f := by
  intro f
  induction f with
  | zero => intro a r h; exact ⟨h, Nat.le_refl _, Nat.le_refl _⟩
  | succ f ih =>
    intro a r h
    unfold lts
    split
    · rename_i hl
      have h1 := ih (a + 1) (c a :: r) (fun x hx => by
        rcases List.mem_cons.mp hx with e | e
        · subst e; exact ⟨lr_no hl, hc a⟩
        · exact h x e)
      rw [List.length_cons] at h1
      exact ⟨h1.1, by omega, by omega⟩
    · exact ⟨h, Nat.le_refl _, by omega⟩
theorem dots43 {post : Int32 → MS → Prop} {k : Nat} {l : List Nat} (t : MT c n b u) (hk : k ≤ 200) (hl : ∀ x ∈ l, 0 < x ∧ x < 256) (hl6 : l.length ≤ 6) (h : post (nI (if c k = 46 then (if c (k + 1 + l.length) = 46 then dtF dtW l else 0) else 0)) u) : P_M_dots_43 post (nI (b + k)) (nI (b + (k + 1 + l.length))) (lN (pkR l)) u := by
  have h19 := t.2.1
  have hlt := pkR_lt l hl
  have hlt2 : 2 ^ (8 * l.length) ≤ 2 ^ 48 := Nat.pow_le_pow_right (by decide) (by omega)
  have h48 : (2 : Nat) ^ 48 < 2 ^ 62 := by decide
  have cmp : ∀ m : List Nat, (∀ x ∈ m, 0 < x ∧ x < 256) → pkR m < 2 ^ 62 → (lg_cmp (lN (pkR l)) (lN (pkR m)) = 0 ↔ l = m) := fun m hm hm2 => by
    rw [lgc0 (by omega) hm2]
    exact ⟨pkR_inj l m hl hm, fun e => by rw [e]⟩
  unfold P_M_dots_43 P_M_dots_169 P_M_dots_174
  have d46 : ∀ i, (nI (c i) = 46 ↔ c i = 46) := fun i => nI_eq (b := 46) (by have := t.lt i; omega) (by decide)
  rw [t.v (by omega), t.v (by omega), d46, d46]
  refine ⟨t.q (by omega), fun h0 => by rw [if_neg h0] at h; exact h, fun h0 => ⟨t.q (by omega), fun h1 => by rw [if_pos h0, if_neg h1] at h; exact h, fun h1 => ?_⟩⟩
  rw [if_pos h0, if_pos h1] at h
  rw [nI_1, nI_eq (by omega) (by omega)]
  refine ⟨fun h2 => ?_, fun h2 => ?_⟩
  · rw [show (20306 : Int64) = lN (pkR [82, 79]) from by decide +kernel, show (4279876 : Int64) = lN (pkR [68, 78, 65]) from by decide +kernel, show (5132116 : Int64) = lN (pkR [84, 79, 78]) from by decide +kernel, show (1414681925 : Int64) = lN (pkR [69, 85, 82, 84]) from by decide +kernel, show (301743231813 : Int64) = lN (pkR [69, 83, 76, 65, 70]) from by decide +kernel, show (19540 : Int64) = lN (pkR [84, 76]) from by decide +kernel, show (19525 : Int64) = lN (pkR [69, 76]) from by decide +kernel, show (17745 : Int64) = lN (pkR [81, 69]) from by decide +kernel, show (20037 : Int64) = lN (pkR [69, 78]) from by decide +kernel, show (18260 : Int64) = lN (pkR [84, 71]) from by decide +kernel, show (18245 : Int64) = lN (pkR [69, 71]) from by decide +kernel]
    rw [cmp _ (by decide) (by decide), cmp _ (by decide) (by decide), cmp _ (by decide) (by decide), cmp _ (by decide) (by decide), cmp _ (by decide) (by decide), cmp _ (by decide) (by decide), cmp _ (by decide) (by decide), cmp _ (by decide) (by decide), cmp _ (by decide) (by decide), cmp _ (by decide) (by decide), cmp _ (by decide) (by decide)]
    simp only [dtW, dtF] at h
    have one : ¬ (1 : Int32) = 0 := by decide
    refine ⟨fun q1 => ⟨fun q2 => ⟨fun q3 => ⟨fun q4 => ?_, fun q4 => ⟨fun q5 => ⟨fun q6 => ⟨fun e => absurd e one, fun _ => ?_⟩, fun q6 => ⟨fun q7 => ⟨fun e => absurd e one, fun _ => ?_⟩, fun q7 => ⟨fun q8 => ⟨fun e => absurd e one, fun _ => ?_⟩, fun q8 => ⟨fun q9 => ⟨fun e => absurd e one, fun _ => ?_⟩, fun q9 => ⟨fun q10 => ⟨fun e => absurd e one, fun _ => ?_⟩, fun q10 => ⟨fun q11 => ⟨fun _ => ?_, fun e => absurd rfl e⟩, fun q11 => ⟨fun e => absurd e one, fun _ => ?_⟩⟩⟩⟩⟩⟩⟩, fun q5 => ?_⟩⟩, fun q3 => ?_⟩, fun q2 => ?_⟩, fun q1 => ?_⟩
    · subst q4; exact h
    · subst q6; exact h
    · subst q7; exact h
    · subst q8; exact h
    · subst q9; exact h
    · subst q10; exact h
    · rw [if_neg q1, if_neg q2, if_neg q3, if_neg q4, if_neg q5, if_neg q6, if_neg q7, if_neg q8, if_neg q9, if_neg q10, if_neg q11] at h; exact h
    · subst q11; exact h
    · subst q5; exact h
    · subst q3; exact h
    · subst q2; exact h
    · subst q1; exact h
  · have e : l = [] := List.eq_nil_of_length_eq_zero (by omega)
    subst e
    exact h
theorem dots_loop {post : Int32 → MS → Prop} {k : Nat} (t : MT c n b u) (hk : k ≤ 200) : ∀ (f : Nat) (l : List Nat), l.length + f = 6 → (∀ x ∈ l, 0 < x ∧ x < 256) → post (nI (if c k = 46 then (if c (k + 1 + (lts c f (k + 1 + l.length) l).length) = 46 then dtF dtW (lts c f (k + 1 + l.length) l) else 0) else 0)) u → P_M_dots_6 post (f + 1) (nI (b + k)) (nI (b + (k + 1 + l.length))) (lN (pkR l)) u := by
  have h19 := t.2.1
  have e7 : nI (b + k) + 7 = nI (b + k + 7) := nI_add (b + k) 7
  intro f
  induction f with
  | zero =>
    intro l hl hb h
    exact ⟨fun _ => dots43 t hk hb (by omega) h, fun h0 => absurd (by rw [e7]; exact nI_le (by omega) (by omega)) h0⟩
  | succ f ih =>
    intro l hl hb h
    refine ⟨fun h0 => absurd h0 (by rw [e7]; exact nI_ge (by omega) (by omega)), fun _ => ⟨t.q (by omega), ?_⟩⟩
    rw [t.v (by omega), isLet_0 _ (t.lt _), Classical.not_not]
    unfold lts at h
    refine ⟨fun h0 => ?_, fun h0 => ⟨t.q (by omega), fun v2 e2 => ?_⟩⟩
    · rw [if_neg h0] at h
      exact dots43 t hk hb (by omega) h
    · rw [if_pos h0] at h
      have hlt := pkR_lt l hb
      obtain ⟨s1, s2⟩ := nm_step (m := l.length) hlt (by omega) (t.lt (k + 1 + l.length))
      rw [s1] at e2
      subst e2
      have h2 := ih (c (k + 1 + l.length) :: l) (by rw [List.length_cons]; omega) (fun x hx => by
        rcases List.mem_cons.mp hx with e | e
        · subst e; exact ⟨lr_no h0, t.lt _⟩
        · exact hb x e) h
      rw [nI_1]
      exact h2
theorem dots_of {post : Int32 → MS → Prop} {k : Nat} (t : MT c n b u) (hk : k ≤ 200) (h : post (nI (dtC c k)) u) : P_M_dots post (nI (b + k)) u := by
  intro v1 e1
  rw [nI_1] at e1
  subst e1
  exact ⟨7, dots_loop t hk 6 [] rfl (fun x hx => absurd hx (by simp)) h⟩
end ML3
