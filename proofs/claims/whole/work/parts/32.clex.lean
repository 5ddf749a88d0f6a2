/-! the class's tape: what its small methods find -/
theorem isDig_0 : ∀ x, x < 256 → (isDig (nI x) = 0 ↔ ¬ dg x = true) := by decide +kernel
theorem isLet_0 : ∀ x, x < 256 → (isLet (nI x) = 0 ↔ ¬ lr x = true) := by decide +kernel
theorem wS_len (i : Nat) : (wS i).length = lenS i := List.length_map _
theorem wS_ch : ∀ i, i < 56 → ∀ k, k < lenS i → chS i k = nI ((wS i).getD k 0) := by decide +kernel
theorem wS_pos : ∀ i, i < 56 → ∀ x ∈ wS i, 0 < x ∧ x < 256 := by decide +kernel
theorem wS_ne : ∀ i, i < 56 → 0 < lenS i := by decide +kernel
theorem lenS_le : ∀ i, i < 56 → lenS i < 21 := by decide +kernel
theorem dg_0 : dg 0 = false := by decide
theorem lr_0 : lr 0 = false := by decide
section CLX
variable {c : Nat → Nat} {n : Nat} {u : MS}
theorem Tx.at (t : Tx c n u) {i : Nat} (h : i < n) : gA u 0 (nI i).toNatClampNeg = nI (c i) := by
  rw [nI_clamp (by have := t.1; omega)]
  exact (t.2.2.1 i h).1
theorem Tx.lt (t : Tx c n u) (i : Nat) : c i < 256 := by
  by_cases h : i < n
  · exact (t.2.2.1 i h).2.2
  · rw [t.2.2.2 i (by omega)]; decide
theorem Tx.in (t : Tx c n u) {i : Nat} (h : 0 < c i) : i < n := by
  by_cases h1 : i < n
  · exact h1
  · rw [t.2.2.2 i (by omega)] at h; omega
theorem Tx.vp (t : Tx c n u) {i : Nat} (h : i < n) : vp_in (nI i) 80 := vp_in_nI (by have := t.1; omega) (by decide)
theorem st_in (hz : ∀ i, n ≤ i → c i = 0) : ∀ (w : List Nat) (a : Nat), w ≠ [] → (∀ x ∈ w, 0 < x ∧ x < 256) → st c a w = true → a + w.length ≤ n := by
  intro w
  induction w with
  | nil => intro a h; exact absurd rfl h
  | cons x w ih =>
    intro a _ hx h
    simp only [st, Bool.and_eq_true, decide_eq_true_eq] at h
    have h1 : a < n := by
      by_cases h9 : a < n
      · exact h9
      · have h8 := hz a (by omega)
        have h7 := (hx x List.mem_cons_self).1
        omega
    cases w with
    | nil => simp; omega
    | cons y w =>
      have h2 := ih (a + 1) (by simp) (fun z hz => hx z (List.mem_cons_of_mem _ hz)) h.2
      simp only [List.length_cons] at h2 ⊢
      omega
theorem stands_loop {post : Int32 → MS → Prop} {i : Nat} (t : Tx c n u) (hi : i < 56) {a : Nat} (hl : a + lenS i ≤ n) : ∀ (m k : Nat), k + m = lenS i → post (if st c (a + k) ((wS i).drop k) = true then 1 else 0) u → P_T_stands_17 post i (m + 1) (nI a) (nI k) u := by
  have h80 := t.1
  have h21 := lenS_le i hi
  intro m
  induction m with
  | zero =>
    intro k hk h
    have e : (wS i).drop k = [] := List.drop_eq_nil_of_le (by rw [wS_len]; omega)
    rw [e] at h
    exact ⟨fun _ => h, fun h0 => absurd (nI_le (by omega) (by omega)) h0⟩
  | succ m ih =>
    intro k hk h
    have hk9 : k < (wS i).length := by rw [wS_len]; omega
    rw [List.drop_eq_getElem_cons hk9] at h
    refine ⟨fun h0 => absurd h0 (nI_ge (by omega) (by omega)), fun _ => ?_⟩
    rw [nI_add]
    refine ⟨t.vp (by omega), vp_in_nI (by omega) (by omega), ?_⟩
    have e9 : (wS i).getD k 0 = (wS i)[k] := by simp [List.getD, hk9]
    rw [t.at (by omega), nI_clamp (by omega), wS_ch i hi k (by omega), e9]
    have hb := (wS_pos i hi _ (List.getElem_mem hk9)).2
    have hq := t.lt (a + k)
    rw [nI_eq (by omega) (by omega)]
    refine ⟨fun h1 => ?_, fun h1 => ?_⟩
    · have h2 := ih (k + 1) (by omega) (by simpa [st, h1, Nat.add_assoc] using h)
      rw [nI_succ] at h2
      exact h2
    · simpa [st, h1] using h
theorem stands_of {post : Int32 → MS → Prop} {i : Nat} (t : Tx c n u) (hi : i < 56) {a : Nat} (ha : a ≤ 200) (h : post (if st c a (wS i) = true then 1 else 0) u) : P_T_stands post i (nI a) u := by
  have h80 := t.1
  have h21 := lenS_le i hi
  unfold P_T_stands
  rw [nI_add, t.2.1, nI_leI (by omega) (by omega)]
  refine ⟨fun h0 => ⟨lenS i + 1, stands_loop t hi h0 (lenS i) 0 (by omega) h⟩, fun h0 => ?_⟩
  have hf : ¬ st c a (wS i) = true := fun h1 => by
    have h2 := st_in t.2.2.2 (wS i) a (fun e => by have := wS_ne i hi; rw [← wS_len, e] at this; exact absurd this (by decide)) (wS_pos i hi) h1
    rw [wS_len] at h2
    omega
  rw [if_neg hf] at h
  exact h
/-- where a failing one leaves all as it was -/
def TieS (c : Nat → Nat) (n : Nat) (F : Ps) (P : (Int32 → MS → Prop) → MS → Prop) : Prop := ∀ (post : Int32 → MS → Prop) (u : MS) (a : Nat), Pre c n u a → (∀ Z u', F a = some Z → Ok n u u' a Z → post 1 u') → (F a = none → post 0 u) → P post u
theorem TieS.tie {F : Ps} {P : (Int32 → MS → Prop) → MS → Prop} (h : TieS c n F P) : Tie c n F P := fun post u a p h1 h2 => h post u a p h1 (fun e => h2 u e p.bad)
theorem TieS.or {F G : Ps} {P Q : (Int32 → MS → Prop) → MS → Prop} (h : TieS c n F P) (h' : TieS c n G Q) : TieS c n (orP F G) (fun post u => P (fun r u1 => ((¬ r = 0 → post 1 u1) ∧ (r = 0 → Q post u1))) u) := by
  intro post u a p h1 h2
  refine h _ u a p (fun Z v hZ hv => ⟨fun _ => h1 Z v (by unfold orP; rw [hZ]) hv, fun e => absurd e (by decide)⟩) (fun hZ => ⟨fun e => absurd rfl e, fun _ => ?_⟩)
  have e : orP F G a = G a := by unfold orP; rw [hZ]
  exact h' _ u a p (fun Y w hY hw => h1 Y w (e.trans hY) hw) (fun hY => h2 (e.trans hY))
theorem TieS.e1 {F : Ps} {P : (Int32 → MS → Prop) → MS → Prop} (h : TieS c n F P) : TieS c n F (fun post u => P (fun r u1 => ((r = 0 → post 0 u1) ∧ (¬ r = 0 → post 1 u1))) u) := fun post u a p h1 h2 =>
  h _ u a p (fun Z v hZ hv => ⟨fun e => absurd e (by decide), fun _ => h1 Z v hZ hv⟩) (fun hZ => ⟨fun _ => h2 hZ, fun e => absurd rfl e⟩)
theorem TieS.e2 {F : Ps} {P : (Int32 → MS → Prop) → MS → Prop} (h : TieS c n F P) : TieS c n F (fun post u => P (fun r u1 => (narrow .boolean (.int r) = .int r ∧ post r u1)) u) := fun post u a p h1 h2 =>
  h _ u a p (fun Z v hZ hv => ⟨rfl, h1 Z v hZ hv⟩) (fun hZ => ⟨rfl, h2 hZ⟩)
theorem take_tie {i : Nat} (hi : i < 56) : TieS c n (wdP c i) (fun post u => P_T_take post i u) := by
  intro post u a p h1 h2
  unfold P_T_take
  rw [p.2.2.1]
  have h80 := p.1.1
  have han := p.2.1
  refine stands_of p.1 hi (by omega) ?_
  by_cases h : st c a (wS i) = true
  · rw [if_pos h]
    refine ⟨fun _ => ?_, fun e => absurd e (by decide)⟩
    have h3 := st_in p.1.2.2.2 (wS i) a (fun e => by have := wS_ne i hi; rw [← wS_len, e] at this; exact absurd this (by decide)) (wS_pos i hi) h
    rw [p.2.2.1, nI_add, ← wS_len]
    exact h1 _ _ (by unfold wdP; rw [if_pos h]) (Ok.skip p h3)
  · rw [if_neg h]
    exact ⟨fun e => absurd rfl e, fun _ => h2 (by unfold wdP; rw [if_neg h])⟩
theorem isNext_of {post : Int32 → MS → Prop} {a x : Nat} (p : Pre c n u a) (hx : 0 < x) (hx2 : x < 256) (h : post (if c a = x then 1 else 0) u) : P_T_isNext post (nI x) u := by
  have h80 := p.1.1
  have han := p.2.1
  unfold P_T_isNext
  rw [p.2.2.1, p.1.2.1, nI_leI (by omega) (by omega)]
  refine ⟨fun h0 => ?_, fun h0 => ⟨p.1.vp (by omega), ?_⟩⟩
  · rw [p.1.2.2.2 a h0, if_neg (by omega)] at h
    exact h
  · rw [p.1.at (by omega), nI_eq (by have := p.1.lt a; omega) (by omega)]
    exact ⟨fun h1 => by rw [if_neg h1] at h; exact h, fun h1 => by rw [if_pos h1] at h; exact h⟩
/-- an entry's role is written anew -/
theorem Ok.role {a j : Nat} {u v : MS} {Z : List Tz} {t : Tz} (h : Ok n u v a Z) (hj : Z[j]? = some t) (r : Nat) : Ok n u (sA v 3 (a + j) (nI r)) a (Z.set j (t.1, r, t.2.2)) := by
  have hl := (List.getElem?_eq_some_iff.mp hj).1
  refine ⟨by rw [List.length_set]; exact h.1, by rw [List.length_set]; exact h.2.1, ⟨h.2.2.1.1, fun i => ?_, fun f i hi => ?_⟩, fun k s hk => ?_⟩
  · rw [gA_sA, if_neg (fun q => absurd q.1 (by decide))]
    exact h.2.2.1.2.1 i
  · rw [List.length_set] at hi
    rw [gA_sA, if_neg (fun q => by omega)]
    exact h.2.2.1.2.2 f i hi
  · by_cases e : k = j
    · subst e
      rw [List.getElem?_set_self hl] at hk
      cases hk
      have h9 := h.2.2.2 k t hj
      exact ⟨by rw [gA_sA, if_neg (fun q => absurd q.1 (by decide))]; exact h9.1, by rw [gA_sA, if_pos ⟨rfl, rfl⟩], by rw [gA_sA, if_neg (fun q => absurd q.1 (by decide))]; exact h9.2.2⟩
    · rw [List.getElem?_set_ne (Ne.symm e)] at hk
      have h9 := h.2.2.2 k s hk
      exact ⟨by rw [gA_sA, if_neg (fun q => absurd q.1 (by decide))]; exact h9.1, by rw [gA_sA, if_neg (fun q => by omega)]; exact h9.2.1, by rw [gA_sA, if_neg (fun q => absurd q.1 (by decide))]; exact h9.2.2⟩
theorem Ok.more {a m : Nat} {u v : MS} {Z : List Tz} (h : Ok n u v a Z) (p : Pre c n u a) (hm : a + Z.length + m ≤ n) : Ok n u (sI v 5 (nI (a + Z.length + m))) a (Z ++ zn m) := h.app (Ok.skip (h.pre p) hm)
theorem zn_add (a b : Nat) : zn a ++ zn b = zn (a + b) := List.replicate_append_replicate
theorem comma_tie : TieS c n (idP c) (fun post u => P_T_takeIdleComma post u) := by
  intro post u a p h1 h2
  unfold P_T_takeIdleComma
  refine isNext_of (x := 44) p (by decide) (by decide) ?_
  by_cases h : c a = 44
  · rw [if_pos h]
    refine ⟨fun e => absurd e (by decide), fun _ => ?_⟩
    have hn : a < n := p.1.in (by omega)
    have h80 := p.1.1
    rw [p.2.2.1, nI_clamp (by omega)]
    refine ⟨p.1.vp hn, h1 _ _ (by unfold idP; rw [if_pos h]) ?_⟩
    have h3 := (Ok.skip p (m := 1) (by omega)).role (j := 0) rfl 5
    rw [nI_1]
    exact h3
  · rw [if_neg h]
    exact ⟨fun _ => h1 _ _ (by unfold idP; rw [if_neg h]) (Ok.nil p), fun e => absurd rfl e⟩
theorem dig_zeros {post : Int32 → MS → Prop} {role a : Nat} (p : Pre c n u a) : ∀ (m : Nat) (Y : List Tz) (v : MS), Ok n u v a (Y ++ zn (m + 1)) → (∀ w, Ok n u w a (Y ++ dz c role (m + 1) (a + Y.length)) → post 1 w) → P_T_takeDigits_66 post (m + 1) (nI role) (nI (a + Y.length)) v := by
  have h80 := p.1.1
  intro m
  induction m with
  | zero =>
    intro Y v hv h
    have e : a + (Y ++ zn (0 + 1)).length = a + Y.length + 1 := by rw [List.length_append, zn_len]; omega
    have h1 := hv.1
    unfold P_T_takeDigits_66
    rw [hv.2.1, e, nI_pred]
    refine ⟨fun _ => ?_, fun h0 => absurd (nI_le (Nat.le_refl _) (by omega)) h0⟩
    unfold P_T_takeDigits_100
    rw [nI_clamp (by omega)]
    refine ⟨p.1.vp (by omega), h _ ?_⟩
    have h3 := hv.role (j := Y.length) (t := zz) (by rw [List.getElem?_append_right (Nat.le_refl _), Nat.sub_self]; rfl) role
    rw [List.set_append_right _ _ (Nat.le_refl _), Nat.sub_self] at h3
    exact h3
  | succ m ih =>
    intro Y v hv h
    have e : a + (Y ++ zn (m + 1 + 1)).length = a + Y.length + (m + 1) + 1 := by rw [List.length_append, zn_len]; omega
    have h1 := hv.1
    have tv := hv.2.2.1.tx p.1
    unfold P_T_takeDigits_66
    rw [hv.2.1, e, nI_pred]
    refine ⟨fun h0 => absurd h0 (nI_ge (by omega) (by omega)), fun _ => ⟨p.1.vp (by omega), ?_⟩⟩
    rw [tv.at (by omega), nI_clamp (by omega)]
    have hc : (nI (c (a + Y.length)) = 48) ↔ c (a + Y.length) = 48 := nI_eq (b := 48) (by have := p.1.lt (a + Y.length); omega) (by decide)
    rw [hc]
    refine ⟨fun h2 => ?_, fun h2 => ⟨p.1.vp (by omega), ?_⟩⟩
    · unfold P_T_takeDigits_100
      rw [nI_clamp (by omega)]
      refine ⟨p.1.vp (by omega), h _ ?_⟩
      have h3 := hv.role (j := Y.length) (t := zz) (by rw [List.getElem?_append_right (Nat.le_refl _), Nat.sub_self]; rfl) role
      rw [List.set_append_right _ _ (Nat.le_refl _), Nat.sub_self] at h3
      unfold dz
      rw [if_neg h2]
      exact h3
    · have h3 := hv.role (j := Y.length) (t := zz) (by rw [List.getElem?_append_right (Nat.le_refl _), Nat.sub_self]; rfl) 5
      rw [List.set_append_right _ _ (Nat.le_refl _), Nat.sub_self] at h3
      have h4 : Ok n u (sA v 3 (a + Y.length) (nI 5)) a ((Y ++ [(0, 5, 0)]) ++ zn (m + 1)) := by
        rw [List.append_assoc]
        exact h3
      have h5 := ih (Y ++ [(0, 5, 0)]) _ h4 (fun w hw => h w (by
        unfold dz
        rw [if_pos h2]
        rw [List.append_assoc, List.length_append] at hw
        exact hw))
      rw [List.length_append] at h5
      have e2 : nI (a + Y.length) + 1 = nI (a + (Y.length + [((0, 5, 0) : Tz)].length)) := by rw [nI_1]; rfl
      rw [e2]
      exact h5
theorem dgN_le : ∀ (f k : Nat), k ≤ dgN c f k := by
  intro f
  induction f with
  | zero => intro k; exact Nat.le_refl _
  | succ f ih =>
    intro k
    unfold dgN
    split
    · have := ih (k + 1); omega
    · exact Nat.le_refl _
theorem dgN_n (hz : ∀ i, n ≤ i → c i = 0) : ∀ (f k : Nat), k ≤ n → dgN c f k ≤ n := by
  intro f
  induction f with
  | zero => intro k h; exact h
  | succ f ih =>
    intro k h
    unfold dgN
    split
    · rename_i h1
      refine ih (k + 1) ?_
      by_cases h2 : k = n
      · rw [hz k (by omega)] at h1; exact absurd h1 (by decide)
      · omega
    · exact h
theorem dig_loop {post : Int32 → MS → Prop} {role most a : Nat} (hm : most ≤ 5) (p : Pre c n u a) : ∀ (f m : Nat) (v : MS), m + f = most → Ok n u v a (zn m) → (∀ w, Ok n u w a (zn (dgN c f (a + m) - a)) → P_T_takeDigits_56 post (nI role) (nI a) w) → P_T_takeDigits_8 post (f + 1) (nI most) (nI role) (nI a) (nI m) v := by
  have h80 := p.1.1
  intro f
  induction f with
  | zero =>
    intro m v hf hv h
    unfold P_T_takeDigits_8
    refine ⟨fun _ => h v (by show Ok n u v a (zn (a + m - a)); rw [Nat.add_sub_cancel_left]; exact hv), fun h0 => absurd (nI_le (by omega) (by omega)) h0⟩
  | succ f ih =>
    intro m v hf hv h
    have hl := hv.1
    have hat := hv.2.1
    rw [zn_len] at hl hat
    have tv := hv.2.2.1.tx p.1
    unfold P_T_takeDigits_8
    refine ⟨fun h0 => absurd h0 (nI_ge (by omega) (by omega)), fun _ => ?_⟩
    rw [hat, tv.2.1, nI_leI (by omega) (by omega)]
    unfold dgN at h
    refine ⟨fun h0 => ?_, fun h0 => ⟨p.1.vp (by omega), ?_⟩⟩
    · rw [p.1.2.2.2 _ h0, dg_0] at h
      exact h v (by rw [if_neg (by decide), Nat.add_sub_cancel_left]; exact hv)
    · rw [tv.at (by omega), isDig_0 _ (p.1.lt _), Classical.not_not]
      refine ⟨fun h1 => h v (by rw [if_neg h1, Nat.add_sub_cancel_left]; exact hv), fun h1 => ?_⟩
      rw [if_pos h1] at h
      have h2 := hv.more p (m := 1) (by rw [zn_len]; omega)
      rw [zn_len, zn_add] at h2
      have h3 := ih (m + 1) _ (by omega) h2 h
      rw [nI_1 m, nI_1 (a + m)]
      exact h3
theorem digits_tie {most role : Nat} (hm : most ≤ 5) : Tie c n (dgP c most role) (fun post u => P_T_takeDigits post (nI most) (nI role) u) := by
  intro post u a p h1 h2
  have h80 := p.1.1
  have han := p.2.1
  unfold P_T_takeDigits
  intro v1 e1
  rw [p.2.2.1] at e1
  subst e1
  refine ⟨most + 1, dig_loop hm p most 0 u (by omega) (Ok.nil p) (fun w hw => ?_)⟩
  rw [Nat.add_zero] at hw
  have h3 := dgN_le (c := c) most a
  have h4 := hw.2.1
  have h5 := hw.1
  rw [zn_len] at h4 h5
  unfold P_T_takeDigits_56
  rw [h4, show a + (dgN c most a - a) = dgN c most a by omega, nI_eq (by omega) (by omega)]
  refine ⟨fun h6 => ?_, fun h6 => h2 w (by unfold dgP; rw [if_pos h6]) hw.toBad⟩
  obtain ⟨m, hm2⟩ : ∃ m, dgN c most a - a = m + 1 := ⟨dgN c most a - a - 1, by omega⟩
  rw [hm2] at hw
  exact ⟨m + 1, dig_zeros (role := role) p m [] w hw (fun x hx => h1 _ x (by unfold dgP; rw [if_neg h6, hm2]; rfl) hx)⟩
theorem alN_le : ∀ (f k : Nat), k ≤ alN c f k := by
  intro f
  induction f with
  | zero => intro k; exact Nat.le_refl _
  | succ f ih =>
    intro k
    unfold alN
    split
    · have := ih (k + 1); omega
    · exact Nat.le_refl _
theorem nm_loop {post : Int32 → MS → Prop} {role a : Nat} (p : Pre c n u a) : ∀ (f m : Nat) (v : MS), m + f = 6 → Ok n u v a (zn m) → a < alN c f (a + m) → (∀ w, Ok n u w a ((0, role, 0) :: zn (alN c f (a + m) - a - 1)) → post 1 w) → P_T_takeName_35 post (f + 1) (nI role) (nI a) (nI m) v := by
  have h80 := p.1.1
  have fin : ∀ (m : Nat) (v : MS), Ok n u v a (zn m) → 0 < m → (∀ w, Ok n u w a ((0, role, 0) :: zn (m - 1)) → post 1 w) → P_T_takeName_101 post (nI role) (nI a) v := by
    intro m v hv hm h
    have hl := hv.1
    rw [zn_len] at hl
    unfold P_T_takeName_101
    rw [nI_clamp (by omega)]
    obtain ⟨m, rfl⟩ : ∃ k, m = k + 1 := ⟨m - 1, by omega⟩
    exact ⟨p.1.vp (by omega), h _ (hv.role (j := 0) (t := zz) rfl role)⟩
  intro f
  induction f with
  | zero =>
    intro m v hf hv h1 h
    unfold P_T_takeName_35
    refine ⟨fun _ => fin m v hv (by have : alN c 0 (a + m) = a + m := rfl; omega) (fun w hw => h w (by show Ok n u w a (_ :: zn (a + m - a - 1)); rw [Nat.add_sub_cancel_left]; exact hw)), fun h0 => absurd (nI_le (a := 6) (by omega) (by omega)) h0⟩
  | succ f ih =>
    intro m v hf hv h1 h
    have hl := hv.1
    have hat := hv.2.1
    rw [zn_len] at hl hat
    have tv := hv.2.2.1.tx p.1
    have stop : ¬ (lr (c (a + m)) || dg (c (a + m))) = true → P_T_takeName_101 post (nI role) (nI a) v := fun h0 => by
      unfold alN at h h1
      rw [if_neg h0] at h h1
      exact fin m v hv (by omega) (fun w hw => h w (by rw [Nat.add_sub_cancel_left]; exact hw))
    have go : (lr (c (a + m)) || dg (c (a + m))) = true → a + m < n → P_T_takeName_85 post (fun zx1 zx2 zx3 zu => P_T_takeName_35 post (f + 1) zx1 zx2 zx3 zu) (nI role) (nI a) (nI m) v := fun h0 h2 => by
      unfold alN at h h1
      rw [if_pos h0] at h h1
      have h3 := hv.more p (m := 1) (by rw [zn_len]; omega)
      rw [zn_len, zn_add] at h3
      have h4 := ih (m + 1) _ (by omega) h3 h1 h
      unfold P_T_takeName_85
      rw [hat, nI_1 m, nI_1 (a + m)]
      exact h4
    unfold P_T_takeName_35
    refine ⟨fun h0 => absurd h0 (nI_ge (b := 6) (by omega) (by omega)), fun _ => ?_⟩
    rw [hat, tv.2.1, nI_leI (by omega) (by omega)]
    refine ⟨fun h0 => stop (by rw [p.1.2.2.2 _ h0]; decide), fun h0 => ⟨p.1.vp (by omega), ?_⟩⟩
    rw [tv.at (by omega), isLet_0 _ (p.1.lt _), Classical.not_not, isDig_0 _ (p.1.lt _), Classical.not_not]
    exact ⟨fun h2 => go (by rw [h2]; rfl) (by omega), fun h2 => ⟨p.1.vp (by omega), fun h3 => go (by rw [h3, Bool.or_true]) (by omega), fun h3 => stop (by simp [h2, h3])⟩⟩
theorem name_tie {role : Nat} : TieS c n (nmP c role) (fun post u => P_T_takeName post (nI role) u) := by
  intro post u a p h1 h2
  have h80 := p.1.1
  have han := p.2.1
  unfold P_T_takeName
  intro v1 e1
  rw [p.2.2.1] at e1
  subst e1
  rw [p.2.2.1, p.1.2.1, nI_leI (by omega) (by omega)]
  refine ⟨fun h0 => h2 (by unfold nmP; rw [p.1.2.2.2 a h0]; rfl), fun h0 => ⟨p.1.vp (by omega), ?_⟩⟩
  rw [p.1.at (by omega), isLet_0 _ (p.1.lt _), Classical.not_not]
  refine ⟨fun h3 => ⟨7, nm_loop p 6 0 u (by omega) (Ok.nil p) ?_ (fun w hw => h1 _ w (by unfold nmP; rw [if_pos h3]; rfl) hw)⟩, fun h3 => h2 (by unfold nmP; rw [if_neg h3])⟩
  unfold alN
  rw [if_pos (by rw [Nat.add_zero, h3]; rfl)]
  exact Nat.lt_of_lt_of_le (Nat.lt_succ_self a) (alN_le (c := c) 5 (a + 0 + 1))
def qtP (c : Nat → Nat) : Ps := fun a => if c a = 39 then (match qtN c 81 (a + 1) with
  | some e => some (zn (e - a))
  | none => none) else none
theorem qt_loop {post : Int32 → MS → Prop} (t : Tx c n u) : ∀ (f k : Nat), k ≤ n → n - k ≤ f → (∀ e, qtN c (f + 1) k = some e → k < e → e ≤ n → post 1 (sI u 5 (nI e))) → (qtN c (f + 1) k = none → post 0 u) → P_T_takeQuote_18 post (f + 1) (nI k) u := by
  have h80 := t.1
  intro f
  induction f with
  | zero =>
    intro k hk hf h1 h2
    unfold P_T_takeQuote_18
    rw [t.2.1]
    exact ⟨fun _ => h2 (by unfold qtN; rw [if_pos (t.2.2.2 k (by omega))]), fun h0 => absurd (nI_le (by omega) (by omega)) h0⟩
  | succ f ih =>
    intro k hk hf h1 h2
    unfold P_T_takeQuote_18
    rw [t.2.1, nI_leI (by omega) (by omega)]
    refine ⟨fun h0 => h2 (by unfold qtN; rw [if_pos (t.2.2.2 k h0)]), fun h0 => ⟨t.vp (by omega), ?_⟩⟩
    have hc : (nI (c k) = 39) ↔ c k = 39 := nI_eq (b := 39) (by have := t.lt k; omega) (by decide)
    rw [t.at (by omega), hc]
    have hp := (t.2.2.1 k (by omega)).2.1
    refine ⟨fun h3 => ?_, fun h3 => ?_⟩
    · have e : qtN c (f + 1 + 1) k = qtN c (f + 1) (k + 1) := by
        conv => lhs; unfold qtN
        rw [if_neg (by omega), if_neg h3]
      have h4 := ih (k + 1) (by omega) (by omega) (fun e' he h5 h6 => h1 e' (e.trans he) (by omega) h6) (fun he => h2 (e.trans he))
      rw [nI_succ] at h4
      exact h4
    · rw [nI_1]
      exact h1 (k + 1) (by unfold qtN; rw [if_neg (by omega), if_pos h3]) (by omega) (by omega)
theorem quote_tie : TieS c n (qtP c) (fun post u => P_T_takeQuote post u) := by
  intro post u a p h1 h2
  have h80 := p.1.1
  have han := p.2.1
  unfold P_T_takeQuote
  refine isNext_of (x := 39) p (by decide) (by decide) ?_
  by_cases h : c a = 39
  · rw [if_pos h]
    refine ⟨fun _ v3 e3 => ?_, fun e => absurd e (by decide)⟩
    rw [p.2.2.1, nI_1] at e3
    subst e3
    have hn : a < n := p.1.in (by omega)
    refine ⟨81, qt_loop p.1 80 (a + 1) (by omega) (by omega) (fun e he h3 h4 => ?_) (fun he => h2 (by unfold qtP; rw [if_pos h, he]))⟩
    have h5 := Ok.skip p (m := e - a) (by omega)
    rw [show a + (e - a) = e by omega] at h5
    exact h1 _ _ (by unfold qtP; rw [if_pos h, he]) h5
  · rw [if_neg h]
    exact ⟨fun e => absurd rfl e, fun _ => h2 (by unfold qtP; rw [if_neg h])⟩
theorem dgE_loop {post : Int32 → MS → Prop} (t : Tx c n u) : ∀ (f k : Nat), k ≤ n → n - k ≤ f → post (nI (dgN c f k)) u → P_T_digitsEnd_2 post (f + 1) (nI k) u := by
  have h80 := t.1
  intro f
  induction f with
  | zero =>
    intro k hk hf h
    unfold P_T_digitsEnd_2
    rw [t.2.1]
    exact ⟨fun _ => h, fun h0 => absurd (nI_le (by omega) (by omega)) h0⟩
  | succ f ih =>
    intro k hk hf h
    unfold P_T_digitsEnd_2
    unfold dgN at h
    rw [t.2.1, nI_leI (by omega) (by omega)]
    refine ⟨fun h0 => ?_, fun h0 => ⟨t.vp (by omega), ?_⟩⟩
    · rw [t.2.2.2 k h0, if_neg (by decide)] at h
      exact h
    · rw [t.at (by omega), isDig_0 _ (t.lt _), Classical.not_not]
      refine ⟨fun h1 => by rw [if_neg h1] at h; exact h, fun h1 => ?_⟩
      rw [if_pos h1] at h
      have h2 := ih (k + 1) (by omega) (by omega) h
      rw [nI_succ] at h2
      exact h2
theorem dgE_of {post : Int32 → MS → Prop} (t : Tx c n u) {k : Nat} (hk : k ≤ n) (h : post (nI (dgE c k)) u) : P_T_digitsEnd post (nI k) u := ⟨82, dgE_loop t 81 k hk (by have := t.1; omega) h⟩
theorem lgw_of {post : Int32 → MS → Prop} (t : Tx c n u) {a : Nat} (ha : a ≤ 200) (h : post (if lgw c a = true then 1 else 0) u) : P_T_standsLogicalWord post (nI a) u := by
  have stp : ∀ (i : Nat) (B : Bool) (K : MS → Prop), i < 56 → post (if (st c a (wS i) || B) = true then 1 else 0) u → (post (if B = true then 1 else 0) u → K u) → P_T_stands (fun r u1 => ((¬ r = 0 → post 1 u1) ∧ (r = 0 → K u1))) i (nI a) u := by
    intro i B K hi h1 h2
    refine stands_of t hi ha ?_
    by_cases h3 : st c a (wS i) = true
    · rw [if_pos h3]
      rw [if_pos (by rw [h3]; rfl)] at h1
      exact ⟨fun _ => h1, fun e => absurd e (by decide)⟩
    · rw [if_neg h3]
      have h4 : st c a (wS i) = false := by simpa using h3
      rw [h4, Bool.false_or] at h1
      exact ⟨fun e => absurd rfl e, fun _ => h2 h1⟩
  unfold lgw at h
  unfold P_T_standsLogicalWord
  refine stp 6 _ _ (by decide) h (fun h => ?_)
  refine stp 7 _ _ (by decide) h (fun h => ?_)
  refine stp 8 _ _ (by decide) h (fun h => ?_)
  refine stp 9 _ _ (by decide) h (fun h => ?_)
  refine stp 10 _ _ (by decide) h (fun h => ?_)
  refine stp 11 _ _ (by decide) h (fun h => ?_)
  refine stp 12 _ _ (by decide) h (fun h => ?_)
  refine stp 13 _ _ (by decide) h (fun h => ?_)
  refine stp 14 _ _ (by decide) h (fun h => ?_)
  refine stp 15 _ _ (by decide) h (fun h => ?_)
  refine stands_of t (by decide) ha ?_
  by_cases h3 : st c a (wS 16) = true
  · rw [if_pos h3] at h ⊢
    exact ⟨fun e => absurd e (by decide), fun _ => h⟩
  · rw [if_neg h3] at h ⊢
    exact ⟨fun _ => h, fun e => absurd rfl e⟩
end CLX
