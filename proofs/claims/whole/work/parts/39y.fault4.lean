section FL4
variable {N : Nat} {cs : Nat → Nat → Nat} {ns lb : Nat → Nat} {x : XS} {w : MS} {S : List Op}
theorem nv_lt (c : Nat → Nat) (i : Nat) : nv c i < 100000 := by
  unfold nv
  have hd := dgN_dgs (c := c) 5 i
  have hv := vl_lt hd
  have h5 : ∀ f p, dgN c f p ≤ p + f := by
    intro f
    induction f with
    | zero => intro p; exact Nat.le_refl _
    | succ f ih =>
      intro p
      unfold dgN
      split
      · have := ih (p + 1); omega
      · omega
  have := h5 5 i
  have hp9 : (10 : Nat) ^ (dgN c 5 i - i) ≤ 10 ^ 5 := Nat.pow_le_pow_right (by decide) (by omega)
  have hp8 : (10 : Nat) ^ 5 = 100000 := by decide
  omega
theorem amZ_lt (c : Nat → Nat) : ∀ (Z : List Tz) (a : Nat), (∀ v ∈ amZ c a Z, v < 100000) ∧ (amZ c a Z).length ≤ Z.length := by
  intro Z
  induction Z with
  | nil => intro a; exact ⟨fun v h => absurd h (by simp [amZ]), Nat.le_refl _⟩
  | cons t Z ih =>
    intro a
    have h1 := ih (a + 1)
    simp only [amZ]
    refine ⟨fun v hv => ?_, ?_⟩
    · rcases List.mem_append.mp hv with q | q
      · split at q
        · have := List.mem_singleton.mp q
          rw [this]
          exact nv_lt c a
        · exact absurd q (by simp)
      · exact h1.1 v q
    · rw [List.length_append, List.length_cons]
      split <;> simp <;> omega
def StR (w : MS) (S : List Op) : Prop := S.length ≤ 24 ∧ OkS S ∧ gI w 33 = nI S.length ∧ ∀ j y, S.reverse[j]? = some y → gA w 34 j = nI y.1 ∧ (y.1 = 0 → gA w 35 j = b2i y.2)
def Kf (w v : MS) : Prop := (∀ j, j ≠ 33 → gI v j = gI w j) ∧ ∀ f, f ≠ 34 → f ≠ 35 → ∀ i, gA v f i = gA w f i
theorem Kf.refl (w : MS) : Kf w w := ⟨fun _ _ => rfl, fun _ _ _ _ => rfl⟩
theorem Kf.tr {w v z : MS} (h : Kf w v) (h' : Kf v z) : Kf w z := ⟨fun j hj => (h'.1 j hj).trans (h.1 j hj), fun f h4 h5 i => (h'.2 f h4 h5 i).trans (h.2 f h4 h5 i)⟩
theorem DkI.kf {v : MS} (h : DkI N cs ns lb x w) (k : Kf w v) : DkI N cs ns lb x v := by
  refine ⟨h.1, h.2.1, (k.1 3 (by decide)).trans h.2.2.1, fun s hs => ?_⟩
  obtain ⟨h1, h2, h3, h4, h5⟩ := h.2.2.2 s hs
  exact ⟨h1, h2, (k.2 4 (by decide) (by decide) s).trans h3, (k.2 5 (by decide) (by decide) s).trans h4, fun i hi => (k.2 6 (by decide) (by decide) _).trans (h5 i hi)⟩
theorem Kf.am {v : MS} {A : List Nat} (k : Kf w v) (h : Am w A) : Am v A := ⟨(k.1 16 (by decide)).trans h.1, fun j q hj => (k.2 17 (by decide) (by decide) j).trans (h.2 j q hj)⟩
theorem StR.top {y : Op} {T : List Op} (h : StR w (y :: T)) : gA w 34 T.length = nI y.1 ∧ (y.1 = 0 → gA w 35 T.length = b2i y.2) := h.2.2.2 T.length y (by rw [List.reverse_cons, List.getElem?_append_right (by rw [List.length_reverse]; exact Nat.le_refl _), List.length_reverse, Nat.sub_self]; rfl)
theorem StR.pop {y : Op} {T : List Op} (h : StR w (y :: T)) : StR (sI w 33 (nI T.length)) T := by
  refine ⟨by have := h.1; rw [List.length_cons] at this; omega, fun z hz => h.2.1 z (List.mem_cons_of_mem _ hz), by rw [gI_sI, if_pos rfl], fun j z hj => ?_⟩
  rw [gA_sI, gA_sI]
  refine h.2.2.2 j z ?_
  rw [List.reverse_cons, List.getElem?_append_left (List.getElem?_eq_some_iff.mp hj).1]
  exact hj
theorem ior_loop {post : Int32 → MS → Prop} {l : Nat} (hl : l < 100000) (hs : StR w S) : ∀ (f i : Nat) (acc : Bool), i + f = S.length → post (b2i (acc || opn l (S.reverse.drop i))) w → P_M_isOpen_4 post (f + 1) (nI l) (b2i acc) (nI i) w := by
  have h24 := hs.1
  intro f
  induction f with
  | zero =>
    intro i acc hi hp
    rw [List.drop_eq_nil_of_le (by rw [List.length_reverse]; omega)] at hp
    have e : (acc || opn l []) = acc := by simp [opn]
    rw [e] at hp
    exact ⟨fun _ => ⟨(b2i_n _).1, hp⟩, fun q => absurd (by rw [hs.2.2.1]; exact nI_le (by omega) (by omega)) q⟩
  | succ f ih =>
    intro i acc hi hp
    have hlt : i < S.reverse.length := by rw [List.length_reverse]; omega
    rw [List.drop_eq_getElem_cons hlt] at hp
    have hg := hs.2.2.2 i _ (List.getElem?_eq_getElem hlt)
    have hx := hs.2.1 _ (List.mem_reverse.mp (List.getElem_mem hlt))
    generalize S.reverse[i] = y at hp hg hx
    have ho : opn l (y :: List.drop (i + 1) S.reverse) = ((decide (y.1 = l) && !decide (l = 0)) || opn l (List.drop (i + 1) S.reverse)) := by unfold opn; rw [List.any_cons]
    rw [ho] at hp
    refine ⟨fun q => absurd q (by rw [hs.2.2.1]; exact nI_ge (by omega) (by omega)), fun _ => ?_⟩
    unfold P_M_isOpen_30 P_M_isOpen_34 P_M_isOpen_35
    rw [nI_1, b2i_0, show (nI l ≤ 0) ↔ l ≤ 0 from nI_leI (b := 0) (by omega) (by decide), nI_clamp (by omega), hg.1, nI_eq (by omega) (by omega)]
    refine ⟨fun q => ?_, fun q => ⟨fun q2 => ?_, fun q2 => ⟨vp_in_nI (by omega) (by decide), fun q3 => ?_, fun q3 => ?_⟩⟩⟩
    · have ha : acc = true := by simpa using q
      rw [ha] at hp
      exact ih (i + 1) true (by omega) (by simpa using hp)
    · rw [q] at hp
      refine ih (i + 1) false (by omega) ?_
      have : l = 0 := by omega
      simpa [this] using hp
    · rw [q] at hp
      refine ih (i + 1) false (by omega) ?_
      simpa [q3] using hp
    · rw [q] at hp
      refine ih (i + 1) true (by omega) ?_
      have : l ≠ 0 := by omega
      simpa [q3, this] using hp
theorem isOpen_m {post : Int32 → MS → Prop} {l : Nat} (hl : l < 100000) (hs : StR w S) (hp : post (b2i (opn l S)) w) : P_M_isOpen post (nI l) w := by
  refine ⟨S.length + 1, ior_loop hl hs S.length 0 false (by omega) ?_⟩
  rw [List.drop_zero, Bool.false_or]
  unfold opn at hp ⊢
  rw [List.any_reverse]
  exact hp
theorem il_loop (h : DkI N cs ns lb x w) {post : Int32 → MS → Prop} {v : Nat} (hv : v < 100000) : ∀ (f i : Nat) (acc : Bool), i + f = N → post (b2i (acc || hasF lb v f i)) w → P_M_isLabel_5 post (f + 1) (nI v) (b2i acc) (nI i) w := by
  have hN := h.1
  intro f
  induction f with
  | zero =>
    intro i acc hi hp
    have e : (acc || hasF lb v 0 i) = acc := by simp [hasF]
    rw [e] at hp
    exact ⟨fun _ => ⟨(b2i_n _).1, hp⟩, fun q => absurd (by rw [h.2.2.1]; exact nI_le (by omega) (by omega)) q⟩
  | succ f ih =>
    intro i acc hi hp
    obtain ⟨h1, _, h3, _⟩ := h.2.2.2 i (by omega)
    unfold hasF at hp
    refine ⟨fun q => absurd q (by rw [h.2.2.1]; exact nI_ge (by omega) (by omega)), fun _ => ?_⟩
    unfold P_M_isLabel_33 P_M_isLabel_37 P_M_isLabel_38
    rw [nI_1, b2i_0, show (nI v ≤ 0) ↔ v ≤ 0 from nI_leI (b := 0) (by omega) (by decide), nI_clamp (by omega), h3, nI_eq (by omega) (by omega)]
    refine ⟨fun q => ?_, fun q => ⟨fun q2 => ?_, fun q2 => ⟨vp_in_nI (by omega) (by decide), fun q3 => ?_, fun q3 => ?_⟩⟩⟩
    · have ha : acc = true := by simpa using q
      rw [ha] at hp
      exact ih (i + 1) true (by omega) (by simpa using hp)
    · rw [q] at hp
      refine ih (i + 1) false (by omega) ?_
      have : v = 0 := by omega
      simpa [this] using hp
    · rw [q] at hp
      refine ih (i + 1) false (by omega) ?_
      simpa [q3] using hp
    · rw [q] at hp
      refine ih (i + 1) true (by omega) ?_
      have : v ≠ 0 := by omega
      simpa [q3, this] using hp
theorem isLabel_m (h : DkI N cs ns lb x w) {post : Int32 → MS → Prop} {v a : Nat} (hv : v < 100000) (ha : a ≤ N) (hp : post (b2i (hasF lb v (N - a) a)) w) : P_M_isLabel post (nI v) (nI a) w := ⟨N - a + 1, il_loop h hv (N - a) a false (by omega) (by rw [Bool.false_or]; exact hp)⟩
def erS (lb : Nat → Nat) (s k : Nat) (late : Bool) (S : List Op) : Nat := if k = 0 then 1 else if hasF lb (lb s) s 0 = true then 2 else if (k = 15 ∨ k = 16) ∧ late = true then 3 else if (k = 5 ∨ k = 6 ∨ k = 7) ∧ brF k S = false then 4 else if opn (lb s) S = true ∧ ¬ (tpL (lb s) S = true ∧ mayE k = true) then 5 else 0
def laS (N : Nat) (lb : Nat → Nat) (s k : Nat) (A : List Nat) (S : List Op) : Nat := if lbs N lb s k A = false then 6 else if (k = 14) ≠ (s + 1 = N) then 7 else if k = 14 ∧ afS lb s k S ≠ [] then 8 else 0
theorem fl_er (N : Nat) (lb : Nat → Nat) (s k : Nat) (late : Bool) (A : List Nat) (S : List Op) : flS N lb s k late A S = if erS lb s k late S = 0 then laS N lb s k A S else erS lb s k late S := by
  unfold flS erS laS
  by_cases h1 : k = 0
  · rw [if_pos h1, if_pos h1]; rfl
  · rw [if_neg h1, if_neg h1]
    by_cases h2 : hasF lb (lb s) s 0 = true
    · rw [if_pos h2, if_pos h2]; rfl
    · rw [if_neg h2, if_neg h2]
      by_cases h3 : (k = 15 ∨ k = 16) ∧ late = true
      · rw [if_pos h3, if_pos h3]; rfl
      · rw [if_neg h3, if_neg h3]
        by_cases h4 : (k = 5 ∨ k = 6 ∨ k = 7) ∧ brF k S = false
        · rw [if_pos h4, if_pos h4]; rfl
        · rw [if_neg h4, if_neg h4]
          by_cases h5 : opn (lb s) S = true ∧ ¬ (tpL (lb s) S = true ∧ mayE k = true)
          · rw [if_pos h5, if_pos h5]; rfl
          · rw [if_neg h5, if_neg h5]; rfl
def s1S (lb : Nat → Nat) (s k : Nat) (S : List Op) : List Op := if k = 6 then setE (afS lb s k S) else afS lb s k S
theorem pop_m {post : Int32 → MS → Prop} {k l : Nat} (hl : l < 100000) (hl0 : l ≠ 0) : ∀ (S : List Op) (u : MS), StR u S → (∀ v, Kf u v → StR v (popL l S) → P_M_early_258 post (nI k) v) → P_M_early_222 post (S.length + 1) (nI k) (nI l) u := by
  intro S
  induction S with
  | nil =>
    intro u hs hp
    exact ⟨fun _ => hp u (Kf.refl u) hs, fun q => absurd (by rw [hs.2.2.1]; decide) q⟩
  | cons y T ih =>
    intro u hs hp
    have h24 := hs.1
    rw [List.length_cons] at h24
    have d1 : gI u 33 = nI (T.length + 1) := hs.2.2.1
    have hy := hs.2.1 y List.mem_cons_self
    refine ⟨fun q => absurd q (by rw [d1]; exact nI_nle (by omega) (by omega)), fun _ => ?_⟩
    rw [d1, nI_pred, nI_clamp (by omega), hs.top.1, nI_eq (by omega) (by omega)]
    unfold popL at hp
    refine ⟨vp_in_nI (by omega) (by decide), fun q => ?_, fun q => ?_⟩
    · rw [if_neg (fun r => q r.1)] at hp
      exact hp u (Kf.refl u) hs
    · rw [if_pos ⟨q, hl0⟩] at hp
      have k0 : Kf u (sI u 33 (nI T.length)) := ⟨fun j hj => by rw [gI_sI, if_neg hj], fun _ _ _ _ => rfl⟩
      exact ih (sI u 33 (nI T.length)) hs.pop (fun v kv hv => hp v (k0.tr kv) hv)
theorem early_m (h : DkI N cs ns lb x w) {post : Int32 → MS → Prop} {s k : Nat} {late : Bool} (hs : s < N) (hk : k ≤ 17) (hst : StR w S) (hbad : erS lb s k late S ≠ 0 → ∀ v, Kf w v → post (nI (erS lb s k late S)) v) (hok : erS lb s k late S = 0 → ∀ v, Kf w v → StR v (s1S lb s k S) → post 0 v) : P_M_early post (nI s) (nI k) (b2i late) w := by
  have hN := h.1
  obtain ⟨h1, _, h3, _⟩ := h.2.2.2 s hs
  have h24 := hst.1
  have e := fun j (hj : j < 100) => (nI_eq (a := k) (b := j) (by omega) (by omega))
  have le := fun j (hj : j < 100) => (nI_leI (a := k) (b := j) (by omega) (by omega))
  have ge := fun j (hj : j < 100) => (nI_leI (a := j) (b := k) (by omega) (by omega))
  have lt := fun j (hj : j < 100) => (nI_ltI (a := k) (b := j) (by omega) (by omega))
  generalize hE : erS lb s k late S = E at hbad hok
  unfold erS at hE
  -- the end of it
  have c258 : ∀ v, Kf w v → StR v (popL (lb s) S) → E = 0 → k ≠ 0 → ((k = 5 ∨ k = 6 ∨ k = 7) → brF k S = true ∧ opn (lb s) S = false) → P_M_early_258 post (nI k) v := by
    intro v kv hv hE0 hk0 hbr
    unfold P_M_early_258
    rw [show (nI k = 6) ↔ k = 6 from e 6 (by decide)]
    have c276 : ∀ z, Kf w z → (k ≠ 7 → StR z (s1S lb s k S)) → (k = 7 → StR z S) → P_M_early_276 post (nI k) z := by
      intro z kz hz hz7
      unfold P_M_early_276
      rw [show (nI k = 7) ↔ k = 7 from e 7 (by decide)]
      refine ⟨fun q => hok hE0 _ (kz.tr ⟨fun j hj => by rw [gI_sI, if_neg hj], fun _ _ _ _ => rfl⟩) ?_, fun q => ?_⟩
      · have h9 := hz q
        exact ⟨h9.1, h9.2.1, by rw [gI_sI, if_pos rfl]; exact h9.2.2.1, fun j y hj => by rw [gA_sI, gA_sI]; exact h9.2.2.2 j y hj⟩
      · have h9 := hz7 q
        obtain ⟨hb, _⟩ := hbr (Or.inr (Or.inr q))
        cases S with
        | nil => exact absurd hb (by simp [brF])
        | cons y T =>
          have d1 : gI z 33 = nI (T.length + 1) := h9.2.2.1
          rw [d1, nI_pred]
          refine hok hE0 _ (kz.tr ⟨fun j hj => by rw [gI_sI, if_neg hj], fun _ _ _ _ => rfl⟩) ?_
          unfold s1S afS
          rw [if_neg (by omega), if_pos q]
          exact h9.pop
    refine ⟨fun q => c276 v kv (fun q7 => by unfold s1S afS; rw [if_neg q, if_neg q7]; exact hv) (fun q7 => ?_), fun q => ?_⟩
    · have := popL_no (hbr (Or.inr (Or.inr q7))).2
      rw [this] at hv
      exact hv
    · obtain ⟨hb, ho⟩ := hbr (Or.inr (Or.inl q))
      rw [popL_no ho] at hv
      cases hS : S with
      | nil => rw [hS] at hb; exact absurd hb (by simp [brF])
      | cons y T =>
        rw [hS] at hv hb
        have hTl : T.length + 1 ≤ 24 := by rw [hS, List.length_cons] at h24; exact h24
        have d1 : gI v 33 = nI (T.length + 1) := hv.2.2.1
        have hy0 : y.1 = 0 := by
          simp only [brF, Bool.and_eq_true, decide_eq_true_eq] at hb
          exact hb.1
        rw [d1, nI_pred, nI_clamp (by omega), show vp_nar .boolean (1 : Int32) = 1 by decide]
        refine ⟨vp_in_nI (by omega) (by decide), c276 _ (kv.tr ⟨fun j _ => rfl, fun f _ h5 i => by rw [gA_sA, if_neg (fun r => h5 r.1)]⟩) (fun _ => ?_) (fun q7 => by omega)⟩
        unfold s1S afS
        rw [if_pos q, if_neg (by omega), popL_no ho, hS]
        refine ⟨by show T.length + 1 ≤ 24; exact hTl, fun z hz => ?_, d1, fun j z hj => ?_⟩
        · rcases List.mem_cons.mp hz with e9 | e9
          · rw [e9]; exact hv.2.1 y List.mem_cons_self
          · exact hv.2.1 z (List.mem_cons_of_mem _ e9)
        · unfold setE at hj
          rw [List.reverse_cons] at hj
          rw [gA_sA, gA_sA, if_neg (fun r => absurd r.1 (by decide))]
          by_cases e9 : j = T.length
          · rw [e9, List.getElem?_append_right (by rw [List.length_reverse]; exact Nat.le_refl _), List.length_reverse, Nat.sub_self] at hj
            cases hj
            rw [e9, if_pos ⟨rfl, rfl⟩]
            exact ⟨hv.top.1, fun _ => rfl⟩
          · have hlt := (List.getElem?_eq_some_iff.mp hj).1
            rw [List.length_append, List.length_reverse, List.length_singleton] at hlt
            rw [List.getElem?_append_left (by rw [List.length_reverse]; omega)] at hj
            rw [if_neg (fun r => e9 r.2)]
            exact hv.2.2.2 j z (by rw [List.reverse_cons, List.getElem?_append_left (by rw [List.length_reverse]; omega)]; exact hj)
  have c132 : k ≠ 0 → (E = if opn (lb s) S = true ∧ ¬ (tpL (lb s) S = true ∧ mayE k = true) then 5 else 0) → ((k = 5 ∨ k = 6 ∨ k = 7) → brF k S = true) → P_M_early_132 post (nI k) (nI (lb s)) w := by
    intro hk0 hEe hbr
    refine isOpen_m h1 hst ?_
    rw [b2i_0]
    refine ⟨fun q => ?_, fun q => ?_⟩
    · rw [if_neg (by rw [q]; simp)] at hEe
      exact c258 w (Kf.refl w) (by rw [popL_no q]; exact hst) hEe hk0 (fun r => ⟨hbr r, q⟩)
    · have ho : opn (lb s) S = true := by simpa using q
      have hl0 : lb s ≠ 0 := by
        intro e0
        unfold opn at ho
        rw [e0] at ho
        simp at ho
      have five : ¬ (tpL (lb s) S = true ∧ mayE k = true) → post 5 w := by
        intro hn
        rw [if_pos ⟨ho, hn⟩] at hEe
        have := hbad (by omega) w (Kf.refl w)
        rw [hEe] at this
        exact this
      have c197 : ∀ s0 : Int32, (s0 = 0 ↔ mayE k = true) → P_M_early_197 post (nI k) (nI (lb s)) s0 w := by
        intro s0 hs0
        cases hS : S with
        | nil => rw [hS] at ho; exact absurd ho (by simp [opn])
        | cons y T =>
          have hst' := hst
          rw [hS] at hst'
          have d1 : gI w 33 = nI (T.length + 1) := hst'.2.2.1
          have hTl : T.length + 1 ≤ 24 := hst'.1
          have hy := hst'.2.1 y List.mem_cons_self
          unfold P_M_early_197
          rw [d1, nI_pred, nI_clamp (by omega), hst'.top.1, nI_eq (by omega) (by omega)]
          have htp : tpL (lb s) S = (decide (y.1 = lb s) && !decide (lb s = 0)) := by rw [hS]; rfl
          refine ⟨vp_in_nI (by omega) (by decide), fun r => five (fun q2 => by rw [htp] at q2; simp [r] at q2), fun r => ⟨fun r0 => ?_, fun r0 => five (fun q2 => r0 (hs0.mpr q2.2))⟩⟩
          have hm := hs0.mp r0
          have ht : tpL (lb s) S = true := by rw [htp]; simp [r, hl0]
          rw [if_neg (fun q3 => q3.2 ⟨ht, hm⟩)] at hEe
          refine ⟨(y :: T).length + 1, pop_m h1 hl0 (y :: T) w hst' (fun v kv hv => c258 v kv (by rw [hS]; exact hv) hEe hk0 (fun r5 => ?_))⟩
          exfalso
          rcases r5 with r5 | r5 | r5 <;> rw [r5] at hm <;> exact absurd hm (by decide)
      have nev : mayE k = false → P_M_early_192 post (nI k) (nI (lb s)) w := fun hm => c197 1 ⟨fun r => absurd r (by decide), fun r => by rw [hm] at r; exact absurd r (by decide)⟩
      have c162 : ¬ (k = 1 ∨ k = 3 ∨ k = 5 ∨ k = 6 ∨ k = 7) → P_M_early_162 post (nI k) (nI (lb s)) w := by
        intro hne
        unfold P_M_early_162
        rw [show (nI k = 9) ↔ k = 9 from e 9 (by decide), show (nI k = 11) ↔ k = 11 from e 11 (by decide), show (nI k = 12) ↔ k = 12 from e 12 (by decide), show (nI k = 14) ↔ k = 14 from e 14 (by decide), show (nI k = 17) ↔ k = 17 from e 17 (by decide)]
        refine ⟨fun r => nev (by rw [r]; decide), fun r9 => ⟨fun r => nev (by rw [r]; decide), fun r11 => ⟨fun r => nev (by rw [r]; decide), fun r12 => ⟨fun r => nev (by rw [r]; decide), fun r14 => ⟨fun r17 => c197 0 ⟨fun _ => ?_, fun _ => rfl⟩, fun r => nev (by rw [r]; decide)⟩⟩⟩⟩⟩
        rcases (by omega : k = 2 ∨ k = 4 ∨ k = 8 ∨ k = 10 ∨ k = 13 ∨ k = 15 ∨ k = 16) with r | r | r | r | r | r | r <;> rw [r] <;> decide
      rw [show (nI k = 1) ↔ k = 1 from e 1 (by decide), show (nI k = 3) ↔ k = 3 from e 3 (by decide), show (nI k ≤ 4) ↔ k ≤ 4 from le 4 (by decide), show (nI k < 8) ↔ k < 8 from lt 8 (by decide)]
      refine ⟨fun r => nev (by rw [r]; decide), fun r1 => ⟨fun r => nev (by rw [r]; decide), fun r3 => ⟨fun r4 => c162 (by omega), fun r4 => ⟨fun r8 => nev ?_, fun r8 => c162 (by omega)⟩⟩⟩⟩
      rcases (by omega : k = 5 ∨ k = 6 ∨ k = 7) with r | r | r <;> rw [r] <;> decide
  have c66 : k ≠ 0 → (E = if (k = 5 ∨ k = 6 ∨ k = 7) ∧ brF k S = false then 4 else if opn (lb s) S = true ∧ ¬ (tpL (lb s) S = true ∧ mayE k = true) then 5 else 0) → P_M_early_66 post (nI k) (nI (lb s)) w := by
    intro hk0 hEe
    have good : ((k = 5 ∨ k = 6 ∨ k = 7) → brF k S = true) → P_M_early_132 post (nI k) (nI (lb s)) w := by
      intro hb
      rw [if_neg (fun r => by rw [hb r.1] at r; exact absurd r.2 (by decide))] at hEe
      exact c132 hk0 hEe hb
    have four : (k = 5 ∨ k = 6 ∨ k = 7) → brF k S = false → post 4 w := by
      intro hb hf
      rw [if_pos ⟨hb, hf⟩] at hEe
      have := hbad (by omega) w (Kf.refl w)
      rw [hEe] at this
      exact this
    have c92 : ∀ s0 : Int32, (s0 = 0 → ∀ y T, S = y :: T → y.1 ≠ 0) → (s0 ≠ 0 → ∃ y T, S = y :: T ∧ y.1 = 0) → P_M_early_92 post (nI k) (nI (lb s)) s0 w := by
      intro s0 h0 hn0
      unfold P_M_early_92
      rw [show (nI k ≤ 4) ↔ k ≤ 4 from le 4 (by decide), show ((8 : Int32) ≤ nI k) ↔ 8 ≤ k from ge 8 (by decide), show ((7 : Int32) ≤ nI k) ↔ 7 ≤ k from ge 7 (by decide)]
      refine ⟨fun r => good (fun q => by omega), fun r4 => ⟨fun r => good (fun q => by omega), fun r8 => ⟨fun r0 => four (by omega) ?_, fun r0 => ?_⟩⟩⟩
      · cases hS : S with
        | nil => rfl
        | cons y T =>
          have := h0 r0 y T hS
          simp [brF, this]
      · obtain ⟨y, T, hS, hy0⟩ := hn0 r0
        have hst' := hst
        rw [hS] at hst'
        have d1 : gI w 33 = nI (T.length + 1) := hst'.2.2.1
        have hTl : T.length + 1 ≤ 24 := hst'.1
        have hbe : brF k S = (decide (y.1 = 0) && (decide (k = 7) || !y.2)) := by rw [hS]; rfl
        rw [d1, nI_pred, nI_clamp (by omega), hst'.top.2 hy0, b2i_0]
        refine ⟨fun r7 => good (fun _ => ?_), fun r7 => ⟨vp_in_nI (by omega) (by decide), fun r2 => good (fun _ => by rw [hbe]; simp [hy0, r2]), fun r2 => four (by omega) ?_⟩⟩
        · have : k = 7 := by omega
          rw [hbe]; simp [hy0, this]
        · have hy2 : y.2 = true := by simpa using r2
          have hk7 : k ≠ 7 := by omega
          rw [hbe]; simp [hy2, hk7]
    unfold P_M_early_66 P_M_early_91
    cases hS : S with
    | nil =>
      have hst' := hst
      rw [hS] at hst'
      rw [show gI w 33 = nI 0 from hst'.2.2.1]
      exact ⟨fun _ => c92 0 (fun _ y T h9 => by rw [hS] at h9; exact absurd h9 (by simp)) (fun r => absurd rfl r), fun r => absurd (by decide) r⟩
    | cons y T =>
      have hst' := hst
      rw [hS] at hst'
      have d1 : gI w 33 = nI (T.length + 1) := hst'.2.2.1
      have hTl : T.length + 1 ≤ 24 := hst'.1
      have hy := hst'.2.1 y List.mem_cons_self
      rw [d1, nI_pred, nI_clamp (by omega), hst'.top.1, show (nI y.1 = 0) ↔ y.1 = 0 from nI_eq (b := 0) (by omega) (by decide)]
      refine ⟨fun r => absurd r (nI_nle (by omega) (by omega)), fun _ => ⟨vp_in_nI (by omega) (by decide), fun r => c92 0 (fun _ y' T' h9 => ?_) (fun r2 => absurd rfl r2), fun r => c92 1 (fun r2 => absurd r2 (by decide)) (fun _ => ⟨y, T, hS, r⟩)⟩⟩
      rw [hS] at h9
      rw [← (List.cons.inj h9).1]
      exact r
  unfold P_M_early
  rw [nI_clamp (by omega), h3]
  refine ⟨vp_in_nI (by omega) (by decide), fun v1 e1 => ?_⟩
  subst e1
  rw [show (nI k = 0) ↔ k = 0 from e 0 (by decide)]
  refine ⟨fun q => ?_, fun q => ?_⟩
  · rw [if_neg q] at hE
    have loop : ∀ (f i : Nat), i + f = s → hasF lb (lb s) s 0 = hasF lb (lb s) f i → P_M_early_17 post (f + 1) (nI s) (nI k) (b2i late) (nI (lb s)) (nI i) w := by
      intro f
      induction f with
      | zero =>
        intro i hi he
        rw [he, show hasF lb (lb s) 0 i = false from rfl, if_neg (by decide)] at hE
        refine ⟨fun _ => ?_, fun r => absurd (nI_le (by omega) (by omega)) r⟩
        have c60 : (k = 15 ∨ k = 16) → P_M_early_60 post (nI k) (b2i late) (nI (lb s)) w := by
          intro hd
          unfold P_M_early_60
          rw [b2i_0]
          refine ⟨fun r => ?_, fun r => ?_⟩
          · rw [if_neg (fun r2 => by rw [r] at r2; exact absurd r2.2 (by decide))] at hE
            exact c66 q hE.symm
          · rw [if_pos ⟨hd, by simpa using r⟩] at hE
            have := hbad (by omega) w (Kf.refl w)
            rw [← hE] at this
            exact this
        rw [show (nI k = 15) ↔ k = 15 from e 15 (by decide), show (nI k = 16) ↔ k = 16 from e 16 (by decide)]
        refine ⟨fun r => c60 (Or.inl r), fun r15 => ⟨fun r16 => ?_, fun r => c60 (Or.inr r)⟩⟩
        rw [if_neg (fun r => by omega)] at hE
        exact c66 q hE.symm
      | succ f ih =>
        intro i hi he
        obtain ⟨h1', _, h3', _⟩ := h.2.2.2 i (by omega)
        refine ⟨fun r => absurd r (nI_ge (by omega) (by omega)), fun _ => ?_⟩
        unfold P_M_early_42
        rw [nI_1, show (nI (lb s) ≤ 0) ↔ lb s ≤ 0 from nI_leI (b := 0) (by omega) (by decide), nI_clamp (by omega), h3', nI_eq (by omega) (by omega)]
        rw [show hasF lb (lb s) (f + 1) i = ((!decide (lb s = 0) && decide (lb i = lb s)) || hasF lb (lb s) f (i + 1)) from rfl] at he
        refine ⟨fun r => ih (i + 1) (by omega) ?_, fun r => ⟨vp_in_nI (by omega) (by decide), fun r2 => ih (i + 1) (by omega) ?_, fun r2 => ?_⟩⟩
        · rw [he]
          have : lb s = 0 := by omega
          simp [this]
        · rw [he]
          simp [r2]
        · have hne : lb s ≠ 0 := by omega
          have ht : hasF lb (lb s) s 0 = true := by rw [he]; simp [r2, hne]
          rw [if_pos ht] at hE
          have := hbad (by omega) w (Kf.refl w)
          rw [← hE] at this
          exact this
    exact ⟨s + 1, loop s 0 (by omega) rfl⟩
  · rw [if_pos q] at hE
    have := hbad (by omega) w (Kf.refl w)
    rw [← hE] at this
    exact this
theorem later_m (h : DkI N cs ns lb x w) {post : Int32 → MS → Prop} {s k : Nat} {A : List Nat} (hs : s < N) (hk : k ≤ 17) (hA : Am w A) (hAl : A.length ≤ 80) (hAv : ∀ v ∈ A, v < 100000) {T : List Op} (hst : StR w T) (hT : k = 14 → (T = [] ↔ afS lb s k S = [])) (hp : post (nI (laS N lb s k A S)) w) : P_M_later post (nI s) (nI k) w := by
  have hN := h.1
  have h24 := hst.1
  have e14 : (nI k = 14) ↔ k = 14 := nI_eq (b := 14) (by omega) (by decide)
  have e1k : (nI k = 1) ↔ k = 1 := nI_eq (b := 1) (by omega) (by decide)
  have loop : ∀ (f i : Nat), i + f = A.length → lbs N lb s k A = (A.drop i).all (fun v => if k = 1 then hasF lb v (N - (s + 1)) (s + 1) else hasF lb v N 0) → P_M_later_2 post (f + 1) (nI s) (nI k) (nI i) w := by
    intro f
    induction f with
    | zero =>
      intro i hi he
      rw [List.drop_eq_nil_of_le (by omega)] at he
      have hlb : lbs N lb s k A = true := by rw [he]; rfl
      unfold laS at hp
      rw [if_neg (by rw [hlb]; decide)] at hp
      have em : gI w 3 - 1 = nI (N - 1) := by
        rw [h.2.2.1, show N = (N - 1) + 1 by omega, nI_pred]
        rfl
      have c70 : ∀ s0 s1 : Int32, (s0 = if s + 1 = N then 1 else 0) → (s1 = if k = 14 then 1 else 0) → P_M_later_70 post (nI k) s0 s1 w := by
        intro s0 s1 hs0 hs1
        unfold P_M_later_70
        rw [e14, hst.2.2.1, show (nI T.length ≤ 0) ↔ T.length ≤ 0 from nI_leI (b := 0) (by omega) (by decide)]
        refine ⟨fun r => ?_, fun r => ?_⟩
        · have hsame : (k = 14) = (s + 1 = N) := by
            rw [hs0, hs1] at r
            by_cases h14 : k = 14
            · by_cases hl : s + 1 = N
              · simp [h14, hl]
              · rw [if_pos h14, if_neg hl] at r; exact absurd r (by decide)
            · by_cases hl : s + 1 = N
              · rw [if_neg h14, if_pos hl] at r; exact absurd r (by decide)
              · simp [h14, hl]
          rw [if_neg (fun q => q hsame)] at hp
          refine ⟨fun q => by rw [if_neg (fun r2 => q r2.1)] at hp; exact hp, fun q => ⟨fun q2 => ?_, fun q2 => ?_⟩⟩
          · have hTn : T = [] := List.eq_nil_of_length_eq_zero (by omega)
            rw [if_neg (fun r2 => r2.2 ((hT q).mp hTn))] at hp
            exact hp
          · rw [if_pos ⟨q, fun r2 => q2 (by rw [(hT q).mpr r2]; decide)⟩] at hp
            exact hp
        · rw [if_pos (by
            intro heq
            apply r
            rw [hs0, hs1]
            by_cases h14 : k = 14
            · rw [if_pos h14, if_pos (by rw [← heq]; exact h14)]
            · rw [if_neg h14, if_neg (fun q => h14 (by rw [heq]; exact q))])] at hp
          exact hp
      have c55 : ∀ s1 : Int32, (s1 = if k = 14 then 1 else 0) → P_M_later_55 post (nI s) (nI k) s1 w := by
        intro s1 hs1
        unfold P_M_later_55
        rw [em, nI_eq (by omega) (by omega)]
        exact ⟨fun r => c70 0 s1 (by rw [if_neg (by omega)]) hs1, fun r => c70 1 s1 (by rw [if_pos (by omega)]) hs1⟩
      refine ⟨fun _ => ?_, fun r => absurd (by rw [hA.1]; exact nI_le (by omega) (by omega)) r⟩
      rw [e14]
      exact ⟨fun r => c55 0 (by rw [if_neg r]), fun r => c55 1 (by rw [if_pos r])⟩
    | succ f ih =>
      intro i hi he
      have hlt : i < A.length := by omega
      rw [List.drop_eq_getElem_cons hlt] at he
      have hg := hA.2 i _ (List.getElem?_eq_getElem hlt)
      have hv := hAv _ (List.getElem_mem hlt)
      generalize A[i] = v at he hg hv
      rw [List.all_cons] at he
      refine ⟨fun r => absurd r (by rw [hA.1]; exact nI_ge (by omega) (by omega)), fun _ => ⟨vp_in_nI (by omega) (by decide), ?_⟩⟩
      rw [nI_clamp (by omega), hg, e1k]
      have c29 : ∀ a0 : Nat, a0 ≤ N → (hasF lb v (N - a0) a0 = if k = 1 then hasF lb v (N - (s + 1)) (s + 1) else hasF lb v N 0) → P_M_later_29 post (fun zx1 zx2 zx3 zu => P_M_later_2 post (f + 1) zx1 zx2 zx3 zu) (nI s) (nI k) (nI i) (nI a0) (nI v) w := by
        intro a0 ha0 hx
        refine isLabel_m h hv ha0 ?_
        rw [b2i_0, hx, nI_1]
        refine ⟨fun r => ih (i + 1) (by omega) ?_, fun r => ?_⟩
        · have : (if k = 1 then hasF lb v (N - (s + 1)) (s + 1) else hasF lb v N 0) = true := by simpa using r
          rw [he, this, Bool.true_and]
        · have hlb : lbs N lb s k A = false := by rw [he, r, Bool.false_and]
          unfold laS at hp
          rw [if_pos hlb] at hp
          exact hp
      refine ⟨fun r => c29 0 (Nat.zero_le _) (by rw [if_neg r, Nat.sub_zero]), fun r => ?_⟩
      rw [nI_1]
      exact c29 (s + 1) (by omega) (by rw [if_pos r])
  exact ⟨A.length + 1, loop A.length 0 (by omega) (by rw [List.drop_zero]; rfl)⟩
end FL4
