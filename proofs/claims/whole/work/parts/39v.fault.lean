/-! the first fault: what both look for -/
abbrev Op : Type := Nat × Bool
def hasF (lb : Nat → Nat) (v : Nat) : Nat → Nat → Bool
  | 0, _ => false
  | f + 1, i => (!decide (v = 0) && decide (lb i = v)) || hasF lb v f (i + 1)
def opn (l : Nat) (S : List Op) : Bool := S.any (fun x => decide (x.1 = l) && !decide (l = 0))
def popL (l : Nat) : List Op → List Op
  | [] => []
  | x :: S => if x.1 = l ∧ l ≠ 0 then popL l S else x :: S
def brF (w : Nat) : List Op → Bool
  | [] => false
  | x :: _ => decide (x.1 = 0) && (decide (w = 7) || !x.2)
def tpL (l : Nat) : List Op → Bool
  | [] => false
  | x :: _ => decide (x.1 = l) && !decide (l = 0)
def mayE (w : Nat) : Bool := decide (w = 2) || decide (w = 4) || decide (w = 8) || decide (w = 10) || decide (w = 13) || decide (w = 15) || decide (w = 16)
def setE : List Op → List Op
  | [] => []
  | x :: S => (x.1, true) :: S
/-- a statement's labels -/
def lbs (N : Nat) (lb : Nat → Nat) (s w : Nat) (A : List Nat) : Bool := A.all (fun v => if w = 1 then hasF lb v (N - (s + 1)) (s + 1) else hasF lb v N 0)
def afS (lb : Nat → Nat) (s w : Nat) (S : List Op) : List Op := if w = 7 then S.tail else popL (lb s) S
def flS (N : Nat) (lb : Nat → Nat) (s w : Nat) (late : Bool) (A : List Nat) (S : List Op) : Nat :=
  if w = 0 then 1 else if hasF lb (lb s) s 0 = true then 2 else if (w = 15 ∨ w = 16) ∧ late = true then 3 else if (w = 5 ∨ w = 6 ∨ w = 7) ∧ brF w S = false then 4 else if opn (lb s) S = true ∧ ¬ (tpL (lb s) S = true ∧ mayE w = true) then 5 else if lbs N lb s w A = false then 6 else if (w = 14) ≠ (s + 1 = N) then 7 else if w = 14 ∧ afS lb s w S ≠ [] then 8 else 0
def nxS (lb : Nat → Nat) (s w : Nat) (A : List Nat) (S : List Op) : List Op := if w = 1 then (A.headD 0, false) :: afS lb s w S else if w = 3 then (0, false) :: afS lb s w S else if w = 6 then setE (afS lb s w S) else afS lb s w S
def cv (x : Op) : Int32 := if x.1 = 0 then (if x.2 = true then -2 else -1) else nI x.1
def OkS (S : List Op) : Prop := ∀ x ∈ S, x.1 < 100000
def StC (U : MS) (S : List Op) : Prop := S.length ≤ 24 ∧ OkS S ∧ gI U 1 = nI S.length ∧ ∀ j x, S.reverse[j]? = some x → gA U 0 j = cv x
theorem cv_eq {x : Op} {l : Nat} (hx : x.1 < 100000) (hl : l < 100000) : cv x = nI l ↔ (x.1 = l ∧ l ≠ 0) := by
  unfold cv
  have hneg : ∀ k, k < 100000 → (nI k).toInt = (k : Int) := fun k hk => nI_toInt (by omega)
  by_cases h0 : x.1 = 0
  · rw [if_pos h0]
    refine ⟨fun h => ?_, fun h => by omega⟩
    exfalso
    have h9 := hneg l hl
    rw [← h] at h9
    rcases Bool.eq_false_or_eq_true x.2 with e | e
    · rw [e] at h9
      have : ((if true = true then (-2 : Int32) else -1)).toInt = -2 := by decide
      omega
    · rw [e] at h9
      have : ((if false = true then (-2 : Int32) else -1)).toInt = -1 := by decide
      omega
  · rw [if_neg h0, nI_eq (by omega) (by omega)]
    omega
theorem cv_m1 {x : Op} (hx : x.1 < 100000) : cv x = -1 ↔ (x.1 = 0 ∧ x.2 = false) := by
  unfold cv
  by_cases h0 : x.1 = 0
  · rw [if_pos h0]
    cases x.2 <;> simp [h0] <;> decide
  · rw [if_neg h0]
    refine ⟨fun h => ?_, fun h => absurd h.1 h0⟩
    have h9 : (nI x.1).toInt = (x.1 : Int) := nI_toInt (by omega)
    rw [h] at h9
    have : (-1 : Int32).toInt = -1 := by decide
    omega
theorem cv_m2 {x : Op} (hx : x.1 < 100000) : cv x = -2 ↔ (x.1 = 0 ∧ x.2 = true) := by
  unfold cv
  by_cases h0 : x.1 = 0
  · rw [if_pos h0]
    cases x.2 <;> simp [h0] <;> decide
  · rw [if_neg h0]
    refine ⟨fun h => ?_, fun h => absurd h.1 h0⟩
    have h9 : (nI x.1).toInt = (x.1 : Int) := nI_toInt (by omega)
    rw [h] at h9
    have : (-2 : Int32).toInt = -2 := by decide
    omega
theorem StC.top {U : MS} {x : Op} {S : List Op} (h : StC U (x :: S)) : gA U 0 S.length = cv x := h.2.2.2 S.length x (by rw [List.reverse_cons, List.getElem?_append_right (by rw [List.length_reverse]; exact Nat.le_refl _), List.length_reverse, Nat.sub_self]; rfl)
theorem StC.pop {U : MS} {x : Op} {S : List Op} (h : StC U (x :: S)) : StC (sI U 1 (nI S.length)) S := by
  refine ⟨by have := h.1; rw [List.length_cons] at this; omega, fun y hy => h.2.1 y (List.mem_cons_of_mem _ hy), by rw [gI_sI, if_pos rfl], fun j y hj => ?_⟩
  rw [gA_sI]
  refine h.2.2.2 j y ?_
  rw [List.reverse_cons, List.getElem?_append_left (List.getElem?_eq_some_iff.mp hj).1]
  exact hj
theorem StC.push {U : MS} {x : Op} {S : List Op} (h : StC U S) (hl : S.length < 24) (hx : x.1 < 100000) : StC (sI (sA U 0 S.length (cv x)) 1 (nI (S.length + 1))) (x :: S) := by
  refine ⟨by rw [List.length_cons]; omega, fun y hy => ?_, by rw [gI_sI, if_pos rfl]; rfl, fun j y hj => ?_⟩
  · rcases List.mem_cons.mp hy with e | e
    · rw [e]; exact hx
    · exact h.2.1 y e
  · rw [gA_sI, gA_sA]
    rw [List.reverse_cons] at hj
    by_cases e : j = S.length
    · rw [if_pos ⟨rfl, e⟩]
      rw [e, List.getElem?_append_right (by rw [List.length_reverse]; exact Nat.le_refl _), List.length_reverse, Nat.sub_self] at hj
      cases hj
      rfl
    · rw [if_neg (fun q => e q.2)]
      have hlt := (List.getElem?_eq_some_iff.mp hj).1
      rw [List.length_append, List.length_reverse, List.length_singleton] at hlt
      rw [List.getElem?_append_left (by rw [List.length_reverse]; omega)] at hj
      exact h.2.2.2 j y hj
section FLT
variable {N : Nat} {cs : Nat → Nat → Nat} {ns lb : Nat → Nat} {x : XS} {m : MS} {S : List Op}
theorem hn_loop (h : DkI N cs ns lb x m) {post : Int32 → XS → Prop} {v to : Nat} (hv : v < 100000) (hto : to ≤ N) : ∀ (f i : Nat), i + f = to → post (b2i (hasF lb v f i)) x → P_K_hasNumber_3 post (f + 1) (nI v) (nI to) (nI i) x := by
  have hN := h.1
  intro f
  induction f with
  | zero =>
    intro i hi hp
    exact ⟨fun _ => hp, fun q => absurd (nI_le (by omega) (by omega)) q⟩
  | succ f ih =>
    intro i hi hp
    obtain ⟨h1, h2, _⟩ := h.2.2.2 i (by omega)
    unfold hasF at hp
    refine ⟨fun q => absurd q (nI_ge (by omega) (by omega)), fun _ => ⟨fun q => absurd q (by rw [h.2.1]; exact nI_ge (by omega) (by omega)), fun _ => ?_⟩⟩
    unfold P_K_hasNumber_38
    rw [nI_1, show (nI v = 0) ↔ v = 0 from nI_eq (b := 0) (by omega) (by decide), nI_clamp (by omega), h2.2.2.2, nI_eq (by omega) (by omega)]
    refine ⟨fun q => ?_, fun q => ⟨vp_in_nI (by omega) (by decide), by omega, fun q2 => ?_, fun q2 => ?_⟩⟩
    · refine ih (i + 1) (by omega) ?_
      simpa [q] using hp
    · refine ih (i + 1) (by omega) ?_
      simpa [q2] using hp
    · rw [show (!decide (v = 0) && decide (lb i = v)) = true by simp [q, q2], Bool.true_or] at hp
      exact hp
theorem hasNumber_c (h : DkI N cs ns lb x m) {post : Int32 → XS → Prop} {v a to : Nat} (hv : v < 100000) (hto : to ≤ N) (ha : a ≤ to) (hp : post (b2i (hasF lb v (to - a) a)) x) : P_K_hasNumber post (nI v) (nI a) (nI to) x := ⟨to - a + 1, hn_loop h hv hto (to - a) a (by omega) hp⟩
theorem io_loop {post : Int32 → XS → Prop} {l : Nat} (hl : l < 100000) (hs : StC x.2.2.1 S) : ∀ (f i : Nat), i + f = S.length → post (b2i (opn l (S.reverse.drop i))) x → P_U_isOpen_2 post (f + 1) (nI l) (nI i) x := by
  have h24 := hs.1
  intro f
  induction f with
  | zero =>
    intro i hi hp
    rw [List.drop_eq_nil_of_le (by rw [List.length_reverse]; omega)] at hp
    exact ⟨fun _ => hp, fun q => absurd (by rw [hs.2.2.1]; exact nI_le (by omega) (by omega)) q⟩
  | succ f ih =>
    intro i hi hp
    have hlt : i < S.reverse.length := by rw [List.length_reverse]; omega
    rw [List.drop_eq_getElem_cons hlt] at hp
    have hg := hs.2.2.2 i _ (List.getElem?_eq_getElem hlt)
    have hx := hs.2.1 _ (List.mem_reverse.mp (List.getElem_mem hlt))
    generalize S.reverse[i] = y at hp hg hx
    have ho : opn l (y :: List.drop (i + 1) S.reverse) = ((decide (y.1 = l) && !decide (l = 0)) || opn l (List.drop (i + 1) S.reverse)) := by unfold opn; rw [List.any_cons]
    rw [ho] at hp
    refine ⟨fun q => absurd q (by rw [hs.2.2.1]; exact nI_ge (by omega) (by omega)), fun _ => ⟨vp_in_nI (by omega) (by decide), ?_⟩⟩
    rw [nI_clamp (by omega), hg, cv_eq hx hl, nI_1]
    refine ⟨fun q => ih (i + 1) (by omega) ?_, fun q => ?_⟩
    · have : (decide (y.1 = l) && !decide (l = 0)) = false := by
        by_cases e : y.1 = l
        · by_cases e0 : l = 0
          · simp [e0]
          · exact absurd ⟨e, e0⟩ q
        · simp [e]
      rw [this, Bool.false_or] at hp
      exact hp
    · have : (decide (y.1 = l) && !decide (l = 0)) = true := by simp [q.1, q.2]
      rw [this, Bool.true_or] at hp
      exact hp
theorem isOpen_c {post : Int32 → XS → Prop} {l : Nat} (hl : l < 100000) (hs : StC x.2.2.1 S) (hp : post (b2i (opn l S)) x) : P_U_isOpen post (nI l) x := by
  refine ⟨S.length + 1, io_loop hl hs S.length 0 (by omega) ?_⟩
  rw [List.drop_zero]
  unfold opn at hp ⊢
  rw [List.any_reverse]
  exact hp
theorem inner_c {post : Int32 → XS → Prop} (hs : StC x.2.2.1 S) (h0 : S = [] → post 0 x) (h1 : ∀ y T, S = y :: T → post (cv y) x) : P_U_innermost post x := by
  have h24 := hs.1
  unfold P_U_innermost
  rw [hs.2.2.1]
  cases S with
  | nil => exact ⟨fun _ => h0 rfl, fun q => absurd (by decide) q⟩
  | cons y T =>
    have hl : (y :: T).length = T.length + 1 := rfl
    rw [hl] at h24 ⊢
    rw [nI_pred, nI_clamp (by omega), hs.top]
    exact ⟨fun q => absurd q (nI_nle (by omega) (by omega)), fun _ => ⟨vp_in_nI (by omega) (by decide), h1 y T rfl⟩⟩
abbrev upU (x : XS) (U : MS) : XS := (x.1, x.2.1, U, x.2.2.2)
theorem ee_loop {post : XS → Prop} {j l : Nat} (hj : j < 24) (hl : l < 100000) (h7 : gI (x.2.2.2 j) 7 = nI l) : ∀ (S : List Op) (U : MS), StC U S → (∀ U', StC U' (popL l S) → gI U' 2 = gI U 2 → gI U' 3 = gI U 3 → post (upU x U')) → P_U_endWhatEnds_26 post j (S.length + 1) j (upU x U) := by
  intro S
  induction S with
  | nil =>
    intro U hs hp
    exact ⟨fun _ => hp U hs rfl rfl, fun q => absurd (by rw [show gI (upU x U).2.2.1 1 = nI 0 from hs.2.2.1]; decide) q⟩
  | cons y T ih =>
    intro U hs hp
    have h24 := hs.1
    have hlen : (y :: T).length = T.length + 1 := rfl
    rw [hlen] at h24
    have h1 : gI (upU x U).2.2.1 1 = nI (T.length + 1) := hs.2.2.1
    have hy := hs.2.1 y List.mem_cons_self
    refine ⟨fun q => absurd q (by rw [h1]; exact nI_nle (by omega) (by omega)), fun _ => ?_⟩
    rw [h1, nI_pred, nI_clamp (by omega)]
    have htop : gA (upU x U).2.2.1 0 T.length = cv y := hs.top
    have h7' : gI ((upU x U).2.2.2 j) 7 = nI l := h7
    rw [htop, h7', cv_eq hy hl]
    unfold popL at hp
    refine ⟨vp_in_nI (by omega) (by decide), hj, fun q => ?_, fun q => ?_⟩
    · rw [if_neg q] at hp
      exact hp U hs rfl rfl
    · rw [if_pos q] at hp
      exact ih (sI U 1 (nI T.length)) hs.pop (fun U' hs' g2 g3 => hp U' hs' (g2.trans (by rw [gI_sI, if_neg (by decide)])) (g3.trans (by rw [gI_sI, if_neg (by decide)])))
end FLT
