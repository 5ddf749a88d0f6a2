/-! the text of a statement, and what stands in it -/
abbrev Tz : Type := Nat × Nat × Nat
abbrev zz : Tz := (0, 0, 0)
def zn (n : Nat) : List Tz := List.replicate n zz
def dg (x : Nat) : Bool := decide (48 ≤ x) && decide (x ≤ 57)
def lr (x : Nat) : Bool := decide (65 ≤ x) && decide (x ≤ 90)
def st (c : Nat → Nat) : Nat → List Nat → Bool
  | _, [] => true
  | k, x :: r => decide (c k = x) && st c (k + 1) r
def dgN (c : Nat → Nat) : Nat → Nat → Nat
  | 0, k => k
  | f + 1, k => if dg (c k) = true then dgN c f (k + 1) else k
def dgE (c : Nat → Nat) (k : Nat) : Nat := dgN c 81 k
def alN (c : Nat → Nat) : Nat → Nat → Nat
  | 0, k => k
  | f + 1, k => if (lr (c k) || dg (c k)) = true then alN c f (k + 1) else k
def nmE (c : Nat → Nat) (a : Nat) : Nat := if lr (c a) = true then alN c 6 a else a
def qtN (c : Nat → Nat) : Nat → Nat → Option Nat
  | 0, _ => none
  | f + 1, k => if c k = 0 then none else if c k = 39 then some (k + 1) else qtN c f (k + 1)
def wS (i : Nat) : List Nat := (strQ i).2.2.2.map (fun x => x.toNatClampNeg)
def lgw (c : Nat → Nat) (k : Nat) : Bool := st c k (wS 6) || (st c k (wS 7) || (st c k (wS 8) || (st c k (wS 9) || (st c k (wS 10) || (st c k (wS 11) || (st c k (wS 12) || (st c k (wS 13) || (st c k (wS 14) || (st c k (wS 15) || st c k (wS 16))))))))))
def numD (c : Nat → Nat) (a : Nat) : Nat := if (st c (dgE c a) (wS 5) && !lgw c (dgE c a)) = true then (if dgE c a = a ∧ dgE c (dgE c a + 1) = dgE c a + 1 then a else dgE c (dgE c a + 1)) else dgE c a
def exD (c : Nat → Nat) (e : Nat) : Nat := if (st c e (wS 17) || st c e (wS 18)) = true then e + 2 else e + 1
def expE (c : Nat → Nat) (e : Nat) : Nat := if c e = 69 then (if exD c e < dgE c (exD c e) then dgE c (exD c e) else e) else e
def numE (c : Nat → Nat) (a : Nat) : Nat := if a < numD c a then expE c (numD c a) else a
abbrev Ps : Type := Nat → Option (List Tz)
def sq (p q : Ps) : Ps := fun a => match p a with
  | none => none
  | some Z => match q (a + Z.length) with
    | none => none
    | some Y => some (Z ++ Y)
def orP (p q : Ps) : Ps := fun a => match p a with
  | some Z => some Z
  | none => q a
def wdP (c : Nat → Nat) (i : Nat) : Ps := fun a => if st c a (wS i) = true then some (zn (wS i).length) else none
def idP (c : Nat → Nat) : Ps := fun a => if c a = 44 then some [(0, 5, 0)] else some []
def dz (c : Nat → Nat) (role : Nat) : Nat → Nat → List Tz
  | 0, _ => []
  | 1, _ => [(0, role, 0)]
  | m + 2, a => if c a = 48 then (0, 5, 0) :: dz c role (m + 1) (a + 1) else (0, role, 0) :: zn (m + 1)
def dgP (c : Nat → Nat) (most role : Nat) : Ps := fun a => if dgN c most a = a then none else some (dz c role (dgN c most a - a) a)
def nmP (c : Nat → Nat) (role : Nat) : Ps := fun a => if lr (c a) = true then some ((0, role, 0) :: zn (alN c 6 a - a - 1)) else none
/-- the head's opening brackets, the last one's closing ones -/
def wo : List Tz → List Tz
  | [] => []
  | (o, r, k) :: Z => (o + 1, r, k) :: Z
def wc (j : Nat) : List Tz → List Tz
  | [] => []
  | [(o, r, k)] => [(o, r, k + j)]
  | t :: t' :: Z => t :: wc j (t' :: Z)
theorem wo_len (Z : List Tz) : (wo Z).length = Z.length := by
  cases Z with
  | nil => rfl
  | cons t Z => rfl
theorem wc_len (j : Nat) : ∀ Z : List Tz, (wc j Z).length = Z.length
  | [] => rfl
  | [_] => rfl
  | _ :: t' :: Z => congrArg (· + 1) (wc_len j (t' :: Z))
theorem zn_len (n : Nat) : (zn n).length = n := List.length_replicate
theorem dz_len (c : Nat → Nat) (role : Nat) : ∀ m a : Nat, (dz c role m a).length = m := by
  intro m
  induction m with
  | zero => intro a; rfl
  | succ m ih =>
    intro a
    cases m with
    | zero => rfl
    | succ m =>
      unfold dz
      split
      · rw [List.length_cons, ih]
      · rw [List.length_cons, zn_len]
/-! reading behind writing -/
theorem gI_sI (u : MS) (k j : Nat) (v : Int32) : gI (sI u k v) j = if j = k then v else gI u j := rfl
theorem gA_sI (u : MS) (k : Nat) (v : Int32) (f i : Nat) : gA (sI u k v) f i = gA u f i := rfl
theorem gI_sA (u : MS) (k i : Nat) (v : Int32) (j : Nat) : gI (sA u k i v) j = gI u j := rfl
theorem gA_sA (u : MS) (k i : Nat) (v : Int32) (f j : Nat) : gA (sA u k i v) f j = if f = k ∧ j = i then v else gA u f j := by
  unfold gA sA va_up
  by_cases h : f = k
  · subst h
    simp only [upd, true_and, if_true]
  · simp only [h, false_and, if_false]
theorem gI_s5 (u : MS) (v : Int32) : gI (sI u 5 v) 5 = v := rfl
theorem gI_s5n (u : MS) (v : Int32) {j : Nat} (h : j ≠ 5) : gI (sI u 5 v) j = gI u j := by rw [gI_sI, if_neg h]
/-! the class's text -/
def Tx (c : Nat → Nat) (n : Nat) (u : MS) : Prop := n ≤ 80 ∧ gI u 4 = nI n ∧ (∀ i, i < n → gA u 0 i = nI (c i) ∧ 0 < c i ∧ c i < 256) ∧ ∀ i, n ≤ i → c i = 0
/-- nothing has been found from a on -/
def Pre (c : Nat → Nat) (n : Nat) (u : MS) (a : Nat) : Prop := Tx c n u ∧ a ≤ n ∧ gI u 5 = nI a ∧ ∀ i, a ≤ i → i < n → gA u 1 i = 0 ∧ gA u 2 i = 0 ∧ gA u 3 i = 0
def Fr (u u' : MS) (a b : Nat) : Prop := (∀ k, k ≠ 5 → gI u' k = gI u k) ∧ (∀ i, gA u' 0 i = gA u 0 i) ∧ ∀ f i, (i < a ∨ b ≤ i) → gA u' f i = gA u f i
/-- from a on Z has been found -/
def Ok (n : Nat) (u u' : MS) (a : Nat) (Z : List Tz) : Prop := a + Z.length ≤ n ∧ gI u' 5 = nI (a + Z.length) ∧ Fr u u' a (a + Z.length) ∧ ∀ j t, Z[j]? = some t → gA u' 1 (a + j) = nI t.1 ∧ gA u' 3 (a + j) = nI t.2.1 ∧ gA u' 2 (a + j) = nI t.2.2
/-- something has been found, up to some place; what it was is forgotten -/
def Bad (n : Nat) (u u' : MS) (a : Nat) : Prop := ∃ b, a ≤ b ∧ b ≤ n ∧ gI u' 5 = nI b ∧ Fr u u' a b
def Tie (c : Nat → Nat) (n : Nat) (F : Ps) (P : (Int32 → MS → Prop) → MS → Prop) : Prop := ∀ (post : Int32 → MS → Prop) (u : MS) (a : Nat), Pre c n u a → (∀ Z u', F a = some Z → Ok n u u' a Z → post 1 u') → (∀ u', F a = none → Bad n u u' a → post 0 u') → P post u
theorem Fr.refl (u : MS) (a b : Nat) : Fr u u a b := ⟨fun _ _ => rfl, fun _ => rfl, fun _ _ _ => rfl⟩
theorem Fr.trans {u v w : MS} {a b b' d : Nat} (h : Fr u v a b) (h' : Fr v w b' d) (h1 : a ≤ b') (h2 : b ≤ d) : Fr u w a d := by
  refine ⟨fun k hk => (h'.1 k hk).trans (h.1 k hk), fun i => (h'.2.1 i).trans (h.2.1 i), fun f i hi => ?_⟩
  rw [h'.2.2 f i (by omega), h.2.2 f i (by omega)]
theorem Fr.tx {u v : MS} {a b : Nat} (h : Fr u v a b) {c : Nat → Nat} {n : Nat} (t : Tx c n u) : Tx c n v :=
  ⟨t.1, (h.1 4 (by decide)).trans t.2.1, fun i hi => ⟨(h.2.1 i).trans (t.2.2.1 i hi).1, (t.2.2.1 i hi).2⟩, t.2.2.2⟩
theorem Ok.pre {c : Nat → Nat} {n a : Nat} {u v : MS} {Z : List Tz} (h : Ok n u v a Z) (p : Pre c n u a) : Pre c n v (a + Z.length) := by
  refine ⟨h.2.2.1.tx p.1, h.1, h.2.1, fun i h1 h2 => ?_⟩
  rw [h.2.2.1.2.2 1 i (Or.inr h1), h.2.2.1.2.2 2 i (Or.inr h1), h.2.2.1.2.2 3 i (Or.inr h1)]
  exact p.2.2.2 i (by omega) h2
theorem Ok.nil {c : Nat → Nat} {n a : Nat} {u : MS} (p : Pre c n u a) : Ok n u u a [] := ⟨p.2.1, p.2.2.1, Fr.refl u a _, fun j t h => by simp at h⟩
theorem Ok.app {n a : Nat} {u v w : MS} {Z Y : List Tz} (h : Ok n u v a Z) (h' : Ok n v w (a + Z.length) Y) : Ok n u w a (Z ++ Y) := by
  have e : a + (Z ++ Y).length = a + Z.length + Y.length := by rw [List.length_append]; omega
  refine ⟨by rw [e]; exact h'.1, by rw [e]; exact h'.2.1, ?_, fun j t hj => ?_⟩
  · rw [e]
    exact h.2.2.1.trans h'.2.2.1 (by omega) (by omega)
  · by_cases hl : j < Z.length
    · rw [List.getElem?_append_left hl] at hj
      rw [h'.2.2.1.2.2 1 _ (Or.inl (by omega)), h'.2.2.1.2.2 2 _ (Or.inl (by omega)), h'.2.2.1.2.2 3 _ (Or.inl (by omega))]
      exact h.2.2.2 j t hj
    · rw [List.getElem?_append_right (by omega)] at hj
      have h9 := h'.2.2.2 (j - Z.length) t hj
      rw [show a + Z.length + (j - Z.length) = a + j by omega] at h9
      exact h9
theorem Ok.bad {n a : Nat} {u v w : MS} {Z : List Tz} (h : Ok n u v a Z) (h' : Bad n v w (a + Z.length)) : Bad n u w a := by
  obtain ⟨b, h1, h2, h3, h4⟩ := h'
  exact ⟨b, by omega, h2, h3, h.2.2.1.trans h4 (by omega) (by omega)⟩
theorem Pre.bad {c : Nat → Nat} {n a : Nat} {u : MS} (p : Pre c n u a) : Bad n u u a := ⟨a, Nat.le_refl _, p.2.1, p.2.2.1, Fr.refl u a a⟩
theorem Ok.toBad {n a : Nat} {u v : MS} {Z : List Tz} (h : Ok n u v a Z) : Bad n u v a := ⟨a + Z.length, by omega, h.1, h.2.1, h.2.2.1⟩
/-- so many signs are taken, nothing is written -/
theorem Ok.skip {c : Nat → Nat} {n a : Nat} {u : MS} (p : Pre c n u a) {m : Nat} (h : a + m ≤ n) : Ok n u (sI u 5 (nI (a + m))) a (zn m) := by
  refine ⟨by rw [zn_len]; exact h, by rw [zn_len]; rfl, ⟨fun k hk => gI_s5n u _ hk, fun i => rfl, fun f i _ => rfl⟩, fun j t hj => ?_⟩
  obtain ⟨h1, h2⟩ := List.getElem?_eq_some_iff.mp hj
  rw [zn_len] at h1
  have h3 : t = zz := by rw [← h2]; simp [zn]
  subst h3
  have h4 := p.2.2.2 (a + j) (by omega) (by omega)
  exact ⟨h4.1, h4.2.2, h4.2.1⟩
theorem sq_some {p q : Ps} {a : Nat} {Z Y : List Tz} (h : p a = some Z) (h' : q (a + Z.length) = some Y) : sq p q a = some (Z ++ Y) := by
  unfold sq
  rw [h]
  show (match q (a + Z.length) with | none => none | some Y => some (Z ++ Y)) = _
  rw [h']
theorem sq_none {p q : Ps} {a : Nat} {Z : List Tz} (h : p a = some Z) (h' : q (a + Z.length) = none) : sq p q a = none := by
  unfold sq
  rw [h]
  show (match q (a + Z.length) with | none => none | some Y => some (Z ++ Y)) = _
  rw [h']
theorem sq_none0 {p q : Ps} {a : Nat} (h : p a = none) : sq p q a = none := by
  unfold sq
  rw [h]
/-- one behind the other: the two shapes in which it is written -/
theorem Tie.sq1 {c : Nat → Nat} {n : Nat} {F G : Ps} {P Q : (Int32 → MS → Prop) → MS → Prop} (h : Tie c n F P) (h' : Tie c n G Q) : Tie c n (sq F G) (fun post u => P (fun r u1 => ((r = 0 → post 0 u1) ∧ (¬ r = 0 → Q post u1))) u) := by
  intro post u a p h1 h2
  refine h _ u a p (fun Z v hZ hv => ⟨fun e => absurd e (by decide), fun _ => ?_⟩) (fun v hZ hv => ⟨fun _ => h2 v (sq_none0 hZ) hv, fun e => absurd rfl e⟩)
  exact h' _ v _ (hv.pre p) (fun Y w hY hw => h1 _ w (sq_some hZ hY) (hv.app hw)) (fun w hY hw => h2 w (sq_none hZ hY) (hv.bad hw))
theorem Tie.sq2 {c : Nat → Nat} {n : Nat} {F G : Ps} {P Q : (Int32 → MS → Prop) → MS → Prop} (h : Tie c n F P) (h' : Tie c n G Q) : Tie c n (sq F G) (fun post u => P (fun r u1 => ((¬ r = 0 → Q post u1) ∧ (r = 0 → post 0 u1))) u) := fun post u a p h1 h2 => by
  refine h _ u a p (fun Z v hZ hv => ⟨fun _ => ?_, fun e => absurd e (by decide)⟩) (fun v hZ hv => ⟨fun e => absurd rfl e, fun _ => h2 v (sq_none0 hZ) hv⟩)
  exact h' _ v _ (hv.pre p) (fun Y w hY hw => h1 _ w (sq_some hZ hY) (hv.app hw)) (fun w hY hw => h2 w (sq_none hZ hY) (hv.bad hw))
/-- a last one, whose answer is the whole's: the three shapes -/
theorem Tie.e1 {c : Nat → Nat} {n : Nat} {F : Ps} {P : (Int32 → MS → Prop) → MS → Prop} (h : Tie c n F P) : Tie c n F (fun post u => P (fun r u1 => ((r = 0 → post 0 u1) ∧ (¬ r = 0 → post 1 u1))) u) := fun post u a p h1 h2 =>
  h _ u a p (fun Z v hZ hv => ⟨fun e => absurd e (by decide), fun _ => h1 Z v hZ hv⟩) (fun v hZ hv => ⟨fun _ => h2 v hZ hv, fun e => absurd rfl e⟩)
theorem Tie.e2 {c : Nat → Nat} {n : Nat} {F : Ps} {P : (Int32 → MS → Prop) → MS → Prop} (h : Tie c n F P) : Tie c n F (fun post u => P (fun r u1 => (narrow .boolean (.int r) = .int r ∧ post r u1)) u) := fun post u a p h1 h2 =>
  h _ u a p (fun Z v hZ hv => ⟨rfl, h1 Z v hZ hv⟩) (fun v hZ hv => ⟨rfl, h2 v hZ hv⟩)
theorem Tie.or {c : Nat → Nat} {n : Nat} {F G : Ps} {P Q : (Int32 → MS → Prop) → MS → Prop} (h : ∀ (post : Int32 → MS → Prop) (u : MS) (a : Nat), Pre c n u a → (∀ Z u', F a = some Z → Ok n u u' a Z → post 1 u') → (F a = none → post 0 u) → P post u) (h' : Tie c n G Q) : Tie c n (orP F G) (fun post u => P (fun r u1 => ((¬ r = 0 → post 1 u1) ∧ (r = 0 → Q post u1))) u) := by
  intro post u a p h1 h2
  refine h _ u a p (fun Z v hZ hv => ⟨fun _ => h1 Z v (by unfold orP; rw [hZ]) hv, fun e => absurd e (by decide)⟩) (fun hZ => ⟨fun e => absurd rfl e, fun _ => ?_⟩)
  have e : orP F G a = G a := by unfold orP; rw [hZ]
  exact h' _ u a p (fun Y w hY hw => h1 Y w (e.trans hY) hw) (fun w hY hw => h2 w (e.trans hY) hw)
