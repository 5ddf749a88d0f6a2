/-! levels of an expression -/
def srR (c : Nat → Nat) (p : Ps) (a : Nat) : Nat → List Tz → Option (List Tz)
  | 0, acc => some acc
  | f + 1, acc => if st c (a + acc.length) (wS 23) = true then (match p (a + acc.length + (wS 23).length) with
    | none => none
    | some Z => srR c p a f (acc ++ (zn (wS 23).length ++ Z))) else some acc
def srP (c : Nat → Nat) (p : Ps) : Ps := fun a => match p a with
  | none => none
  | some Z => srR c p a 80 Z
def chR (s N : Ps) (a : Nat) : Nat → List Tz → Option (List Tz)
  | 0, acc => some acc
  | f + 1, acc => match s (a + acc.length) with
    | none => some acc
    | some Y => match N (a + acc.length + Y.length) with
      | none => none
      | some Z => chR s N a f (wc 1 (wo (acc ++ (Y ++ Z))))
def sgP (c : Nat → Nat) (lv : Nat) : Ps := if lv = 1 then wdP c 27 else if lv = 2 then wdP c 28 else if lv = 4 then orP (wdP c 29) (orP (wdP c 30) (orP (wdP c 31) (orP (wdP c 32) (orP (wdP c 33) (wdP c 34))))) else if lv = 5 then orP (wdP c 35) (wdP c 36) else if lv = 6 then orP (wdP c 37) (wdP c 38) else fun _ => none
def oc : List Tz → Nat
  | [] => 0
  | t :: Z => t.1 + oc Z
def nt (c : Nat → Nat) : Nat → Nat → List Tz
  | 0, _ => []
  | f + 1, a => if st c a (wS 26) = true then (1, 0, 0) :: (zn 4 ++ nt c f (a + 5)) else []
def pfP (c : Nat → Nat) (lv a : Nat) : List Tz := if lv = 5 then (if c a = 43 ∨ c a = 45 then [(1, 0, 0)] else []) else if lv = 3 then nt c 80 a else []
def lvP (c : Nat → Nat) (N : Ps) (lv : Nat) : Ps := fun a => match N (a + (pfP c lv a).length) with
  | none => none
  | some Z => chR (sgP c lv) N a (if lv = 4 then 1 else 80) (wc (oc (pfP c lv a)) (pfP c lv a ++ Z))
def pwR (c : Nat → Nat) (N : Ps) : Nat → Nat → List Tz → Option (List Tz)
  | 0, _, Z => some Z
  | f + 1, a, Z => if st c (a + Z.length) (wS 25) = true then (match N (a + Z.length + (wS 25).length) with
    | none => none
    | some Y => match pwR c N f (a + Z.length + (wS 25).length) Y with
      | none => none
      | some R => some (wc 1 (wo (Z ++ zn (wS 25).length) ++ R))) else some Z
def pwP (c : Nat → Nat) (N : Ps) : Ps := fun a => match N a with
  | none => none
  | some Z => pwR c N 80 a Z
def lsP (c : Nat → Nat) (E : Ps) : Ps := sq (wdP c 22) (sq (srP c E) (wdP c 24))
def grP (c : Nat → Nat) (I : Option Ps) : Ps := fun a => match I with
  | none => none
  | some E => match E (a + 1) with
    | none => none
    | some Z => if c (a + 1 + Z.length) = 41 then some ((0, 5, 0) :: (Z ++ [(0, 5, 0)])) else none
abbrev nmZ (c : Nat → Nat) (role a : Nat) : List Tz := (0, role, 0) :: zn (alN c 6 a - a - 1)
def rfP (c : Nat → Nat) (I : Option Ps) (ph : Bool) : Ps := fun a => if lr (c a) = true then (if c (alN c 6 a) = 40 then (match I with
  | none => none
  | some E => if (ph && st c (alN c 6 a) (wS 21)) = true then some (nmZ c 3 a ++ zn (wS 21).length) else match lsP c E (alN c 6 a) with
    | none => none
    | some Y => some (nmZ c 3 a ++ Y)) else some (nmZ c 4 a)) else none
def prP (c : Nat → Nat) (I : Option Ps) : Ps := fun a => if a < numD c a then some (zn (numE c a - a)) else orP (wdP c 19) (orP (wdP c 20) (orP (qtP c) (fun a => if c a = 40 then grP c I a else rfP c I true a))) a
def ELv (c : Nat → Nat) (I : Option Ps) : Nat → Ps
  | 0 => pwP c (prP c I)
  | k + 1 => lvP c (ELv c I k) (6 - k)
def EX (c : Nat → Nat) : Nat → Ps
  | 0 => ELv c none 6
  | m + 1 => ELv c (some (EX c m)) 6
def IX (c : Nat → Nat) : Nat → Option Ps
  | 0 => none
  | m + 1 => some (EX c m)
theorem EX_eq (c : Nat → Nat) (m : Nat) : EX c m = ELv c (IX c m) 6 := by
  cases m with
  | zero => rfl
  | succ m => rfl
def NE (F : Ps) : Prop := ∀ a Z, F a = some Z → Z ≠ []
theorem expE_le (c : Nat → Nat) (e : Nat) : e ≤ expE c e := by
  unfold expE exD
  split
  · split
    · split <;> omega
    · split <;> omega
  · omega
theorem qtN_lt (c : Nat → Nat) : ∀ (f k e : Nat), qtN c f k = some e → k < e := by
  intro f
  induction f with
  | zero => intro k e h; exact absurd h (by simp [qtN])
  | succ f ih =>
    intro k e h
    unfold qtN at h
    split at h
    · exact absurd h (by simp)
    · split at h
      · cases h; omega
      · have := ih _ _ h; omega
theorem zn_ne {n : Nat} (h : 0 < n) : zn n ≠ [] := fun e => by have := zn_len n; rw [e] at this; simp at this; omega
theorem ne_wd (c : Nat → Nat) {i : Nat} (hi : i < 56) : NE (wdP c i) := by
  intro a Z h
  unfold wdP at h
  split at h
  · cases h
    exact zn_ne (by rw [wS_len]; exact wS_ne i hi)
  · exact absurd h (by simp)
theorem ne_or {F G : Ps} (h1 : NE F) (h2 : NE G) : NE (orP F G) := by
  intro a Z h
  unfold orP at h
  split at h
  · rename_i hF
    cases h
    exact h1 a _ hF
  · exact h2 a Z h
theorem ne_sr {c : Nat → Nat} {p : Ps} (a : Nat) : ∀ (f : Nat) (acc Z : List Tz), acc ≠ [] → srR c p a f acc = some Z → Z ≠ [] := by
  intro f
  induction f with
  | zero => intro acc Z h h1; cases h1; exact h
  | succ f ih =>
    intro acc Z h h1
    unfold srR at h1
    split at h1
    · split at h1
      · exact absurd h1 (by simp)
      · exact ih _ _ (fun e => h (List.append_eq_nil_iff.mp e).1) h1
    · cases h1; exact h
theorem ne_ch {s N : Ps} (a : Nat) : ∀ (f : Nat) (acc Z : List Tz), acc ≠ [] → chR s N a f acc = some Z → Z ≠ [] := by
  intro f
  induction f with
  | zero => intro acc Z h h1; cases h1; exact h
  | succ f ih =>
    intro acc Z h h1
    unfold chR at h1
    split at h1
    · cases h1; exact h
    · split at h1
      · exact absurd h1 (by simp)
      · exact ih _ _ (wc_ne (wo_ne (fun e => h (List.append_eq_nil_iff.mp e).1))) h1
theorem ne_pwR {c : Nat → Nat} {N : Ps} : ∀ (f a : Nat) (Z R : List Tz), Z ≠ [] → pwR c N f a Z = some R → R ≠ [] := by
  intro f
  cases f with
  | zero => intro a Z R h h1; cases h1; exact h
  | succ f =>
    intro a Z R h h1
    unfold pwR at h1
    split at h1
    · split at h1
      · exact absurd h1 (by simp)
      · split at h1
        · exact absurd h1 (by simp)
        · cases h1
          exact wc_ne (fun e => wo_ne (fun e2 => h (List.append_eq_nil_iff.mp e2).1) (List.append_eq_nil_iff.mp e).1)
    · cases h1; exact h
theorem ne_pw {c : Nat → Nat} {N : Ps} (hN : NE N) : NE (pwP c N) := by
  intro a Z h
  unfold pwP at h
  split at h
  · exact absurd h (by simp)
  · rename_i h1
    exact ne_pwR _ _ _ _ (hN a _ h1) h
theorem ne_lv {c : Nat → Nat} {N : Ps} (hN : NE N) (lv : Nat) : NE (lvP c N lv) := by
  intro a Z h
  unfold lvP at h
  split at h
  · exact absurd h (by simp)
  · rename_i h1
    exact ne_ch _ _ _ _ (wc_ne (fun e => hN _ _ h1 (List.append_eq_nil_iff.mp e).2)) h
theorem ne_pr {c : Nat → Nat} {I : Option Ps} : NE (prP c I) := by
  intro a Z h
  unfold prP at h
  split at h
  · rename_i h1
    cases h
    refine zn_ne ?_
    have := expE_le c (numD c a)
    unfold numE
    rw [if_pos h1]
    omega
  · refine ne_or (ne_wd c (by decide)) (ne_or (ne_wd c (by decide)) (ne_or ?_ ?_)) a Z h
    · intro a Z h
      unfold qtP at h
      split at h
      · split at h
        · rename_i e he
          cases h
          have := qtN_lt c _ _ _ he
          exact zn_ne (by omega)
        · exact absurd h (by simp)
      · exact absurd h (by simp)
    · intro a Z h
      simp only at h
      split at h
      · unfold grP at h
        split at h
        · exact absurd h (by simp)
        · split at h
          · exact absurd h (by simp)
          · split at h
            · cases h; simp
            · exact absurd h (by simp)
      · unfold rfP at h
        split at h
        · split at h
          · split at h
            · exact absurd h (by simp)
            · split at h
              · cases h; simp
              · split at h
                · exact absurd h (by simp)
                · cases h; simp
          · cases h; simp
        · exact absurd h (by simp)
theorem ne_EL (c : Nat → Nat) (I : Option Ps) : ∀ k, NE (ELv c I k) := by
  intro k
  induction k with
  | zero => exact ne_pw ne_pr
  | succ k ih => exact ne_lv ih _
theorem ne_EX (c : Nat → Nat) (m : Nat) : NE (EX c m) := by rw [EX_eq]; exact ne_EL c _ _
section CLV
variable {c : Nat → Nat} {n : Nat}
theorem sr_loop {L : Nat → Int32 → Int32 → MS → Prop} {Q : (Int32 → MS → Prop) → MS → Prop} {p : Ps} {post : Int32 → MS → Prop} (hL : ∀ f x2 x3 u, L (f + 1) x2 x3 u = ((80 ≤ x3 → (narrow .boolean (.int x2) = .int x2 ∧ post x2 u)) ∧ (¬ 80 ≤ x3 → ((x2 = 0 → (narrow .boolean (.int x2) = .int x2 ∧ post x2 u)) ∧ (¬ x2 = 0 → P_T_take (fun r4 u3 => ((r4 = 0 → (narrow .boolean (.int x2) = .int x2 ∧ post x2 u3)) ∧ (¬ r4 = 0 → Q (fun r6 u5 => L f r6 (x3 + 1) u5) u3))) 23 u))))) (hQ : Tie c n p Q) {u : MS} {a : Nat} (pr : Pre c n u a) : ∀ (f k : Nat) (acc : List Tz) (v : MS), k + f = 80 → Ok n u v a acc → (∀ Z w, srR c p a f acc = some Z → Ok n u w a Z → post 1 w) → (∀ w, srR c p a f acc = none → Bad n u w a → post 0 w) → L (f + 1) 1 (nI k) v := by
  intro f
  induction f with
  | zero =>
    intro k acc v hk hv h1 h2
    rw [hL]
    exact ⟨fun _ => ⟨rfl, h1 acc v rfl hv⟩, fun h0 => absurd (nI_le (a := 80) (by omega) (by omega)) h0⟩
  | succ f ih =>
    intro k acc v hk hv h1 h2
    rw [hL]
    refine ⟨fun h0 => absurd h0 (nI_ge (b := 80) (by omega) (by omega)), fun _ => ⟨fun e => absurd e (by decide), fun _ => ?_⟩⟩
    refine take_tie (by decide) _ v (a + acc.length) (hv.pre pr) (fun Z w hZ hw => ⟨fun e => absurd e (by decide), fun _ => ?_⟩) (fun hZ => ⟨fun _ => ⟨rfl, ?_⟩, fun e => absurd rfl e⟩)
    · unfold wdP at hZ
      by_cases hs : st c (a + acc.length) (wS 23) = true
      · rw [if_pos hs] at hZ
        cases hZ
        have h3 := hv.app hw
        have e9 : a + (acc ++ zn (wS 23).length).length = a + acc.length + (wS 23).length := by rw [List.length_append, zn_len]; omega
        have h4 := h3.pre pr
        rw [e9] at h4
        refine hQ _ w _ h4 (fun Y w2 hY hw2 => ?_) (fun w2 hY hw2 => ?_)
        · rw [nI_1]
          refine ih (k + 1) (acc ++ (zn (wS 23).length ++ Y)) w2 (by omega) ?_ (fun Z3 w3 hZ3 hw3 => h1 Z3 w3 ?_ hw3) (fun w3 hZ3 hw3 => h2 w3 ?_ hw3)
          · rw [← List.append_assoc]
            refine h3.app ?_
            rw [e9]
            exact hw2
          · unfold srR
            rw [if_pos hs, hY]
            exact hZ3
          · unfold srR
            rw [if_pos hs, hY]
            exact hZ3
        · rw [← e9] at hw2
          have h5 := h2 w2 (by unfold srR; rw [if_pos hs, hY]) (h3.bad hw2)
          rw [hL]
          exact ⟨fun _ => ⟨rfl, h5⟩, fun _ => ⟨fun _ => ⟨rfl, h5⟩, fun e => absurd rfl e⟩⟩
      · rw [if_neg hs] at hZ
        exact absurd hZ (by simp)
    · refine h1 acc v ?_ hv
      unfold wdP at hZ
      unfold srR
      split at hZ
      · exact absurd hZ (by simp)
      · rename_i hs
        rw [if_neg hs]
theorem sr_fin {L : Nat → Int32 → Int32 → MS → Prop} {Q : (Int32 → MS → Prop) → MS → Prop} {p : Ps} {post : Int32 → MS → Prop} (hL : ∀ f x2 x3 u, L (f + 1) x2 x3 u = ((80 ≤ x3 → (narrow .boolean (.int x2) = .int x2 ∧ post x2 u)) ∧ (¬ 80 ≤ x3 → ((x2 = 0 → (narrow .boolean (.int x2) = .int x2 ∧ post x2 u)) ∧ (¬ x2 = 0 → P_T_take (fun r4 u3 => ((r4 = 0 → (narrow .boolean (.int x2) = .int x2 ∧ post x2 u3)) ∧ (¬ r4 = 0 → Q (fun r6 u5 => L f r6 (x3 + 1) u5) u3))) 23 u))))) (hQ : Tie c n p Q) {u : MS} {a : Nat} (pr : Pre c n u a) (h1 : ∀ Z w, srP c p a = some Z → Ok n u w a Z → post 1 w) (h2 : ∀ w, srP c p a = none → Bad n u w a → post 0 w) : Q (fun r u1 => ∃ g, L g r 0 u1) u := by
  refine hQ _ u a pr (fun Z w hZ hw => ⟨81, sr_loop hL hQ pr 80 0 Z w (by omega) hw (fun Y v hY hv => h1 Y v ?_ hv) (fun v hY hv => h2 v ?_ hv)⟩) (fun w hZ hw => ⟨1, ?_⟩)
  · unfold srP; rw [hZ]; exact hY
  · unfold srP; rw [hZ]; exact hY
  · have h5 := h2 w (by unfold srP; rw [hZ]) hw
    rw [hL]
    exact ⟨fun _ => ⟨rfl, h5⟩, fun _ => ⟨fun _ => ⟨rfl, h5⟩, fun e => absurd rfl e⟩⟩
theorem between_tie {lv : Nat} (h1 : 1 ≤ lv) (h6 : lv ≤ 6) : TieS c n (sgP c lv) (fun post u => P_S_takeSignBetween post (nI lv) u) := by
  rcases (by omega : lv = 1 ∨ lv = 2 ∨ lv = 3 ∨ lv = 4 ∨ lv = 5 ∨ lv = 6) with h | h | h | h | h | h <;> subst h <;> intro post u a p g1 g2 <;> unfold P_S_takeSignBetween
  · exact ⟨fun _ => (TieS.e2 (take_tie (by decide))) post u a p g1 g2, fun e => absurd rfl e⟩
  · exact ⟨fun e => absurd e (by decide), fun _ => ⟨fun _ => (TieS.e2 (take_tie (by decide))) post u a p g1 g2, fun e => absurd rfl e⟩⟩
  · exact ⟨fun e => absurd e (by decide), fun _ => ⟨fun e => absurd e (by decide), fun _ => ⟨fun _ => g2 rfl, fun e => absurd rfl e⟩⟩⟩
  · exact ⟨fun e => absurd e (by decide), fun _ => ⟨fun e => absurd e (by decide), fun _ => ⟨fun e => absurd e (by decide), fun _ => ⟨fun _ => TieS.or (take_tie (by decide)) (TieS.or (take_tie (by decide)) (TieS.or (take_tie (by decide)) (TieS.or (take_tie (by decide)) (TieS.or (take_tie (by decide)) (TieS.e1 (take_tie (by decide))))))) post u a p g1 g2, fun e => absurd rfl e⟩⟩⟩⟩
  · exact ⟨fun e => absurd e (by decide), fun _ => ⟨fun e => absurd e (by decide), fun _ => ⟨fun e => absurd e (by decide), fun _ => ⟨fun e => absurd e (by decide), fun _ => ⟨fun _ => TieS.or (take_tie (by decide)) (TieS.e1 (take_tie (by decide))) post u a p g1 g2, fun e => absurd rfl e⟩⟩⟩⟩⟩
  · exact ⟨fun e => absurd e (by decide), fun _ => ⟨fun e => absurd e (by decide), fun _ => ⟨fun e => absurd e (by decide), fun _ => ⟨fun e => absurd e (by decide), fun _ => ⟨fun e => absurd e (by decide), fun _ => ⟨fun _ => TieS.or (take_tie (by decide)) (TieS.e1 (take_tie (by decide))) post u a p g1 g2, fun e => absurd rfl e⟩⟩⟩⟩⟩⟩
theorem oc_app (X Y : List Tz) : oc (X ++ Y) = oc X + oc Y := by
  induction X with
  | nil => simp [oc]
  | cons t X ih => simp only [List.cons_append, oc, ih]; omega
theorem oc_zn (k : Nat) : oc (zn k) = 0 := by
  induction k with
  | zero => rfl
  | succ k ih => show 0 + oc (zn k) = 0; omega
/-- a sign taken, with a bracket before it -/
theorem Ok.sign {u v : MS} {a m : Nat} {Y : List Tz} (p : Pre c n u a) (h : Ok n u v a Y) (hm : a + Y.length + (m + 1) ≤ n) : Ok n u (sI (sA v 1 (a + Y.length) (gA v 1 (a + Y.length) + 1)) 5 (nI (a + Y.length + (m + 1)))) a (Y ++ ((1, 0, 0) :: zn m)) := by
  have p2 := h.pre p
  have h1 := Ok.skip p2 hm
  have h2 := Ok.wo h1 (zn_ne (by omega))
  have h3 := h.app h2
  exact h3
theorem nt_loop {post : Int32 → MS → Prop} {u : MS} {a : Nat} (p : Pre c n u a) : ∀ (f k : Nat) (Y : List Tz) (v : MS), k + f = 80 → Ok n u v a Y → (∀ w, Ok n u w a (Y ++ nt c f (a + Y.length)) → post (nI (oc (Y ++ nt c f (a + Y.length)))) w) → P_S_takeSignsBefore_53 post (f + 1) (nI 3) (nI (oc Y)) (nI k) v := by
  have h80 := p.1.1
  intro f
  induction f with
  | zero =>
    intro k Y v hk hv h
    unfold P_S_takeSignsBefore_53
    unfold nt at h
    rw [List.append_nil] at h
    exact ⟨fun _ => h v hv, fun h0 => absurd (nI_le (a := 80) (by omega) (by omega)) h0⟩
  | succ f ih =>
    intro k Y v hk hv h
    have hl := hv.1
    unfold P_S_takeSignsBefore_53
    unfold nt at h
    refine ⟨fun h0 => absurd h0 (nI_ge (b := 80) (by omega) (by omega)), fun _ => ⟨fun e => absurd rfl e, fun _ => ?_⟩⟩
    rw [hv.2.1]
    refine stands_of (hv.2.2.1.tx p.1) (by decide) (by omega) ?_
    by_cases hs : st c (a + Y.length) (wS 26) = true
    · rw [if_pos hs]
      rw [if_pos hs] at h
      refine ⟨fun e => absurd e (by decide), fun _ => ?_⟩
      have h4 := st_in p.1.2.2.2 (wS 26) _ (by decide +kernel) (wS_pos 26 (by decide)) hs
      rw [show (wS 26).length = 5 by decide +kernel] at h4
      rw [hv.2.1, nI_clamp (by omega), nI_1, nI_1, nI_5]
      refine ⟨p.1.vp (by omega), p.1.vp (by omega), ?_⟩
      have h5 := Ok.sign (m := 4) p hv h4
      have e1 : a + (Y ++ (1, 0, 0) :: zn 4).length = a + Y.length + 5 := by simp [zn]; omega
      have e2 : oc (Y ++ (1, 0, 0) :: zn 4) = oc Y + 1 := by rw [oc_app]; rfl
      have h6 := ih (k + 1) (Y ++ (1, 0, 0) :: zn 4) _ (by omega) h5 (fun w hw => by
        rw [e1, List.append_assoc] at hw ⊢
        exact h w hw)
      rw [e2] at h6
      exact h6
    · rw [if_neg hs]
      rw [if_neg hs, List.append_nil] at h
      exact ⟨fun _ => h v hv, fun e => absurd rfl e⟩
theorem before_of {lv : Nat} (h1 : 1 ≤ lv) (h6 : lv ≤ 6) {post : Int32 → MS → Prop} {u : MS} {a : Nat} (p : Pre c n u a) (h : ∀ w, Ok n u w a (pfP c lv a) → post (nI (oc (pfP c lv a))) w) : P_S_takeSignsBefore post (nI lv) u := by
  have h80 := p.1.1
  unfold P_S_takeSignsBefore
  unfold pfP at h
  have hlv : ∀ k, k < 7 → (nI lv = nI k ↔ lv = k) := fun k hk => nI_eq (by omega) (by omega)
  have h51 : ∀ (v : MS) (x : Int32), lv ≠ 3 → post x v → P_S_takeSignsBefore_51 post (nI lv) x v := fun v x h3 hq => ⟨1, fun _ => hq, fun _ => ⟨fun _ => hq, fun e => absurd ((hlv 3 (by decide)).mp e) h3⟩⟩
  refine ⟨fun h5 => ?_, fun h5 => ?_⟩
  · have h5' : lv ≠ 5 := fun e => h5 ((hlv 5 (by decide)).mpr e)
    rw [if_neg h5'] at h
    by_cases h3 : lv = 3
    · subst h3
      rw [if_pos rfl] at h
      exact ⟨81, nt_loop p 80 0 [] u (by omega) (Ok.nil p) h⟩
    · rw [if_neg h3] at h
      exact h51 u 0 h3 (h u (Ok.nil p))
  · have h5' : lv = 5 := (hlv 5 (by decide)).mp h5
    rw [if_pos h5'] at h
    have h25 : c a = 43 ∨ c a = 45 → P_S_takeSignsBefore_25 post (nI lv) 0 u := fun hc => by
      have hn : a < n := p.1.in (by omega)
      rw [if_pos hc] at h
      unfold P_S_takeSignsBefore_25
      rw [p.2.2.1, nI_clamp (by omega), nI_1]
      refine ⟨p.1.vp hn, p.1.vp hn, h51 _ _ (by omega) ?_⟩
      exact h _ (Ok.sign (m := 0) p (Ok.nil p) (by show a + 0 + (0 + 1) ≤ n; omega))
    refine isNext_of (x := 43) p (by decide) (by decide) ?_
    by_cases hc : c a = 43
    · rw [if_pos hc]
      exact ⟨fun _ => h25 (Or.inl hc), fun e => absurd e (by decide)⟩
    · rw [if_neg hc]
      refine ⟨fun e => absurd rfl e, fun _ => isNext_of (x := 45) p (by decide) (by decide) ?_⟩
      by_cases hc2 : c a = 45
      · rw [if_pos hc2]
        exact ⟨fun e => absurd e (by decide), fun _ => h25 (Or.inr hc2)⟩
      · rw [if_neg hc2]
        rw [if_neg (fun q => q.elim hc hc2)] at h
        exact ⟨fun _ => h51 u 0 (by omega) (h u (Ok.nil p)), fun e => absurd rfl e⟩
end CLV
