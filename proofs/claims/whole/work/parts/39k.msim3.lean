section MSK
variable {c : Nat → Nat} {n b a0 : Nat} {u0 : MS} {sh : List Nat} {nm : List Nx} {d : Nat} {post : Int32 → MS → Prop}
theorem prP_eq {I : Option Ps} {p : Nat} (h : ¬ p < numD c p) : prP c I p = if st c p (wS 19) = true then some (zn 6) else if st c p (wS 20) = true then some (zn 7) else match qtP c p with
  | some Z => some Z
  | none => if c p = 40 then grP c I p else rfP c I true p := by
  unfold prP
  rw [if_neg h]
  unfold orP wdP
  by_cases h19 : st c p (wS 19) = true
  · rw [if_pos h19, if_pos h19]; rfl
  · rw [if_neg h19, if_neg h19]
    by_cases h20 : st c p (wS 20) = true
    · rw [if_pos h20, if_pos h20]; rfl
    · rw [if_neg h20, if_neg h20]
      all_goals (cases qtP c p <;> rfl)
theorem cnd1 {m k : Nat} {X : List Tz} {fl : Nat} {S : List Fm} (hk : k = 8 ∨ k = 9) (h : d + dp S + (m + 1) = 8) : Cnd c a0 d m 1 ((k, X, fl) :: S) := by
  have hdp : dp ((k, X, fl) :: S) = dp S + 1 := by simp only [dp]; rw [if_pos (by omega)]
  have hm : may ((k, X, fl) :: S) = 2 := by simp only [may]; rw [if_neg (by omega), if_neg (by omega)]
  exact ⟨by rw [hdp]; omega, Or.inr (by show 8 ≤ k; omega), fun _ => hm, fun _ => by rw [hm]; decide, fun q => by omega, fun q => by omega⟩
/-- what is behind an element of a list -/
theorem ls_sim {Fl : Prop} {m : Nat} {E : Ps} {S : List Fm} {B : List Tz} {p1 : Nat} (o : Os c n b u0 a0 sh nm) (hF : Fl → ∀ v, Of c u0 v sh nm → post 0 v) (hE : Sm c n b a0 u0 sh nm Fl d post m 1 E) (hdp : d + dp S + (m + 1) = 8) (hp1 : p1 = a0 + (seg S).length + B.length) : ∀ (f : Nat) (acc X0 Zl : List Tz) (fl : Nat), X0 ++ Zl = B ++ acc → n ≤ p1 + acc.length + f → (srR c E p1 f acc = none → Fl → ∀ S' y, Pend c a0 1 ((9, X0, fl) :: S) S' y Zl → Hv c n b a0 u0 sh nm d post S' y) ∧ (∀ A, srR c E p1 f acc = some A → (¬ c (p1 + A.length) = 41 → Fl → ∀ S' y, Pend c a0 1 ((9, X0, fl) :: S) S' y Zl → Hv c n b a0 u0 sh nm d post S' y) ∧ (c (p1 + A.length) = 41 → Hv c n b a0 u0 sh nm d post S (B ++ (A ++ zn 1)) → ∀ S' y, Pend c a0 1 ((9, X0, fl) :: S) S' y Zl → Hv c n b a0 u0 sh nm d post S' y)) := by
  have hz := o.1.2.2.2.2.2
  have e23 : wS 23 = [44] := by decide +kernel
  -- one state, given what is due
  have go : ∀ (acc X0 Zl : List Tz) (fl : Nat), X0 ++ Zl = B ++ acc → (¬ c (p1 + acc.length) = 41 → ¬ c (p1 + acc.length) = 44 → Fl) → (c (p1 + acc.length) = 41 → Hv c n b a0 u0 sh nm d post S (B ++ (acc ++ zn 1))) → (c (p1 + acc.length) = 44 → Wn c n b a0 u0 sh nm d post ((9, B ++ (acc ++ zn 1), 1) :: S)) → ∀ S' y, Pend c a0 1 ((9, X0, fl) :: S) S' y Zl → Hv c n b a0 u0 sh nm d post S' y := by
    intro acc X0 Zl fl hX hfl h41 h44 S' y hP
    obtain ⟨q1, q2, q3, q4, q5⟩ := hP
    have hfy : fY (9, X0, fl) = X0 := rfl
    have hlen : a0 + (seg ((9, X0, fl) :: S) ++ Zl).length = p1 + acc.length := by
      show a0 + ((seg S ++ X0) ++ Zl).length = _
      rw [List.append_assoc, hX, List.length_append, List.length_append, hp1]
      omega
    rw [hlen] at q5
    have hred : redV 1 S' y = (Zl, (9, X0, fl) :: S) := by
      rw [q1 1 (by decide) (by decide)]
      show (if (9 : Nat) < 8 ∧ 1 ≤ 9 then _ else _) = _
      rw [if_neg (by decide)]
    have eX : X0 ++ (Zl ++ zn 1) = B ++ (acc ++ zn 1) := by rw [← List.append_assoc, hX, List.append_assoc]
    refine H_of (p := p1 + acc.length) o (by rw [q4]; exact hlen.symm) (fun _ q S'' e n41 n44 v hv => ?_) (fun g1 g2 => ?_) (fun _ => ?_)
    · rw [hred] at e
      have e1 : (9, X0, fl) = q := (List.cons.inj e).1
      subst e1
      exact hF (hfl n41 (fun h => n44 ⟨rfl, h⟩)) v hv
    · rcases q5 with q | q
      · omega
      · exact absurd q g2
    · rw [hred]
      refine ⟨fun e => absurd e (by simp), fun q S'' e => ?_⟩
      have e1 : (9, X0, fl) = q := (List.cons.inj e).1
      have e2 : S = S'' := (List.cons.inj e).2
      subst e1 e2
      refine ⟨fun e => absurd (show (9 : Nat) = 8 from e) (by decide), fun _ h => ?_, fun _ h => ?_⟩
      · show Hv c n b a0 u0 sh nm d post S (X0 ++ (Zl ++ zn 1))
        rw [eX]
        exact h41 h
      · show Wn c n b a0 u0 sh nm d post ((9, X0 ++ (Zl ++ zn 1), 1) :: S)
        rw [eX]
        exact h44 h
  intro f
  induction f with
  | zero =>
    intro acc X0 Zl fl hX hn
    have h0 := hz (p1 + acc.length) (by omega)
    refine ⟨fun h => absurd h (by simp [srR]), fun A hA => ?_⟩
    unfold srR at hA
    cases hA
    exact ⟨fun _ q => go acc X0 Zl fl hX (fun _ _ => q) (fun e => by omega) (fun e => by omega), fun e => by omega⟩
  | succ f ih =>
    intro acc X0 Zl fl hX hn
    unfold srR
    have hs : st c (p1 + acc.length) (wS 23) = true ↔ c (p1 + acc.length) = 44 := by rw [e23]; simp [st]
    have e1 : (wS 23).length = 1 := by rw [e23]; rfl
    by_cases h44 : c (p1 + acc.length) = 44
    · rw [if_pos (hs.mpr h44), e1]
      have hpos : a0 + (seg ((9, B ++ (acc ++ zn 1), 1) :: S)).length = p1 + acc.length + 1 := by
        show a0 + (seg S ++ (B ++ (acc ++ zn 1))).length = _
        simp only [List.length_append, zn_len]
        omega
      have step := hE ((9, B ++ (acc ++ zn 1), 1) :: S) (cnd1 (Or.inr rfl) hdp)
      rw [hpos] at step
      have go2 : Wn c n b a0 u0 sh nm d post ((9, B ++ (acc ++ zn 1), 1) :: S) → ∀ S' y, Pend c a0 1 ((9, X0, fl) :: S) S' y Zl → Hv c n b a0 u0 sh nm d post S' y := fun hW => go acc X0 Zl fl hX (fun _ e => absurd h44 e) (fun e => by omega) (fun _ => hW)
      cases hZ : E (p1 + acc.length + 1) with
      | none => exact ⟨fun _ q => go2 (step.1 hZ q), fun A hA => absurd hA (by simp)⟩
      | some Z =>
        simp only
        have rc := ih (acc ++ (zn 1 ++ Z)) (B ++ (acc ++ zn 1)) Z 1 (by simp) (by simp only [List.length_append, zn_len]; omega)
        exact ⟨fun h q => go2 (step.2 Z hZ (rc.1 h q)), fun A hA => ⟨fun h q => go2 (step.2 Z hZ ((rc.2 A hA).1 h q)), fun h hH => go2 (step.2 Z hZ ((rc.2 A hA).2 h hH))⟩⟩
    · rw [if_neg (fun q => h44 (hs.mp q))]
      refine ⟨fun h => absurd h (by simp), fun A hA => ?_⟩
      cases hA
      exact ⟨fun h q => go acc X0 Zl fl hX (fun _ _ => q) (fun e => absurd e h) (fun e => absurd e h44), fun h hH => go acc X0 Zl fl hX (fun e => absurd h e) (fun _ => hH) (fun e => absurd e h44)⟩
theorem rf_eq {E : Ps} {p : Nat} (hl : lr (c p) = true) (h40 : c (alN c 6 p) = 40) : rfP c (some E) true p = if c (alN c 6 p + 1) = 41 then some (nmZ c 3 p ++ zn 2) else match E (alN c 6 p + 1) with
  | none => none
  | some Z => match srR c E (alN c 6 p + 1) 80 Z with
    | none => none
    | some A => if c (alN c 6 p + 1 + A.length) = 41 then some ((nmZ c 3 p ++ zn 1) ++ (A ++ zn 1)) else none := by
  have e21 : wS 21 = [40, 41] := by decide +kernel
  have e22 : wS 22 = [40] := by decide +kernel
  have e24 : wS 24 = [41] := by decide +kernel
  unfold rfP
  rw [if_pos hl, if_pos h40]
  simp only
  have hs : (true && st c (alN c 6 p) (wS 21)) = true ↔ c (alN c 6 p + 1) = 41 := by rw [e21]; simp [st, h40]
  by_cases h41 : c (alN c 6 p + 1) = 41
  · rw [if_pos (hs.mpr h41), if_pos h41, e21]
    rfl
  · rw [if_neg (fun q => h41 (hs.mp q)), if_neg h41]
    have w22 : wdP c 22 (alN c 6 p) = some (zn 1) := by
      unfold wdP
      rw [e22]
      rw [if_pos (by simp [st, h40])]
      rfl
    cases hZ : E (alN c 6 p + 1) with
    | none =>
      have : lsP c E (alN c 6 p) = none := by
        unfold lsP
        refine sq_none w22 (sq_none0 ?_)
        unfold srP
        rw [show alN c 6 p + (zn 1).length = alN c 6 p + 1 from rfl, hZ]
      rw [this]
    | some Z =>
      simp only
      cases hA : srR c E (alN c 6 p + 1) 80 Z with
      | none =>
        have : lsP c E (alN c 6 p) = none := by
          unfold lsP
          refine sq_none w22 (sq_none0 ?_)
          unfold srP
          rw [show alN c 6 p + (zn 1).length = alN c 6 p + 1 from rfl, hZ]
          exact hA
        rw [this]
      | some A =>
        simp only
        have hsr : srP c E (alN c 6 p + (zn 1).length) = some A := by
          unfold srP
          rw [show alN c 6 p + (zn 1).length = alN c 6 p + 1 from rfl, hZ]
          exact hA
        by_cases hc : c (alN c 6 p + 1 + A.length) = 41
        · rw [if_pos hc]
          have w24 : wdP c 24 (alN c 6 p + (zn 1).length + A.length) = some (zn 1) := by
            unfold wdP
            rw [e24, show alN c 6 p + (zn 1).length = alN c 6 p + 1 from rfl, if_pos (by simp [st, hc])]
            rfl
          have : lsP c E (alN c 6 p) = some (zn 1 ++ (A ++ zn 1)) := sq_some w22 (sq_some hsr w24)
          rw [this]
          simp
        · rw [if_neg hc]
          have w24 : wdP c 24 (alN c 6 p + (zn 1).length + A.length) = none := by
            unfold wdP
            rw [e24, show alN c 6 p + (zn 1).length = alN c 6 p + 1 from rfl, if_neg (by simp [st, hc])]
          have : lsP c E (alN c 6 p) = none := sq_none w22 (sq_none hsr w24)
          rw [this]
theorem prim_sim {Fl : Prop} {m : Nat} {I : Option Ps} (o : Os c n b u0 a0 sh nm) (hF : Fl → ∀ v, Of c u0 v sh nm → post 0 v) (hI : (m = 0 ∧ I = none) ∨ ∃ m' E, m = m' + 1 ∧ I = some E ∧ Sm c n b a0 u0 sh nm Fl d post m' 1 E) : Sp c n b a0 u0 sh nm Fl d post m (prP c I) := by
  intro S hdp hnot hpm
  have h80 := o.1.1
  by_cases hn : a0 + (seg S).length < numD c (a0 + (seg S).length)
  · have hn' := num_n' hn
    have e : prP c I (a0 + (seg S).length) = some (zn (numE c (a0 + (seg S).length) - (a0 + (seg S).length))) := by unfold prP; rw [if_pos hn]
    rw [e]
    refine ⟨fun h => absurd h (by simp), fun Z hZ hH => ?_⟩
    cases hZ
    refine W_of o rfl (by omega) (fun hB => absurd hn' hB.1) (fun _ => hH) (fun q => absurd hn' q) (fun q => absurd hn' (num_no (by omega))) (fun q => absurd hn' (num_no (by omega))) (fun q => absurd hn' q) (fun q r => absurd q (hnot r)) (fun q r => absurd q (hpm r))
  · have hn' : ¬ a0 + (seg S).length < numE c (a0 + (seg S).length) := fun q => hn (num_n q)
    have wof := fun (hb : wBad c (d + dp S) S (a0 + (seg S).length) → Fl) (h2 : lr (c (a0 + (seg S).length)) = true → (¬ c (alN c 6 (a0 + (seg S).length)) = 40 → Hv c n b a0 u0 sh nm d post S (nmZ c 4 (a0 + (seg S).length))) ∧ (c (alN c 6 (a0 + (seg S).length)) = 40 → d + dp S < 8 → (c (alN c 6 (a0 + (seg S).length) + 1) = 41 → Hv c n b a0 u0 sh nm d post S (nmZ c 3 (a0 + (seg S).length) ++ zn 2)) ∧ (¬ c (alN c 6 (a0 + (seg S).length) + 1) = 41 → Wn c n b a0 u0 sh nm d post ((9, nmZ c 3 (a0 + (seg S).length) ++ zn 1, 0) :: S)))) (h3 : c (a0 + (seg S).length) = 39 → ∀ e, qtN c 81 (a0 + (seg S).length + 1) = some e → Hv c n b a0 u0 sh nm d post S (zn (e - (a0 + (seg S).length)))) (h4 : c (a0 + (seg S).length) = 40 → d + dp S < 8 → Wn c n b a0 u0 sh nm d post ((8, [], 0) :: S)) (h5 : ∀ m, (st c (a0 + (seg S).length) (wS 19) = true ∧ m = 6 ∨ st c (a0 + (seg S).length) (wS 20) = true ∧ m = 7) → Hv c n b a0 u0 sh nm d post S (zn m)) => W_of (post := post) o rfl (by omega) (fun hB => hF (hb hB)) (fun q => absurd q hn') (fun _ q => h2 q) h3 h4 (fun _ _ m q => h5 m q) (fun q r => absurd q (hnot r)) (fun q r => absurd q (hpm r))
    rw [prP_eq hn]
    by_cases h19 : st c (a0 + (seg S).length) (wS 19) = true
    · rw [if_pos h19]
      have hc : c (a0 + (seg S).length) = 46 := st1 (w := [84, 82, 85, 69, 46]) h19
      have nb : ¬ wBad c (d + dp S) S (a0 + (seg S).length) := by
        rintro ⟨_, ⟨q, _⟩ | ⟨q, _⟩ | ⟨q, _⟩ | ⟨_, _, _, q, _⟩⟩
        · have := lr_c q; omega
        · omega
        · omega
        · exact q (dt20.mpr (Or.inl h19))
      refine ⟨fun h => absurd h (by simp), fun Z hZ hH => wof (fun q => absurd q nb) (fun q => ?_) (fun q => by omega) (fun q => by omega) (fun m q => ?_)⟩
      · have := lr_c q; omega
      · cases hZ
        rcases q with q | q
        · rw [q.2]; exact hH
        · have e1 : c (a0 + (seg S).length + 1) = 84 := by
            have h := h19
            rw [show wS 19 = [46, 84, 82, 85, 69, 46] by decide +kernel] at h
            simp only [st, Bool.and_eq_true, decide_eq_true_eq] at h
            exact h.2.1
          have e2 : c (a0 + (seg S).length + 1) = 70 := by
            have h := q.1
            rw [show wS 20 = [46, 70, 65, 76, 83, 69, 46] by decide +kernel] at h
            simp only [st, Bool.and_eq_true, decide_eq_true_eq] at h
            exact h.2.1
          omega
    · rw [if_neg h19]
      by_cases h20 : st c (a0 + (seg S).length) (wS 20) = true
      · rw [if_pos h20]
        have hc : c (a0 + (seg S).length) = 46 := st1 (w := [70, 65, 76, 83, 69, 46]) h20
        have nb : ¬ wBad c (d + dp S) S (a0 + (seg S).length) := by
          rintro ⟨_, ⟨q, _⟩ | ⟨q, _⟩ | ⟨q, _⟩ | ⟨_, _, _, q, _⟩⟩
          · have := lr_c q; omega
          · omega
          · omega
          · exact q (dt20.mpr (Or.inr h20))
        refine ⟨fun h => absurd h (by simp), fun Z hZ hH => wof (fun q => absurd q nb) (fun q => ?_) (fun q => by omega) (fun q => by omega) (fun m q => ?_)⟩
        · have := lr_c q; omega
        · cases hZ
          rcases q with q | q
          · exact absurd q.1 h19
          · rw [q.2]; exact hH
      · rw [if_neg h20]
        have h5 : ∀ m, (st c (a0 + (seg S).length) (wS 19) = true ∧ m = 6 ∨ st c (a0 + (seg S).length) (wS 20) = true ∧ m = 7) → Hv c n b a0 u0 sh nm d post S (zn m) := fun m q => by
          rcases q with q | q
          · exact absurd q.1 h19
          · exact absurd q.1 h20
        by_cases h39 : c (a0 + (seg S).length) = 39
        · have hq : qtP c (a0 + (seg S).length) = match qtN c 81 (a0 + (seg S).length + 1) with
            | some e => some (zn (e - (a0 + (seg S).length)))
            | none => none := by
              unfold qtP
              rw [if_pos h39]
              all_goals (cases qtN c 81 (a0 + (seg S).length + 1) <;> rfl)
          have hlr : ¬ lr (c (a0 + (seg S).length)) = true := fun q => by have := lr_c q; omega
          cases he : qtN c 81 (a0 + (seg S).length + 1) with
          | none =>
            rw [he] at hq
            simp only at hq
            rw [hq]
            simp only
            rw [if_neg (by omega)]
            have hr : rfP c I true (a0 + (seg S).length) = none := by unfold rfP; rw [if_neg hlr]
            rw [hr]
            exact ⟨fun _ fl => wof (fun _ => fl) (fun q => absurd q hlr) (fun _ e q => by rw [he] at q; exact absurd q (by simp)) (fun q => by omega) h5, fun Z hZ => absurd hZ (by simp)⟩
          | some e =>
            rw [he] at hq
            simp only at hq
            rw [hq]
            simp only
            have nb : ¬ wBad c (d + dp S) S (a0 + (seg S).length) := by
              rintro ⟨_, ⟨q, _⟩ | ⟨_, q⟩ | ⟨q, _⟩ | ⟨_, q, _⟩⟩
              · exact hlr q
              · rw [he] at q; exact absurd q (by simp)
              · omega
              · exact q h39
            refine ⟨fun h => absurd h (by simp), fun Z hZ hH => wof (fun q => absurd q nb) (fun q => absurd q hlr) (fun _ e' q => ?_) (fun q => by omega) h5⟩
            cases hZ
            rw [he] at q
            cases q
            exact hH
        · have hq : qtP c (a0 + (seg S).length) = none := by unfold qtP; rw [if_neg h39]
          rw [hq]
          simp only
          have h3 : c (a0 + (seg S).length) = 39 → ∀ e, qtN c 81 (a0 + (seg S).length + 1) = some e → Hv c n b a0 u0 sh nm d post S (zn (e - (a0 + (seg S).length))) := fun q => absurd q h39
          by_cases h40 : c (a0 + (seg S).length) = 40
          · rw [if_pos h40]
            have hlr : ¬ lr (c (a0 + (seg S).length)) = true := fun q => by have := lr_c q; omega
            rcases hI with ⟨hm, rfl⟩ | ⟨m', E, hm, rfl, hE⟩
            · have : grP c none (a0 + (seg S).length) = none := rfl
              rw [this]
              exact ⟨fun _ fl => wof (fun _ => fl) (fun q => absurd q hlr) h3 (fun _ q => by omega) h5, fun Z hZ => absurd hZ (by simp)⟩
            · subst hm
              have hpos : a0 + (seg ((8, [], 0) :: S)).length = a0 + (seg S).length + 1 := by
                show a0 + (seg S ++ [((0, 5, 0) : Tz)]).length = _
                rw [List.length_append]
                rfl
              have step := hE ((8, [], 0) :: S) (cnd1 (Or.inl rfl) hdp)
              rw [hpos] at step
              have nb : ¬ wBad c (d + dp S) S (a0 + (seg S).length) := by
                rintro ⟨_, ⟨q, _⟩ | ⟨q, _⟩ | ⟨_, q⟩ | ⟨_, _, q, _⟩⟩
                · exact hlr q
                · exact h39 q
                · omega
                · exact q h40
              have go : Wn c n b a0 u0 sh nm d post ((8, [], 0) :: S) → Wn c n b a0 u0 sh nm d post S := fun hW => wof (fun q => absurd q nb) (fun q => absurd q hlr) h3 (fun _ _ => hW) h5
              unfold grP
              simp only
              cases hZ : E (a0 + (seg S).length + 1) with
              | none => exact ⟨fun _ fl => go (step.1 hZ fl), fun Z h => absurd h (by simp)⟩
              | some Z =>
                simp only
                have fin : (¬ c (a0 + (seg S).length + 1 + Z.length) = 41 → Fl) → (c (a0 + (seg S).length + 1 + Z.length) = 41 → Hv c n b a0 u0 sh nm d post S ((0, 5, 0) :: (Z ++ [(0, 5, 0)]))) → Wn c n b a0 u0 sh nm d post S := by
                  intro hfl h41
                  refine go (step.2 Z hZ (fun S' y hP => ?_))
                  obtain ⟨q1, q2, q3, q4, q5⟩ := hP
                  have hlen : a0 + (seg ((8, [], 0) :: S) ++ Z).length = a0 + (seg S).length + 1 + Z.length := by
                    rw [List.length_append]
                    omega
                  rw [hlen] at q5
                  have hred : redV 1 S' y = (Z, (8, [], 0) :: S) := by
                    rw [q1 1 (by decide) (by decide)]
                    show (if (8 : Nat) < 8 ∧ 1 ≤ 8 then _ else _) = _
                    rw [if_neg (by decide)]
                  refine H_of (p := a0 + (seg S).length + 1 + Z.length) o (by rw [q4]; exact hlen.symm) (fun _ q S'' e n41 n44 v hv => hF (hfl n41) v hv) (fun g1 g2 => ?_) (fun _ => ?_)
                  · rcases q5 with q | q
                    · omega
                    · exact absurd q g2
                  · rw [hred]
                    refine ⟨fun e => absurd e (by simp), fun q S'' e => ?_⟩
                    have e1 : (8, [], 0) = q := (List.cons.inj e).1
                    have e2 : S = S'' := (List.cons.inj e).2
                    subst e1 e2
                    exact ⟨fun _ h => h41 h, fun e => absurd (show (8 : Nat) = 9 from e) (by decide), fun e => absurd (show (8 : Nat) = 9 from e) (by decide)⟩
                by_cases h41 : c (a0 + (seg S).length + 1 + Z.length) = 41
                · rw [if_pos h41]
                  refine ⟨fun h => absurd h (by simp), fun Z' hZ' hH => fin (fun q => absurd h41 q) (fun _ => ?_)⟩
                  cases hZ'
                  exact hH
                · rw [if_neg h41]
                  exact ⟨fun _ fl => fin (fun _ => fl) (fun e => absurd e h41), fun Z' h => absurd h (by simp)⟩
          · rw [if_neg h40]
            have h4 : c (a0 + (seg S).length) = 40 → d + dp S < 8 → Wn c n b a0 u0 sh nm d post ((8, [], 0) :: S) := fun q => absurd q h40
            by_cases hlr : lr (c (a0 + (seg S).length)) = true
            · by_cases hpar : c (alN c 6 (a0 + (seg S).length)) = 40
              · rcases hI with ⟨hm, rfl⟩ | ⟨m', E, hm, rfl, hE⟩
                · have : rfP c none true (a0 + (seg S).length) = none := by
                    unfold rfP
                    rw [if_pos hlr, if_pos hpar]
                  rw [this]
                  exact ⟨fun _ fl => wof (fun _ => fl) (fun _ => ⟨fun q => absurd hpar q, fun _ q => by omega⟩) h3 h4 h5, fun Z hZ => absurd hZ (by simp)⟩
                · subst hm
                  have nb : ¬ wBad c (d + dp S) S (a0 + (seg S).length) := by
                    rintro ⟨_, ⟨_, _, q⟩ | ⟨q, _⟩ | ⟨q, _⟩ | ⟨q, _⟩⟩
                    · omega
                    · exact h39 q
                    · exact h40 q
                    · exact q hlr
                  rw [rf_eq hlr hpar]
                  by_cases h41 : c (alN c 6 (a0 + (seg S).length) + 1) = 41
                  · rw [if_pos h41]
                    refine ⟨fun h => absurd h (by simp), fun Z hZ hH => wof (fun q => absurd q nb) (fun _ => ⟨fun q => absurd hpar q, fun _ _ => ⟨fun _ => ?_, fun q => absurd h41 q⟩⟩) h3 h4 h5⟩
                    cases hZ
                    exact hH
                  · rw [if_neg h41]
                    have el := nmZ_len (role := 3) hlr
                    have hB : alN c 6 (a0 + (seg S).length) + 1 = a0 + (seg S).length + (nmZ c 3 (a0 + (seg S).length) ++ zn 1).length := by
                      rw [List.length_append, zn_len]
                      omega
                    have hpos : a0 + (seg ((9, nmZ c 3 (a0 + (seg S).length) ++ zn 1, 0) :: S)).length = alN c 6 (a0 + (seg S).length) + 1 := by
                      show a0 + (seg S ++ (nmZ c 3 (a0 + (seg S).length) ++ zn 1)).length = _
                      rw [List.length_append, hB]
                      omega
                    have step := hE ((9, nmZ c 3 (a0 + (seg S).length) ++ zn 1, 0) :: S) (cnd1 (Or.inr rfl) hdp)
                    rw [hpos] at step
                    have go : Wn c n b a0 u0 sh nm d post ((9, nmZ c 3 (a0 + (seg S).length) ++ zn 1, 0) :: S) → Wn c n b a0 u0 sh nm d post S := fun hW => wof (fun q => absurd q nb) (fun _ => ⟨fun q => absurd hpar q, fun _ _ => ⟨fun q => absurd q h41, fun _ => hW⟩⟩) h3 h4 h5
                    cases hZ : E (alN c 6 (a0 + (seg S).length) + 1) with
                    | none => exact ⟨fun _ fl => go (step.1 hZ fl), fun Z h => absurd h (by simp)⟩
                    | some Z =>
                      simp only
                      have ls := ls_sim (post := post) o hF hE hdp hB 80 Z (nmZ c 3 (a0 + (seg S).length) ++ zn 1) Z 0 rfl (by omega)
                      cases hA : srR c E (alN c 6 (a0 + (seg S).length) + 1) 80 Z with
                      | none => exact ⟨fun _ fl => go (step.2 Z hZ (ls.1 hA fl)), fun Z h => absurd h (by simp)⟩
                      | some A =>
                        simp only
                        by_cases hc : c (alN c 6 (a0 + (seg S).length) + 1 + A.length) = 41
                        · rw [if_pos hc]
                          refine ⟨fun h => absurd h (by simp), fun R hR hH => go (step.2 Z hZ ((ls.2 A hA).2 hc ?_))⟩
                          cases hR
                          exact hH
                        · rw [if_neg hc]
                          exact ⟨fun _ fl => go (step.2 Z hZ ((ls.2 A hA).1 hc fl)), fun R h => absurd h (by simp)⟩
              · have : rfP c I true (a0 + (seg S).length) = some (nmZ c 4 (a0 + (seg S).length)) := by
                  unfold rfP
                  rw [if_pos hlr, if_neg hpar]
                rw [this]
                have nb : ¬ wBad c (d + dp S) S (a0 + (seg S).length) := by
                  rintro ⟨_, ⟨_, q, _⟩ | ⟨q, _⟩ | ⟨q, _⟩ | ⟨q, _⟩⟩
                  · exact hpar q
                  · exact h39 q
                  · exact h40 q
                  · exact q hlr
                refine ⟨fun h => absurd h (by simp), fun Z hZ hH => wof (fun q => absurd q nb) (fun _ => ⟨fun _ => ?_, fun q => absurd q hpar⟩) h3 h4 h5⟩
                cases hZ
                exact hH
            · have : rfP c I true (a0 + (seg S).length) = none := by unfold rfP; rw [if_neg hlr]
              rw [this]
              exact ⟨fun _ fl => wof (fun _ => fl) (fun q => absurd q hlr) h3 h4 h5, fun Z hZ => absurd hZ (by simp)⟩
theorem EX_sim {Fl : Prop} (o : Os c n b u0 a0 sh nm) (hF : Fl → ∀ v, Of c u0 v sh nm → post 0 v) : ∀ m, Sm c n b a0 u0 sh nm Fl d post m 1 (EX c m) := by
  have lev : ∀ m, Sp c n b a0 u0 sh nm Fl d post m (prP c (IX c m)) → ∀ j, j ≤ 6 → Sm c n b a0 u0 sh nm Fl d post m (7 - j) (ELv c (IX c m) j) := by
    intro m hp j
    induction j with
    | zero => intro _; exact pwP_sim o hp ne_pr
    | succ j ih =>
      intro hj
      have h1 := ih (by omega)
      rw [show 7 - j = (6 - j) + 1 by omega] at h1
      rw [show 7 - (j + 1) = 6 - j by omega]
      exact lv_sim o (by omega) (by omega) h1 (ne_EL c _ _)
  intro m
  induction m with
  | zero =>
    rw [EX_eq]
    exact lev 0 (prim_sim o hF (Or.inl ⟨rfl, rfl⟩)) 6 (by decide)
  | succ m ih =>
    rw [EX_eq]
    exact lev (m + 1) (prim_sim o hF (Or.inr ⟨m, EX c m, rfl, rfl, ih⟩)) 6 (by decide)
theorem expr_tieM {m d : Nat} (hd : d + m = 8) : TieM c n b 0 (EX c m) (fun post u => P_M_expression post (nI d) u) := by
  intro post u a sh nm o h1 h2
  -- the first state
  have hRW : RW c n b a u sh nm (sI (sI (sI u 18 (0 : Int32)) 25 (0 : Int32)) 27 (0 : Int32)) [] := by
    refine ⟨⟨(((KM.refl u).i _ rfl).i _ rfl).i _ rfl, o.2.1, o.2.2.1, o.2.2.2.1.1, o.2.2.2.1.2.2, ?_, ?_⟩, 0, 0, ⟨rfl, rfl⟩, rfl, rfl, rfl⟩
    · show gI u 12 = nI (nm ++ []).length
      rw [List.append_nil]
      exact o.2.2.2.2.1
    · show Nm c u (nm ++ [])
      rw [List.append_nil]
      exact o.2.2.2.2.2.2
  have hC : Cnd c a d m 1 [] := ⟨hd, trivial, fun _ => rfl, fun _ => by decide, fun q => by omega, fun q => by omega⟩
  unfold P_M_expression
  refine ⟨301, ?_⟩
  have use : Wn c n b a u sh nm d post [] → P_M_expression_25 post 301 (nI d) 2 1 0 (sI (sI (sI u 18 (0 : Int32)) 25 (0 : Int32)) 27 (0 : Int32)) := fun hW => hW 0 _ (Nat.zero_le _) hRW
  cases hZ : EX c m a with
  | none =>
    exact use ((EX_sim (Fl := True) (d := d) (post := post) o (fun _ v hv => h2 v hZ hv) m [] hC).1 hZ trivial)
  | some Z =>
    refine use ((EX_sim (Fl := False) (d := d) (post := post) o (fun q => q.elim) m [] hC).2 Z hZ (fun S' y hP => ?_))
    obtain ⟨q1, q2, q3, q4, q5⟩ := hP
    have hred : redV 1 S' y = (Z, []) := q1 1 (by decide) (by decide)
    have hlen : a + (seg ([] : List Fm) ++ Z).length = a + Z.length := rfl
    rw [hlen] at q5
    refine H_of (p := a + Z.length) o (by rw [q4]; rfl) (fun _ q S'' e => by rw [hred] at e; exact absurd e (by simp)) (fun g1 g2 => ?_) (fun _ => ?_)
    · rcases q5 with q | q
      · omega
      · exact absurd q g2
    · rw [hred]
      exact ⟨fun _ v k ov => h1 Z v hZ k ov, fun q S'' e => absurd e (by simp)⟩
end MSK
