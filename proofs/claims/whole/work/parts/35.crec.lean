section CRC
variable {c : Nat → Nat} {n : Nat}
abbrev PEt : Type := (Int32 → MS → Prop) → Int32 → Int32 → MS → Prop
/-- the chain at a level -/
theorem ch_loop {PE : PEt} {N : Ps} {lv d : Nat} (h1 : 1 ≤ lv) (h6 : lv ≤ 6) (hN : Tie c n N (fun post u => PE post (nI (lv + 1)) (nI d) u)) {post : Int32 → MS → Prop} {u : MS} {a : Nat} (p : Pre c n u a) {most : Nat} (hm : most ≤ 80) : ∀ (f k : Nat) (acc : List Tz) (v : MS), k + f = most → acc ≠ [] → Ok n u v a acc → (∀ Z w, chR (sgP c lv) N a f acc = some Z → Ok n u w a Z → post 1 w) → (∀ w, chR (sgP c lv) N a f acc = none → Bad n u w a → post 0 w) → P_S_expressionB_59 post PE (f + 1) (nI lv) (nI d) (nI a) (nI most) (nI k) v := by
  have h80 := p.1.1
  intro f
  induction f with
  | zero =>
    intro k acc v hk hne hv g1 g2
    exact ⟨fun _ => g1 acc v rfl hv, fun h0 => absurd (nI_le (by omega) (by omega)) h0⟩
  | succ f ih =>
    intro k acc v hk hne hv g1 g2
    have hpos : 0 < acc.length := List.length_pos_iff.mpr hne
    have hv1 := hv.1
    refine ⟨fun h0 => absurd h0 (nI_ge (by omega) (by omega)), fun _ => ?_⟩
    unfold chR at g1 g2
    refine between_tie h1 h6 _ v (a + acc.length) (hv.pre p) (fun Y w hY hw => ⟨fun e => absurd e (by decide), fun _ => ?_⟩) (fun hY => ⟨fun _ => g1 acc v (by rw [hY]) hv, fun e => absurd rfl e⟩)
    rw [nI_1 lv]
    have h3 := hv.app hw
    have e9 : a + (acc ++ Y).length = a + acc.length + Y.length := by rw [List.length_append]; omega
    have p3 := h3.pre p
    rw [e9] at p3
    rw [hY] at g1 g2
    refine hN _ w _ p3 (fun Z w2 hZ hw2 => ⟨fun _ => ?_, fun e => absurd e (by decide)⟩) (fun w2 hZ hw2 => ⟨fun e => absurd rfl e, fun _ => ?_⟩)
    · rw [nI_clamp (by omega)]
      refine ⟨p.1.vp (by omega), p.1.vp (by omega), ?_⟩
      rw [← e9] at hw2
      have h4 := h3.app hw2
      rw [List.append_assoc] at h4
      have hne2 : acc ++ (Y ++ Z) ≠ [] := fun e => hne (List.append_eq_nil_iff.mp e).1
      refine close_of (k := 1) p.1 (h4.wo hne2) (wo_ne hne2) (fun w3 hw3 => ?_)
      rw [nI_1 k]
      simp only at g1 g2
      rw [hZ] at g1 g2
      exact ih (k + 1) _ w3 (by omega) (wc_ne (wo_ne hne2)) hw3 g1 g2
    · rw [← e9] at hw2
      simp only at g2
      rw [hZ] at g2
      exact g2 w2 rfl (h3.bad hw2)
theorem lv_tie {PE : PEt} {N : Ps} {lv d : Nat} (h1 : 1 ≤ lv) (h6 : lv ≤ 6) (hN : Tie c n N (fun post u => PE post (nI (lv + 1)) (nI d) u)) (ne : NE N) : Tie c n (lvP c N lv) (fun post u => P_S_expressionB post PE (nI lv) (nI d) u) := by
  intro post u a p g1 g2
  have h80 := p.1.1
  have han := p.2.1
  unfold P_S_expressionB
  refine ⟨fun _ v1 e1 => ?_, fun h0 => absurd (nI_le (b := 6) h6 (by decide)) h0⟩
  rw [p.2.2.1] at e1
  subst e1
  refine before_of h1 h6 p (fun w hw => ?_)
  rw [nI_1 lv]
  unfold lvP at g1 g2
  refine hN _ w _ (hw.pre p) (fun Z w2 hZ hw2 => ⟨fun _ => ?_, fun e => absurd e (by decide)⟩) (fun w2 hZ hw2 => ⟨fun e => absurd rfl e, fun _ => g2 w2 (by rw [hZ]) (hw.bad hw2)⟩)
  have h3 := hw.app hw2
  have hne : pfP c lv a ++ Z ≠ [] := fun e => ne _ _ hZ (List.append_eq_nil_iff.mp e).2
  refine close_of (k := oc (pfP c lv a)) p.1 h3 hne (fun w3 hw3 => ?_)
  rw [hZ] at g1 g2
  simp only at g1 g2
  have h4 : (nI lv = 4) ↔ lv = 4 := nI_eq (b := 4) (by omega) (by decide)
  rw [h4]
  refine ⟨fun h5 => ⟨81, ?_⟩, fun h5 => ⟨2, ?_⟩⟩
  · rw [if_neg h5] at g1 g2
    exact ch_loop h1 h6 hN p (Nat.le_refl 80) 80 0 _ w3 (by omega) (wc_ne hne) hw3 g1 g2
  · rw [if_pos h5] at g1 g2
    exact ch_loop h1 h6 hN p (most := 1) (by decide) 1 0 _ w3 (by omega) (wc_ne hne) hw3 g1 g2
theorem pw_loop {PE : PEt} {N : Ps} {d : Nat} (hN : Tie c n N (fun post u => P_S_primary post PE (nI d) u)) (ne : NE N) {post : Int32 → MS → Prop} : ∀ (f k x : Nat) (a : Nat) (Z : List Tz) (u v : MS), x + f = 80 → Pre c n u a → Z ≠ [] → Ok n u v a Z → (∀ R w, pwR c N f a Z = some R → Ok n u w a (wc k R) → post 1 w) → (∀ w, pwR c N f a Z = none → Bad n u w a → post 0 w) → P_S_power_20 post PE (f + 1) (nI d) (nI a) (nI k) (nI x) v := by
  intro f
  induction f with
  | zero =>
    intro k x a Z u v hx p hne hv g1 g2
    exact ⟨fun _ => close_of p.1 hv hne (fun w hw => g1 Z w rfl hw), fun h0 => absurd (nI_le (a := 80) (by omega) (by omega)) h0⟩
  | succ f ih =>
    intro k x a Z u v hx p hne hv g1 g2
    have h80 := p.1.1
    have hpos : 0 < Z.length := List.length_pos_iff.mpr hne
    have hv1 := hv.1
    unfold pwR at g1 g2
    refine ⟨fun h0 => absurd h0 (nI_ge (b := 80) (by omega) (by omega)), fun _ => ?_⟩
    refine take_tie (by decide) _ v (a + Z.length) (hv.pre p) (fun Y w hY hw => ⟨fun e => absurd e (by decide), fun _ => ?_⟩) (fun hY => ⟨fun _ => ?_, fun e => absurd rfl e⟩)
    · unfold wdP at hY
      by_cases hs : st c (a + Z.length) (wS 25) = true
      · rw [if_pos hs] at hY g1 g2
        cases hY
        have h3 := hv.app hw
        have hne2 : Z ++ zn (wS 25).length ≠ [] := fun e => hne (List.append_eq_nil_iff.mp e).1
        have h4 := h3.wo hne2
        have e9 : a + (wo (Z ++ zn (wS 25).length)).length = a + Z.length + (wS 25).length := by rw [wo_len, List.length_append, zn_len]; omega
        have p4 := h4.pre p
        rw [e9] at p4
        rw [nI_clamp (by omega)]
        refine ⟨p.1.vp (by omega), p.1.vp (by omega), fun v7 e7 => ?_⟩
        have e8 : gI w 5 = nI (a + Z.length + (wS 25).length) := p4.2.2.1
        rw [e8] at e7
        subst e7
        refine hN _ _ _ p4 (fun Y2 w2 hY2 hw2 => ⟨fun _ => ?_, fun e => absurd e (by decide)⟩) (fun w2 hY2 hw2 => ⟨fun e => absurd rfl e, fun _ => ?_⟩)
        · rw [nI_1 k, nI_1 x]
          rw [hY2] at g1 g2
          simp only at g1 g2
          refine ih (k + 1) (x + 1) _ Y2 _ w2 (by omega) p4 (ne _ _ hY2) hw2 (fun R w3 hR hw3 => ?_) (fun w3 hR hw3 => ?_)
          · rw [← e9] at hw3
            have h5 := h4.app hw3
            have hRne := ne_pwR _ _ _ _ (ne _ _ hY2) hR
            rw [Nat.add_comm k 1, ← wc_wc, ← wc_app _ _ (wc_ne hRne), ← wc_app _ _ hRne] at h5
            exact g1 _ w3 (by rw [hR]) h5
          · rw [← e9] at hw3
            exact g2 w3 (by rw [hR]) (h4.bad hw3)
        · rw [← e9] at hw2
          rw [hY2] at g2
          exact g2 w2 rfl (h4.bad hw2)
      · rw [if_neg hs] at hY
        exact absurd hY (by simp)
    · unfold wdP at hY
      split at hY
      · exact absurd hY (by simp)
      · rename_i hs
        rw [if_neg hs] at g1
        exact close_of p.1 hv hne (fun w hw => g1 Z w rfl hw)
theorem pw_tie {PE : PEt} {N : Ps} {d : Nat} (hN : Tie c n N (fun post u => P_S_primary post PE (nI d) u)) (ne : NE N) : Tie c n (pwP c N) (fun post u => P_S_power post PE (nI d) u) := by
  intro post u a p g1 g2
  unfold P_S_power
  intro v1 e1
  rw [p.2.2.1] at e1
  subst e1
  unfold pwP at g1 g2
  refine hN _ u a p (fun Z w hZ hw => ⟨fun _ => ⟨81, ?_⟩, fun e => absurd e (by decide)⟩) (fun w hZ hw => ⟨fun e => absurd rfl e, fun _ => g2 w (by rw [hZ]) hw⟩)
  rw [hZ] at g1 g2
  simp only at g1 g2
  exact pw_loop hN ne 80 0 0 a Z u w (by omega) p (ne _ _ hZ) hw (fun R w2 hR hw2 => g1 R w2 hR (by rw [wc_0] at hw2; exact hw2)) g2
/-- what stands in brackets, with D open -/
def In (c : Nat → Nat) (n : Nat) (PE : PEt) (D : Nat) (I : Option Ps) : Prop := match I with
  | none => 8 < D
  | some E => D ≤ 8 ∧ Tie c n E (fun post u => PE post 1 (nI D) u)
theorem exs_tie {PE : PEt} {E : Ps} {D : Nat} (hE : Tie c n E (fun post u => PE post 1 (nI D) u)) : Tie c n (srP c E) (fun post u => P_S_expressions post PE (nI D) u) := by
  intro post u a p g1 g2
  exact sr_fin (L := fun f x2 x3 u => P_S_expressions_9 post PE f (nI D) x2 x3 u) (fun f x2 x3 u => rfl) hE p g1 g2
theorem list_tie {PE : PEt} {E : Ps} {D : Nat} (hD : D ≤ 8) (hE : Tie c n E (fun post u => PE post 1 (nI D) u)) : Tie c n (lsP c E) (fun post u => P_S_list post PE (nI D) u) := by
  intro post u a p g1 g2
  unfold P_S_list
  refine ⟨fun h0 => absurd h0 (nI_nlt (b := D) (a := 8) hD (by decide)), fun _ => ?_⟩
  exact Tie.sq1 (take_tie (i := 22) (by decide)).tie (Tie.sq1 (exs_tie hE) (TieS.e1 (take_tie (i := 24) (by decide))).tie) post u a p g1 g2
theorem alN_lt {a : Nat} (h : lr (c a) = true) : a < alN c 6 a := by
  unfold alN
  rw [if_pos (by rw [h]; rfl)]
  exact alN_le (c := c) 5 (a + 1)
theorem nmZ_len {a role : Nat} (h : lr (c a) = true) : a + (nmZ c role a).length = alN c 6 a := by
  have := alN_lt h
  simp only [nmZ, List.length_cons, zn_len]
  omega
theorem ref_tie {PE : PEt} {I : Option Ps} {D : Nat} (hD : D ≤ 9) (hI : In c n PE D I) (ph : Bool) : Tie c n (rfP c I ph) (fun post u => P_S_reference post PE (nI D) (if ph = true then 1 else 0) u) := by
  intro post u a p g1 g2
  have h80 := p.1.1
  have han := p.2.1
  unfold P_S_reference
  intro v1 e1
  rw [p.2.2.1] at e1
  subst e1
  unfold rfP at g1 g2
  refine name_tie (role := 4) _ u a p (fun Z w hZ hw => ⟨fun _ => ?_, fun e => absurd e (by decide)⟩) (fun hZ => ⟨fun e => absurd rfl e, fun _ => ?_⟩)
  · unfold nmP at hZ
    by_cases hl : lr (c a) = true
    · rw [if_pos hl] at hZ g1 g2
      cases hZ
      have p2 := hw.pre p
      have hlt := alN_lt hl
      have el := nmZ_len (role := 4) hl
      rw [el] at p2
      refine isNext_of (x := 40) p2 (by decide) (by decide) ?_
      by_cases hp : c (alN c 6 a) = 40
      · rw [if_pos hp]
        rw [if_pos hp] at g1 g2
        refine ⟨fun _ => ?_, fun e => absurd e (by decide)⟩
        have h3 := hw.role (j := 0) (t := (0, 4, 0)) rfl 3
        rw [nI_clamp (by omega)]
        have hin := p2.1.in (i := alN c 6 a) (by omega)
        refine ⟨p.1.vp (by omega), ?_⟩
        have h3' : Ok n u (sA w 3 a (3 : Int32)) a (nmZ c 3 a) := h3
        cases I with
        | none =>
          have hI' : 8 < D := hI
          refine ⟨fun _ => g2 _ rfl h3'.toBad, fun h0 => absurd ((nI_ltI (a := 8) (by decide) (by omega)).mpr hI') h0⟩
        | some E =>
          obtain ⟨hD8, hE⟩ : D ≤ 8 ∧ Tie c n E (fun post u => PE post 1 (nI D) u) := hI
          refine ⟨fun h0 => absurd h0 (nI_nlt (b := D) (a := 8) hD8 (by decide)), fun _ => ?_⟩
          have p3 := h3'.pre p
          have el3 := nmZ_len (role := 3) hl
          rw [el3] at p3
          simp only at g1 g2
          have lst : ∀ w2, Ok n u w2 a (nmZ c 3 a) → Pre c n w2 (alN c 6 a) → ¬ (ph && st c (alN c 6 a) (wS 21)) = true → P_S_reference_52 post PE (nI D) w2 := by
            intro w2 hw2 p4 hq
            rw [if_neg hq] at g1 g2
            unfold P_S_reference_52
            refine (list_tie hD8 hE).e1 post w2 _ p4 (fun Y w3 hY hw3 => ?_) (fun w3 hY hw3 => ?_)
            · rw [← el3] at hw3
              exact g1 _ w3 (by rw [hY]) (hw2.app hw3)
            · rw [← el3] at hw3
              exact g2 w3 (by rw [hY]) (hw2.bad hw3)
          cases ph with
          | false => exact ⟨fun _ => lst _ h3' p3 (by simp), fun e => absurd rfl e⟩
          | true =>
            refine ⟨fun e => absurd e (by decide), fun _ => ?_⟩
            refine take_tie (i := 21) (by decide) _ _ _ p3 (fun Y w2 hY hw2 => ⟨fun _ => ?_, fun e => absurd e (by decide)⟩) (fun hY => ⟨fun e => absurd rfl e, fun _ => ?_⟩)
            · unfold wdP at hY
              split at hY
              · rename_i hs
                cases hY
                rw [← el3] at hw2
                exact g1 _ w2 (by rw [if_pos (by rw [hs]; rfl)]) (h3'.app hw2)
              · exact absurd hY (by simp)
            · unfold wdP at hY
              split at hY
              · exact absurd hY (by simp)
              · rename_i hs
                exact lst _ h3' p3 (by simpa using hs)
      · rw [if_neg hp]
        rw [if_neg hp] at g1
        exact ⟨fun e => absurd rfl e, fun _ => g1 _ w rfl hw⟩
    · rw [if_neg hl] at hZ
      exact absurd hZ (by simp)
  · unfold nmP at hZ
    split at hZ
    · exact absurd hZ (by simp)
    · rename_i hl
      rw [if_neg hl] at g2
      exact g2 u rfl p.bad
theorem group_tie {PE : PEt} {I : Option Ps} {D : Nat} (hD : D ≤ 9) (hI : In c n PE D I) {post : Int32 → MS → Prop} {u : MS} {a : Nat} (p : Pre c n u a) (hc : c a = 40) (g1 : ∀ Z w, grP c I a = some Z → Ok n u w a Z → post 1 w) (g2 : ∀ w, grP c I a = none → Bad n u w a → post 0 w) : P_S_group post PE (nI D) u := by
  have h80 := p.1.1
  have hn : a < n := p.1.in (by omega)
  unfold P_S_group
  unfold grP at g1 g2
  cases I with
  | none =>
    have hI' : 8 < D := hI
    exact ⟨fun h0 => absurd h0 (nI_ge (a := 8) hI' (by omega)), fun _ => g2 u rfl p.bad⟩
  | some E =>
    obtain ⟨hD8, hE⟩ : D ≤ 8 ∧ Tie c n E (fun post u => PE post 1 (nI D) u) := hI
    refine ⟨fun _ => ?_, fun h0 => absurd (nI_le (b := 8) hD8 (by decide)) h0⟩
    rw [p.2.2.1, nI_clamp (by omega), nI_1]
    refine ⟨p.1.vp hn, ?_⟩
    have h3 : Ok n u (sI (sA u 3 a (5 : Int32)) 5 (nI (a + 1))) a [(0, 5, 0)] := (Ok.skip p (m := 1) (by omega)).role (j := 0) rfl 5
    simp only at g1 g2
    refine hE _ _ (a + 1) (h3.pre p) (fun Z w hZ hw => ⟨fun e => absurd e (by decide), fun _ => ?_⟩) (fun w hZ hw => ⟨fun _ => g2 w (by rw [hZ]) (h3.bad hw), fun e => absurd rfl e⟩)
    rw [hZ] at g1 g2
    simp only at g1 g2
    have h4 : Ok n u w a ((0, 5, 0) :: Z) := h3.app hw
    have p4 : Pre c n w (a + 1 + Z.length) := by
      have := h4.pre p
      rw [List.length_cons, show a + (Z.length + 1) = a + 1 + Z.length by omega] at this
      exact this
    refine isNext_of (x := 41) p4 (by decide) (by decide) ?_
    by_cases h5 : c (a + 1 + Z.length) = 41
    · rw [if_pos h5]
      rw [if_pos h5] at g1
      refine ⟨fun _ => ?_, fun e => absurd e (by decide)⟩
      have hn2 := p4.1.in (i := a + 1 + Z.length) (by omega)
      rw [p4.2.2.1, nI_clamp (by omega), nI_1]
      have h6 : Ok n w (sI (sA w 3 (a + 1 + Z.length) (5 : Int32)) 5 (nI (a + 1 + Z.length + 1))) (a + 1 + Z.length) [(0, 5, 0)] := (Ok.skip p4 (m := 1) (by omega)).role (j := 0) rfl 5
      refine ⟨p4.1.vp hn2, g1 _ _ rfl ?_⟩
      rw [show a + 1 + Z.length = a + (((0, 5, 0) : Tz) :: Z).length by rw [List.length_cons]; omega] at h6
      have h7 := h4.app h6
      rw [show a + (((0, 5, 0) : Tz) :: Z).length = a + 1 + Z.length by rw [List.length_cons]; omega] at h7
      exact h7
    · rw [if_neg h5]
      rw [if_neg h5] at g2
      exact ⟨fun e => absurd rfl e, fun _ => g2 w rfl h4.toBad⟩
theorem Tie.or2 {F G : Ps} {P Q : (Int32 → MS → Prop) → MS → Prop} (h : TieS c n F P) (h' : Tie c n G Q) : Tie c n (orP F G) (fun post u => P (fun r u1 => ((r = 0 → Q post u1) ∧ (¬ r = 0 → post 1 u1))) u) := by
  intro post u a p h1 h2
  refine h _ u a p (fun Z v hZ hv => ⟨fun e => absurd e (by decide), fun _ => h1 Z v (by unfold orP; rw [hZ]) hv⟩) (fun hZ => ⟨fun _ => ?_, fun e => absurd rfl e⟩)
  have e : orP F G a = G a := by unfold orP; rw [hZ]
  exact h' _ u a p (fun Y w hY hw => h1 Y w (e.trans hY) hw) (fun w hY hw => h2 w (e.trans hY) hw)
theorem prim_tie {PE : PEt} {I : Option Ps} {d : Nat} (hd : d ≤ 8) (hI : In c n PE (d + 1) I) : Tie c n (prP c I) (fun post u => P_S_primary post PE (nI d) u) := by
  intro post u a p g1 g2
  unfold P_S_primary
  unfold prP at g1 g2
  refine decimal_of p (fun hn w hw => ⟨fun e => absurd e (by decide), fun _ => ?_⟩) (fun hn w hw => ⟨fun _ => ?_, fun e => absurd rfl e⟩)
  · rw [if_pos hn] at g1
    have p2 := hw.pre p
    rw [zn_len, show a + (numD c a - a) = numD c a by omega] at p2
    refine exponent_of p2 (fun w2 hw2 => ⟨rfl, ?_⟩)
    have h3 : Ok n u w2 a (zn (numD c a - a) ++ zn (expE c (numD c a) - numD c a)) := by
      refine hw.app ?_
      rw [zn_len, show a + (numD c a - a) = numD c a by omega]
      exact hw2
    rw [zn_add] at h3
    have h4 := expE_le c (numD c a)
    refine g1 _ w2 rfl ?_
    have e : numE c a = expE c (numD c a) := by unfold numE; rw [if_pos hn]
    rw [e, show expE c (numD c a) - a = numD c a - a + (expE c (numD c a) - numD c a) by omega]
    exact h3
  · rw [if_neg hn] at g1 g2
    have p2 : Pre c n w a := hw.pre p
    have last : Tie c n (fun a => if c a = 40 then grP c I a else rfP c I true a) (fun post u => P_T_isNext (fun r10 u9 => ((r10 = 0 → P_S_reference (fun r12 u11 => (narrow .boolean (.int r12) = .int r12 ∧ post r12 u11)) PE (nI d + (1 : Int32)) (1 : Int32) u9) ∧ (¬ r10 = 0 → P_S_group (fun r14 u13 => (narrow .boolean (.int r14) = .int r14 ∧ post r14 u13)) PE (nI d + (1 : Int32)) u9))) (40 : Int32) u) := by
      intro post u a p g1 g2
      rw [nI_1]
      refine isNext_of (x := 40) p (by decide) (by decide) ?_
      by_cases h : c a = 40
      · rw [if_pos h]
        simp only [if_pos h] at g1 g2
        exact ⟨fun e => absurd e (by decide), fun _ => group_tie (by omega) hI p h (fun Z w hZ hw => ⟨rfl, g1 Z w hZ hw⟩) (fun w hZ hw => ⟨rfl, g2 w hZ hw⟩)⟩
      · rw [if_neg h]
        simp only [if_neg h] at g1 g2
        exact ⟨fun _ => (ref_tie (by omega) hI true).e2 post u a p g1 g2, fun e => absurd rfl e⟩
    refine Tie.or (take_tie (i := 19) (by decide)) (Tie.or (take_tie (i := 20) (by decide)) (Tie.or2 quote_tie last)) post w a p2 (fun Z w2 hZ hw2 => g1 Z w2 hZ ?_) (fun w2 hZ hw2 => g2 w2 hZ ?_)
    · exact hw.app hw2
    · exact hw.bad hw2
/-- expression, at every level, with d brackets open -/
theorem lev_tie : ∀ (m d : Nat), d + m = 8 → ∀ j, j ≤ 6 → ∀ k, 7 * m + j + 1 ≤ k → Tie c n (ELv c (IX c m) j) (fun post u => P_S_expression k post (nI (7 - j)) (nI d) u) := by
  intro m
  induction m with
  | zero =>
    intro d hd j
    induction j with
    | zero =>
      intro _ k hk
      obtain ⟨k, rfl⟩ : ∃ q, k = q + 1 := ⟨k - 1, by omega⟩
      intro post u a p g1 g2
      refine ⟨fun h0 => absurd h0 (by decide), fun _ => ?_⟩
      exact (pw_tie (prim_tie (I := none) (by omega) (by show 8 < d + 1; omega)) ne_pr).e2 post u a p g1 g2
    | succ j ih =>
      intro hj k hk
      obtain ⟨k, rfl⟩ : ∃ q, k = q + 1 := ⟨k - 1, by omega⟩
      have h1 := ih (by omega) k (by omega)
      rw [show 7 - j = (6 - j) + 1 by omega] at h1
      have h2 := lv_tie (PE := fun po a b w => P_S_expression k po a b w) (lv := 6 - j) (d := d) (by omega) (by omega) h1 (ne_EL c _ _)
      rw [show 7 - (j + 1) = 6 - j by omega]
      exact h2
  | succ m ihm =>
    intro d hd j
    induction j with
    | zero =>
      intro _ k hk
      obtain ⟨k, rfl⟩ : ∃ q, k = q + 1 := ⟨k - 1, by omega⟩
      intro post u a p g1 g2
      refine ⟨fun h0 => absurd h0 (by decide), fun _ => ?_⟩
      have hin : In c n (fun po a b w => P_S_expression k po a b w) (d + 1) (some (EX c m)) := ⟨by omega, by rw [EX_eq]; exact ihm (d + 1) (by omega) 6 (by omega) k (by omega)⟩
      exact (pw_tie (prim_tie (I := some (EX c m)) (by omega) hin) ne_pr).e2 post u a p g1 g2
    | succ j ih =>
      intro hj k hk
      obtain ⟨k, rfl⟩ : ∃ q, k = q + 1 := ⟨k - 1, by omega⟩
      have h1 := ih (by omega) k (by omega)
      rw [show 7 - j = (6 - j) + 1 by omega] at h1
      have h2 := lv_tie (PE := fun po a b w => P_S_expression k po a b w) (lv := 6 - j) (d := d) (by omega) (by omega) h1 (ne_EL c _ _)
      rw [show 7 - (j + 1) = 6 - j by omega]
      exact h2
theorem ex_tie {m d : Nat} (h : d + m = 8) : Tie c n (EX c m) (fun post u => PEX post 1 (nI d) u) := by
  rw [EX_eq]
  exact lev_tie m d h 6 (by omega) 70 (by omega)
end CRC
