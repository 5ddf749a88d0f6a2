section FL2
variable {N : Nat} {cs : Nat → Nat → Nat} {ns lb : Nat → Nat} {x : XS} {m : MS} {S : List Op}
theorem popL_no {l : Nat} : ∀ {S : List Op}, opn l S = false → popL l S = S := by
  intro S
  cases S with
  | nil => intro _; rfl
  | cons y T =>
    intro h
    unfold popL
    rw [if_neg]
    intro q
    unfold opn at h
    rw [List.any_cons] at h
    simp [q.1, q.2] at h
theorem popL_ok {l : Nat} : ∀ {S : List Op}, OkS S → OkS (popL l S) ∧ (popL l S).length ≤ S.length := by
  intro S
  induction S with
  | nil => intro h; exact ⟨h, Nat.le_refl _⟩
  | cons y T ih =>
    intro h
    unfold popL
    split
    · have := ih (fun z hz => h z (List.mem_cons_of_mem _ hz))
      exact ⟨this.1, by rw [List.length_cons]; omega⟩
    · exact ⟨h, Nat.le_refl _⟩
abbrev wk (cs : Nat → Nat → Nat) (ns : Nat → Nat) (s : Nat) : Nat := (RC (cs s) (ns s)).1
abbrev aq (cs : Nat → Nat → Nat) (ns : Nat → Nat) (s : Nat) : List Nat := amZ (cs s) 0 (RC (cs s) (ns s)).2
def dcl (w : Nat) : Bool := decide (w = 15) || decide (w = 16)
theorem declares_c {post : Int32 → MS → Prop} {r : MS} {w : Nat} (h8 : gI r 8 = nI w) (hw : w ≤ 17) (hp : post (b2i (dcl w)) r) : P_S_declares post r := by
  unfold P_S_declares
  rw [h8, show (nI w = 15) ↔ w = 15 from nI_eq (b := 15) (by omega) (by decide), show (nI w = 16) ↔ w = 16 from nI_eq (b := 16) (by omega) (by decide)]
  unfold dcl at hp
  refine ⟨fun q => ?_, fun q => ⟨fun q2 => ?_, fun q2 => ?_⟩⟩
  · simp only [q] at hp; exact hp
  · simp only [q, q2] at hp; exact hp
  · simp only [q2] at hp
    have h9 : post (b2i true) r := by simpa using hp
    exact h9
theorem branch_c {post : Int32 → MS → Prop} {r : MS} {w : Nat} (h8 : gI r 8 = nI w) (hw : w ≤ 17) (h1 : (w = 5 ∨ w = 6 ∨ w = 7) → post 1 r) (h0 : ¬ (w = 5 ∨ w = 6 ∨ w = 7) → post 0 r) : P_S_isBranch post r := by
  unfold P_S_isBranch
  rw [h8, show (nI w = 5) ↔ w = 5 from nI_eq (b := 5) (by omega) (by decide), show (nI w = 6) ↔ w = 6 from nI_eq (b := 6) (by omega) (by decide), show (nI w = 7) ↔ w = 7 from nI_eq (b := 7) (by omega) (by decide)]
  exact ⟨fun q => h1 (Or.inl q), fun q => ⟨fun q2 => h1 (Or.inr (Or.inl q2)), fun q2 => ⟨fun q3 => h0 (by omega), fun q3 => h1 (Or.inr (Or.inr q3))⟩⟩⟩
theorem mayEnd_c {post : Int32 → MS → Prop} {r : MS} {w : Nat} (h8 : gI r 8 = nI w) (hw : w ≤ 17) (hp : post (b2i (mayE w)) r) : P_S_mayEndLoop post r := by
  unfold P_S_mayEndLoop
  have e := fun k (hk : k < 100) => (nI_eq (a := w) (b := k) (by omega) (by omega))
  rw [h8, show (nI w = 2) ↔ w = 2 from e 2 (by decide), show (nI w = 4) ↔ w = 4 from e 4 (by decide), show (nI w = 8) ↔ w = 8 from e 8 (by decide), show (nI w = 10) ↔ w = 10 from e 10 (by decide), show (nI w = 13) ↔ w = 13 from e 13 (by decide)]
  have t : ∀ q : mayE w = true, post 1 r := fun q => by rw [q] at hp; exact hp
  refine ⟨fun q => t (by simp [mayE, q]), fun q2 => ⟨fun q => t (by simp [mayE, q]), fun q4 => ⟨fun q => t (by simp [mayE, q]), fun q8 => ⟨fun q => t (by simp [mayE, q]), fun q10 => ⟨fun q => t (by simp [mayE, q]), fun q13 => declares_c h8 hw ?_⟩⟩⟩⟩⟩
  have em : mayE w = dcl w := by simp [mayE, dcl, q2, q4, q8, q10, q13]
  rw [em] at hp
  cases hd : dcl w
  · rw [hd] at hp; exact ⟨fun _ => hp, fun q => absurd rfl q⟩
  · rw [hd] at hp; exact ⟨fun q => absurd q (by decide), fun _ => hp⟩
theorem hl_loop (h : DkI N cs ns lb x m) {post : Int32 → XS → Prop} {s : Nat} (hs : s < N) : ∀ (f i : Nat), i + f = ns s → post (b2i ((amZ (cs s) i ((RC (cs s) (ns s)).2.drop i)).all (fun v => hasF lb v N 0))) x → P_U_hasItsLabels_34 post (f + 1) s (nI i) x := by
  have hN := h.1
  obtain ⟨h1, h2, _⟩ := h.2.2.2 s hs
  have t := h2.1
  have h80 := t.1
  have hz := h2.2.1
  intro f
  induction f with
  | zero =>
    intro i hi hp
    rw [List.drop_eq_nil_of_le (by rw [hz.2.1]; omega)] at hp
    exact ⟨by omega, fun _ => hp, fun q => absurd (by rw [t.2.1]; exact nI_le (by omega) (by omega)) q⟩
  | succ f ih =>
    intro i hi hp
    have hlt : i < (RC (cs s) (ns s)).2.length := by rw [hz.2.1]; omega
    rw [List.drop_eq_getElem_cons hlt] at hp
    have hr := hz.2.2 i _ (List.getElem?_eq_getElem hlt)
    have hrole := RC_rb (cs s) (ns s) _ (List.getElem_mem hlt)
    generalize (RC (cs s) (ns s)).2[i] = tt at hp hr hrole
    have e : amZ (cs s) i (tt :: List.drop (i + 1) (RC (cs s) (ns s)).2) = (if tt.2.1 = 6 then [nv (cs s) i] else []) ++ amZ (cs s) (i + 1) (List.drop (i + 1) (RC (cs s) (ns s)).2) := rfl
    rw [e, List.all_append] at hp
    refine ⟨by omega, fun q => absurd q (by rw [t.2.1]; exact nI_ge (by omega) (by omega)), fun _ => ⟨by omega, ⟨by omega, t.vp (by omega)⟩, ?_⟩⟩
    unfold P_U_hasItsLabels_75
    rw [nI_clamp (by omega), hr.2.1, show (nI tt.2.1 = 6) ↔ tt.2.1 = 6 from nI_eq (b := 6) (by omega) (by decide), nI_1]
    refine ⟨fun q => ?_, fun q => ⟨by omega, numberAt_of t (by omega) ?_⟩⟩
    · rw [if_neg q] at hp
      exact ih (i + 1) (by omega) hp
    · rw [if_pos q] at hp
      rw [xs_same, h.2.1]
      have hlt5 : nv (cs s) i < 100000 := by
        unfold nv
        have hd := dgN_dgs (c := cs s) 5 i
        have hv := vl_lt hd
        have h5 : ∀ f p, dgN (cs s) f p ≤ p + f := by
          intro f
          induction f with
          | zero => intro p; exact Nat.le_refl _
          | succ f ih =>
            intro p
            unfold dgN
            split
            · have := ih (p + 1); omega
            · omega
        have := h5 5 i
        have hp9 : (10 : Nat) ^ (dgN (cs s) 5 i - i) ≤ 10 ^ 5 := Nat.pow_le_pow_right (by decide) (by omega)
        have hp8 : (10 : Nat) ^ 5 = 100000 := by decide
        omega
      refine hasNumber_c h hlt5 (Nat.le_refl N) (Nat.zero_le N) ?_
      rw [Nat.sub_zero, b2i_0]
      refine ⟨fun q2 => ?_, fun q2 => ?_⟩
      · have q3 : hasF lb (nv (cs s) i) N 0 = true := by simpa using q2
        simp only [List.all_cons, List.all_nil, q3, Bool.and_true, Bool.true_and] at hp
        exact ih (i + 1) (by omega) hp
      · simp only [List.all_cons, List.all_nil, q2, Bool.false_and] at hp
        exact hp
theorem RC_1 {c : Nat → Nat} {n : Nat} (hz : ∀ i, n ≤ i → c i = 0) (h : (RC c n).1 = 1) : ∃ v, amZ c 0 (RC c n).2 = [v] ∧ v < 100000 := by
  cases hF : FT c n 0 with
  | none =>
    have e : (RC c n).1 = 4 ∨ (RC c n).1 = 0 := by
      unfold RC
      rw [hF]
      simp only
      cases ifP c n with
      | none => exact Or.inr rfl
      | some Z => exact Or.inl rfl
    omega
  | some q =>
    have e : RC c n = q := by unfold RC; rw [hF]
    rw [e] at h ⊢
    obtain ⟨k, Z⟩ := q
    simp only at h
    subst h
    have hft := (ftF_k _ _ _ _ hF).2.2.1
    simp only
    unfold ftP at hft
    simp only at hft
    unfold sq at hft
    split at hft
    · exact absurd hft (by simp)
    · rename_i X1 hX1
      split at hft
      · exact absurd hft (by simp)
      · rename_i Y1 hY1
        cases hft
        split at hY1
        · exact absurd hY1 (by simp)
        · rename_i D hD
          split at hY1
          · exact absurd hY1 (by simp)
          · rename_i R hR
            cases hY1
            obtain ⟨m, f1, f2, f3, f4, f5, f6⟩ := dg_facts hD
            have nsR : nsL R := ns_sq (ns_id c) (ns_sq (ns_nm c (by decide)) (ns_sq (ns_wd c 4) (ns_sq (ns_EX c 8) (ns_sq (ns_wd c 23) (ns_sq (ns_EX c 8) (ns_op (ns_wd c 23) (ns_EX c 8))))))) _ _ hR
            have ns1 : nsL X1 := ns_wd c 3 _ _ hX1
            have hlast : ¬ dg (c (0 + X1.length + (m + 1))) = true := by
              rw [f2] at hR
              split at hR
              · exact absurd hR (by simp)
              · rename_i C hC
                unfold idP at hC
                by_cases h44 : c (0 + X1.length + (m + 1)) = 44
                · rw [h44]; decide
                · rw [if_neg h44] at hC
                  cases hC
                  split at hR
                  · exact absurd hR (by simp)
                  · rename_i R2 hR2
                    split at hR2
                    · exact absurd hR2 (by simp)
                    · rename_i NN hNN
                      unfold nmP at hNN
                      split at hNN
                      · rename_i hl
                        intro hd
                        have a1 := lr_c hl
                        have a2 := dg_b hd
                        simp only [List.length_nil, Nat.add_zero] at a1
                        omega
                      · exact absurd hNN (by simp)
            refine ⟨vlN c (m + 1) (0 + X1.length) 0, ?_, f6⟩
            rw [amZ_app, amZ_ns c _ _ ns1, amZ_app, amZ_ns c _ _ nsR, List.append_nil, List.nil_append, f5, am_dz m _ f3 f4 hlast]
theorem labels_c (h : DkI N cs ns lb x m) {post : Int32 → XS → Prop} {s : Nat} (hs : s < N) (hp : post (b2i (lbs N lb s (wk cs ns s) (aq cs ns s))) x) : P_U_hasItsLabels post (nI s) x := by
  have hN := h.1
  obtain ⟨h1, h2, _⟩ := h.2.2.2 s hs
  have hk17 := (RC_bd (cs s) (ns s)).2.2
  unfold P_U_hasItsLabels
  rw [nI_clamp (by omega), h2.2.1.1, show (nI (RC (cs s) (ns s)).1 = 1) ↔ (RC (cs s) (ns s)).1 = 1 from nI_eq (b := 1) (by omega) (by decide)]
  unfold lbs at hp
  refine ⟨vp_in_nI (by omega) (by decide), by omega, fun q => ⟨ns s + 1, hl_loop h hs (ns s) 0 (by omega) ?_⟩, fun q => ⟨by omega, loopNumber_of h2.1 h2.2.1 (RC_rb _ _) ?_⟩⟩
  · have e : (fun v => if wk cs ns s = 1 then hasF lb v (N - (s + 1)) (s + 1) else hasF lb v N 0) = (fun v => hasF lb v N 0) := by
      funext v
      rw [if_neg q]
    rw [e] at hp
    exact hp
  · obtain ⟨v, hv, hv5⟩ := RC_1 h2.1.2.2.2 q
    rw [xs_same, h.2.1, hv, nI_1]
    have e : aq cs ns s = [v] := hv
    rw [e] at hp
    refine hasNumber_c h hv5 (Nat.le_refl N) (by omega) ⟨(b2i_n _).1, ?_⟩
    simpa [q] using hp
/-- the end of a look at one statement -/
abbrev Fin2 (post : Int32 → XS → Prop) (x : XS) (k : Nat) (T : List Op) : Prop := ∀ U', (k = 0 → StC U' T) → gI U' 2 = gI x.2.2.1 2 → gI U' 3 = gI x.2.2.1 3 → post (nI k) (upU x U')
theorem opens_c (h : DkI N cs ns lb x m) {post : XS → Prop} {s : Nat} (hs : s < N) {U : MS} {T : List Op} (hT : T.length ≤ s) (hst : StC U T) (h6 : wk cs ns s = 6 → ∃ y T', T = y :: T' ∧ y.1 = 0) (hp : ∀ U', StC U' (if wk cs ns s = 1 then ((aq cs ns s).headD 0, false) :: T else if wk cs ns s = 3 then (0, false) :: T else if wk cs ns s = 6 then setE T else T) → gI U' 2 = gI U 2 → gI U' 3 = gI U 3 → post (upU x U')) (hdo : wk cs ns s = 1 → (aq cs ns s).headD 0 ≠ 0) : P_U_openWhatOpens post s (upU x U) := by
  have hN := h.1
  obtain ⟨h1, h2, _⟩ := h.2.2.2 s hs
  have hk17 := (RC_bd (cs s) (ns s)).2.2
  have hk17' : wk cs ns s ≤ 17 := hk17
  have h8 : gI ((upU x U).2.2.2 s) 8 = nI (wk cs ns s) := h2.2.1.1
  have e := fun k (hk : k < 100) => (nI_eq (a := wk cs ns s) (b := k) (by omega) (by omega))
  have g29 : ∀ (U2 : MS) (T2 : List Op), StC U2 T2 → T2.length ≤ s → gI U2 2 = gI U 2 → gI U2 3 = gI U 3 → ((wk cs ns s = 1 ∨ wk cs ns s = 3) → T2 = T) → (¬ (wk cs ns s = 1 ∨ wk cs ns s = 3) → post (upU x U2)) → P_U_openWhatOpens_29 post s s (upU x U2) := by
    intro U2 T2 hs2 hl2 g2 g3 heq hno
    have h8' : gI ((upU x U2).2.2.2 s) 8 = nI (wk cs ns s) := h2.2.1.1
    have d1 : gI (upU x U2).2.2.1 1 = nI T2.length := hs2.2.2.1
    have go : (wk cs ns s = 1 ∨ wk cs ns s = 3) → P_U_openWhatOpens_45 post s s (upU x U2) := by
      intro hq
      have hT2 := heq hq
      subst hT2
      unfold P_U_openWhatOpens_45
      rw [d1, h8', show (nI (wk cs ns s) = 1) ↔ wk cs ns s = 1 from e 1 (by decide)]
      refine ⟨fun r => absurd r (nI_ge (b := 24) (by omega) (by decide)), fun _ => ⟨by omega, fun r => ?_, fun r => ⟨by omega, loopNumber_of h2.1 h2.2.1 (RC_rb _ _) ?_⟩⟩⟩
      · have r3 : wk cs ns s = 3 := by
          rcases hq with q9 | q9
          · exact absurd q9 r
          · exact q9
        unfold P_U_openWhatOpens_78
        refine ⟨vp_in_nI (by omega) (by decide), ?_⟩
        rw [nI_clamp (by omega), d1, nI_1]
        have hp' := hp (sI (sA U2 0 T2.length (cv (0, false))) 1 (nI (T2.length + 1)))
        rw [if_neg r, if_pos r3] at hp'
        exact hp' (hs2.push (by omega) (by decide)) (by rw [gI_sI, if_neg (by decide), gI_sA]; exact g2) (by rw [gI_sI, if_neg (by decide), gI_sA]; exact g3)
      · obtain ⟨v, hv, hv5⟩ := RC_1 h2.1.2.2.2 r
        have hd0 := hdo r
        have eaq : aq cs ns s = [v] := hv
        rw [hv]
        rw [eaq] at hd0
        unfold P_U_openWhatOpens_78
        refine ⟨vp_in_nI (by omega) (by decide), ?_⟩
        have hp' := hp (sI (sA U2 0 T2.length (cv (v, false))) 1 (nI (T2.length + 1)))
        rw [if_pos r, eaq] at hp'
        have d1' : gI U2 1 = nI T2.length := hs2.2.2.1
        have hd0' : v ≠ 0 := by simpa using hd0
        have hcv : cv (v, false) = nI v := by unfold cv; rw [if_neg hd0']
        have hxs := xs_same (upU x U2) s
        have e4 : va_up x.2.2.2 s (x.2.2.2 s) = x.2.2.2 := (Prod.mk.inj (Prod.mk.inj (Prod.mk.inj hxs).2).2).2
        show post (x.1, x.2.1, (sI (sA U2 0 (nI T2.length).toNatClampNeg (nI v)) 1 (gI U2 1 + 1)), va_up x.2.2.2 s (x.2.2.2 s))
        rw [e4, nI_clamp (by omega), d1', nI_1, ← hcv]
        exact hp' (hs2.push (by omega) hv5) (by rw [gI_sI, if_neg (by decide), gI_sA]; exact g2) (by rw [gI_sI, if_neg (by decide), gI_sA]; exact g3)
    unfold P_U_openWhatOpens_29
    rw [h8', show (nI (wk cs ns s) = 1) ↔ wk cs ns s = 1 from e 1 (by decide), show (nI (wk cs ns s) = 3) ↔ wk cs ns s = 3 from e 3 (by decide)]
    exact ⟨by omega, fun q => go (Or.inl q), fun q => ⟨by omega, fun q2 => hno (by omega), fun q2 => go (Or.inr q2)⟩⟩
  unfold P_U_openWhatOpens
  rw [h8, show (nI (wk cs ns s) = 6) ↔ wk cs ns s = 6 from e 6 (by decide)]
  refine ⟨by omega, fun q => g29 U T hst hT rfl rfl (fun _ => rfl) (fun q2 => ?_), fun q => ?_⟩
  · have hp' := hp U
    rw [if_neg (by omega), if_neg (by omega), if_neg q] at hp'
    exact hp' hst rfl rfl
  · obtain ⟨y, T', hTe, hy⟩ := h6 q
    subst hTe
    have d1 : gI (upU x U).2.2.1 1 = nI (T'.length + 1) := hst.2.2.1
    rw [List.length_cons] at hT
    rw [d1, nI_pred, nI_clamp (by omega)]
    refine ⟨fun r => absurd r (nI_nle (by omega) (by omega)), fun _ => ⟨vp_in_nI (by omega) (by decide), ?_⟩⟩
    have hp' := hp (sA U 0 T'.length (-2))
    rw [if_neg (by omega), if_neg (by omega), if_pos q] at hp'
    have hset : StC (sA U 0 T'.length (-2)) (setE (y :: T')) := by
      refine ⟨hst.1, fun z hz => ?_, hst.2.2.1, fun j z hj => ?_⟩
      · rcases List.mem_cons.mp hz with e9 | e9
        · rw [e9]; exact hst.2.1 y List.mem_cons_self
        · exact hst.2.1 z (List.mem_cons_of_mem _ e9)
      · unfold setE at hj
        rw [List.reverse_cons] at hj
        rw [gA_sA]
        by_cases e9 : j = T'.length
        · rw [if_pos ⟨rfl, e9⟩]
          rw [e9, List.getElem?_append_right (by rw [List.length_reverse]; exact Nat.le_refl _), List.length_reverse, Nat.sub_self] at hj
          cases hj
          unfold cv
          rw [if_pos hy, if_pos rfl]
        · rw [if_neg (fun q => e9 q.2)]
          have hlt := (List.getElem?_eq_some_iff.mp hj).1
          rw [List.length_append, List.length_reverse, List.length_singleton] at hlt
          rw [List.getElem?_append_left (by rw [List.length_reverse]; omega)] at hj
          exact hst.2.2.2 j z (by rw [List.reverse_cons, List.getElem?_append_left (by rw [List.length_reverse]; omega)]; exact hj)
    exact g29 _ _ hset (by show T'.length + 1 ≤ s; omega) rfl rfl (fun q2 => by omega) (fun _ => hp' hset rfl rfl)
theorem hasF_0 (lb : Nat → Nat) : ∀ f i, hasF lb 0 f i = false := by
  intro f
  induction f with
  | zero => intro i; rfl
  | succ f ih => intro i; unfold hasF; rw [ih]; rfl
theorem faultOf_c (h : DkI N cs ns lb x m) {post : Int32 → XS → Prop} {s : Nat} (hs : s < N) (hst : StC x.2.2.1 S) (hSl : S.length ≤ s) (hpost : Fin2 post x (flS N lb s (wk cs ns s) (decide (0 < s) && !dcl (wk cs ns (s - 1))) (aq cs ns s) S) (nxS lb s (wk cs ns s) (aq cs ns s) S)) : P_U_faultOf post (nI s) x := by
  have hN := h.1
  obtain ⟨h1, h2, _⟩ := h.2.2.2 s hs
  have hk17 : wk cs ns s ≤ 17 := (RC_bd (cs s) (ns s)).2.2
  have h8 : gI (x.2.2.2 s) 8 = nI (wk cs ns s) := h2.2.1.1
  have h7 : gI (x.2.2.2 s) 7 = nI (lb s) := h2.2.2.2
  have e := fun k (hk : k < 100) => (nI_eq (a := wk cs ns s) (b := k) (by omega) (by omega))
  generalize hF : flS N lb s (wk cs ns s) (decide (0 < s) && !dcl (wk cs ns (s - 1))) (aq cs ns s) S = F at hpost
  unfold flS at hF
  have same : F ≠ 0 → post (nI F) x := fun hF0 => hpost x.2.2.1 (fun q => absurd q hF0) rfl rfl
  have c181 : ∀ (U : MS), wk cs ns s ≠ 0 → StC U (afS lb s (wk cs ns s) S) → gI U 2 = gI x.2.2.1 2 → gI U 3 = gI x.2.2.1 3 → F = 0 → (wk cs ns s = 6 → brF 6 S = true ∧ opn (lb s) S = false) → lbs N lb s (wk cs ns s) (aq cs ns s) = true → P_U_faultOf_181 post s (upU x U) := by
    intro U hw0 hsU g2 g3 hF0 h6 hlb
    have hlen : (afS lb s (wk cs ns s) S).length ≤ s := by
      unfold afS
      split
      · rw [List.length_tail]; omega
      · have := (popL_ok (l := lb s) hst.2.1).2; omega
    refine opens_c h hs hlen hsU (fun q => ?_) (fun U' hs' k2 k3 => ?_) (fun q => ?_)
    · obtain ⟨hb, ho⟩ := h6 q
      have eaf : afS lb s (wk cs ns s) S = S := by unfold afS; rw [if_neg (by omega), popL_no ho]
      rw [eaf]
      cases S with
      | nil => exact absurd hb (by simp [brF])
      | cons y T =>
        refine ⟨y, T, rfl, ?_⟩
        simp only [brF, Bool.and_eq_true, decide_eq_true_eq] at hb
        exact hb.1
    · have := hpost U' (fun _ => by unfold nxS; exact hs') (k2.trans g2) (k3.trans g3)
      rw [hF0] at this
      exact this
    · obtain ⟨v, hv, _⟩ := RC_1 h2.1.2.2.2 q
      have ea : aq cs ns s = [v] := hv
      rw [ea] at hlb ⊢
      intro hz
      have hz' : v = 0 := by simpa using hz
      subst hz'
      unfold lbs at hlb
      simp [q, hasF_0] at hlb
  have c106 : wk cs ns s ≠ 0 → (F = if lbs N lb s (wk cs ns s) (aq cs ns s) = false then 6 else if (wk cs ns s = 14) ≠ (s + 1 = N) then 7 else if wk cs ns s = 14 ∧ afS lb s (wk cs ns s) S ≠ [] then 8 else 0) → ((wk cs ns s = 5 ∨ wk cs ns s = 6 ∨ wk cs ns s = 7) → brF (wk cs ns s) S = true) → (opn (lb s) S = true → mayE (wk cs ns s) = true) → P_U_faultOf_106 post (nI s) s x := by
    intro hw0 hFe hbr hop
    have after : ∀ (U : MS), StC U (afS lb s (wk cs ns s) S) → gI U 2 = gI x.2.2.1 2 → gI U 3 = gI x.2.2.1 3 → P_U_hasItsLabels (fun r11 u10 => ((¬ r11 = 0 → ((¬ nI s = ((gI u10.2.1 1) - (1 : Int32)) → P_U_faultOf_138 post s 0 u10) ∧ (nI s = ((gI u10.2.1 1) - (1 : Int32)) → P_U_faultOf_138 post s 1 u10))) ∧ (r11 = 0 → post 6 u10))) (nI s) (upU x U) := by
      intro U hsU g2 g3
      have hU : DkI N cs ns lb (upU x U) m := h
      have bad : F ≠ 0 → post (nI F) (upU x U) := fun hF0 => hpost U (fun q => absurd q hF0) g2 g3
      refine labels_c hU hs ?_
      rw [b2i_0]
      refine ⟨fun q => ?_, fun q => ?_⟩
      · have hlb : lbs N lb s (wk cs ns s) (aq cs ns s) = true := by simpa using q
        rw [if_neg (by rw [hlb]; decide)] at hFe
        have e1 : gI (upU x U).2.1 1 - 1 = nI (N - 1) := by
          rw [show gI (upU x U).2.1 1 = nI N from h.2.1, show N = (N - 1) + 1 by omega, nI_pred]
          rfl
        rw [e1, nI_eq (by omega) (by omega)]
        have h8' : gI ((upU x U).2.2.2 s) 8 = nI (wk cs ns s) := h8
        have c154 : ∀ (x4 s0 : Int32), (x4 = if s + 1 = N then 1 else 0) → (s0 = if wk cs ns s = 14 then 1 else 0) → P_U_faultOf_154 post s x4 s0 (upU x U) := by
          intro x4 s0 hx4 hs0
          unfold P_U_faultOf_154
          rw [h8', show (nI (wk cs ns s) = 14) ↔ wk cs ns s = 14 from e 14 (by decide)]
          refine ⟨fun r => ⟨by omega, fun r14 => ?_, fun r14 => ?_⟩, fun r => ?_⟩
          · rw [if_neg (by
              intro hne
              apply hne
              rw [hx4, hs0, if_neg r14] at r
              by_cases hl : s + 1 = N
              · rw [if_pos hl] at r; exact absurd r (by decide)
              · simp [r14, hl]), if_neg (fun q => r14 q.1)] at hFe
            exact c181 U hw0 hsU g2 g3 hFe (fun q6 => ⟨by have := hbr (Or.inr (Or.inl q6)); rw [q6] at this; exact this, by
              cases ho : opn (lb s) S
              · rfl
              · have := hop ho; rw [q6] at this; exact absurd this (by decide)⟩) hlb
          · have hl : s + 1 = N := by
              rw [hx4, hs0, if_pos r14] at r
              by_cases hl : s + 1 = N
              · exact hl
              · rw [if_neg hl] at r; exact absurd r (by decide)
            rw [if_neg (by intro hne; apply hne; simp [r14, hl])] at hFe
            have d1 : gI (upU x U).2.2.1 1 = nI (afS lb s (wk cs ns s) S).length := hsU.2.2.1
            have h24 := hsU.1
            rw [d1, show (nI (afS lb s (wk cs ns s) S).length ≤ 0) ↔ (afS lb s (wk cs ns s) S).length ≤ 0 from nI_leI (b := 0) (by omega) (by decide)]
            refine ⟨fun hz => ?_, fun hz => ?_⟩
            · have hnil : afS lb s (wk cs ns s) S = [] := List.eq_nil_of_length_eq_zero (by omega)
              rw [if_neg (fun q => q.2 hnil)] at hFe
              exact c181 U hw0 hsU g2 g3 hFe (fun q6 => by omega) hlb
            · have hnn : afS lb s (wk cs ns s) S ≠ [] := fun q => hz (by rw [q]; decide)
              rw [if_pos ⟨r14, hnn⟩] at hFe
              have := bad (by omega)
              rw [hFe] at this
              exact this
          · rw [if_pos (by
              intro heq
              apply r
              rw [hx4, hs0]
              by_cases h14 : wk cs ns s = 14
              · rw [if_pos h14, if_pos (by rw [← heq]; exact h14)]
              · rw [if_neg h14, if_neg (fun q => h14 (by rw [heq]; exact q))])] at hFe
            have := bad (by omega)
            rw [hFe] at this
            exact this
        have c138 : ∀ x4 : Int32, (x4 = if s + 1 = N then 1 else 0) → P_U_faultOf_138 post s x4 (upU x U) := by
          intro x4 hx4
          unfold P_U_faultOf_138
          rw [h8', show (nI (wk cs ns s) = 14) ↔ wk cs ns s = 14 from e 14 (by decide)]
          exact ⟨by omega, fun r => c154 x4 0 hx4 (by rw [if_neg r]), fun r => c154 x4 1 hx4 (by rw [if_pos r])⟩
        exact ⟨fun r => c138 0 (by rw [if_neg (by omega)]), fun r => c138 1 (by rw [if_pos (by omega)])⟩
      · rw [if_pos q] at hFe
        have := bad (by omega)
        rw [hFe] at this
        exact this
    show P_U_endWhatEnds _ s x
    unfold P_U_endWhatEnds
    rw [h8, show (nI (wk cs ns s) = 7) ↔ wk cs ns s = 7 from e 7 (by decide)]
    refine ⟨by omega, fun q => ⟨S.length + 1, ee_loop (by omega) h1 h7 S x.2.2.1 hst (fun U' hs' k2 k3 => after U' (by unfold afS; rw [if_neg q]; exact hs') k2 k3)⟩, fun q => ?_⟩
    have hb := hbr (Or.inr (Or.inr q))
    cases S with
    | nil => exact absurd hb (by simp [brF])
    | cons y T =>
      have ho : opn (lb s) (y :: T) = false := by
        cases ho : opn (lb s) (y :: T)
        · rfl
        · have := hop ho; rw [q] at this; exact absurd this (by decide)
      have hoT : opn (lb s) T = false := by
        unfold opn at ho ⊢
        rw [List.any_cons] at ho
        simp only [Bool.or_eq_false_iff] at ho
        exact ho.2
      have d1 : gI x.2.2.1 1 = nI (T.length + 1) := hst.2.2.1
      have h24 := hst.1
      rw [List.length_cons] at h24
      rw [d1, nI_pred]
      refine ⟨fun r => absurd r (nI_nle (by omega) (by omega)), fun _ => ⟨T.length + 1, ee_loop (x := x) (by omega) h1 h7 T (sI x.2.2.1 1 (nI T.length)) hst.pop (fun U' hs' k2 k3 => after U' ?_ (k2.trans (by rw [gI_sI, if_neg (by decide)])) (k3.trans (by rw [gI_sI, if_neg (by decide)])))⟩⟩
      unfold afS
      rw [if_pos q]
      rw [popL_no hoT] at hs'
      exact hs'
  have c75 : wk cs ns s ≠ 0 → (F = if opn (lb s) S = true ∧ ¬ (tpL (lb s) S = true ∧ mayE (wk cs ns s) = true) then 5 else if lbs N lb s (wk cs ns s) (aq cs ns s) = false then 6 else if (wk cs ns s = 14) ≠ (s + 1 = N) then 7 else if wk cs ns s = 14 ∧ afS lb s (wk cs ns s) S ≠ [] then 8 else 0) → ((wk cs ns s = 5 ∨ wk cs ns s = 6 ∨ wk cs ns s = 7) → brF (wk cs ns s) S = true) → P_U_faultOf_75 post (nI s) s x := by
    intro hw0 hFe hbr
    unfold P_U_faultOf_75
    rw [h7]
    refine ⟨by omega, isOpen_c h1 hst ?_⟩
    rw [b2i_0]
    refine ⟨fun q => ?_, fun q => ?_⟩
    · rw [if_neg (by rw [q]; simp)] at hFe
      exact c106 hw0 hFe hbr (fun r => by rw [q] at r; exact absurd r (by decide))
    · have ho : opn (lb s) S = true := by simpa using q
      have five : ¬ (tpL (lb s) S = true ∧ mayE (wk cs ns s) = true) → post 5 x := by
        intro hn
        rw [if_pos ⟨ho, hn⟩] at hFe
        have := same (by omega)
        rw [hFe] at this
        exact this
      refine inner_c hst (fun hS => ?_) (fun y T hS => ⟨by omega, ?_⟩)
      · rw [hS] at ho
        exact absurd ho (by simp [opn])
      · have hy := hst.2.1 y (by rw [hS]; exact List.mem_cons_self)
        rw [h7, cv_eq hy h1]
        have htp : tpL (lb s) S = (decide (y.1 = lb s) && !decide (lb s = 0)) := by rw [hS]; rfl
        refine ⟨fun r => five (fun q2 => r ?_), fun r => ⟨by omega, mayEnd_c h8 hk17 ?_⟩⟩
        · rw [htp] at q2
          simpa using q2.1
        · rw [xs_same, b2i_0]
          refine ⟨fun q2 => ?_, fun q2 => five (fun q3 => by rw [q2] at q3; exact absurd q3.2 (by decide))⟩
          have hm : mayE (wk cs ns s) = true := by simpa using q2
          have ht : tpL (lb s) S = true := by rw [htp]; simp [r.1, r.2]
          rw [if_neg (fun q3 => q3.2 ⟨ht, hm⟩)] at hFe
          exact c106 hw0 hFe hbr (fun _ => hm)
  have c58 : wk cs ns s ≠ 0 → (F = if (wk cs ns s = 5 ∨ wk cs ns s = 6 ∨ wk cs ns s = 7) ∧ brF (wk cs ns s) S = false then 4 else if opn (lb s) S = true ∧ ¬ (tpL (lb s) S = true ∧ mayE (wk cs ns s) = true) then 5 else if lbs N lb s (wk cs ns s) (aq cs ns s) = false then 6 else if (wk cs ns s = 14) ≠ (s + 1 = N) then 7 else if wk cs ns s = 14 ∧ afS lb s (wk cs ns s) S ≠ [] then 8 else 0) → P_U_faultOf_58 post (nI s) s x := by
    intro hw0 hFe
    unfold P_U_faultOf_58
    refine ⟨by omega, branch_c h8 hk17 (fun q => ?_) (fun q => ?_)⟩
    · rw [xs_same]
      refine ⟨fun r => absurd r (by decide), fun _ => ?_⟩
      have four : brF (wk cs ns s) S = false → post 4 x := by
        intro hb
        rw [if_pos ⟨q, hb⟩] at hFe
        have := same (by omega)
        rw [hFe] at this
        exact this
      have good : brF (wk cs ns s) S = true → P_U_faultOf_75 post (nI s) s x := by
        intro hb
        rw [if_neg (fun r => by rw [hb] at r; exact absurd r.2 (by decide))] at hFe
        exact c75 hw0 hFe (fun _ => hb)
      unfold P_U_branchFits
      refine inner_c hst (fun hS => ?_) (fun y T hS => ?_)
      · have hb : brF (wk cs ns s) S = false := by rw [hS]; rfl
        refine ⟨fun r => absurd r (by decide), fun _ => inner_c hst (fun _ => ⟨fun _ => ⟨fun r => absurd rfl r, fun _ => four hb⟩, fun r => absurd r (by decide)⟩) (fun y T hS' => by rw [hS] at hS'; exact absurd hS' (by simp))⟩
      · have hy := hst.2.1 y (by rw [hS]; exact List.mem_cons_self)
        have hbe : brF (wk cs ns s) S = (decide (y.1 = 0) && (decide (wk cs ns s = 7) || !y.2)) := by rw [hS]; rfl
        rw [cv_m1 hy]
        refine ⟨fun r => ⟨fun _ => good (by rw [hbe]; simp [r.1, r.2]), fun r2 => absurd r2 (by decide)⟩, fun r => inner_c hst (fun hS' => by rw [hS] at hS'; exact absurd hS' (by simp)) (fun y' T' hS' => ?_)⟩
        have ey : y' = y := by rw [hS] at hS'; exact (List.cons.inj hS').1.symm
        subst ey
        rw [cv_m2 hy]
        refine ⟨fun r2 => ⟨fun r3 => absurd rfl r3, fun _ => four ?_⟩, fun r2 => ⟨by omega, ?_⟩⟩
        · rw [hbe]
          by_cases e0 : y'.1 = 0
          · cases ey2 : y'.2
            · exact absurd ⟨e0, ey2⟩ r
            · exact absurd ⟨e0, ey2⟩ r2
          · simp [e0]
        · rw [h8, show (nI (wk cs ns s) = 7) ↔ wk cs ns s = 7 from e 7 (by decide)]
          refine ⟨fun r3 => ⟨fun r4 => absurd rfl r4, fun _ => four (by rw [hbe]; simp [r3, r2.2])⟩, fun r3 => ⟨fun _ => good (by rw [hbe]; simp [r3, r2.1]), fun r4 => absurd r4 (by decide)⟩⟩
    · rw [xs_same]
      rw [if_neg (fun r => q r.1)] at hFe
      exact ⟨fun _ => c75 hw0 hFe (fun r => absurd r q), fun r => absurd rfl r⟩
  unfold P_U_faultOf
  rw [nI_clamp (by omega), h8, h7, show (nI (wk cs ns s) = 0) ↔ wk cs ns s = 0 from e 0 (by decide)]
  refine ⟨vp_in_nI (by omega) (by decide), by omega, fun q => ⟨by omega, ?_⟩, fun q => ?_⟩
  · rw [if_neg q] at hF
    refine hasNumber_c (a := 0) h h1 (by omega) (Nat.zero_le _) ?_
    rw [Nat.sub_zero, b2i_0]
    refine ⟨fun q2 => ⟨by omega, declares_c h8 hk17 ?_⟩, fun q2 => ?_⟩
    · rw [if_neg (by rw [q2]; decide)] at hF
      rw [xs_same, b2i_0]
      have dc : dcl (wk cs ns s) = true ↔ (wk cs ns s = 15 ∨ wk cs ns s = 16) := by simp [dcl]
      refine ⟨fun q3 => ?_, fun q3 => ?_⟩
      · rw [if_neg (fun r => by rw [dc.mpr r.1] at q3; exact absurd q3 (by decide))] at hF
        exact c58 q hF.symm
      · have hd : dcl (wk cs ns s) = true := by simpa using q3
        rw [show (nI s ≤ 0) ↔ s ≤ 0 from nI_leI (b := 0) (by omega) (by decide)]
        refine ⟨fun q4 => ?_, fun q4 => ?_⟩
        · rw [if_neg (fun r => by
            have : decide (0 < s) = false := by simp; omega
            rw [this] at r
            exact absurd r.2 (by simp))] at hF
          exact c58 q hF.symm
        · have e1 : nI s - 1 = nI (s - 1) := by
            rw [show s = (s - 1) + 1 by omega, nI_pred]
            rfl
          obtain ⟨_, h2', _⟩ := h.2.2.2 (s - 1) (by omega)
          have hk' : wk cs ns (s - 1) ≤ 17 := (RC_bd (cs (s - 1)) (ns (s - 1))).2.2
          have e4 : va_up x.2.2.2 s (x.2.2.2 s) = x.2.2.2 := (Prod.mk.inj (Prod.mk.inj (Prod.mk.inj (xs_same x s)).2).2).2
          rw [e1, nI_clamp (by omega), e4]
          refine ⟨vp_in_nI (by omega) (by decide), by omega, declares_c h2'.2.1.1 hk' ?_⟩
          rw [xs_same, b2i_0]
          have hpos : decide (0 < s) = true := by simp; omega
          refine ⟨fun q5 => ?_, fun q5 => ?_⟩
          · have hd' : dcl (wk cs ns (s - 1)) = true := by simpa using q5
            rw [if_neg (fun r => by rw [hd'] at r; exact absurd r.2 (by simp))] at hF
            exact c58 q hF.symm
          · rw [if_pos ⟨dc.mp hd, by rw [hpos, q5]; rfl⟩] at hF
            have := same (by omega)
            rw [← hF] at this
            exact this
    · rw [if_pos (by simpa using q2)] at hF
      have := same (by omega)
      rw [← hF] at this
      exact this
  · rw [if_pos q] at hF
    have := same (by omega)
    rw [← hF] at this
    exact this
end FL2
