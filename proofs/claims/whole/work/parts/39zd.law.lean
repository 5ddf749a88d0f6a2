/-! the runs of calls -/
section LAW
variable {x : XS} {m : MS}
theorem apB_k (k : Nat) (w : Int64) : ∀ (n : Nat) (u : MS), (∀ j, j ≠ 1 → gI (apB k w n u) j = gI u j) ∧ ∀ f, f ≠ k → ∀ i, gA (apB k w n u) f i = gA u f i := by
  intro n
  induction n with
  | zero => intro u; exact ⟨fun _ _ => rfl, fun _ _ _ => rfl⟩
  | succ n ih =>
    intro u
    unfold apB
    split
    · exact ih u
    · obtain ⟨h1, h2⟩ := ih (pS k u (wb w n))
      refine ⟨fun j hj => (h1 j hj).trans ?_, fun f hf i => (h2 f hf i).trans ?_⟩
      · unfold pS; rw [gI_sI, if_neg hj, gI_sA]
      · unfold pS; rw [gA_sI, gA_sA, if_neg (fun q => hf q.1)]
theorem nar8 : ∀ j, j < 256 → vp_nar .char (((nI j).toUInt32 % 65536).toInt32) = nI j := by decide +kernel
theorem apB_cd (w : Int64) (X : MS × MS × (Nat → MS)) : ∀ (n k : Nat) (cd : Nat → Nat) (a b : MS), k + cB w n ≤ 72 → CdI k cd (a, X) b → ∃ k' cd', CdI k' cd' (apB 0 w n a, X) (apB 2 w n b) := by
  intro n
  induction n with
  | zero => intro k cd a b _ h; exact ⟨k, cd, h⟩
  | succ n ih =>
    intro k cd a b hk h
    unfold cB at hk
    unfold apB
    by_cases h0 : wb w n = 0
    · rw [if_pos h0, if_pos h0]
      rw [if_pos h0] at hk
      exact ih k cd a b (by omega) h
    · rw [if_neg h0, if_neg h0]
      rw [if_neg h0] at hk
      obtain ⟨j, hj, ej⟩ := wb_ex w n
      have hj0 : 0 < j := by
        by_cases e : j = 0
        · subst e; exact absurd ej h0
        · omega
      have ga : gI a 1 = nI k := h.2.1
      have gb : gI b 1 = nI k := h.2.2.1
      refine ih (k + 1) (fun i => if i = k then j else cd i) _ _ (by omega) ⟨by omega, ?_, ?_, fun i hi => ?_⟩
      · show gI (pS 0 a (wb w n)) 1 = _
        rw [pS_1, ga, nI_1]
      · rw [pS_1, gb, nI_1]
      · show gA (pS 0 a (wb w n)) 0 i = _ ∧ _
        unfold pS
        rw [gA_sI, gA_sA, gA_sI, gA_sA, ga, gb, nI_clamp (by omega), ej, nar8 j hj]
        by_cases e : i = k
        · rw [if_pos ⟨rfl, e⟩, if_pos ⟨rfl, e⟩]
          simp only [if_pos e]
          exact ⟨trivial, trivial, hj0, hj⟩
        · rw [if_neg (fun q => e q.2), if_neg (fun q => e q.2)]
          simp only [if_neg e]
          exact h.2.2.2 i (by omega)
theorem wrA_c {w : Int64} {l : Nat} (h : wrA w l = 1) : l + cB w 8 ≤ 72 := by
  unfold wrA at h
  cases hq : okB w 8 0 with
  | none => rw [hq] at h; exact absurd (show (0 : Int32) = 1 from h) (by decide)
  | some q =>
    rw [hq] at h
    simp only at h
    have := okB_c hq
    split at h
    · omega
    · exact absurd h (by decide)
theorem write_both (h : Inv x m) {w : Int64} {Q : Int32 → XS → Int32 → MS → Prop} (hq : ∀ r x' m', Inv x' m' → Q r x' r m') : P_D_write (fun r u => P_M_write (fun r' u' => Q r u r' u') w m) w x := by
  obtain ⟨⟨k, cd, hc⟩, N, cs, ns, lb, hd⟩ := h
  refine dWrite_of hc.2.1 hc.1 (mWrite_of hc.2.2.1 hc.1 (hq _ _ _ ?_))
  have hc0 : CdI k cd (x.1, x.2) (sI m 0 0) := ⟨hc.1, hc.2.1, hc.2.2.1, hc.2.2.2⟩
  by_cases e : wrA w k = 1
  · rw [if_pos e, if_pos e]
    obtain ⟨h1, h2⟩ := apB_k 2 w 8 (sI m 0 0)
    refine ⟨apB_cd w x.2 8 k cd x.1 (sI m 0 0) (wrA_c e) hc0, N, cs, ns, lb, hd.keep rfl (h1 3 (by decide)) (fun _ _ => rfl) (fun s _ => ⟨h2 4 (by decide) s, h2 5 (by decide) s⟩) (fun i _ => h2 6 (by decide) i)⟩
  · rw [if_neg e, if_neg e]
    exact ⟨⟨k, cd, hc0⟩, N, cs, ns, lb, hd.keep rfl rfl (fun _ _ => rfl) (fun _ _ => ⟨rfl, rfl⟩) (fun _ _ => rfl)⟩
theorem Inv.upU (h : Inv x m) (U' : MS) : Inv (upU x U') m := h
theorem Inv.clear (h : Inv x m) : Inv (x.1, (sI x.2.1 1 (0 : Int32)), x.2.2.1, x.2.2.2) (sI (sI m 0 (0 : Int32)) 3 (0 : Int32)) := by
  obtain ⟨⟨k, cd, hc⟩, _⟩ := h
  exact ⟨⟨k, cd, hc.1, hc.2.1, hc.2.2.1, hc.2.2.2⟩, 0, fun _ => c00, c00, c00, by decide, rfl, rfl, fun s hs => absurd hs (by omega)⟩
theorem lend : ∀ L, L < 3 → ∀ i, i < 3 → nI L - (3 : Int32) < nI i := by decide
theorem lend2 {L i : Nat} (hL : L ≤ 1536) (hi : i ≤ L) (h : ¬ nI L - (3 : Int32) < nI i) : i + 3 ≤ L := by
  by_cases h3 : L < 3
  · exact absurd (lend L h3 i (by omega)) h
  · have e : nI L - (3 : Int32) = nI (L - 3) := by
      rw [show (3 : Int32) = nI 3 from rfl, pk_sub (by omega)]
    rw [e, nI_ltI (by omega) (by omega)] at h
    omega
theorem law_loop {L : Nat} {xs : Nat → Int32} (hL : L ≤ 1536) : ∀ (f i : Nat) (x : XS) (m : MS) (out : Nat → Int64), Inv x m → i ≤ L → L < i + 3 * f → P_L_law_23 L xs f (nI i) (x, m, out) := by
  intro f
  induction f with
  | zero => intro i x m out _ hi hf; omega
  | succ f ih =>
    intro i x m out h hi hf
    refine ⟨fun _ => trivial, fun hn => ?_⟩
    have h3 := lend2 hL hi hn
    have v0 : vp_in (nI i) L := vp_in_nI (by omega) (by omega)
    have v1 : vp_in (nI i + (1 : Int32)) L := by rw [nI_1]; exact vp_in_nI (by omega) (by omega)
    have v2 : vp_in (nI i + (2 : Int32)) L := by rw [show (2 : Int32) = nI 2 from rfl, nI_add]; exact vp_in_nI (by omega) (by omega)
    have K : ∀ x' m' out', Inv x' m' → P_L_law_448 L xs (fun zx4 zu => P_L_law_23 L xs f zx4 zu) (nI i) (x', m', out') := by
      intro x' m' out' h'
      show P_L_law_23 L xs f (nI i + 3) (x', m', out')
      rw [show (3 : Int32) = nI 3 from rfl, nI_add]
      exact ih (i + 3) x' m' out' h' (by omega) (by omega)
    have hI := h
    obtain ⟨hcd, N, cs, ns, lb, hd⟩ := h
    have same : ∀ {r : Int32} {P : Prop}, P → (r = r → P) ∧ (¬ r = r → False) := fun p => ⟨fun _ => p, fun q => q rfl⟩
    refine ⟨v0, fun _ => ⟨v1, v2, ?_⟩, fun _ => ⟨fun _ => ?_, fun _ => ⟨fun _ => ?_, fun _ => ⟨fun _ => ?_, fun _ => ⟨fun _ => ⟨v1, ?_⟩, fun _ => ⟨fun _ => ⟨v1, ?_⟩, fun _ => ⟨fun _ => ⟨v1, v2, ?_⟩, fun _ => ⟨fun _ => ⟨v1, v2, ?_⟩, fun _ => ⟨fun _ => ⟨v1, v2, ?_⟩, fun _ => ⟨fun _ => ?_, fun _ => ⟨fun _ => ?_, fun _ => ?_⟩⟩⟩⟩⟩⟩⟩⟩⟩⟩⟩
    · obtain ⟨⟨k, cd, hc⟩, _⟩ := hI
      refine dWrite_of hc.2.1 hc.1 ⟨v1, v2, ?_⟩
      refine mWrite_of hc.2.2.1 hc.1 (same (K _ _ _ ?_))
      have hc0 : CdI k cd (x.1, x.2) (sI m 0 0) := ⟨hc.1, hc.2.1, hc.2.2.1, hc.2.2.2⟩
      split
      · rename_i e
        obtain ⟨h1, h2⟩ := apB_k 2 _ 8 (sI m 0 0)
        exact ⟨apB_cd _ x.2 8 k cd x.1 (sI m 0 0) (wrA_c e) hc0, N, cs, ns, lb, hd.keep rfl (h1 3 (by decide)) (fun _ _ => rfl) (fun s _ => ⟨h2 4 (by decide) s, h2 5 (by decide) s⟩) (fun i _ => h2 6 (by decide) i)⟩
      · exact ⟨⟨k, cd, hc0⟩, N, cs, ns, lb, hd.keep rfl rfl (fun _ _ => rfl) (fun _ _ => ⟨rfl, rfl⟩) (fun _ _ => rfl)⟩
    · refine card_both (out := out) hI (fun r x' m' h' g => ?_) (fun x' m' r h' g => ?_) (fun x' m' r h' g => ?_)
      · refine ⟨fun _ => ⟨fun q => absurd rfl q, fun _ => ⟨vp_in_nI (n := 0) (by decide) (by decide), fun _ => K _ _ _ h', fun q => q ((lg_cmp_eq _ _).mpr rfl)⟩⟩, fun q => q g⟩
      · exact ⟨fun _ => ⟨fun _ => K _ _ _ h', fun q => absurd q (by decide)⟩, fun q => q g⟩
      · exact ⟨fun _ => ⟨fun _ => K _ _ _ h', fun q => absurd q (by decide)⟩, fun q => q g⟩
    · exact K _ _ _ hI.clear
    · exact ⟨fun _ => K _ _ _ (hI.kd (Kd.s0 m 0)), fun q => q (hd.2.1.trans hd.2.2.1.symm)⟩
    · exact label_c hd ⟨v1, label_m hd (same (K _ _ _ (hI.kd (Kd.s0 m 0))))⟩
    · exact what_c hd ⟨v1, what_m hd (fun w kw => same (K _ _ _ (hI.kd kw)))⟩
    · exact shown_c hd ⟨v1, v2, shown_m hd (fun w kw => same (K _ _ _ (hI.kd kw)))⟩
    · exact kind_c hd ⟨v1, v2, kind_m hd (fun w kw => same (K _ _ _ (hI.kd kw)))⟩
    · exact type_c hd ⟨v1, v2, type_m hd (fun w kw => same (K _ _ _ (hI.kd kw)))⟩
    · exact fault_c hd (fun U' => fault_m hd (fun v kv => same (K _ _ _ ((hI.kg kv).upU U'))))
    · exact faultAt_c hd (fun U' => faultAt_m hd (fun v kv => same (K _ _ _ ((hI.kg kv).upU U'))))
    · exact K _ _ _ hI
theorem pure_whole {L : Nat} {xs : Nat → Int32} (hL : L ≤ 1536) : ∃ f, f ≤ 600 ∧ P_L_law_23 L xs f 0 ZS0 := by
  refine ⟨600, Nat.le_refl _, ?_⟩
  have h := law_loop (xs := xs) hL 600 0 (z0, z0, z0, fun _ => z0) z0 (fun _ => 0) ⟨CdI.z rfl rfl, 0, fun _ => c00, c00, c00, by decide, rfl, rfl, fun s hs => absurd hs (by omega)⟩ (by omega) (by omega)
  exact h
end LAW
