section CR4
variable {N k : Nat} {cd : Nat → Nat} {cs : Nat → Nat → Nat} {ns lb : Nat → Nat} {x : XS} {m : MS}
def pW (w : MS) (p : Nat) (a b c : Int32) : MS := sI (sA (sA w 5 p a) 4 p b) 3 c
theorem pW_i (w : MS) (p : Nat) (a b c : Int32) {j : Nat} (h : j ≠ 3) : gI (pW w p a b c) j = gI w j := by unfold pW; rw [gI_sI, if_neg h, gI_sA, gI_sA]
theorem pW_3 (w : MS) (p : Nat) (a b c : Int32) : gI (pW w p a b c) 3 = c := by unfold pW; rw [gI_sI, if_pos rfl]
theorem pW_4 (w : MS) (p : Nat) (a b c : Int32) : gA (pW w p a b c) 4 p = b := by unfold pW; rw [gA_sI, gA_sA, if_pos ⟨rfl, rfl⟩]
theorem pW_5 (w : MS) (p : Nat) (a b c : Int32) : gA (pW w p a b c) 5 p = a := by unfold pW; rw [gA_sI, gA_sA, if_neg (fun q => absurd q.1 (by decide)), gA_sA, if_pos ⟨rfl, rfl⟩]
theorem pW_n (w : MS) (p : Nat) (a b c : Int32) {f s : Nat} (h : (f ≠ 4 ∧ f ≠ 5) ∨ s ≠ p) : gA (pW w p a b c) f s = gA w f s := by
  unfold pW
  rw [gA_sI, gA_sA, if_neg (by omega), gA_sA, if_neg (by omega)]
theorem card_both {out : Nat → Int64} (h : Inv x m) {Q : Int32 → XS × (Nat → Int64) → Int32 → MS → Prop} (hok : ∀ (r : Int32) x' m', Inv x' m' → gI m' 0 = 0 → Q 0 (x', vp_updL out 0 r.toInt64) r m') (h1t : ∀ x' m' r, Inv x' m' → gI m' 0 = 1 → Q 1 (x', out) r m') (h2t : ∀ x' m' r, Inv x' m' → gI m' 0 = 2 → Q 2 (x', out) r m') : P_L_card (fun r6 u5 => P_M_card (fun r8 u7 => Q r6 u5 r8 u7) m) (x, out) := by
  obtain ⟨⟨k, cd, hc⟩, N, cs, ns, lb, hd⟩ := h
  have hN := hd.1
  have cv : Cv k cd x.1 := ⟨hc.1, hc.2.1, fun i hi => ⟨(hc.2.2.2 i hi).1, (hc.2.2.2 i hi).2.2⟩⟩
  have hrow : 0 < N → Tx (cs (N - 1)) (ns (N - 1)) (x.2.2.2 (N - 1)) ∧ gI (x.2.2.2 (N - 1)) 6 = b2i (iqN (cs (N - 1)) (ns (N - 1))) := fun q => ⟨(hd.2.2.2 (N - 1) (by omega)).2.1.1, (hd.2.2.2 (N - 1) (by omega)).2.1.2.2.1⟩
  have i0 : ∀ t : Int32, Inv (x0 x) (sI (m0 m) 0 t) := fun t => ⟨CdI.z rfl rfl, N, cs, ns, lb, hd.keep rfl rfl (fun _ _ => rfl) (fun _ _ => ⟨rfl, rfl⟩) (fun _ _ => rfl)⟩
  have n23 : ∀ s : Nat, s < 24 → ¬ nI s = -3 := fun s hs e => absurd (by rw [e]; decide : nI s < 0) (nI_pos (by omega))
  have n22 : ∀ s : Nat, s < 24 → ¬ nI s = -2 := fun s hs e => absurd (by rw [e]; decide : nI s < 0) (nI_pos (by omega))
  have tf : ∀ {b : Bool}, b = true → b = false → False := fun a b => by rw [a] at b; exact absurd b (by decide)
  cases hcm : cmC k cd
  · cases hwl : wlC k cd
    · refine Or.inr (Or.inl (join_c (n := ns (N - 1)) (c := cs (N - 1)) cv hN hd.2.1 hrow (fun q => (tf q hcm).elim) (fun _ _ => ⟨rfl, ?_⟩) (fun _ q => (tf q hwl).elim) (fun _ q => (tf q hwl).elim) (fun _ q => (tf q hwl).elim)))
      exact card_m hc hd (fun q => (tf q hcm).elim) (fun _ _ => h1t _ _ _ (i0 1) rfl) (fun _ q => (tf q hwl).elim) (fun _ q => (tf q hwl).elim) (fun _ q => (tf q hwl).elim)
    · by_cases hno : (coC k cd = true ∧ N = 0) ∨ (coC k cd = false ∧ N = 24)
      · have no4 : coC k cd = true → 0 < N → False := fun a b => by
          rcases hno with e | e
          · omega
          · exact tf a e.1
        have no5 : coC k cd = false → N < 24 → False := fun a b => by
          rcases hno with e | e
          · exact tf e.1 a
          · omega
        refine Or.inr (Or.inr (join_c (n := ns (N - 1)) (c := cs (N - 1)) cv hN hd.2.1 hrow (fun q => (tf q hcm).elim) (fun _ q => (tf hwl q).elim) (fun _ _ _ => ⟨rfl, ?_⟩) (fun _ _ a b => (no4 a b).elim) (fun _ _ a b => (no5 a b).elim)))
        exact card_m hc hd (fun q => (tf q hcm).elim) (fun _ q => (tf hwl q).elim) (fun _ _ _ => h2t _ _ _ (i0 2) rfl) (fun _ _ a b => (no4 a b).elim) (fun _ _ a b => (no5 a b).elim)
      · cases hco : coC k cd
        · have h24 : N < 24 := by
            by_cases e : N = 24
            · exact absurd (Or.inr ⟨hco, e⟩) hno
            · omega
          by_cases hT : (t00 cd k).1 ≤ 80
          · refine Or.inl (join_c (n := ns (N - 1)) (c := cs (N - 1)) cv hN hd.2.1 hrow (fun q => (tf q hcm).elim) (fun _ q => (tf hwl q).elim) (fun _ _ q => absurd q hno) (fun _ _ q => (tf q hco).elim) (fun _ _ _ _ => ⟨fun r _ tr r6 r7 => ⟨fun _ => ⟨fun _ => ?_, fun e => n23 N h24 e⟩, fun e => n22 N h24 e⟩, fun r q => absurd hT (by omega)⟩))
            refine find_of (N := N + 1) (x := ((sI x.1 1 (0 : Int32)), sI x.2.1 1 (nI (N + 1)), x.2.2.1, va_up x.2.2.2 N r)) (by omega) (by rw [gI_sI, if_pos rfl]) ?_
            rw [fnd_nI (by omega) (by omega)]
            refine ⟨fun q => absurd q (by simp), fun j q => ?_⟩
            have ej : N = j := Option.some.inj q
            subst ej
            refine ⟨h24, ?_⟩
            show P_S_recognise _ (va_up x.2.2.2 N r N)
            rw [va_up_at]
            refine recog_of tr (fun w hz hf => ?_)
            refine card_m hc hd (fun q => (tf q hcm).elim) (fun _ q => (tf hwl q).elim) (fun _ _ q => absurd q hno) (fun _ _ q => (tf q hco).elim) (fun _ _ _ _ w2 hw htx => ⟨fun q => absurd hT (by omega), fun _ => ?_⟩)
            have e3 : gI w2 3 + 1 = nI (N + 1) := by rw [hw.1 3, m0_3, hd.2.2.1, nI_1]
            refine hok (nI N) _ (pW w2 N (nI (t00 cd k).1) (nI (nuN cd (min k 5))) (gI w2 3 + 1)) ⟨CdI.z rfl ((pW_i _ _ _ _ _ (by decide)).trans (hw.1 1)), N + 1, ?_⟩ ((pW_i _ _ _ _ _ (by decide)).trans (hw.1 0))
            refine hd.put (p := N) (by omega) (fun s a b => by omega) rfl ((pW_3 _ _ _ _ _).trans e3) (fun s hs => ?_) (fun s hs => ⟨(pW_n _ _ _ _ _ (Or.inr hs)).trans (hw.2.1 4 (by decide) s), (pW_n _ _ _ _ _ (Or.inr hs)).trans (hw.2.1 5 (by decide) s)⟩) (fun i hi => (pW_n _ _ _ _ _ (Or.inl (by decide))).trans (hw.2.2 i hi)) (c := (t00 cd k).2.2) (n := (t00 cd k).1) (l := nuN cd (min k 5)) ?_ ?_ ⟨pW_4 _ _ _ _ _, pW_5 _ _ _ _ _, fun i hi => (pW_n _ _ _ _ _ (Or.inl (by decide))).trans (htx i hi (by omega))⟩
            · show va_up (va_up x.2.2.2 N r) N w s = x.2.2.2 s
              rw [va_up2, va_up_ne _ _ hs]
            · have h1 := nuN_lt cd (min k 5)
              have h2 : 10 ^ (min k 5) ≤ 10 ^ 5 := Nat.pow_le_pow_right (by decide) (Nat.min_le_right _ _)
              omega
            · show RowI _ _ _ (va_up (va_up x.2.2.2 N r) N w N)
              rw [va_up_at]
              exact ⟨tr.fs hf, hz, (hf.1 6 (by decide) (by decide)).trans r6, (hf.1 7 (by decide) (by decide)).trans r7⟩
          · refine Or.inr (Or.inr (join_c (n := ns (N - 1)) (c := cs (N - 1)) cv hN hd.2.1 hrow (fun q => (tf q hcm).elim) (fun _ q => (tf hwl q).elim) (fun _ _ q => absurd q hno) (fun _ _ q => (tf q hco).elim) (fun _ _ _ _ => ⟨fun r q => absurd q hT, fun r _ => ⟨rfl, ?_⟩⟩)))
            refine card_m hc hd (fun q => (tf q hcm).elim) (fun _ q => (tf hwl q).elim) (fun _ _ q => absurd q hno) (fun _ _ q => (tf q hco).elim) (fun _ _ _ _ w2 hw htx => ⟨fun _ => h2t _ _ _ ⟨CdI.z rfl (hw.1 1), N, cs, ns, lb, ?_⟩ rfl, fun q => absurd q hT⟩)
            exact hd.keep rfl (hw.1 3) (fun s hs => va_up_ne _ _ (by omega)) (fun s _ => ⟨hw.2.1 4 (by decide) s, hw.2.1 5 (by decide) s⟩) (fun i hi => hw.2.2 i (Or.inl hi))
        · have h0 : 0 < N := by
            by_cases e : N = 0
            · exact absurd (Or.inl ⟨hco, e⟩) hno
            · omega
          obtain ⟨l5, ⟨tr0, rz0, r60, r70⟩, md0⟩ := hd.2.2.2 (N - 1) (by omega)
          have n80 := tr0.1
          by_cases hT : (apF cd (k - 6) 6 (ns (N - 1), iqN (cs (N - 1)) (ns (N - 1)), cs (N - 1))).1 ≤ 80
          · refine Or.inl (join_c (n := ns (N - 1)) (c := cs (N - 1)) cv hN hd.2.1 hrow (fun q => (tf q hcm).elim) (fun _ q => (tf hwl q).elim) (fun _ _ q => absurd q hno) (fun _ _ _ _ => ⟨fun r _ hg => ⟨fun _ => ⟨fun _ => ?_, fun e => n23 (N - 1) (by omega) e⟩, fun e => n22 (N - 1) (by omega) e⟩, fun r q => absurd hT (by omega)⟩) (fun _ _ q => (tf hco q).elim))
            refine find_of (N := N) (x := ((sI x.1 1 (0 : Int32)), x.2.1, x.2.2.1, va_up x.2.2.2 (N - 1) r)) hN hd.2.1 ?_
            rw [fnd_nI hN (by omega)]
            refine ⟨fun q => absurd q (by simp), fun j q => ?_⟩
            have ej : N - 1 = j := Option.some.inj q
            subst ej
            refine ⟨by omega, ?_⟩
            show P_S_recognise _ (va_up x.2.2.2 (N - 1) r (N - 1))
            rw [va_up_at]
            obtain ⟨tr, r6, rq, rn, rc, rf⟩ := hg
            refine recog_of tr (fun w hz hf => ?_)
            refine card_m hc hd (fun q => (tf q hcm).elim) (fun _ q => (tf hwl q).elim) (fun _ _ q => absurd q hno) (fun _ _ _ _ w2 hw htx => ⟨fun q => absurd hT (by omega), fun _ => ?_⟩) (fun _ _ q => (tf hco q).elim)
            have e3 : gI w2 3 = nI N := by rw [hw.1 3, m0_3, hd.2.2.1]
            refine hok (nI (N - 1)) _ (pW w2 (N - 1) (nI (apF cd (k - 6) 6 (ns (N - 1), iqN (cs (N - 1)) (ns (N - 1)), cs (N - 1))).1) (gA w2 4 (N - 1)) (gI w2 3)) ⟨CdI.z rfl ((pW_i _ _ _ _ _ (by decide)).trans (hw.1 1)), N, ?_⟩ ((pW_i _ _ _ _ _ (by decide)).trans (hw.1 0))
            refine hd.put (p := N - 1) hN (fun s a b => a) hd.2.1 ((pW_3 _ _ _ _ _).trans e3) (fun s hs => ?_) (fun s hs => ⟨(pW_n _ _ _ _ _ (Or.inr hs)).trans (hw.2.1 4 (by decide) s), (pW_n _ _ _ _ _ (Or.inr hs)).trans (hw.2.1 5 (by decide) s)⟩) (fun i hi => (pW_n _ _ _ _ _ (Or.inl (by decide))).trans (hw.2.2 i (by omega))) (l := lb (N - 1)) l5 ?_ ⟨(pW_4 _ _ _ _ _).trans ((hw.2.1 4 (by decide) _).trans md0.1), pW_5 _ _ _ _ _, fun i hi => (pW_n _ _ _ _ _ (Or.inl (by decide))).trans (htx i hi (by omega))⟩
            · show va_up (va_up x.2.2.2 (N - 1) r) (N - 1) w s = x.2.2.2 s
              rw [va_up2, va_up_ne _ _ hs]
            · show RowI _ _ _ (va_up (va_up x.2.2.2 (N - 1) r) (N - 1) w (N - 1))
              rw [va_up_at]
              exact ⟨tr.fs hf, hz, (hf.1 6 (by decide) (by decide)).trans (by rw [r6, rq]; rfl), (hf.1 7 (by decide) (by decide)).trans ((rf.1 7 (by decide) (by decide)).trans r70)⟩
          · refine Or.inr (Or.inr (join_c (n := ns (N - 1)) (c := cs (N - 1)) cv hN hd.2.1 hrow (fun q => (tf q hcm).elim) (fun _ q => (tf hwl q).elim) (fun _ _ q => absurd q hno) (fun _ _ _ _ => ⟨fun r q => absurd q hT, fun r _ tr r6 rf => ⟨rfl, ?_⟩⟩) (fun _ _ q => (tf hco q).elim)))
            refine card_m hc hd (fun q => (tf q hcm).elim) (fun _ q => (tf hwl q).elim) (fun _ _ q => absurd q hno) (fun _ _ _ _ w2 hw htx => ⟨fun _ => h2t _ _ _ ⟨CdI.z rfl (hw.1 1), N, ?_⟩ rfl, fun q => absurd q hT⟩) (fun _ _ q => (tf hco q).elim)
            refine hd.put (p := N - 1) hN (fun s a b => a) hd.2.1 ((hw.1 3).trans hd.2.2.1) (fun s hs => va_up_ne _ _ hs) (fun s _ => ⟨hw.2.1 4 (by decide) s, hw.2.1 5 (by decide) s⟩) (fun i hi => hw.2.2 i (by omega)) (c := cs (N - 1)) (n := ns (N - 1)) (l := lb (N - 1)) l5 ?_ ⟨(hw.2.1 4 (by decide) _).trans md0.1, (hw.2.1 5 (by decide) _).trans md0.2.1, fun i hi => (hw.2.2 _ (by omega)).trans (md0.2.2 i hi)⟩
            show RowI _ _ _ (va_up x.2.2.2 (N - 1) r (N - 1))
            rw [va_up_at]
            exact ⟨tr, rz0.fa rf, r6, (rf.1 7 (by decide) (by decide)).trans r70⟩
  · refine Or.inl (join_c (n := ns (N - 1)) (c := cs (N - 1)) cv hN hd.2.1 hrow (fun _ => ⟨fun _ => ⟨fun _ => ?_, fun e => absurd e (by decide)⟩, fun e => absurd e (by decide)⟩) (fun q => (tf hcm q).elim) (fun q => (tf hcm q).elim) (fun q => (tf hcm q).elim) (fun q => (tf hcm q).elim))
    refine find_of (N := N) (x := x0 x) hN hd.2.1 ?_
    rw [show fnd N (-1) = none from if_pos (by decide)]
    refine ⟨fun _ => ?_, fun j q => absurd q (by simp)⟩
    exact card_m hc hd (fun _ => hok (-1) (x0 x) (m0 m) (i0 0) rfl) (fun q => (tf hcm q).elim) (fun q => (tf hcm q).elim) (fun q => (tf hcm q).elim) (fun q => (tf hcm q).elim)
end CR4
