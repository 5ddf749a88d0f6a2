section MSJ
variable {c : Nat → Nat} {n b a0 : Nat} {u0 : MS} {sh : List Nat} {nm : List Nx} {d : Nat} {post : Int32 → MS → Prop}
theorem num_c {p : Nat} (h : p < numE c p) : dg (c p) = true ∨ c p = 46 := by
  unfold numE at h
  split at h
  · rename_i h1
    by_cases hd : dg (c p) = true
    · exact Or.inl hd
    · right
      have e : dgE c p = p := by
        show dgN c (80 + 1) p = p
        unfold dgN
        rw [if_neg hd]
      unfold numD at h1
      rw [e] at h1
      split at h1
      · rename_i h2
        exact st1 (w := []) (Bool.and_eq_true_iff.mp h2).1
      · omega
  · omega
theorem num_n {p : Nat} (h : p < numE c p) : p < numD c p := by
  unfold numE at h
  split at h
  · assumption
  · omega
theorem num_n' {p : Nat} (h : p < numD c p) : p < numE c p := by
  unfold numE
  rw [if_pos h]
  have := expE_le c (numD c p)
  omega
theorem num_no {p : Nat} (h : c p = 43 ∨ c p = 45 ∨ c p = 39 ∨ c p = 40 ∨ lr (c p) = true) : ¬ p < numE c p := by
  intro hn
  have hl : lr (c p) = true → 65 ≤ c p := fun q => by
    unfold lr at q
    exact of_decide_eq_true (Bool.and_eq_true_iff.mp q).1
  rcases num_c hn with hd | hd
  · have := dg_b hd
    rcases h with h | h | h | h | h
    · omega
    · omega
    · omega
    · omega
    · have := hl h; omega
  · rcases h with h | h | h | h | h
    · omega
    · omega
    · omega
    · omega
    · have := hl h; omega
theorem lr_c {x : Nat} (h : lr x = true) : 65 ≤ x := by
  unfold lr at h
  exact of_decide_eq_true (Bool.and_eq_true_iff.mp h).1
theorem pm_W {S : List Fm} (o : Os c n b u0 a0 sh nm) (hm : 0 < may S) (hd : d + dp S ≤ 8) (hc : c (a0 + (seg S).length) = 43 ∨ c (a0 + (seg S).length) = 45) (hW : Wn c n b a0 u0 sh nm d post ((5, [], 1) :: S)) : Wn c n b a0 u0 sh nm d post S := by
  have hdt : dtC c (a0 + (seg S).length) = 0 := by unfold dtC; rw [if_neg (by omega)]
  refine W_of o rfl hd (fun hB => by
    obtain ⟨_, hB⟩ := hB
    rcases hB with ⟨q, _⟩ | ⟨q, _⟩ | ⟨q, _⟩ | ⟨_, _, _, _, _, q⟩
    · have := lr_c q; omega
    · omega
    · omega
    · exact absurd ⟨by omega, hc, hm⟩ q) (fun h => absurd h (num_no (by omega))) (fun _ h => ?_) (fun h => by omega) (fun h => by omega) (fun _ h => ?_) (fun h => ?_) (fun _ _ => hW)
  · have := lr_c h; omega
  · have := dt46 (c := c) (p := a0 + (seg S).length) (by omega); omega
  · have := dt46 (c := c) (p := a0 + (seg S).length) (by omega); omega
theorem not_W {S : List Fm} (o : Os c n b u0 a0 sh nm) (hm : may S = 2) (hd : d + dp S ≤ 8) (hc : dtC c (a0 + (seg S).length) = 3) (hW : Wn c n b a0 u0 sh nm d post ((3, [], 5) :: S)) : Wn c n b a0 u0 sh nm d post S := by
  have h46 := dt46 (c := c) (p := a0 + (seg S).length) (by omega)
  have hnum : ¬ a0 + (seg S).length < numE c (a0 + (seg S).length) := by
    intro hn
    have h1 := num_n hn
    have e : dgE c (a0 + (seg S).length) = a0 + (seg S).length := by
      show dgN c (80 + 1) (a0 + (seg S).length) = a0 + (seg S).length
      unfold dgN
      rw [if_neg (by rw [h46]; decide)]
    unfold numD at h1
    rw [e, dt_lgw.mpr (show dtC c (a0 + (seg S).length) ≠ 0 by omega)] at h1
    simp at h1
  refine W_of o rfl hd (fun hB => by
    obtain ⟨_, hB⟩ := hB
    rcases hB with ⟨q, _⟩ | ⟨q, _⟩ | ⟨q, _⟩ | ⟨_, _, _, _, q, _⟩
    · have := lr_c q; omega
    · omega
    · omega
    · exact absurd ⟨hc, hm⟩ q) (fun h => absurd h hnum) (fun _ h => ?_) (fun h => by omega) (fun h => by omega) (fun _ h => by omega) (fun _ _ => hW) (fun h => by omega)
  have := lr_c h; omega
theorem nt_ex (o : Os c n b u0 a0 sh nm) : ∀ (f : Nat) (S : List Fm), may S = 2 → d + dp S ≤ 8 → n ≤ a0 + (seg S).length + f → ∃ S1, (Wn c n b a0 u0 sh nm d post S1 → Wn c n b a0 u0 sh nm d post S) ∧ may S1 = 2 ∧ dp S1 = dp S ∧ (seg S1).length = (seg S).length + (nt c f (a0 + (seg S).length)).length ∧ dtC c (a0 + (seg S1).length) ≠ 3 ∧ (Top 4 S → Top 4 S1) ∧ (∀ l Z, 1 ≤ l → l ≤ 3 → Z ≠ [] → redV l S1 Z = redV l S (wc (oc (nt c f (a0 + (seg S).length))) (nt c f (a0 + (seg S).length) ++ Z))) := by
  have hz := o.1.2.2.2.2.2
  intro f
  induction f with
  | zero =>
    intro S hm hd hn
    refine ⟨S, fun h => h, hm, rfl, rfl, ?_, fun h => h, fun l Z _ _ _ => ?_⟩
    · have h0 := hz (a0 + (seg S).length) (by omega)
      have : dtC c (a0 + (seg S).length) = 0 := by unfold dtC; rw [if_neg (by omega)]
      omega
    · show redV l S Z = redV l S (wc 0 Z)
      rw [wc_0]
  | succ f ih =>
    intro S hm hd hn
    unfold nt
    by_cases hs : st c (a0 + (seg S).length) (wS 26) = true
    · rw [if_pos hs]
      have e5 : seg ((3, [], 5) :: S) = seg S ++ zn 5 := rfl
      have el : a0 + (seg ((3, [], 5) :: S)).length = a0 + (seg S).length + 5 := by rw [e5, List.length_append, zn_len]; omega
      obtain ⟨S1, h1, h2, h3, h4, h5, h6, h7⟩ := ih ((3, [], 5) :: S) rfl hd (by rw [el]; omega)
      rw [el] at h4 h7
      rw [show (seg ((3, [], 5) :: S)).length = (seg S).length + 5 by omega] at h4
      refine ⟨S1, fun h => not_W o hm hd (dt3.mpr hs) (h1 h), h2, h3, ?_, h5, fun _ => h6 (Or.inl (by decide)), fun l Z q1 q2 hZ => ?_⟩
      · rw [h4]
        simp only [List.length_cons, List.length_append, zn_len]
        omega
      · rw [h7 l Z q1 q2 hZ]
        show (if (3 : Nat) < 8 ∧ l ≤ 3 then redV l S (wc 1 (wo (zn 5 ++ wc (oc (nt c f (a0 + (seg S).length + 5))) (nt c f (a0 + (seg S).length + 5) ++ Z)))) else _) = _
        rw [if_pos ⟨by decide, q2⟩]
        congr 1
        have hne : nt c f (a0 + (seg S).length + 5) ++ Z ≠ [] := fun e => hZ (List.append_eq_nil_iff.mp e).2
        have e6 : wo (zn 5 ++ wc (oc (nt c f (a0 + (seg S).length + 5))) (nt c f (a0 + (seg S).length + 5) ++ Z)) = ((1, 0, 0) :: zn 4) ++ wc (oc (nt c f (a0 + (seg S).length + 5))) (nt c f (a0 + (seg S).length + 5) ++ Z) := rfl
        rw [e6, wc_app 1 _ (wc_ne hne), wc_wc]
        have e7 : ((1, 0, 0) :: (zn 4 ++ nt c f (a0 + (seg S).length + 5))) ++ Z = ((1, 0, 0) :: zn 4) ++ (nt c f (a0 + (seg S).length + 5) ++ Z) := by simp
        have e8 : oc ((1, 0, 0) :: (zn 4 ++ nt c f (a0 + (seg S).length + 5))) = oc (nt c f (a0 + (seg S).length + 5)) + 1 := by
          show 1 + oc (zn 4 ++ nt c f (a0 + (seg S).length + 5)) = _
          rw [oc_app, oc_zn]
          omega
        rw [e7, e8, wc_app _ _ hne]
    · rw [if_neg hs]
      refine ⟨S, fun h => h, hm, rfl, rfl, fun h => hs (dt3.mp h), fun h => h, fun l Z _ _ _ => ?_⟩
      show redV l S Z = redV l S (wc 0 Z)
      rw [wc_0]
theorem pf_ex {m lv : Nat} {S : List Fm} (o : Os c n b u0 a0 sh nm) (h1 : 1 ≤ lv) (h6 : lv ≤ 6) (hC : Cnd c a0 d m lv S) : ∃ S1, (Wn c n b a0 u0 sh nm d post S1 → Wn c n b a0 u0 sh nm d post S) ∧ Cnd c a0 d m (lv + 1) S1 ∧ dp S1 = dp S ∧ (seg S1).length = (seg S).length + (pfP c lv (a0 + (seg S).length)).length ∧ (5 ≤ lv → relS S1 = relS S) ∧ (lv = 4 → relS S1 = false) ∧ (∀ l Z, 1 ≤ l → l ≤ lv → Z ≠ [] → redV l S1 Z = redV l S (wc (oc (pfP c lv (a0 + (seg S).length))) (pfP c lv (a0 + (seg S).length) ++ Z))) := by
  obtain ⟨c1, c2, c3, c4, c5, c6⟩ := hC
  have topm : ∀ l, lv ≤ l → Top l S := by
    intro l hl
    cases S with
    | nil => trivial
    | cons q S =>
      have h' : q.1 < lv ∨ 8 ≤ q.1 := c2
      show q.1 < l ∨ 8 ≤ q.1
      omega
  have same : (lv = 5 → ¬ (c (a0 + (seg S).length) = 43 ∨ c (a0 + (seg S).length) = 45)) → lv ≠ 3 → pfP c lv (a0 + (seg S).length) = [] → ∃ S1, (Wn c n b a0 u0 sh nm d post S1 → Wn c n b a0 u0 sh nm d post S) ∧ Cnd c a0 d m (lv + 1) S1 ∧ dp S1 = dp S ∧ (seg S1).length = (seg S).length + (pfP c lv (a0 + (seg S).length)).length ∧ (5 ≤ lv → relS S1 = relS S) ∧ (lv = 4 → relS S1 = false) ∧ (∀ l Z, 1 ≤ l → l ≤ lv → Z ≠ [] → redV l S1 Z = redV l S (wc (oc (pfP c lv (a0 + (seg S).length))) (pfP c lv (a0 + (seg S).length) ++ Z))) := by
    intro h5 h3 hpf
    refine ⟨S, fun h => h, ⟨c1, topm _ (by omega), fun q => c3 (by omega), fun q => c4 (by omega), fun q => c5 (by omega), fun q r => ?_⟩, rfl, by rw [hpf]; rfl, fun _ => rfl, fun q => relS_top (by rw [← q]; exact c2), fun l Z _ _ _ => ?_⟩
    · by_cases e5 : lv = 5
      · exact h5 e5
      · exact c6 (by omega) r
    · rw [hpf]
      show redV l S Z = redV l S (wc 0 Z)
      rw [wc_0]
  by_cases e5 : lv = 5
  · subst e5
    by_cases hc : c (a0 + (seg S).length) = 43 ∨ c (a0 + (seg S).length) = 45
    · have hpf : pfP c 5 (a0 + (seg S).length) = [(1, 0, 0)] := by unfold pfP; rw [if_pos rfl, if_pos hc]
      have hdp : dp ((5, [], 1) :: S) = dp S := rfl
      refine ⟨(5, [], 1) :: S, fun h => pm_W o (c4 (by decide)) (by omega) hc h, ⟨by rw [hdp]; exact c1, Or.inl (by decide), fun q => by omega, fun q => by omega, fun _ q => ?_, fun _ q => ?_⟩, hdp, ?_, fun _ => rfl, fun q => by omega, fun l Z q1 q2 hZ => ?_⟩
      · exact absurd (show (0 : Nat) = 2 from q) (by decide)
      · exact absurd (show (0 : Nat) < 0 from q) (by decide)
      · rw [hpf]
        show (seg S ++ zn 1).length = _
        rw [List.length_append]
        rfl
      · rw [hpf]
        show (if (5 : Nat) < 8 ∧ l ≤ 5 then redV l S (wc 1 (wo (zn 1 ++ Z))) else _) = _
        rw [if_pos ⟨by decide, q2⟩]
        rfl
    · exact same (fun _ => hc) (by decide) (by unfold pfP; rw [if_pos rfl, if_neg hc])
  · by_cases e3 : lv = 3
    · subst e3
      have h80 := o.1.1
      obtain ⟨S1, g1, g2, g3, g4, g5, g6, g7⟩ := nt_ex (d := d) (post := post) o 80 S (c3 (by decide)) (by omega) (by omega)
      have hpf : pfP c 3 (a0 + (seg S).length) = nt c 80 (a0 + (seg S).length) := by unfold pfP; rw [if_neg (by decide), if_pos rfl]
      rw [hpf]
      refine ⟨S1, g1, ⟨by rw [g3]; exact c1, g6 (topm 4 (by decide)), fun _ => g2, fun _ => by omega, fun _ _ => g5, fun q => by omega⟩, g3, g4, fun q => by omega, fun q => by omega, g7⟩
    · exact same (fun q => absurd q e5) e3 (by unfold pfP; rw [if_neg e5, if_neg e3])
theorem lv_sim {Fl : Prop} {m lv : Nat} {N : Ps} (o : Os c n b u0 a0 sh nm) (h1 : 1 ≤ lv) (h6 : lv ≤ 6) (hN : Sm c n b a0 u0 sh nm Fl d post m (lv + 1) N) (ne : NE N) : Sm c n b a0 u0 sh nm Fl d post m lv (lvP c N lv) := by
  intro S hC
  have h80 := o.1.1
  obtain ⟨S1, g1, g2, g3, g4, g5, g6, g7⟩ := pf_ex (post := post) o h1 h6 hC
  have hpos : a0 + (seg S1).length = a0 + (seg S).length + (pfP c lv (a0 + (seg S).length)).length := by omega
  have step := hN S1 g2
  rw [hpos] at step
  unfold lvP
  cases hZ1 : N (a0 + (seg S).length + (pfP c lv (a0 + (seg S).length)).length) with
  | none => exact ⟨fun _ fl => g1 (step.1 hZ1 fl), fun Z hZ => absurd hZ (by simp)⟩
  | some Z1 =>
    simp only
    have hne1 := ne _ _ hZ1
    have hne : pfP c lv (a0 + (seg S).length) ++ Z1 ≠ [] := fun e => hne1 (List.append_eq_nil_iff.mp e).2
    have hch := ch_sim (p := a0 + (seg S).length) o h1 h6 hN ne hC rfl (if lv = 4 then 1 else 80) (wc (oc (pfP c lv (a0 + (seg S).length))) (pfP c lv (a0 + (seg S).length) ++ Z1)) S1 Z1 (wc_ne hne) (fun q => by rw [if_neg q]; omega) (fun q => Or.inl ⟨by rw [if_pos q], g6 q⟩) (fun l q1 q2 => g7 l Z1 q1 q2 hne1) g5 g3 (by
      simp only [List.length_append, wc_len]
      omega)
    exact ⟨fun h fl => g1 (step.2 Z1 hZ1 (hch.1 h fl)), fun Z hZ hK => g1 (step.2 Z1 hZ1 (hch.2 Z hZ hK))⟩
/-- a primary -/
def Sp (c : Nat → Nat) (n b a0 : Nat) (u0 : MS) (sh : List Nat) (nm : List Nx) (Fl : Prop) (d : Nat) (post : Int32 → MS → Prop) (m : Nat) (N : Ps) : Prop := ∀ S, d + dp S + m = 8 → (may S = 2 → dtC c (a0 + (seg S).length) ≠ 3) → (0 < may S → ¬ (c (a0 + (seg S).length) = 43 ∨ c (a0 + (seg S).length) = 45)) → (N (a0 + (seg S).length) = none → Fl → Wn c n b a0 u0 sh nm d post S) ∧ (∀ Z, N (a0 + (seg S).length) = some Z → Hv c n b a0 u0 sh nm d post S Z → Wn c n b a0 u0 sh nm d post S)
theorem pw_sim {Fl : Prop} {m : Nat} {N : Ps} (o : Os c n b u0 a0 sh nm) (hN : Sp c n b a0 u0 sh nm Fl d post m N) (ne : NE N) : ∀ (f : Nat) (S : List Fm) (Z : List Tz), d + dp S + m = 8 → n ≤ a0 + (seg S).length + Z.length + f → Z ≠ [] → (pwR c N f (a0 + (seg S).length) Z = none → Fl → Hv c n b a0 u0 sh nm d post S Z) ∧ (∀ R, pwR c N f (a0 + (seg S).length) Z = some R → (∀ S' y, Pend c a0 7 S S' y R → Hv c n b a0 u0 sh nm d post S' y) → Hv c n b a0 u0 sh nm d post S Z) := by
  have hz := o.1.2.2.2.2.2
  intro f
  induction f with
  | zero =>
    intro S Z hdp hf hne
    refine ⟨fun h => absurd h (by simp [pwR]), fun R hR hK => hK S Z ?_⟩
    unfold pwR at hR
    cases hR
    exact ⟨fun _ _ _ => rfl, fun _ => rfl, rfl, rfl, Or.inl (by rw [bt_end hz (by rw [List.length_append]; omega)]; decide)⟩
  | succ f ih =>
    intro S Z hdp hf hne
    have hpos : a0 + (seg S ++ Z).length = a0 + (seg S).length + Z.length := by rw [List.length_append]; omega
    unfold pwR
    have e25 : wS 25 = [42, 42] := by decide +kernel
    by_cases hs : st c (a0 + (seg S).length + Z.length) (wS 25) = true
    · rw [if_pos hs]
      have hc : c (a0 + (seg S).length + Z.length) = 42 ∧ c (a0 + (seg S).length + Z.length + 1) = 42 := by
        rw [e25] at hs
        simpa [st] using hs
      have hb : btC c (a0 + (seg S).length + Z.length) = 7 := by
        unfold btC
        rw [if_neg (by omega), if_pos hc.1, if_pos hc.2]
      have e2 : (wS 25).length = 2 := by rw [e25]; rfl
      have fy : fY (7, Z, 2) = Z ++ zn 2 := rfl
      have hseg2 : a0 + (seg ((7, Z, 2) :: S)).length = a0 + (seg S).length + Z.length + 2 := by
        show a0 + (seg S ++ fY (7, Z, 2)).length = _
        rw [fy, List.length_append, List.length_append, zn_len]
        omega
      have toH : Wn c n b a0 u0 sh nm d post ((7, Z, 2) :: S) → Hv c n b a0 u0 sh nm d post S Z := by
        intro hW
        refine H_of (p := a0 + (seg S).length + Z.length) o hpos.symm (fun q => by omega) (fun _ _ _ => ?_) (fun q => by omega)
        rw [hb, if_pos rfl, redV_8]
        exact hW
      have step := hN ((7, Z, 2) :: S) hdp (fun q => absurd (show (0 : Nat) = 2 from q) (by decide)) (fun q => absurd (show (0 : Nat) < 0 from q) (by decide))
      rw [hseg2] at step
      rw [e2]
      cases hZ2 : N (a0 + (seg S).length + Z.length + 2) with
      | none => exact ⟨fun _ fl => toH (step.1 hZ2 fl), fun R hR => absurd hR (by simp)⟩
      | some Z2 =>
        simp only
        have hne2 := ne _ _ hZ2
        have rc := ih ((7, Z, 2) :: S) Z2 hdp (by rw [hseg2]; omega) hne2
        rw [hseg2] at rc
        cases hR2 : pwR c N f (a0 + (seg S).length + Z.length + 2) Z2 with
        | none => exact ⟨fun _ fl => toH (step.2 Z2 hZ2 (rc.1 hR2 fl)), fun R hR => absurd hR (by simp)⟩
        | some R2 =>
          simp only
          refine ⟨fun h => absurd h (by simp), fun R hR hK => toH (step.2 Z2 hZ2 (rc.2 R2 hR2 (fun S' y hP => hK S' y ?_)))⟩
          cases hR
          obtain ⟨p1, p2, p3, p4, p5⟩ := hP
          have hlen : (seg ((7, Z, 2) :: S) ++ R2).length = (seg S ++ wc 1 (wo (Z ++ zn 2) ++ R2)).length := by
            show ((seg S ++ fY (7, Z, 2)) ++ R2).length = _
            rw [fy]
            simp only [List.length_append, wc_len, wo_len]
            omega
          rw [hlen] at p4 p5
          refine ⟨fun l q1 q2 => (p1 l q1 q2).trans ?_, fun q => (p2 q).trans rfl, p3, p4, p5⟩
          show (if (7 : Nat) < 8 ∧ l ≤ 7 then redV l S (wc 1 (wo (fY (7, Z, 2) ++ R2))) else _) = _
          rw [if_pos ⟨by decide, q2⟩, fy, wo_app (fun e => hne (List.append_eq_nil_iff.mp e).1)]
    · rw [if_neg hs]
      refine ⟨fun h => absurd h (by simp), fun R hR hK => hK S Z ?_⟩
      cases hR
      refine ⟨fun _ _ _ => rfl, fun _ => rfl, rfl, rfl, Or.inl ?_⟩
      rw [hpos]
      have hc : ¬ (c (a0 + (seg S).length + Z.length) = 42 ∧ c (a0 + (seg S).length + Z.length + 1) = 42) := by
        intro q
        refine hs ?_
        rw [e25]
        simpa [st] using q
      unfold btC
      split
      · omega
      · split
        · rename_i h42
          rw [if_neg (fun q => hc ⟨h42, q⟩)]
          omega
        · split
          · omega
          · split <;> omega
theorem pwP_sim {Fl : Prop} {m : Nat} {N : Ps} (o : Os c n b u0 a0 sh nm) (hN : Sp c n b a0 u0 sh nm Fl d post m N) (ne : NE N) : Sm c n b a0 u0 sh nm Fl d post m 7 (pwP c N) := by
  intro S hC
  have h80 := o.1.1
  have step := hN S hC.1 (hC.2.2.2.2.1 (by decide)) (hC.2.2.2.2.2 (by decide))
  unfold pwP
  cases hZ : N (a0 + (seg S).length) with
  | none => exact ⟨fun _ fl => step.1 hZ fl, fun Z h => absurd h (by simp)⟩
  | some Z =>
    simp only
    have rc := pw_sim o hN ne 80 S Z hC.1 (by omega) (ne _ _ hZ)
    exact ⟨fun h fl => step.2 Z hZ (rc.1 h fl), fun R hR hK => step.2 Z hZ (rc.2 R hR hK)⟩
end MSJ
