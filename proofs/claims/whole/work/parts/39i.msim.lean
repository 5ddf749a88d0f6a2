/-! the reference's rounds against the grammar -/
def Top (lv : Nat) (S : List Fm) : Prop := match S with
  | [] => True
  | q :: _ => q.1 < lv ∨ 8 ≤ q.1
def Cnd (c : Nat → Nat) (a0 d m lv : Nat) (S : List Fm) : Prop := d + dp S + m = 8 ∧ Top lv S ∧ (lv ≤ 3 → may S = 2) ∧ (lv ≤ 5 → 0 < may S) ∧ (4 ≤ lv → may S = 2 → dtC c (a0 + (seg S).length) ≠ 3) ∧ (6 ≤ lv → 0 < may S → ¬ (c (a0 + (seg S).length) = 43 ∨ c (a0 + (seg S).length) = 45))
def Pend (c : Nat → Nat) (a0 lv : Nat) (S S' : List Fm) (y Z : List Tz) : Prop := (∀ l, 1 ≤ l → l ≤ lv → redV l S' y = redV l S Z) ∧ (5 ≤ lv → relS S' = relS S) ∧ dp S' = dp S ∧ (seg S' ++ y).length = (seg S ++ Z).length ∧ (btC c (a0 + (seg S ++ Z).length) < lv ∨ (btC c (a0 + (seg S ++ Z).length) = 4 ∧ relS S' = true))
def Sm (c : Nat → Nat) (n b a0 : Nat) (u0 : MS) (sh : List Nat) (nm : List Nx) (Fl : Prop) (d : Nat) (post : Int32 → MS → Prop) (m lv : Nat) (N : Ps) : Prop := ∀ S, Cnd c a0 d m lv S → (N (a0 + (seg S).length) = none → Fl → Wn c n b a0 u0 sh nm d post S) ∧ (∀ Z, N (a0 + (seg S).length) = some Z → (∀ S' y, Pend c a0 lv S S' y Z → Hv c n b a0 u0 sh nm d post S' y) → Wn c n b a0 u0 sh nm d post S)
theorem redV_top0 {l lv : Nat} {S : List Fm} (h : Top lv S) (hl : lv ≤ l) (y : List Tz) : redV l S y = (y, S) := by
  cases S with
  | nil => rfl
  | cons q S =>
    unfold redV
    have h' : q.1 < lv ∨ 8 ≤ q.1 := h
    rw [if_neg (by omega)]
theorem redV_8 (S : List Fm) (y : List Tz) : redV 8 S y = (y, S) := by
  cases S with
  | nil => rfl
  | cons q S =>
    unfold redV
    rw [if_neg (by omega)]
theorem relS_top {S : List Fm} (h : Top 4 S) : relS S = false := by
  cases S with
  | nil => rfl
  | cons q S =>
    unfold relS
    have h' : q.1 < 4 ∨ 8 ≤ q.1 := h
    rw [if_neg (by omega)]
    simp
    omega
section MSI
variable {c : Nat → Nat} {n b a0 : Nat} {u0 : MS} {sh : List Nat} {nm : List Nx} {d : Nat} {post : Int32 → MS → Prop}
theorem st1 {p : Nat} {x : Nat} {w : List Nat} (h : st c p (x :: w) = true) : c p = x := by
  simp only [st, Bool.and_eq_true, decide_eq_true_eq] at h
  exact h.1
theorem dt46 {p : Nat} (h : dtC c p ≠ 0) : c p = 46 := by
  by_cases h0 : c p = 46
  · exact h0
  · unfold dtC at h
    rw [if_neg h0] at h
    exact absurd rfl h
theorem bt_dt {p : Nat} (h : dtC c p = 1 ∨ dtC c p = 2 ∨ dtC c p = 4) : btC c p = dtC c p := by
  have h46 := dt46 (c := c) (p := p) (by omega)
  unfold btC
  rw [if_neg (by omega), if_neg (by omega), if_neg (by omega), if_pos h]
theorem sg_some {lv p : Nat} {Y : List Tz} (h : sgP c lv p = some Y) (h7 : btC c p ≠ 7) : btC c p = lv ∧ Y = zn (blC lv) ∧ (lv = 1 ∨ lv = 2 ∨ lv = 4 ∨ lv = 5 ∨ lv = 6) := by
  have wd : ∀ i Y, wdP c i p = some Y → st c p (wS i) = true ∧ Y = zn (wS i).length := by
    intro i Y hY
    unfold wdP at hY
    split at hY
    · cases hY
      exact ⟨by assumption, rfl⟩
    · exact absurd hY (by simp)
  have orr : ∀ (F G : Ps) Y, orP F G p = some Y → F p = some Y ∨ G p = some Y := by
    intro F G Y hY
    unfold orP at hY
    split at hY
    · rename_i h1
      cases hY
      exact Or.inl h1
    · exact Or.inr hY
  unfold sgP at h
  split at h
  · rename_i e
    obtain ⟨h1, h2⟩ := wd _ _ h
    have h3 := dt1.mpr h1
    exact ⟨by rw [bt_dt (Or.inl h3), h3, e], by rw [h2, e]; rfl, Or.inl e⟩
  · split at h
    · rename_i e
      obtain ⟨h1, h2⟩ := wd _ _ h
      have h3 := dt2.mpr h1
      exact ⟨by rw [bt_dt (Or.inr (Or.inl h3)), h3, e], by rw [h2, e]; rfl, by omega⟩
    · split at h
      · rename_i e
        have h9 : ∃ i, (i = 29 ∨ i = 30 ∨ i = 31 ∨ i = 32 ∨ i = 33 ∨ i = 34) ∧ wdP c i p = some Y := by
          rcases orr _ _ _ h with h | h
          · exact ⟨29, by omega, h⟩
          · rcases orr _ _ _ h with h | h
            · exact ⟨30, by omega, h⟩
            · rcases orr _ _ _ h with h | h
              · exact ⟨31, by omega, h⟩
              · rcases orr _ _ _ h with h | h
                · exact ⟨32, by omega, h⟩
                · rcases orr _ _ _ h with h | h
                  · exact ⟨33, by omega, h⟩
                  · exact ⟨34, by omega, h⟩
        obtain ⟨i, hi, hY⟩ := h9
        obtain ⟨h1, h2⟩ := wd _ _ hY
        have h3 : dtC c p = 4 := by
          rw [dt4]
          rcases hi with rfl | rfl | rfl | rfl | rfl | rfl
          · exact Or.inl h1
          · exact Or.inr (Or.inl h1)
          · exact Or.inr (Or.inr (Or.inl h1))
          · exact Or.inr (Or.inr (Or.inr (Or.inl h1)))
          · exact Or.inr (Or.inr (Or.inr (Or.inr (Or.inl h1))))
          · exact Or.inr (Or.inr (Or.inr (Or.inr (Or.inr h1))))
        refine ⟨by rw [bt_dt (Or.inr (Or.inr h3)), h3, e], ?_, by omega⟩
        rw [h2, e]
        rcases hi with rfl | rfl | rfl | rfl | rfl | rfl <;> rfl
      · split at h
        · rename_i e
          have h9 : ∃ i, (i = 35 ∨ i = 36) ∧ wdP c i p = some Y := by
            rcases orr _ _ _ h with h | h
            · exact ⟨35, by omega, h⟩
            · exact ⟨36, by omega, h⟩
          obtain ⟨i, hi, hY⟩ := h9
          obtain ⟨h1, h2⟩ := wd _ _ hY
          have h3 : c p = 43 ∨ c p = 45 := by
            rcases hi with rfl | rfl
            · exact Or.inl (st1 (w := []) h1)
            · exact Or.inr (st1 (w := []) h1)
          refine ⟨by unfold btC; rw [if_pos h3, e], ?_, by omega⟩
          rw [h2, e]
          rcases hi with rfl | rfl <;> rfl
        · split at h
          · rename_i e
            have h9 : ∃ i, (i = 37 ∨ i = 38) ∧ wdP c i p = some Y := by
              rcases orr _ _ _ h with h | h
              · exact ⟨37, by omega, h⟩
              · exact ⟨38, by omega, h⟩
            obtain ⟨i, hi, hY⟩ := h9
            obtain ⟨h1, h2⟩ := wd _ _ hY
            have h3 : c p = 42 ∨ c p = 47 := by
              rcases hi with rfl | rfl
              · exact Or.inl (st1 (w := []) h1)
              · exact Or.inr (st1 (w := []) h1)
            refine ⟨?_, ?_, by omega⟩
            · unfold btC at h7 ⊢
              rw [if_neg (by omega)] at h7 ⊢
              split at h7
              · rename_i h42
                rw [if_pos h42]
                split at h7
                · exact absurd rfl h7
                · rename_i hn
                  rw [if_neg hn, e]
              · rename_i h42
                rw [if_neg h42, if_pos (by omega), e]
            · rw [h2, e]
              rcases hi with rfl | rfl <;> rfl
          · exact absurd h (by simp)
theorem sg_none {lv p : Nat} (h : sgP c lv p = none) (h1 : 1 ≤ lv) (h6 : lv ≤ 6) : btC c p ≠ lv := by
  have wd : ∀ i, wdP c i p = none → ¬ st c p (wS i) = true := by
    intro i hY
    unfold wdP at hY
    split at hY
    · exact absurd hY (by simp)
    · assumption
  have orr : ∀ (F G : Ps), orP F G p = none → F p = none ∧ G p = none := by
    intro F G hY
    unfold orP at hY
    split at hY
    · exact absurd hY (by simp)
    · rename_i h1
      exact ⟨h1, hY⟩
  have btd : ∀ v, (v = 1 ∨ v = 2 ∨ v = 4) → btC c p = v → dtC c p = v := by
    intro v hv hb
    unfold btC at hb
    split at hb
    · omega
    · split at hb
      · split at hb <;> omega
      · split at hb
        · omega
        · split at hb <;> omega
  unfold sgP at h
  intro hb
  split at h
  · rename_i e
    exact wd _ h (dt1.mp (btd 1 (by omega) (by omega)))
  · split at h
    · rename_i e
      exact wd _ h (dt2.mp (btd 2 (by omega) (by omega)))
    · split at h
      · rename_i e
        have h3 := btd 4 (by omega) (by omega)
        rw [dt4] at h3
        obtain ⟨a1, h⟩ := orr _ _ h
        obtain ⟨a2, h⟩ := orr _ _ h
        obtain ⟨a3, h⟩ := orr _ _ h
        obtain ⟨a4, h⟩ := orr _ _ h
        obtain ⟨a5, a6⟩ := orr _ _ h
        rcases h3 with h3 | h3 | h3 | h3 | h3 | h3
        · exact wd _ a1 h3
        · exact wd _ a2 h3
        · exact wd _ a3 h3
        · exact wd _ a4 h3
        · exact wd _ a5 h3
        · exact wd _ a6 h3
      · split at h
        · rename_i e
          obtain ⟨a1, a2⟩ := orr _ _ h
          have k1 := wd _ a1
          have k2 := wd _ a2
          have s1 : ∀ i x, wS i = [x] → (st c p (wS i) = true ↔ c p = x) := fun i x hw => by rw [hw]; simp [st]
          rw [s1 35 43 (by decide +kernel)] at k1
          rw [s1 36 45 (by decide +kernel)] at k2
          unfold btC at hb
          rw [if_neg (by omega)] at hb
          split at hb
          · split at hb <;> omega
          · split at hb
            · omega
            · split at hb <;> omega
        · split at h
          · rename_i e
            obtain ⟨a1, a2⟩ := orr _ _ h
            have k1 := wd _ a1
            have k2 := wd _ a2
            have s1 : ∀ i x, wS i = [x] → (st c p (wS i) = true ↔ c p = x) := fun i x hw => by rw [hw]; simp [st]
            rw [s1 37 42 (by decide +kernel)] at k1
            rw [s1 38 47 (by decide +kernel)] at k2
            unfold btC at hb
            rw [if_neg k1, if_neg k2] at hb
            split at hb
            · omega
            · split at hb <;> omega
          · have e3 : lv = 3 := by omega
            unfold btC at hb
            split at hb
            · omega
            · split at hb
              · split at hb <;> omega
              · split at hb
                · omega
                · split at hb <;> omega
theorem bt_end (hz : ∀ i, n ≤ i → c i = 0) {p : Nat} (h : n ≤ p) : btC c p = 0 := by
  have h0 := hz p h
  have hd : dtC c p = 0 := by unfold dtC; rw [if_neg (by omega)]
  unfold btC
  rw [if_neg (by omega), if_neg (by omega), if_neg (by omega), if_neg (by omega)]
theorem ch_sim {Fl : Prop} {m lv : Nat} {N : Ps} {S : List Fm} {p : Nat} (o : Os c n b u0 a0 sh nm) (h1 : 1 ≤ lv) (h6 : lv ≤ 6) (hN : Sm c n b a0 u0 sh nm Fl d post m (lv + 1) N) (ne : NE N) (hC : Cnd c a0 d m lv S) (hp : p = a0 + (seg S).length) : ∀ (f : Nat) (acc : List Tz) (S1 : List Fm) (Zc : List Tz), acc ≠ [] → (lv ≠ 4 → n ≤ p + acc.length + f) → (lv = 4 → (f = 1 ∧ relS S1 = false) ∨ (f = 0 ∧ relS S1 = true)) → (∀ l, 1 ≤ l → l ≤ lv → redV l S1 Zc = redV l S acc) → (5 ≤ lv → relS S1 = relS S) → dp S1 = dp S → (seg S1 ++ Zc).length = (seg S ++ acc).length → (chR (sgP c lv) N p f acc = none → Fl → ∀ S' y, Pend c a0 (lv + 1) S1 S' y Zc → Hv c n b a0 u0 sh nm d post S' y) ∧ (∀ Z, chR (sgP c lv) N p f acc = some Z → (∀ S' y, Pend c a0 lv S S' y Z → Hv c n b a0 u0 sh nm d post S' y) → ∀ S' y, Pend c a0 (lv + 1) S1 S' y Zc → Hv c n b a0 u0 sh nm d post S' y) := by
  have hz := o.1.2.2.2.2.2
  -- the chain's end
  have stop : ∀ (acc : List Tz) (S1 : List Fm) (Zc : List Tz), (∀ l, 1 ≤ l → l ≤ lv → redV l S1 Zc = redV l S acc) → (5 ≤ lv → relS S1 = relS S) → dp S1 = dp S → (seg S1 ++ Zc).length = (seg S ++ acc).length → ∀ S' y, Pend c a0 (lv + 1) S1 S' y Zc → (btC c (a0 + (seg S ++ acc).length) ≠ lv ∨ (lv = 4 ∧ relS S' = true)) → Pend c a0 lv S S' y acc := by
    intro acc S1 Zc g1 g2 g3 g4 S' y ⟨p1, p2, p3, p4, p5⟩ hb
    rw [g4] at p4 p5
    refine ⟨fun l q1 q2 => (p1 l q1 (by omega)).trans (g1 l q1 q2), fun q => (p2 (by omega)).trans (g2 q), p3.trans g3, p4, ?_⟩
    rcases p5 with q | q
    · rcases hb with r | r
      · exact Or.inl (by omega)
      · by_cases e : btC c (a0 + (seg S ++ acc).length) = 4
        · exact Or.inr ⟨e, r.2⟩
        · exact Or.inl (by omega)
    · exact Or.inr q
  intro f
  induction f with
  | zero =>
    intro acc S1 Zc hne hf hf4 g1 g2 g3 g4
    refine ⟨fun h => absurd h (by simp [chR]), fun Z hZ hK S' y hP => hK S' y ?_⟩
    have e : Z = acc := by
      unfold chR at hZ
      cases hZ
      rfl
    subst e
    refine stop _ S1 Zc g1 g2 g3 g4 S' y hP ?_
    by_cases h4 : lv = 4
    · right
      have := hf4 h4
      have hr : relS S' = relS S1 := hP.2.1 (by omega)
      rw [hr]
      rcases this with q | q
      · omega
      · exact ⟨h4, q.2⟩
    · left
      rw [bt_end hz (by have := hf h4; rw [List.length_append]; omega)]
      omega
  | succ f ih =>
    intro acc S1 Zc hne hf hf4 g1 g2 g3 g4
    have key : ∀ S' y, Pend c a0 (lv + 1) S1 S' y Zc → ((chR (sgP c lv) N p (f + 1) acc = none → Fl → Hv c n b a0 u0 sh nm d post S' y) ∧ (∀ Z, chR (sgP c lv) N p (f + 1) acc = some Z → (∀ S' y, Pend c a0 lv S S' y Z → Hv c n b a0 u0 sh nm d post S' y) → Hv c n b a0 u0 sh nm d post S' y)) := by
      intro S' y hP
      have hpos : a0 + (seg S' ++ y).length = p + acc.length := by
        rw [hP.2.2.2.1, g4, hp, List.length_append]
        omega
      have hpos2 : a0 + (seg S ++ acc).length = p + acc.length := by rw [hp, List.length_append]; omega
      have hst := hP.2.2.2.2
      rw [g4, hpos2] at hst
      unfold chR
      cases hs : sgP c lv (p + acc.length) with
      | none =>
        refine ⟨fun h => absurd h (by simp), fun Z hZ hK => hK S' y ?_⟩
        have e : Z = acc := by
          simp only at hZ
          cases hZ
          rfl
        subst e
        refine stop _ S1 Zc g1 g2 g3 g4 S' y hP (Or.inl ?_)
        rw [hpos2]
        exact sg_none hs h1 h6
      | some Y =>
        simp only
        obtain ⟨hb, hY, hlv⟩ := sg_some hs (by omega)
        have hrel : ¬ (btC c (p + acc.length) = 4 ∧ relS S' = true) := by
          rintro ⟨q1, q2⟩
          have e4 : lv = 4 := by omega
          have hr : relS S' = relS S1 := hP.2.1 (by omega)
          rw [hr] at q2
          rcases hf4 e4 with q | q
          · rw [q.2] at q2; exact absurd q2 (by decide)
          · omega
        have hred : redV (if btC c (p + acc.length) = 7 then 8 else btC c (p + acc.length)) S' y = (acc, S) := by
          rw [hb, if_neg (by omega), hP.1 lv h1 (by omega), g1 lv h1 (Nat.le_refl _), redV_top0 hC.2.1 (Nat.le_refl _)]
        have hYl : Y.length = blC lv := by rw [hY, zn_len]
        have fy : fY (lv, acc, blC lv) = acc ++ Y := by unfold fY; rw [if_pos (by omega : lv < 8), hY]
        have hseg2 : a0 + (seg ((lv, acc, blC lv) :: S)).length = p + acc.length + Y.length := by
          show a0 + (seg S ++ fY (lv, acc, blC lv)).length = _
          rw [fy, List.length_append, List.length_append, hp]
          omega
        -- the condition for what follows
        have hC2 : Cnd c a0 d m (lv + 1) ((lv, acc, blC lv) :: S) := by
          have hdp : dp ((lv, acc, blC lv) :: S) = dp S := by simp only [dp]; rw [if_neg (by omega)]; rfl
          have hm : may ((lv, acc, blC lv) :: S) = if lv = 4 then 1 else if lv = 5 ∨ lv = 6 ∨ lv = 7 then 0 else 2 := rfl
          refine ⟨by rw [hdp]; exact hC.1, Or.inl (by omega), fun q => ?_, fun q => ?_, fun q r => ?_, fun q r => ?_⟩
          · rw [hm, if_neg (by omega), if_neg (by omega)]
          · rw [hm]
            split
            · omega
            · rw [if_neg (by omega)]; omega
          · rw [hm] at r
            split at r
            · omega
            · rw [if_pos (by omega)] at r; omega
          · rw [hm, if_neg (by omega), if_pos (by omega)] at r
            omega
        have hbl : 1 ≤ blC lv := by unfold blC; split; omega; split; omega; split <;> omega
        have step : ((N (p + acc.length + Y.length) = none → Fl → Wn c n b a0 u0 sh nm d post ((lv, acc, blC lv) :: S)) ∧ (∀ Z2, N (p + acc.length + Y.length) = some Z2 → (∀ S'' y'', Pend c a0 (lv + 1) ((lv, acc, blC lv) :: S) S'' y'' Z2 → Hv c n b a0 u0 sh nm d post S'' y'') → Wn c n b a0 u0 sh nm d post ((lv, acc, blC lv) :: S))) := by
          have := hN _ hC2
          rw [hseg2] at this
          exact this
        have toH : Wn c n b a0 u0 sh nm d post ((lv, acc, blC lv) :: S) → Hv c n b a0 u0 sh nm d post S' y := by
          intro hW
          refine H_of (p := p + acc.length) o hpos.symm (fun q => by
            rcases q with q | q
            · omega
            · exact absurd q hrel) (fun _ _ _ => ?_) (fun q => ?_)
          · rw [hred, hb]
            exact hW
          · rcases q with q | q
            · omega
            · exact absurd q hrel
        cases hN2 : N (p + acc.length + Y.length) with
        | none =>
          exact ⟨fun _ fl => toH (step.1 hN2 fl), fun Z hZ => absurd hZ (by simp)⟩
        | some Z2 =>
          simp only
          have hne2 : acc ++ (Y ++ Z2) ≠ [] := fun e => hne (List.append_eq_nil_iff.mp e).1
          have hlen2 : (wc 1 (wo (acc ++ (Y ++ Z2)))).length = acc.length + (Y.length + Z2.length) := by rw [wc_len, wo_len, List.length_append, List.length_append]
          have rc := ih (wc 1 (wo (acc ++ (Y ++ Z2)))) ((lv, acc, blC lv) :: S) Z2 (wc_ne (wo_ne hne2)) (fun q => by rw [hlen2]; have := hf q; omega) (fun q => by
              right
              rcases hf4 q with r | r
              · refine ⟨by omega, ?_⟩
                subst q
                rfl
              · omega) (fun l q1 q2 => by
              show (if lv < 8 ∧ l ≤ lv then redV l S (wc 1 (wo (fY (lv, acc, blC lv) ++ Z2))) else _) = _
              rw [if_pos ⟨by omega, q2⟩, fy, List.append_assoc]) (fun q => by
              show (if lv < 8 ∧ 4 < lv then relS S else _) = _
              rw [if_pos ⟨by omega, by omega⟩]) (by simp only [dp]; rw [if_neg (by omega)]; rfl) (by
              show ((seg S ++ fY (lv, acc, blC lv)) ++ Z2).length = _
              rw [fy]
              simp only [List.length_append, wc_len, wo_len]
              omega)
          exact ⟨fun h fl => toH (step.2 Z2 hN2 (rc.1 h fl)), fun Z hZ hK => toH (step.2 Z2 hN2 (rc.2 Z hZ hK))⟩
    exact ⟨fun h fl S' y hP => (key S' y hP).1 h fl, fun Z hZ hK S' y hP => (key S' y hP).2 Z hZ hK⟩
end MSI
