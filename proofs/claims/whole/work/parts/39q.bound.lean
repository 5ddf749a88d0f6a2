/-! how much is shown -/
def sl : List Tz → Nat
  | [] => 0
  | t :: Z => t.1 + (if t.2.1 = 5 then 0 else 1) + t.2.2 + sl Z
theorem shZ_sl (c : Nat → Nat) : ∀ (Z : List Tz) (a : Nat), (shZ c a Z).length = sl Z := by
  intro Z
  induction Z with
  | nil => intro a; rfl
  | cons t Z ih =>
    intro a
    simp only [shZ, sl, List.length_append, List.length_replicate, ih]
    split <;> simp <;> omega
theorem sl_app : ∀ (X Y : List Tz), sl (X ++ Y) = sl X + sl Y := by
  intro X
  induction X with
  | nil => intro Y; simp [sl]
  | cons t X ih => intro Y; simp only [List.cons_append, sl, ih]; omega
theorem sl_zn (m : Nat) : sl (zn m) = m := by
  induction m with
  | zero => rfl
  | succ m ih => show 0 + 1 + 0 + sl (zn m) = m + 1; omega
theorem sl_wo {X : List Tz} (h : X ≠ []) : sl (wo X) = sl X + 1 := by
  obtain ⟨⟨o, r, k⟩, X, rfl⟩ := List.exists_cons_of_ne_nil h
  simp only [wo, sl]
  omega
theorem sl_wc (j : Nat) : ∀ (X : List Tz), X ≠ [] → sl (wc j X) = sl X + j
  | [], h => absurd rfl h
  | [(o, r, k)], _ => by simp only [wc, sl]; omega
  | t :: t' :: X, _ => by
    rw [wc_cons j t (by simp)]
    have ih := sl_wc j (t' :: X) (by simp)
    have e : ∀ Y, sl (t :: Y) = t.1 + (if t.2.1 = 5 then 0 else 1) + t.2.2 + sl Y := fun _ => rfl
    rw [e, e, ih]
    omega
def BD (F : Ps) : Prop := ∀ a Z, F a = some Z → sl Z ≤ 3 * Z.length
theorem bd_wd (c : Nat → Nat) (i : Nat) : BD (wdP c i) := fun a Z h => by
  unfold wdP at h
  split at h
  · cases h; rw [sl_zn, zn_len]; omega
  · exact absurd h (by simp)
theorem bd_or {F G : Ps} (h1 : BD F) (h2 : BD G) : BD (orP F G) := fun a Z h => by
  unfold orP at h
  split at h
  · rename_i hF
    cases h
    exact h1 a _ hF
  · exact h2 a Z h
theorem bd_sq {F G : Ps} (h1 : BD F) (h2 : BD G) : BD (sq F G) := fun a Z h => by
  unfold sq at h
  split at h
  · exact absurd h (by simp)
  · rename_i X hX
    split at h
    · exact absurd h (by simp)
    · rename_i Y hY
      cases h
      have a1 := h1 _ _ hX
      have a2 := h2 _ _ hY
      rw [sl_app, List.length_append]
      omega
theorem bd_id (c : Nat → Nat) : BD (idP c) := fun a Z h => by
  unfold idP at h
  split at h
  · cases h; decide
  · cases h; decide
theorem sl_nm (c : Nat → Nat) {role a : Nat} : sl (nmZ c role a) ≤ (nmZ c role a).length := by
  simp only [nmZ, sl, sl_zn, List.length_cons, zn_len]
  split <;> omega
theorem bd_nm (c : Nat → Nat) {role : Nat} : BD (nmP c role) := fun a Z h => by
  unfold nmP at h
  split at h
  · cases h
    have := sl_nm c (role := role) (a := a)
    simp only [nmZ] at this
    omega
  · exact absurd h (by simp)
theorem sl_dz (c : Nat → Nat) {role : Nat} : ∀ m a, sl (dz c role m a) ≤ m := by
  intro m
  induction m with
  | zero => intro a; simp [dz, sl]
  | succ m ih =>
    intro a
    cases m with
    | zero => simp only [dz, sl]; split <;> omega
    | succ m =>
      unfold dz
      split
      · simp only [sl]; have := ih (a + 1); simp; omega
      · simp only [sl, sl_zn]; split <;> omega
theorem bd_dg (c : Nat → Nat) {most role : Nat} : BD (dgP c most role) := fun a Z h => by
  unfold dgP at h
  split at h
  · exact absurd h (by simp)
  · cases h
    have := sl_dz c (role := role) (dgN c most a - a) a
    rw [dz_len]
    omega
theorem bd_srR {c : Nat → Nat} {p : Ps} (hp : BD p) (a : Nat) : ∀ (f : Nat) (acc Z : List Tz), sl acc ≤ 3 * acc.length → srR c p a f acc = some Z → sl Z ≤ 3 * Z.length := by
  intro f
  induction f with
  | zero => intro acc Z h h1; cases h1; exact h
  | succ f ih =>
    intro acc Z h h1
    unfold srR at h1
    split at h1
    · split at h1
      · exact absurd h1 (by simp)
      · rename_i Y hY
        have := hp _ _ hY
        refine ih _ _ ?_ h1
        rw [sl_app, sl_app, sl_zn, List.length_append, List.length_append, zn_len]
        omega
    · cases h1; exact h
theorem bd_sr {c : Nat → Nat} {p : Ps} (hp : BD p) : BD (srP c p) := fun a Z h => by
  unfold srP at h
  split at h
  · exact absurd h (by simp)
  · rename_i Y hY
    exact bd_srR hp a _ _ _ (hp _ _ hY) h
/-- a sign between: as long as it is shown, and not empty -/
def SG (s : Ps) : Prop := ∀ a Y, s a = some Y → sl Y ≤ Y.length ∧ 0 < Y.length
theorem sg_wd (c : Nat → Nat) {i : Nat} (hi : i < 56) : SG (wdP c i) := fun a Z h => by
  unfold wdP at h
  split at h
  · cases h
    rw [sl_zn, zn_len, wS_len]
    exact ⟨Nat.le_refl _, wS_ne i hi⟩
  · exact absurd h (by simp)
theorem sg_or {F G : Ps} (h1 : SG F) (h2 : SG G) : SG (orP F G) := fun a Z h => by
  unfold orP at h
  split at h
  · rename_i hF
    cases h
    exact h1 a _ hF
  · exact h2 a Z h
theorem sg_sg (c : Nat → Nat) (lv : Nat) : SG (sgP c lv) := by
  unfold sgP
  split
  · exact sg_wd c (by decide)
  · split
    · exact sg_wd c (by decide)
    · split
      · exact sg_or (sg_wd c (by decide)) (sg_or (sg_wd c (by decide)) (sg_or (sg_wd c (by decide)) (sg_or (sg_wd c (by decide)) (sg_or (sg_wd c (by decide)) (sg_wd c (by decide))))))
      · split
        · exact sg_or (sg_wd c (by decide)) (sg_wd c (by decide))
        · split
          · exact sg_or (sg_wd c (by decide)) (sg_wd c (by decide))
          · intro a Z h
            exact absurd h (by simp)
theorem bd_chR {s N : Ps} (hs : SG s) (hN : BD N) (a : Nat) : ∀ (f : Nat) (acc Z : List Tz), acc ≠ [] → sl acc ≤ 3 * acc.length → chR s N a f acc = some Z → sl Z ≤ 3 * Z.length := by
  intro f
  induction f with
  | zero => intro acc Z _ h h1; cases h1; exact h
  | succ f ih =>
    intro acc Z hne h h1
    unfold chR at h1
    split at h1
    · cases h1; exact h
    · rename_i Y hY
      split at h1
      · exact absurd h1 (by simp)
      · rename_i X hX
        have h2 := hN _ _ hX
        have h3 := hs _ _ hY
        have hne2 : acc ++ (Y ++ X) ≠ [] := fun e => hne (List.append_eq_nil_iff.mp e).1
        refine ih _ _ (wc_ne (wo_ne hne2)) ?_ h1
        rw [sl_wc _ _ (wo_ne hne2), sl_wo hne2, wc_len, wo_len, sl_app, sl_app, List.length_append, List.length_append]
        omega
theorem sl_nt (c : Nat → Nat) : ∀ f a, sl (nt c f a) + oc (nt c f a) ≤ 3 * (nt c f a).length := by
  intro f
  induction f with
  | zero => intro a; simp [nt, sl, oc]
  | succ f ih =>
    intro a
    unfold nt
    split
    · have := ih (a + 5)
      simp only [sl, oc, sl_app, sl_zn, oc_app, oc_zn, List.length_cons, List.length_append, zn_len]
      simp
      omega
    · simp [sl, oc]
theorem sl_pf (c : Nat → Nat) (lv a : Nat) : sl (pfP c lv a) + oc (pfP c lv a) ≤ 3 * (pfP c lv a).length := by
  unfold pfP
  split
  · split
    · decide
    · decide
  · split
    · exact sl_nt c _ _
    · decide
theorem bd_lv {c : Nat → Nat} {N : Ps} (hN : BD N) (ne : NE N) (lv : Nat) : BD (lvP c N lv) := fun a Z h => by
  unfold lvP at h
  split at h
  · exact absurd h (by simp)
  · rename_i X hX
    have hne : pfP c lv a ++ X ≠ [] := fun e => ne _ _ hX (List.append_eq_nil_iff.mp e).2
    refine bd_chR (sg_sg c lv) hN a _ _ _ (wc_ne hne) ?_ h
    have h1 := sl_pf c lv a
    have h2 := hN _ _ hX
    rw [sl_wc _ _ hne, wc_len, sl_app, List.length_append]
    omega
theorem bd_pwR {c : Nat → Nat} {N : Ps} (hN : BD N) (ne : NE N) : ∀ (f a : Nat) (Z R : List Tz), Z ≠ [] → sl Z ≤ 3 * Z.length → pwR c N f a Z = some R → sl R ≤ 3 * R.length := by
  intro f
  induction f with
  | zero => intro a Z R _ h h1; cases h1; exact h
  | succ f ih =>
    intro a Z R hne h h1
    unfold pwR at h1
    split at h1
    · split at h1
      · exact absurd h1 (by simp)
      · rename_i Y hY
        split at h1
        · exact absurd h1 (by simp)
        · rename_i X hX
          cases h1
          have h2 := ih _ _ _ (ne _ _ hY) (hN _ _ hY) hX
          have hne2 : Z ++ zn (wS 25).length ≠ [] := fun e => hne (List.append_eq_nil_iff.mp e).1
          have e2 : (wS 25).length = 2 := by decide +kernel
          rw [sl_wc _ _ (fun e => wo_ne hne2 (List.append_eq_nil_iff.mp e).1), wc_len, sl_app, sl_wo hne2, sl_app, sl_zn, List.length_append, wo_len, List.length_append, zn_len, e2]
          omega
    · cases h1; exact h
theorem bd_pw {c : Nat → Nat} {N : Ps} (hN : BD N) (ne : NE N) : BD (pwP c N) := fun a Z h => by
  unfold pwP at h
  split at h
  · exact absurd h (by simp)
  · rename_i X hX
    exact bd_pwR hN ne _ _ _ _ (ne _ _ hX) (hN _ _ hX) h
theorem bd_ls {c : Nat → Nat} {E : Ps} (hE : BD E) : BD (lsP c E) := bd_sq (bd_wd c _) (bd_sq (bd_sr hE) (bd_wd c _))
theorem bd_rf {c : Nat → Nat} {I : Option Ps} (hI : ∀ E, I = some E → BD E) (ph : Bool) : BD (rfP c I ph) := fun a Z h => by
  have hn := fun role => sl_nm c (role := role) (a := a)
  unfold rfP at h
  split at h
  · split at h
    · split at h
      · exact absurd h (by simp)
      · split at h
        · cases h
          have := hn 3
          rw [sl_app, sl_zn, List.length_append, zn_len]
          omega
        · split at h
          · exact absurd h (by simp)
          · rename_i Y hY
            cases h
            have := hn 3
            have h2 := bd_ls (hI _ rfl) _ _ hY
            rw [sl_app, List.length_append]
            omega
    · cases h
      have := hn 4
      omega
  · exact absurd h (by simp)
theorem bd_pr {c : Nat → Nat} {I : Option Ps} (hI : ∀ E, I = some E → BD E) : BD (prP c I) := fun a Z h => by
  unfold prP at h
  split at h
  · cases h; rw [sl_zn, zn_len]; omega
  · refine bd_or (bd_wd c _) (bd_or (bd_wd c _) (bd_or ?_ ?_)) a Z h
    · intro a Z h
      unfold qtP at h
      split at h
      · split at h
        · cases h; rw [sl_zn, zn_len]; omega
        · exact absurd h (by simp)
      · exact absurd h (by simp)
    · intro a Z h
      simp only at h
      split at h
      · unfold grP at h
        split at h
        · exact absurd h (by simp)
        · split at h
          · exact absurd h (by simp)
          · rename_i X hX
            split at h
            · cases h
              have h2 := hI _ rfl _ _ hX
              simp only [sl, sl_app, List.length_cons, List.length_append, List.length_nil]
              simp
              omega
            · exact absurd h (by simp)
      · exact bd_rf hI true a Z h
theorem bd_EL (c : Nat → Nat) {I : Option Ps} (hI : ∀ E, I = some E → BD E) : ∀ k, BD (ELv c I k) := by
  intro k
  induction k with
  | zero => exact bd_pw (bd_pr hI) ne_pr
  | succ k ih => exact bd_lv ih (ne_EL c I k) _
theorem bd_EX (c : Nat → Nat) : ∀ m, BD (EX c m) := by
  intro m
  induction m with
  | zero => exact bd_EL c (fun E h => absurd h (by simp)) 6
  | succ m ih => exact bd_EL c (fun E h => by cases h; exact ih) 6
theorem bd_op {F G : Ps} (h1 : BD F) (h2 : BD G) : BD (opP F G) := fun a Z h => by
  unfold opP at h
  split at h
  · cases h; decide
  · rename_i X hX
    split at h
    · exact absurd h (by simp)
    · rename_i Y hY
      cases h
      have a1 := h1 _ _ hX
      have a2 := h2 _ _ hY
      rw [sl_app, List.length_append]
      omega
theorem bd_ft (c : Nat → Nat) (k : Nat) : BD (ftP c k) := by
  unfold ftP
  split
  · exact bd_sq (bd_wd c _) (bd_sq (bd_dg c) (bd_sq (bd_id c) (bd_sq (bd_nm c) (bd_sq (bd_wd c _) (bd_sq (bd_EX c 8) (bd_sq (bd_wd c _) (bd_sq (bd_EX c 8) (bd_op (bd_wd c _) (bd_EX c 8)))))))))
  · exact bd_sq (bd_rf (fun E h => by cases h; exact bd_EX c 7) false) (bd_sq (bd_wd c _) (bd_EX c 8))
  · exact bd_sq (bd_wd c _) (bd_sq (bd_EX c 7) (bd_wd c _))
  · exact bd_sq (bd_wd c _) (bd_sq (bd_EX c 7) (bd_wd c _))
  · exact bd_wd c _
  · exact bd_wd c _
  · exact bd_wd c _
  · exact bd_sq (bd_wd c _) (bd_dg c)
  · refine bd_sq (bd_wd c _) (bd_sq (bd_nm c) ?_)
    intro a Z h
    unfold clP at h
    split at h
    · exact bd_ls (bd_EX c 7) a Z h
    · cases h; decide
  · exact bd_wd c _
  · exact bd_wd c _
  · exact bd_sq (bd_wd c _) (bd_sr (bd_EX c 8))
  · exact bd_wd c _
  · exact bd_sq (bd_or (bd_wd c _) (bd_or (bd_wd c _) (bd_wd c _))) (bd_sr (bd_nm c))
  · exact bd_sq (bd_wd c _) (bd_sr (bd_sq (bd_nm c) (bd_sq (bd_wd c _) (bd_sq (bd_dg c) (bd_wd c _)))))
  · exact bd_sq (bd_wd c _) (bd_sq (bd_sr (bd_dg c)) (bd_sq (bd_wd c _) (bd_sq (bd_id c) (bd_EX c 8))))
  · intro a Z h
    exact absurd h (by simp)
theorem RC_bd (c : Nat → Nat) (n : Nat) : sl (RC c n).2 ≤ 3 * n ∧ (RC c n).2.length = n ∧ (RC c n).1 ≤ 17 := by
  unfold RC
  cases hF : FT c n 0 with
  | some q =>
    obtain ⟨k, Z⟩ := q
    have h := ftF_k _ _ _ _ hF
    have h2 := bd_ft c k 0 Z h.2.2.1
    simp only
    have h3 := h.2.2.2
    exact ⟨by omega, by omega, by omega⟩
  | none =>
    simp only
    cases hI : ifP c n with
    | none =>
      simp only [sl_zn, zn_len]
      exact ⟨by omega, trivial, by decide⟩
    | some Z =>
      simp only
      unfold ifP at hI
      split at hI
      · exact absurd hI (by simp)
      · rename_i X hX
        split at hI
        · exact absurd hI (by simp)
        · rename_i q hq
          split at hI
          · cases hI
            obtain ⟨k, Y⟩ := q
            have h := ftF_k _ _ _ _ hq
            have h2 := bd_ft c k _ Y h.2.2.1
            have h1 := bd_sq (bd_wd c 39) (bd_sq (bd_EX c 7) (bd_wd c 24)) _ _ hX
            have h3 := h.2.2.2
            rw [sl_app, List.length_append]
            exact ⟨by simp only; omega, by simp only; omega, by decide⟩
          · exact absurd hI (by simp)
