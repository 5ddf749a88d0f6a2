/-! labels that a statement names -/
def nv (c : Nat → Nat) (a : Nat) : Nat := vlN c (dgN c 5 a - a) a 0
def amZ (c : Nat → Nat) : Nat → List Tz → List Nat
  | _, [] => []
  | a, t :: Z => (if t.2.1 = 6 then [nv c a] else []) ++ amZ c (a + 1) Z
def nsL (Z : List Tz) : Prop := ∀ t ∈ Z, t.2.1 ≠ 6
def NS (F : Ps) : Prop := ∀ a Z, F a = some Z → nsL Z
theorem nsL.app {X Y : List Tz} (h1 : nsL X) (h2 : nsL Y) : nsL (X ++ Y) := fun t ht => by
  rcases List.mem_append.mp ht with q | q
  · exact h1 t q
  · exact h2 t q
theorem nsL.zn (m : Nat) : nsL (zn m) := fun t ht => by
  have := List.eq_of_mem_replicate ht
  rw [this]
  decide
theorem nsL.nil : nsL [] := fun t ht => absurd ht (by simp)
theorem nsL.cons {t : Tz} {Z : List Tz} (h : t.2.1 ≠ 6) (h2 : nsL Z) : nsL (t :: Z) := fun s hs => by
  rcases List.mem_cons.mp hs with q | q
  · rw [q]; exact h
  · exact h2 s q
theorem nsL.wo {Z : List Tz} (h : nsL Z) : nsL (wo Z) := by
  cases Z with
  | nil => exact h
  | cons t Z => exact nsL.cons (h t List.mem_cons_self) (fun s hs => h s (List.mem_cons_of_mem _ hs))
theorem nsL.wc (j : Nat) : ∀ {Z : List Tz}, nsL Z → nsL (wc j Z)
  | [], h => h
  | [(o, r, k)], h => nsL.cons (h (o, r, k) List.mem_cons_self) nsL.nil
  | t :: t' :: Z, h => by
    rw [wc_cons j t (by simp)]
    exact nsL.cons (h t List.mem_cons_self) (nsL.wc j (fun s hs => h s (List.mem_cons_of_mem _ hs)))
theorem amZ_app (c : Nat → Nat) : ∀ (X Y : List Tz) (a : Nat), amZ c a (X ++ Y) = amZ c a X ++ amZ c (a + X.length) Y := by
  intro X
  induction X with
  | nil => intro Y a; rfl
  | cons t X ih =>
    intro Y a
    simp only [List.cons_append, amZ, ih, List.length_cons, List.append_assoc, show a + 1 + X.length = a + (X.length + 1) by omega]
theorem amZ_ns (c : Nat → Nat) : ∀ (Z : List Tz) (a : Nat), nsL Z → amZ c a Z = [] := by
  intro Z
  induction Z with
  | nil => intro a _; rfl
  | cons t Z ih =>
    intro a h
    simp only [amZ]
    rw [if_neg (h t List.mem_cons_self), ih (a + 1) (fun s hs => h s (List.mem_cons_of_mem _ hs))]
    rfl
theorem ns_wd (c : Nat → Nat) (i : Nat) : NS (wdP c i) := fun a Z h => by
  unfold wdP at h
  split at h
  · cases h; exact nsL.zn _
  · exact absurd h (by simp)
theorem ns_or {F G : Ps} (h1 : NS F) (h2 : NS G) : NS (orP F G) := fun a Z h => by
  unfold orP at h
  split at h
  · rename_i hF
    cases h
    exact h1 a _ hF
  · exact h2 a Z h
theorem ns_sq {F G : Ps} (h1 : NS F) (h2 : NS G) : NS (sq F G) := fun a Z h => by
  unfold sq at h
  split at h
  · exact absurd h (by simp)
  · rename_i X hX
    split at h
    · exact absurd h (by simp)
    · rename_i Y hY
      cases h
      exact (h1 _ _ hX).app (h2 _ _ hY)
theorem ns_id (c : Nat → Nat) : NS (idP c) := fun a Z h => by
  unfold idP at h
  split at h
  · cases h; exact nsL.cons (by decide) nsL.nil
  · cases h; exact nsL.nil
theorem ns_nm (c : Nat → Nat) {role : Nat} (hr : role ≠ 6) : NS (nmP c role) := fun a Z h => by
  unfold nmP at h
  split at h
  · cases h; exact nsL.cons hr (nsL.zn _)
  · exact absurd h (by simp)
theorem ns_dz (c : Nat → Nat) {role : Nat} (hr : role ≠ 6) : ∀ m a, nsL (dz c role m a) := by
  intro m
  induction m with
  | zero => intro a; exact nsL.nil
  | succ m ih =>
    intro a
    cases m with
    | zero => exact nsL.cons hr nsL.nil
    | succ m =>
      unfold dz
      split
      · exact nsL.cons (by decide) (ih _)
      · exact nsL.cons hr (nsL.zn _)
theorem ns_dg (c : Nat → Nat) {most role : Nat} (hr : role ≠ 6) : NS (dgP c most role) := fun a Z h => by
  unfold dgP at h
  split at h
  · exact absurd h (by simp)
  · cases h; exact ns_dz c hr _ _
theorem ns_srR {c : Nat → Nat} {p : Ps} (hp : NS p) (a : Nat) : ∀ (f : Nat) (acc Z : List Tz), nsL acc → srR c p a f acc = some Z → nsL Z := by
  intro f
  induction f with
  | zero => intro acc Z h h1; cases h1; exact h
  | succ f ih =>
    intro acc Z h h1
    unfold srR at h1
    split at h1
    · split at h1
      · exact absurd h1 (by simp)
      · rename_i Y hY
        exact ih _ _ (h.app ((nsL.zn _).app (hp _ _ hY))) h1
    · cases h1; exact h
theorem ns_sr {c : Nat → Nat} {p : Ps} (hp : NS p) : NS (srP c p) := fun a Z h => by
  unfold srP at h
  split at h
  · exact absurd h (by simp)
  · rename_i Y hY
    exact ns_srR hp a _ _ _ (hp _ _ hY) h
theorem ns_chR {s N : Ps} (hs : NS s) (hN : NS N) (a : Nat) : ∀ (f : Nat) (acc Z : List Tz), nsL acc → chR s N a f acc = some Z → nsL Z := by
  intro f
  induction f with
  | zero => intro acc Z h h1; cases h1; exact h
  | succ f ih =>
    intro acc Z h h1
    unfold chR at h1
    split at h1
    · cases h1; exact h
    · rename_i Y hY
      split at h1
      · exact absurd h1 (by simp)
      · rename_i X hX
        exact ih _ _ ((h.app ((hs _ _ hY).app (hN _ _ hX))).wo.wc 1) h1
theorem ns_sg (c : Nat → Nat) (lv : Nat) : NS (sgP c lv) := by
  unfold sgP
  split
  · exact ns_wd c _
  · split
    · exact ns_wd c _
    · split
      · exact ns_or (ns_wd c _) (ns_or (ns_wd c _) (ns_or (ns_wd c _) (ns_or (ns_wd c _) (ns_or (ns_wd c _) (ns_wd c _)))))
      · split
        · exact ns_or (ns_wd c _) (ns_wd c _)
        · split
          · exact ns_or (ns_wd c _) (ns_wd c _)
          · intro a Z h
            exact absurd h (by simp)
theorem ns_nt (c : Nat → Nat) : ∀ f a, nsL (nt c f a) := by
  intro f
  induction f with
  | zero => intro a; exact nsL.nil
  | succ f ih =>
    intro a
    unfold nt
    split
    · exact nsL.cons (by decide) ((nsL.zn _).app (ih _))
    · exact nsL.nil
theorem ns_pf (c : Nat → Nat) (lv a : Nat) : nsL (pfP c lv a) := by
  unfold pfP
  split
  · split
    · exact nsL.cons (by decide) nsL.nil
    · exact nsL.nil
  · split
    · exact ns_nt c _ _
    · exact nsL.nil
theorem ns_lv {c : Nat → Nat} {N : Ps} (hN : NS N) (lv : Nat) : NS (lvP c N lv) := fun a Z h => by
  unfold lvP at h
  split at h
  · exact absurd h (by simp)
  · rename_i X hX
    exact ns_chR (ns_sg c lv) hN a _ _ _ (((ns_pf c lv a).app (hN _ _ hX)).wc _) h
theorem ns_pwR {c : Nat → Nat} {N : Ps} (hN : NS N) : ∀ (f a : Nat) (Z R : List Tz), nsL Z → pwR c N f a Z = some R → nsL R := by
  intro f
  induction f with
  | zero => intro a Z R h h1; cases h1; exact h
  | succ f ih =>
    intro a Z R h h1
    unfold pwR at h1
    split at h1
    · split at h1
      · exact absurd h1 (by simp)
      · rename_i Y hY
        split at h1
        · exact absurd h1 (by simp)
        · rename_i X hX
          cases h1
          exact (((h.app (nsL.zn _)).wo).app (ih _ _ _ (hN _ _ hY) hX)).wc 1
    · cases h1; exact h
theorem ns_pw {c : Nat → Nat} {N : Ps} (hN : NS N) : NS (pwP c N) := fun a Z h => by
  unfold pwP at h
  split at h
  · exact absurd h (by simp)
  · rename_i X hX
    exact ns_pwR hN _ _ _ _ (hN _ _ hX) h
theorem ns_nmZ (c : Nat → Nat) {role a : Nat} (hr : role ≠ 6) : nsL (nmZ c role a) := nsL.cons hr (nsL.zn _)
theorem ns_ls {c : Nat → Nat} {E : Ps} (hE : NS E) : NS (lsP c E) := ns_sq (ns_wd c _) (ns_sq (ns_sr hE) (ns_wd c _))
theorem ns_rf {c : Nat → Nat} {I : Option Ps} (hI : ∀ E, I = some E → NS E) (ph : Bool) : NS (rfP c I ph) := fun a Z h => by
  unfold rfP at h
  split at h
  · split at h
    · split at h
      · exact absurd h (by simp)
      · split at h
        · cases h; exact (ns_nmZ c (by decide)).app (nsL.zn _)
        · split at h
          · exact absurd h (by simp)
          · rename_i Y hY
            cases h
            exact (ns_nmZ c (by decide)).app (ns_ls (hI _ rfl) _ _ hY)
    · cases h; exact ns_nmZ c (by decide)
  · exact absurd h (by simp)
theorem ns_pr {c : Nat → Nat} {I : Option Ps} (hI : ∀ E, I = some E → NS E) : NS (prP c I) := fun a Z h => by
  unfold prP at h
  split at h
  · cases h; exact nsL.zn _
  · refine ns_or (ns_wd c _) (ns_or (ns_wd c _) (ns_or ?_ ?_)) a Z h
    · intro a Z h
      unfold qtP at h
      split at h
      · split at h
        · cases h; exact nsL.zn _
        · exact absurd h (by simp)
      · exact absurd h (by simp)
    · intro a Z h
      simp only at h
      split at h
      · unfold grP at h
        split at h
        · exact absurd h (by simp)
        · split at h
          · exact absurd h (by simp)
          · rename_i X hX
            split at h
            · cases h
              exact nsL.cons (by decide) ((hI _ rfl _ _ hX).app (nsL.cons (by decide) nsL.nil))
            · exact absurd h (by simp)
      · exact ns_rf hI true a Z h
theorem ns_EL (c : Nat → Nat) {I : Option Ps} (hI : ∀ E, I = some E → NS E) : ∀ k, NS (ELv c I k) := by
  intro k
  induction k with
  | zero => exact ns_pw (ns_pr hI)
  | succ k ih => exact ns_lv ih _
theorem ns_EX (c : Nat → Nat) : ∀ m, NS (EX c m) := by
  intro m
  induction m with
  | zero => exact ns_EL c (fun E h => absurd h (by simp)) 6
  | succ m ih => exact ns_EL c (fun E h => by cases h; exact ih) 6
theorem ns_op {F G : Ps} (h1 : NS F) (h2 : NS G) : NS (opP F G) := fun a Z h => by
  unfold opP at h
  split at h
  · cases h; exact nsL.nil
  · rename_i X hX
    split at h
    · exact absurd h (by simp)
    · rename_i Y hY
      cases h
      exact (h1 _ _ hX).app (h2 _ _ hY)
theorem ns_cl (c : Nat → Nat) : NS (clP c) := fun a Z h => by
  unfold clP at h
  split at h
  · exact ns_ls (ns_EX c 7) a Z h
  · cases h; exact nsL.nil
section MSN
variable {c : Nat → Nat} {n b : Nat}
def SimC (c : Nat → Nat) (n b k : Nat) (P : (Int32 → MS → Prop) → MS → Prop) : Prop := ∀ (post : Int32 → MS → Prop) (u : MS) (a : Nat) (sh : List Nat) (nm : List Nx), Os c n b u a sh nm → gI u 16 = 0 → (∀ Z v, ftP c k a = some Z → a + Z.length = n → KR u v → Os c n b v n (sh ++ shZ c a Z) (nm ++ nmsZ (if k = 15 then tyK c a else 0) a Z) → Am v (amZ c a Z) → post 1 v) → (∀ v, (∀ Z, ftP c k a = some Z → a + Z.length ≠ n) → KR u v → Sh v sh → Nm c v nm → post 0 v) → P post u
theorem Am.nil {u v : MS} (k : KM u v) (h : gI u 16 = 0) : Am v [] := ⟨(k.1 16 rfl).trans h, fun j x hj => absurd hj (by simp)⟩
theorem TX.sim {k : Nat} {P : (Int32 → MS → Prop) → MS → Prop} (h : TX c n b 0 (ftP c k) P) (hk : k ≠ 15) (ns : NS (ftP c k)) : SimC c n b k P := by
  intro post u a sh nm o h16 h1 h2
  refine h post u a sh nm o (fun Z v hZ hn kv ov => h1 Z v hZ hn kv.kr (by rw [if_neg hk]; exact ov) ?_) (fun v hZ hv => h2 v hZ hv.1.kr hv.2.1 hv.2.2)
  rw [amZ_ns c Z a (ns a Z hZ)]
  exact Am.nil kv h16
theorem type_sim : SimC c n b 15 (fun post u => P_M_isType post u) := by
  intro post u a sh nm o h16 h1 h2
  refine type_of o (fun Z v hZ hn kv ov => h1 Z v hZ hn kv.kr (by rw [if_pos rfl]; exact ov) ?_) (fun v hZ hv => h2 v hZ hv.1.kr hv.2.1 hv.2.2)
  have ns : NS (ftP c 15) := ns_sq (ns_or (ns_wd c _) (ns_or (ns_wd c _) (ns_wd c _))) (ns_sr (ns_nm c (by decide)))
  rw [amZ_ns c Z a (ns a Z hZ)]
  exact Am.nil kv h16
theorem dgN_run {m : Nat} : ∀ (f a : Nat), Dgs c m a → m ≤ f → ¬ dg (c (a + m)) = true → dgN c f a = a + m := by
  induction m with
  | zero =>
    intro f a _ _ h
    cases f with
    | zero => rfl
    | succ f =>
      unfold dgN
      rw [Nat.add_zero] at h
      rw [if_neg h]
      rfl
  | succ m ih =>
    intro f a hd hf h
    obtain ⟨f, rfl⟩ : ∃ q, f = q + 1 := ⟨f - 1, by omega⟩
    unfold dgN
    have h0 := hd 0 (by omega)
    rw [Nat.add_zero] at h0
    rw [if_pos h0, ih f (a + 1) hd.tl (by omega) (by rw [show a + 1 + m = a + (m + 1) by omega]; exact h)]
    omega
theorem am_dz : ∀ (m a : Nat), Dgs c (m + 1) a → m + 1 ≤ 5 → ¬ dg (c (a + (m + 1))) = true → amZ c a (dz c 6 (m + 1) a) = [vlN c (m + 1) a 0] := by
  intro m
  induction m with
  | zero =>
    intro a hd _ h
    have e := dgN_run 5 a hd (by decide) h
    show [nv c a] ++ [] = _
    unfold nv
    rw [e, Nat.add_sub_cancel_left]
    rfl
  | succ m ih =>
    intro a hd hm h
    have e := dgN_run 5 a hd hm h
    unfold dz
    by_cases h48 : c a = 48
    · rw [if_pos h48]
      show [] ++ amZ c (a + 1) (dz c 6 (m + 1) (a + 1)) = _
      rw [ih (a + 1) hd.tl (by omega) (by rw [show a + 1 + (m + 1) = a + (m + 1 + 1) by omega]; exact h)]
      show [vlN c (m + 1) (a + 1) 0] = [vlN c (m + 1) (a + 1) (10 * 0 + (c a - 48))]
      rw [h48]
    · rw [if_neg h48]
      show [nv c a] ++ amZ c (a + 1) (zn (m + 1)) = _
      rw [amZ_ns c _ _ (nsL.zn _)]
      unfold nv
      rw [e, Nat.add_sub_cancel_left]
      rfl
theorem dg_facts {a : Nat} {D : List Tz} (h : dgP c 5 6 a = some D) : ∃ m, dgN c 5 a = a + (m + 1) ∧ D.length = m + 1 ∧ Dgs c (m + 1) a ∧ m + 1 ≤ 5 ∧ D = dz c 6 (m + 1) a ∧ vlN c (m + 1) a 0 < 100000 := by
  unfold dgP at h
  have hle := dgN_le (c := c) 5 a
  have h5 : ∀ f p, dgN c f p ≤ p + f := by
    intro f
    induction f with
    | zero => intro p; exact Nat.le_refl _
    | succ f ih =>
      intro p
      unfold dgN
      split
      · have := ih (p + 1); omega
      · omega
  have := h5 5 a
  split at h
  · exact absurd h (by simp)
  · rename_i hne
    cases h
    have hd := dgN_dgs (c := c) 5 a
    obtain ⟨m, hm⟩ : ∃ m, dgN c 5 a - a = m + 1 := ⟨dgN c 5 a - a - 1, by omega⟩
    rw [hm] at hd ⊢
    have hlt := vl_lt hd
    have hp : (10 : Nat) ^ (m + 1) ≤ 10 ^ 5 := Nat.pow_le_pow_right (by decide) (by omega)
    have hp2 : (10 : Nat) ^ 5 = 100000 := by decide
    exact ⟨m, by omega, dz_len c 6 _ _, hd, by omega, rfl, by omega⟩
theorem Os.aim {v : MS} {p : Nat} {sh : List Nat} {nm : List Nx} {i : Nat} {x y : Int32} (o : Os c n b v p sh nm) : Os c n b (sI (sA v 17 i x) 16 y) p sh nm := by
  have gi : ∀ k, k ≠ 16 → gI (sI (sA v 17 i x) 16 y) k = gI v k := fun k hk => by rw [gI_sI, if_neg hk, gI_sA]
  have ga : ∀ k j, k ≠ 17 → gA (sI (sA v 17 i x) 16 y) k j = gA v k j := fun k j hk => by rw [gA_sI, gA_sA, if_neg (fun q => hk q.1)]
  obtain ⟨t, h1, h2, ⟨h3, h4, h5⟩, h6, h7, h8⟩ := o
  refine ⟨⟨t.1, t.2.1, (gi 7 (by decide)).trans t.2.2.1, (gi 8 (by decide)).trans t.2.2.2.1, fun j hj => ?_, t.2.2.2.2.2⟩, h1, (gi 9 (by decide)).trans h2, ⟨(gi 10 (by decide)).trans h3, h4, fun j z hj => (ga 11 j (by decide)).trans (h5 j z hj)⟩, (gi 12 (by decide)).trans h6, h7, fun j q hj => ?_⟩
  · rw [ga 6 _ (by decide)]
    exact t.2.2.2.2.1 j hj
  · have := h8 j q hj
    exact ⟨this.1, (ga 14 j (by decide)).trans this.2.1, (ga 15 j (by decide)).trans this.2.2⟩
theorem KR.aim {u v : MS} {i : Nat} {x y : Int32} (h : KR u v) : KR u (sI (sA v 17 i x) 16 y) := ⟨fun k hk q => by rw [gI_sI, if_neg q, gI_sA]; exact h.1 k hk q, fun k hk q j => by rw [gA_sI, gA_sA, if_neg (fun e => q e.1)]; exact h.2 k hk q j⟩
theorem goto_sim : SimC c n b 9 (fun post u => P_M_isGoTo post u) := by
  intro post u a sh nm o h16 h1 h2
  have hz := o.1.2.2.2.2.2
  have e4 : (wS 45).length = 4 := by decide +kernel
  have hw : ∀ p, (st c p (wS 45) = true → wdP c 45 p = some (zn 4)) ∧ (¬ st c p (wS 45) = true → wdP c 45 p = none) := fun p => by
    unfold wdP
    exact ⟨fun h => by rw [if_pos h, e4], fun h => by rw [if_neg h]⟩
  unfold P_M_isGoTo
  refine word_of (L := wS 45) (by unfold wOk; decide +kernel) (by decide +kernel) o (fun hs v k ov => ⟨fun _ => ?_, fun e => absurd e (by decide)⟩) (fun hs => ⟨fun e => absurd rfl e, fun _ => h2 u (fun Z hZ => ?_) (KM.refl u).kr o.of.2.1 o.of.2.2⟩)
  · rw [e4] at ov
    refine digits_of (most := 5) (role := 6) (by decide) (by decide) (by decide) ov (fun D w hD kw ow => ?_) (fun w hD kw ow => ⟨vp_in_nI (n := 0) (by decide) (by decide), vp_in_nI (n := 0) (by decide) (by decide), fun _ => ?_, fun h => ?_⟩)
    · obtain ⟨m, f1, f2, f3, f4, f5, f6⟩ := dg_facts hD
      have ev : dgN c 5 (a + 4) - (a + 4) = m + 1 := by omega
      rw [ev]
      have e17 : gA (sI (sA w 17 (0 : Int32).toNatClampNeg (nI (vlN c (m + 1) (a + 4) 0))) 16 (1 : Int32)) 17 (0 : Int32).toNatClampNeg = nI (vlN c (m + 1) (a + 4) 0) := by
        rw [gA_sI, gA_sA, if_pos ⟨rfl, rfl⟩]
      rw [e17]
      have hf : ftP c 9 a = some (zn 4 ++ D) := sq_some ((hw a).1 hs) (by rw [zn_len]; exact hD)
      have t := ow.1
      have h80 := t.1
      have h19 := t.2.1
      have hp := ow.2.1
      rw [ow.2.2.1, t.2.2.2.1, nI_eq (by omega) (by omega)]
      refine ⟨vp_in_nI (n := 0) (by decide) (by decide), vp_in_nI (n := 0) (by decide) (by decide), fun h => absurd h (nI_pos (by omega)), fun _ => ⟨fun hq => h2 _ (fun Z hZ => ?_) (KR.aim (k.tr kw).kr) ?_ ?_, fun hq => ?_⟩⟩
      · rw [hf] at hZ
        cases hZ
        rw [List.length_append, zn_len]
        omega
      · exact (Os.off (s2 := shZ c a (zn 4) ++ shZ c (a + 4) D) (KM.refl _) (by rw [← List.append_assoc]; exact ow.aim)).2.1
      · exact (Os.off (s2 := shZ c a (zn 4) ++ shZ c (a + 4) D) (KM.refl _) (by rw [← List.append_assoc]; exact ow.aim)).2.2
      · have hend : a + 4 + D.length = n := by omega
        refine h1 (zn 4 ++ D) _ hf (by rw [List.length_append, zn_len]; omega) (KR.aim (k.tr kw).kr) ?_ ?_
        · rw [shZ_app, nmsZ_app, nmsZ_zn, zn_len, ← List.append_assoc, if_neg (by decide), List.nil_append]
          have := ow.aim (i := (0 : Int32).toNatClampNeg) (x := nI (vlN c (m + 1) (a + 4) 0)) (y := 1)
          rw [hend] at this
          exact this
        · rw [amZ_app, amZ_ns c _ _ (nsL.zn _), zn_len, f5, am_dz m (a + 4) f3 f4 (by rw [hz (a + 4 + (m + 1)) (by omega)]; decide)]
          refine ⟨rfl, fun j x hj => ?_⟩
          cases j with
          | zero =>
            cases hj
            exact e17
          | succ j => exact absurd hj (by simp)
    · have hf : ftP c 9 a = none := sq_none ((hw a).1 hs) (by rw [zn_len]; exact hD)
      refine h2 _ (fun Z hZ => by rw [hf] at hZ; exact absurd hZ (by simp)) (KR.aim (k.tr kw).kr) ?_ ?_
      · exact (Os.offs (s2 := shZ c a (zn 4)) (KM.refl _) ow.aim).2.1
      · exact (Os.offs (s2 := shZ c a (zn 4)) (KM.refl _) ow.aim).2.2
    · exact absurd (by rw [gA_sI, gA_sA, if_pos ⟨rfl, rfl⟩]; decide) h
  · rw [show ftP c 9 a = none from sq_none0 ((hw a).2 hs)] at hZ
    exact absurd hZ (by simp)
theorem tail_tx : TX c n b 0 (opP (wdP c 23) (EX c 8)) (fun post u => (qAt u (gI u 9) ∧ ((¬ (vAt u (gI u 9)) = 44 → EndM post u) ∧ ((vAt u (gI u 9)) = 44 → P_M_sign (fun r17 u16 => ((r17 = 0 → post 0 u16) ∧ (¬ r17 = 0 → P_M_expression (fun r19 u18 => ((r19 = 0 → post 0 u18) ∧ (¬ r19 = 0 → EndM post u18))) (0 : Int32) u16))) (44 : Int32) u)))) := by
  intro post u a sh nm o h1 h2
  have t := o.1
  have h80 := t.1
  have han := o.2.1
  have e23 : wS 23 = [44] := by decide +kernel
  have c44 : (nI (c a) = 44) ↔ c a = 44 := nI_eq (b := 44) (by have := t.lt a; omega) (by decide)
  rw [o.2.2.1, t.v (by omega), c44]
  refine ⟨t.q (by omega), fun h44 => ?_, fun h44 => ?_⟩
  · have hf : opP (wdP c 23) (EX c 8) a = some [] := by
      unfold opP wdP
      rw [e23, if_neg (by simp [st, h44])]
    refine endM o (fun e => h1 [] u hf (by simpa using e) (KM.refl u) ?_) (fun e => h2 u (fun Z hZ => ?_) o.of)
    · show Os c n b u n (sh ++ []) (nm ++ [])
      rw [List.append_nil, List.append_nil]
      have o' := o
      rw [e] at o'
      exact o'
    · rw [hf] at hZ
      cases hZ
      simpa using e
  · have hw : wdP c 23 a = some (zn 1) := by
      unfold wdP
      rw [e23, if_pos (by simp [st, h44])]
      rfl
    have heq : sq (wdP c 23) (EX c 8) a = opP (wdP c 23) (EX c 8) a := by
      unfold sq opP
      rw [hw]
      all_goals (simp only)
      all_goals (cases EX c 8 (a + (zn 1).length) <;> rfl)
    have := TX.sq (sgn_tie (c := c) (n := n) (b := b) (i := 23) (x := 44) (by decide) (by decide) e23) (TX.last (expr_tieM (c := c) (n := n) (b := b) (m := 8) (d := 0) rfl)) post u a sh nm o (fun Z v hZ => h1 Z v (by rw [← heq]; exact hZ)) (fun v hZ => h2 v (fun Z hq => hZ Z (by rw [heq]; exact hq)))
    exact this
theorem do_rest : TX c n b 0 (sq (nmP c 4) (sq (wdP c 4) (sq (EX c 8) (sq (wdP c 23) (sq (EX c 8) (opP (wdP c 23) (EX c 8))))))) (fun post u => P_M_name (fun r7 u6 => ((r7 = 0 → post 0 u6) ∧ (¬ r7 = 0 → P_M_sign (fun r9 u8 => ((r9 = 0 → post 0 u8) ∧ (¬ r9 = 0 → P_M_expression (fun r11 u10 => ((r11 = 0 → post 0 u10) ∧ (¬ r11 = 0 → P_M_sign (fun r13 u12 => ((r13 = 0 → post 0 u12) ∧ (¬ r13 = 0 → P_M_expression (fun r15 u14 => ((r15 = 0 → post 0 u14) ∧ (¬ r15 = 0 → (qAt u14 (gI u14 9) ∧ ((¬ (vAt u14 (gI u14 9)) = 44 → P_M_isDo_111 post u14) ∧ ((vAt u14 (gI u14 9)) = 44 → P_M_sign (fun r17 u16 => ((r17 = 0 → post 0 u16) ∧ (¬ r17 = 0 → P_M_expression (fun r19 u18 => ((r19 = 0 → post 0 u18) ∧ (¬ r19 = 0 → P_M_isDo_111 post u18))) (0 : Int32) u16))) (44 : Int32) u14)))))) (0 : Int32) u12))) (44 : Int32) u10))) (0 : Int32) u8))) (61 : Int32) u6))) (4 : Int32) (0 : Int32) u) := TX.sq (name_tieM (how := 4) (ty := 0) (by decide) (by decide)) (TX.sq (sgn_tie (i := 4) (x := 61) (by decide) (by decide) (by decide +kernel)) (TX.sq (expr_tieM (m := 8) (d := 0) rfl) (TX.sq (sgn_tie (i := 23) (x := 44) (by decide) (by decide) (by decide +kernel)) (TX.sq (expr_tieM (m := 8) (d := 0) rfl) tail_tx))))
theorem do_sim : SimC c n b 1 (fun post u => P_M_isDo post u) := by
  intro post u a sh nm o h16 h1 h2
  have hz := o.1.2.2.2.2.2
  have e2 : (wS 3).length = 2 := by decide +kernel
  have hw : ∀ p, (st c p (wS 3) = true → wdP c 3 p = some (zn 2)) ∧ (¬ st c p (wS 3) = true → wdP c 3 p = none) := fun p => by
    unfold wdP
    exact ⟨fun h => by rw [if_pos h, e2], fun h => by rw [if_neg h]⟩
  unfold P_M_isDo
  refine word_of (L := wS 3) (by unfold wOk; decide +kernel) (by decide +kernel) o (fun hs v k ov => ⟨fun _ => ?_, fun e => absurd e (by decide)⟩) (fun hs => ⟨fun e => absurd rfl e, fun _ => h2 u (fun Z hZ => ?_) (KM.refl u).kr o.of.2.1 o.of.2.2⟩)
  · rw [e2] at ov
    refine digits_of (most := 5) (role := 6) (by decide) (by decide) (by decide) ov (fun D w hD kw ow => ?_) (fun w hD kw ow => ?_)
    · obtain ⟨m, f1, f2, f3, f4, f5, f6⟩ := dg_facts hD
      have ev : dgN c 5 (a + 2) - (a + 2) = m + 1 := by omega
      rw [ev]
      refine comma_of ow (fun C x hC kx ox => ⟨vp_in_nI (n := 0) (by decide) (by decide), fun h => absurd h (nI_pos (by omega)), fun _ => ?_⟩)
      have ox' := ox.aim (i := (0 : Int32).toNatClampNeg) (x := nI (vlN c (m + 1) (a + 2) 0)) (y := 1)
      have kr : KR u (sI (sA x 17 (0 : Int32).toNatClampNeg (nI (vlN c (m + 1) (a + 2) 0))) 16 (1 : Int32)) := KR.aim (k.tr (kw.tr kx)).kr
      have hft : ∀ R, sq (nmP c 4) (sq (wdP c 4) (sq (EX c 8) (sq (wdP c 23) (sq (EX c 8) (opP (wdP c 23) (EX c 8)))))) (a + 2 + D.length + C.length) = R → ftP c 1 a = match R with
        | none => none
        | some Y => some (zn 2 ++ (D ++ (C ++ Y))) := by
        intro R hR
        cases R with
        | none => exact sq_none ((hw a).1 hs) (sq_none (by rw [zn_len]; exact hD) (sq_none hC hR))
        | some Y => exact sq_some ((hw a).1 hs) (sq_some (by rw [zn_len]; exact hD) (sq_some hC hR))
      refine do_rest post _ _ _ _ ox' (fun Y y hY hn ky oy => ?_) (fun y hY hy => ?_)
      · have hf := hft _ hY
        simp only at hf
        refine h1 _ y hf (by simp only [List.length_append, zn_len]; omega) (kr.tr ky.kr) ?_ ?_
        · rw [if_neg (by decide)]
          simp only [shZ_app, nmsZ_app, nmsZ_zn, zn_len, List.nil_append]
          simp only [List.append_assoc, Nat.add_assoc] at oy ⊢
          exact oy
        · have hlast : ¬ dg (c (a + 2 + (m + 1))) = true := by
            unfold idP at hC
            by_cases h44 : c (a + 2 + D.length) = 44
            · rw [f2] at h44
              rw [h44]
              decide
            · rw [if_neg h44] at hC
              cases hC
              have hnm : nmP c 4 (a + 2 + D.length) ≠ none := by
                intro e
                have := hY
                rw [show a + 2 + D.length + ([] : List Tz).length = a + 2 + D.length from rfl, sq_none0 e] at this
                exact absurd this (by simp)
              have hl : lr (c (a + 2 + D.length)) = true := by
                by_cases hl : lr (c (a + 2 + D.length)) = true
                · exact hl
                · exact absurd (by unfold nmP; rw [if_neg hl]) hnm
              rw [f2] at hl
              intro hd
              have := lr_c hl
              have := dg_b hd
              omega
          have nsC : nsL C := ns_id c _ _ hC
          have nsY : nsL Y := (ns_sq (ns_nm c (by decide)) (ns_sq (ns_wd c _) (ns_sq (ns_EX c 8) (ns_sq (ns_wd c _) (ns_sq (ns_EX c 8) (ns_op (ns_wd c _) (ns_EX c 8))))))) _ _ hY
          rw [amZ_app, amZ_ns c _ _ (nsL.zn _), amZ_app, zn_len, amZ_ns c _ _ (nsC.app nsY), List.append_nil, f5, am_dz m (a + 2) f3 f4 hlast]
          refine ⟨(ky.1 16 rfl).trans rfl, fun j x hj => ?_⟩
          cases j with
          | zero =>
            cases hj
            rw [ky.2 17 rfl, gA_sI, gA_sA, if_pos ⟨rfl, rfl⟩]
          | succ j => exact absurd hj (by simp)
      · refine h2 y (fun Z hZ hn => ?_) (kr.tr hy.1.kr) ?_ ?_
        · cases hR : sq (nmP c 4) (sq (wdP c 4) (sq (EX c 8) (sq (wdP c 23) (sq (EX c 8) (opP (wdP c 23) (EX c 8)))))) (a + 2 + D.length + C.length) with
          | none =>
            rw [hft _ hR] at hZ
            exact absurd hZ (by simp)
          | some Y =>
            rw [hft _ hR] at hZ
            cases hZ
            simp only [List.length_append, zn_len] at hn
            exact hY Y hR (by omega)
        · have := hy.2.1
          simp only [List.append_assoc] at this
          exact fun j x hj => this j x (by rw [List.getElem?_append_left (List.getElem?_eq_some_iff.mp hj).1]; exact hj)
        · have := hy.2.2
          simp only [List.append_assoc] at this
          exact fun j x hj => this j x (by rw [List.getElem?_append_left (List.getElem?_eq_some_iff.mp hj).1]; exact hj)
    · refine comma_of ow (fun C x hC kx ox => ⟨vp_in_nI (n := 0) (by decide) (by decide), fun _ => ?_, fun h => absurd (by decide) h⟩)
      have hf : ftP c 1 a = none := sq_none ((hw a).1 hs) (sq_none0 (by rw [zn_len]; exact hD))
      have ox' := ox.aim (i := (0 : Int32).toNatClampNeg) (x := -1) (y := 1)
      refine h2 _ (fun Z hZ => by rw [hf] at hZ; exact absurd hZ (by simp)) (KR.aim (k.tr (kw.tr kx)).kr) ?_ ?_
      · have := ox'.of.2.1
        simp only [List.append_assoc] at this
        exact fun j x hj => this j x (by rw [List.getElem?_append_left (List.getElem?_eq_some_iff.mp hj).1]; exact hj)
      · have := ox'.of.2.2
        exact fun j x hj => this j x (by rw [List.getElem?_append_left (List.getElem?_eq_some_iff.mp hj).1]; exact hj)
  · rw [show ftP c 1 a = none from sq_none0 ((hw a).2 hs)] at hZ
    exact absurd hZ (by simp)
end MSN
