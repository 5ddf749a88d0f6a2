/-! roles, and what the class tells of a row -/
def rbL (Z : List Tz) : Prop := ∀ t ∈ Z, t.2.1 ≤ 6
def RB (F : Ps) : Prop := ∀ a Z, F a = some Z → rbL Z
theorem rbL.app {X Y : List Tz} (h1 : rbL X) (h2 : rbL Y) : rbL (X ++ Y) := fun t ht => by
  rcases List.mem_append.mp ht with q | q
  · exact h1 t q
  · exact h2 t q
theorem rbL.zn (m : Nat) : rbL (zn m) := fun t ht => by
  have := List.eq_of_mem_replicate ht
  rw [this]
  decide
theorem rbL.nil : rbL [] := fun t ht => absurd ht (by simp)
theorem rbL.cons {t : Tz} {Z : List Tz} (h : t.2.1 ≤ 6) (h2 : rbL Z) : rbL (t :: Z) := fun s hs => by
  rcases List.mem_cons.mp hs with q | q
  · rw [q]; exact h
  · exact h2 s q
theorem rbL.wo {Z : List Tz} (h : rbL Z) : rbL (wo Z) := by
  cases Z with
  | nil => exact h
  | cons t Z => exact rbL.cons (h t List.mem_cons_self) (fun s hs => h s (List.mem_cons_of_mem _ hs))
theorem rbL.wc (j : Nat) : ∀ {Z : List Tz}, rbL Z → rbL (wc j Z)
  | [], h => h
  | [(o, r, k)], h => rbL.cons (h (o, r, k) List.mem_cons_self) rbL.nil
  | t :: t' :: Z, h => by
    rw [wc_cons j t (by simp)]
    exact rbL.cons (h t List.mem_cons_self) (rbL.wc j (fun s hs => h s (List.mem_cons_of_mem _ hs)))
theorem rb_wd (c : Nat → Nat) (i : Nat) : RB (wdP c i) := fun a Z h => by
  unfold wdP at h
  split at h
  · cases h; exact rbL.zn _
  · exact absurd h (by simp)
theorem rb_or {F G : Ps} (h1 : RB F) (h2 : RB G) : RB (orP F G) := fun a Z h => by
  unfold orP at h
  split at h
  · rename_i hF
    cases h
    exact h1 a _ hF
  · exact h2 a Z h
theorem rb_sq {F G : Ps} (h1 : RB F) (h2 : RB G) : RB (sq F G) := fun a Z h => by
  unfold sq at h
  split at h
  · exact absurd h (by simp)
  · rename_i X hX
    split at h
    · exact absurd h (by simp)
    · rename_i Y hY
      cases h
      exact (h1 _ _ hX).app (h2 _ _ hY)
theorem rb_id (c : Nat → Nat) : RB (idP c) := fun a Z h => by
  unfold idP at h
  split at h
  · cases h; exact rbL.cons (by decide) rbL.nil
  · cases h; exact rbL.nil
theorem rb_nm (c : Nat → Nat) {role : Nat} (hr : role ≤ 6) : RB (nmP c role) := fun a Z h => by
  unfold nmP at h
  split at h
  · cases h; exact rbL.cons hr (rbL.zn _)
  · exact absurd h (by simp)
theorem rb_dz (c : Nat → Nat) {role : Nat} (hr : role ≤ 6) : ∀ m a, rbL (dz c role m a) := by
  intro m
  induction m with
  | zero => intro a; exact rbL.nil
  | succ m ih =>
    intro a
    cases m with
    | zero => exact rbL.cons hr rbL.nil
    | succ m =>
      unfold dz
      split
      · exact rbL.cons (by decide) (ih _)
      · exact rbL.cons hr (rbL.zn _)
theorem rb_dg (c : Nat → Nat) {most role : Nat} (hr : role ≤ 6) : RB (dgP c most role) := fun a Z h => by
  unfold dgP at h
  split at h
  · exact absurd h (by simp)
  · cases h; exact rb_dz c hr _ _
theorem rb_srR {c : Nat → Nat} {p : Ps} (hp : RB p) (a : Nat) : ∀ (f : Nat) (acc Z : List Tz), rbL acc → srR c p a f acc = some Z → rbL Z := by
  intro f
  induction f with
  | zero => intro acc Z h h1; cases h1; exact h
  | succ f ih =>
    intro acc Z h h1
    unfold srR at h1
    split at h1
    · split at h1
      · exact absurd h1 (by simp)
      · rename_i Y hY
        exact ih _ _ (h.app ((rbL.zn _).app (hp _ _ hY))) h1
    · cases h1; exact h
theorem rb_sr {c : Nat → Nat} {p : Ps} (hp : RB p) : RB (srP c p) := fun a Z h => by
  unfold srP at h
  split at h
  · exact absurd h (by simp)
  · rename_i Y hY
    exact rb_srR hp a _ _ _ (hp _ _ hY) h
theorem rb_chR {s N : Ps} (hs : RB s) (hN : RB N) (a : Nat) : ∀ (f : Nat) (acc Z : List Tz), rbL acc → chR s N a f acc = some Z → rbL Z := by
  intro f
  induction f with
  | zero => intro acc Z h h1; cases h1; exact h
  | succ f ih =>
    intro acc Z h h1
    unfold chR at h1
    split at h1
    · cases h1; exact h
    · rename_i Y hY
      split at h1
      · exact absurd h1 (by simp)
      · rename_i X hX
        exact ih _ _ ((h.app ((hs _ _ hY).app (hN _ _ hX))).wo.wc 1) h1
theorem rb_sg (c : Nat → Nat) (lv : Nat) : RB (sgP c lv) := by
  unfold sgP
  split
  · exact rb_wd c _
  · split
    · exact rb_wd c _
    · split
      · exact rb_or (rb_wd c _) (rb_or (rb_wd c _) (rb_or (rb_wd c _) (rb_or (rb_wd c _) (rb_or (rb_wd c _) (rb_wd c _)))))
      · split
        · exact rb_or (rb_wd c _) (rb_wd c _)
        · split
          · exact rb_or (rb_wd c _) (rb_wd c _)
          · intro a Z h
            exact absurd h (by simp)
theorem rb_nt (c : Nat → Nat) : ∀ f a, rbL (nt c f a) := by
  intro f
  induction f with
  | zero => intro a; exact rbL.nil
  | succ f ih =>
    intro a
    unfold nt
    split
    · exact rbL.cons (by decide) ((rbL.zn _).app (ih _))
    · exact rbL.nil
theorem rb_pf (c : Nat → Nat) (lv a : Nat) : rbL (pfP c lv a) := by
  unfold pfP
  split
  · split
    · exact rbL.cons (by decide) rbL.nil
    · exact rbL.nil
  · split
    · exact rb_nt c _ _
    · exact rbL.nil
theorem rb_lv {c : Nat → Nat} {N : Ps} (hN : RB N) (lv : Nat) : RB (lvP c N lv) := fun a Z h => by
  unfold lvP at h
  split at h
  · exact absurd h (by simp)
  · rename_i X hX
    exact rb_chR (rb_sg c lv) hN a _ _ _ (((rb_pf c lv a).app (hN _ _ hX)).wc _) h
theorem rb_pwR {c : Nat → Nat} {N : Ps} (hN : RB N) : ∀ (f a : Nat) (Z R : List Tz), rbL Z → pwR c N f a Z = some R → rbL R := by
  intro f
  induction f with
  | zero => intro a Z R h h1; cases h1; exact h
  | succ f ih =>
    intro a Z R h h1
    unfold pwR at h1
    split at h1
    · split at h1
      · exact absurd h1 (by simp)
      · rename_i Y hY
        split at h1
        · exact absurd h1 (by simp)
        · rename_i X hX
          cases h1
          exact (((h.app (rbL.zn _)).wo).app (ih _ _ _ (hN _ _ hY) hX)).wc 1
    · cases h1; exact h
theorem rb_pw {c : Nat → Nat} {N : Ps} (hN : RB N) : RB (pwP c N) := fun a Z h => by
  unfold pwP at h
  split at h
  · exact absurd h (by simp)
  · rename_i X hX
    exact rb_pwR hN _ _ _ _ (hN _ _ hX) h
theorem rb_nmZ (c : Nat → Nat) {role a : Nat} (hr : role ≤ 6) : rbL (nmZ c role a) := rbL.cons hr (rbL.zn _)
theorem rb_ls {c : Nat → Nat} {E : Ps} (hE : RB E) : RB (lsP c E) := rb_sq (rb_wd c _) (rb_sq (rb_sr hE) (rb_wd c _))
theorem rb_rf {c : Nat → Nat} {I : Option Ps} (hI : ∀ E, I = some E → RB E) (ph : Bool) : RB (rfP c I ph) := fun a Z h => by
  unfold rfP at h
  split at h
  · split at h
    · split at h
      · exact absurd h (by simp)
      · split at h
        · cases h; exact (rb_nmZ c (by decide)).app (rbL.zn _)
        · split at h
          · exact absurd h (by simp)
          · rename_i Y hY
            cases h
            exact (rb_nmZ c (by decide)).app (rb_ls (hI _ rfl) _ _ hY)
    · cases h; exact rb_nmZ c (by decide)
  · exact absurd h (by simp)
theorem rb_pr {c : Nat → Nat} {I : Option Ps} (hI : ∀ E, I = some E → RB E) : RB (prP c I) := fun a Z h => by
  unfold prP at h
  split at h
  · cases h; exact rbL.zn _
  · refine rb_or (rb_wd c _) (rb_or (rb_wd c _) (rb_or ?_ ?_)) a Z h
    · intro a Z h
      unfold qtP at h
      split at h
      · split at h
        · cases h; exact rbL.zn _
        · exact absurd h (by simp)
      · exact absurd h (by simp)
    · intro a Z h
      simp only at h
      split at h
      · unfold grP at h
        split at h
        · exact absurd h (by simp)
        · split at h
          · exact absurd h (by simp)
          · rename_i X hX
            split at h
            · cases h
              exact rbL.cons (by decide) ((hI _ rfl _ _ hX).app (rbL.cons (by decide) rbL.nil))
            · exact absurd h (by simp)
      · exact rb_rf hI true a Z h
theorem rb_EL (c : Nat → Nat) {I : Option Ps} (hI : ∀ E, I = some E → RB E) : ∀ k, RB (ELv c I k) := by
  intro k
  induction k with
  | zero => exact rb_pw (rb_pr hI)
  | succ k ih => exact rb_lv ih _
theorem rb_EX (c : Nat → Nat) : ∀ m, RB (EX c m) := by
  intro m
  induction m with
  | zero => exact rb_EL c (fun E h => absurd h (by simp)) 6
  | succ m ih => exact rb_EL c (fun E h => by cases h; exact ih) 6
theorem rb_op {F G : Ps} (h1 : RB F) (h2 : RB G) : RB (opP F G) := fun a Z h => by
  unfold opP at h
  split at h
  · cases h; exact rbL.nil
  · rename_i X hX
    split at h
    · exact absurd h (by simp)
    · rename_i Y hY
      cases h
      exact (h1 _ _ hX).app (h2 _ _ hY)
theorem rb_cl (c : Nat → Nat) : RB (clP c) := fun a Z h => by
  unfold clP at h
  split at h
  · exact rb_ls (rb_EX c 7) a Z h
  · cases h; exact rbL.nil
theorem rb_ft (c : Nat → Nat) (k : Nat) : RB (ftP c k) := by
  unfold ftP
  split
  · exact rb_sq (rb_wd c _) (rb_sq (rb_dg c (by decide)) (rb_sq (rb_id c) (rb_sq (rb_nm c (by decide)) (rb_sq (rb_wd c _) (rb_sq (rb_EX c 8) (rb_sq (rb_wd c _) (rb_sq (rb_EX c 8) (rb_op (rb_wd c _) (rb_EX c 8)))))))))
  · exact rb_sq (rb_rf (fun E h => by cases h; exact rb_EX c 7) false) (rb_sq (rb_wd c _) (rb_EX c 8))
  · exact rb_sq (rb_wd c _) (rb_sq (rb_EX c 7) (rb_wd c _))
  · exact rb_sq (rb_wd c _) (rb_sq (rb_EX c 7) (rb_wd c _))
  · exact rb_wd c _
  · exact rb_wd c _
  · exact rb_wd c _
  · exact rb_sq (rb_wd c _) (rb_dg c (by decide))
  · exact rb_sq (rb_wd c _) (rb_sq (rb_nm c (by decide)) (rb_cl c))
  · exact rb_wd c _
  · exact rb_wd c _
  · exact rb_sq (rb_wd c _) (rb_sr (rb_EX c 8))
  · exact rb_wd c _
  · exact rb_sq (rb_or (rb_wd c _) (rb_or (rb_wd c _) (rb_wd c _))) (rb_sr (rb_nm c (by decide)))
  · exact rb_sq (rb_wd c _) (rb_sr (rb_sq (rb_nm c (by decide)) (rb_sq (rb_wd c _) (rb_sq (rb_dg c (by decide)) (rb_wd c _)))))
  · exact rb_sq (rb_wd c _) (rb_sq (rb_sr (rb_dg c (by decide))) (rb_sq (rb_wd c _) (rb_sq (rb_id c) (rb_EX c 8))))
  · intro a Z h
    exact absurd h (by simp)
theorem RC_rb (c : Nat → Nat) (n : Nat) : rbL (RC c n).2 := by
  unfold RC
  cases hF : FT c n 0 with
  | some q => exact rb_ft c _ 0 _ (ftF_k _ _ _ _ hF).2.2.1
  | none =>
    simp only
    cases hI : ifP c n with
    | none => exact rbL.zn _
    | some Z =>
      simp only
      unfold ifP at hI
      split at hI
      · exact absurd hI (by simp)
      · rename_i X hX
        split at hI
        · exact absurd hI (by simp)
        · rename_i q hq
          split at hI
          · cases hI
            exact (rb_sq (rb_wd c 39) (rb_sq (rb_EX c 7) (rb_wd c 24)) _ _ hX).app (rb_ft c _ _ _ (ftF_k _ _ _ _ hq).2.2.1)
          · exact absurd hI (by simp)
theorem sl_mem : ∀ (Z : List Tz) (j : Nat) (t : Tz), Z[j]? = some t → t.1 ≤ sl Z ∧ t.2.2 ≤ sl Z := by
  intro Z
  induction Z with
  | nil => intro j t h; exact absurd h (by simp)
  | cons s Z ih =>
    intro j t h
    cases j with
    | zero =>
      cases h
      simp only [sl]
      omega
    | succ j =>
      have := ih j t h
      simp only [sl]
      omega
def sgv (L : List Nat) (x : Nat) : Int32 := match L[x]? with
  | some y => nI y
  | none => -1
section CQ
variable {c : Nat → Nat} {n : Nat} {u : MS}
theorem sgv_l {X Y : List Nat} {k : Nat} (h : k < X.length) : sgv (X ++ Y) k = sgv X k := by unfold sgv; rw [List.getElem?_append_left h]
theorem sgv_r {X Y : List Nat} {k : Nat} (h : X.length ≤ k) : sgv (X ++ Y) k = sgv Y (k - X.length) := by unfold sgv; rw [List.getElem?_append_right h]
theorem sgv_rep {m x k : Nat} (h : k < m) : sgv (List.replicate m x) k = nI x := by
  unfold sgv
  rw [List.getElem?_replicate, if_pos h]
theorem ss_loop {post : Int32 → MS → Prop} {q : Nat × List Tz} (t : Tx c n u) (hz : Rz n u q) (hsl : sl q.2 ≤ 1000) (hrb : rbL q.2) : ∀ (m i L : Nat), i + m = n → L < 2 ^ 31 → post (sgv (shZ c i (q.2.drop i)) L) u → P_T_signShown_4 post (m + 1) (nI L) (nI i) u := by
  have h80 := t.1
  intro m
  induction m with
  | zero =>
    intro i L hi hL h
    refine ⟨fun _ => ?_, fun h0 => absurd (by rw [t.2.1]; exact nI_le (by omega) (by omega)) h0⟩
    rw [List.drop_eq_nil_of_le (by rw [hz.2.1]; omega)] at h
    exact h
  | succ m ih =>
    intro i L hi hL h
    have hlt : i < q.2.length := by rw [hz.2.1]; omega
    rw [List.drop_eq_getElem_cons hlt] at h
    have hg : q.2[i]? = some q.2[i] := List.getElem?_eq_getElem hlt
    have hr := hz.2.2 i _ hg
    have hs := sl_mem q.2 i _ hg
    have hrole := hrb _ (List.getElem_mem hlt)
    generalize q.2[i] = tt at h hr hs hrole
    have e : shZ c i (tt :: List.drop (i + 1) q.2) = List.replicate tt.1 40 ++ ((if tt.2.1 = 5 then [] else [c i]) ++ (List.replicate tt.2.2 41 ++ shZ c (i + 1) (List.drop (i + 1) q.2))) := rfl
    rw [e] at h
    refine ⟨fun h0 => absurd h0 (by rw [t.2.1]; exact nI_ge (by omega) (by omega)), fun _ => ⟨fun h0 => absurd h0 (nI_pos hL), fun _ => ?_⟩⟩
    rw [nI_clamp (by omega), hr.1]
    have fin62 : ∀ (L2 : Nat), L2 < 2 ^ 31 → post (sgv (List.replicate tt.2.2 41 ++ shZ c (i + 1) (List.drop (i + 1) q.2)) L2) u → P_T_signShown_62 post (fun zx2 zx3 zu => P_T_signShown_4 post (m + 1) zx2 zx3 zu) (nI L2) (nI i) u := by
      intro L2 hL2 h2
      unfold P_T_signShown_62
      rw [nI_clamp (by omega), hr.2.2, nI_leI (by omega) hL2]
      refine ⟨t.vp (by omega), fun h3 => ⟨t.vp (by omega), fun v2 e2 => ?_⟩, fun h3 => ?_⟩
      · rw [pk_sub h3] at e2
        subst e2
        rw [nI_1]
        rw [sgv_r (by rw [List.length_replicate]; exact h3), List.length_replicate] at h2
        exact ih (i + 1) (L2 - tt.2.2) (by omega) (by omega) h2
      · rw [sgv_l (by rw [List.length_replicate]; omega), sgv_rep (by omega)] at h2
        exact h2
    rw [nI_leI (by omega) hL]
    refine ⟨t.vp (by omega), fun h1 => ⟨t.vp (by omega), fun v1 e1 => ⟨t.vp (by omega), ?_⟩⟩, fun h1 => ?_⟩
    · rw [pk_sub h1] at e1
      subst e1
      rw [sgv_r (by rw [List.length_replicate]; exact h1), List.length_replicate] at h
      rw [hr.2.1]
      by_cases h5 : tt.2.1 = 5
      · rw [if_pos h5] at h
        refine ⟨fun _ => fin62 (L - tt.1) (by omega) h, fun e5 => absurd (by rw [h5]; rfl) e5⟩
      · rw [if_neg h5] at h
        refine ⟨fun e5 => ?_, fun _ => ⟨fun h0 => ?_, fun h0 => ⟨t.vp (by omega), ?_⟩⟩⟩
        · exact absurd ((nI_eq (b := 5) (by omega) (by decide)).mp e5) h5
        · have hpos : 0 < L - tt.1 := by
            by_cases e0 : L - tt.1 = 0
            · rw [e0] at h0; exact absurd rfl h0
            · omega
          rw [show L - tt.1 = (L - tt.1 - 1) + 1 by omega, nI_m1]
          rw [sgv_r (by simp; omega)] at h
          exact fin62 (L - tt.1 - 1) (by omega) h
        · have e0 : L - tt.1 = 0 := (nI_eq (b := 0) (by omega) (by decide)).mp h0
          rw [e0, sgv_l (by simp)] at h
          rw [(t.2.2.1 i (by omega)).1]
          exact h
    · rw [sgv_l (by rw [List.length_replicate]; omega), sgv_rep (by omega)] at h
      exact h
theorem shown_of {post : Int32 → MS → Prop} {q : Nat × List Tz} (t : Tx c n u) (hz : Rz n u q) (hsl : sl q.2 ≤ 1000) (hrb : rbL q.2) {x : Int32} (h1 : x < 0 → post (-1) u) (h2 : ∀ k, x = nI k → k < 2 ^ 31 → post (sgv (shZ c 0 q.2) k) u) : P_T_signShown post x u := by
  by_cases hx : x < 0
  · exact ⟨1, fun _ => h1 hx, fun _ => ⟨fun _ => h1 hx, fun h => absurd hx h⟩⟩
  · obtain ⟨k, hk, e⟩ := nI_of hx
    subst e
    exact ⟨n + 1, ss_loop t hz hsl hrb n 0 k (by omega) hk (h2 k rfl hk)⟩
theorem na_loop {post : Int64 → MS → Prop} {i : Nat} (t : Tx c n u) (hi : i ≤ n) : ∀ (f m x : Nat), m + f = 6 → x < 2 ^ (8 * m) → i + m ≤ n → post (lN (pkC c (alN c f (i + m) - (i + m)) (i + m) x)) u → P_T_nameAt_5 post (f + 1) (nI i) (lN x) (nI (i + m)) u := by
  have h80 := t.1
  have e6 : nI i + 6 = nI (i + 6) := nI_add i 6
  intro f
  induction f with
  | zero =>
    intro m x hm hx hn h
    refine ⟨fun _ => ?_, fun h0 => absurd (by rw [e6]; exact nI_le (by omega) (by omega)) h0⟩
    have e : alN c 0 (i + m) = i + m := rfl
    rw [e, Nat.sub_self] at h
    exact h
  | succ f ih =>
    intro m x hm hx hn h
    refine ⟨fun h0 => absurd h0 (by rw [e6]; exact nI_ge (by omega) (by omega)), fun _ => ?_⟩
    rw [t.2.1, nI_leI (by omega) (by omega)]
    unfold alN at h
    refine ⟨fun h0 => ?_, fun h0 => ⟨t.vp (by omega), ?_⟩⟩
    · rw [t.2.2.2 _ h0, if_neg (by decide), Nat.sub_self] at h
      exact h
    · have go : (lr (c (i + m)) || dg (c (i + m))) = true → P_T_nameAt_52 post (fun zx1 zx2 zx4 zu => P_T_nameAt_5 post (f + 1) zx1 zx2 zx4 zu) (nI i) (lN x) (nI (i + m)) u := by
        intro hg
        rw [if_pos hg] at h
        refine ⟨t.vp (by omega), fun v1 e1 => ?_⟩
        rw [t.at (by omega)] at e1
        obtain ⟨s1, s2⟩ := nm_step (m := m) hx (by omega) (t.lt (i + m))
        rw [s1] at e1
        subst e1
        rw [nI_1]
        refine ih (m + 1) _ (by omega) s2 (by omega) ?_
        have hle := alN_le (c := c) f (i + m + 1)
        rw [show alN c f (i + m + 1) - (i + m) = (alN c f (i + (m + 1)) - (i + (m + 1))) + 1 by rw [show i + (m + 1) = i + m + 1 by omega]; omega] at h
        exact h
      rw [t.at (by omega), isLet_0 _ (t.lt _), Classical.not_not, isDig_0 _ (t.lt _), Classical.not_not]
      refine ⟨fun h2 => go (by rw [h2]; rfl), fun h2 => ⟨t.vp (by omega), fun h3 => go (by rw [h3, Bool.or_true]), fun h3 => ?_⟩⟩
      rw [if_neg (by simp [h2, h3]), Nat.sub_self] at h
      exact h
theorem nameAt_of {post : Int64 → MS → Prop} {i : Nat} (t : Tx c n u) (hi : i ≤ n) (h : post (lN (pkN c i)) u) : P_T_nameAt post (nI i) u := ⟨7, na_loop t hi 6 0 0 (by omega) (by decide) hi h⟩
theorem pkC_lt (hc : ∀ i, c i < 256) : ∀ (m a x k : Nat), x < 2 ^ (8 * k) → pkC c m a x < 2 ^ (8 * (k + m)) := by
  intro m
  induction m with
  | zero => intro a x k h; exact h
  | succ m ih =>
    intro a x k h
    have h1 := hc a
    have := ih (a + 1) (x * 256 + c a) (k + 1) (by
      rw [show 8 * (k + 1) = 8 * k + 8 by omega, Nat.pow_add]
      omega)
    rw [show k + 1 + m = k + (m + 1) by omega] at this
    exact this
theorem pkN_lt (hc : ∀ i, c i < 256) (a : Nat) : pkN c a < 2 ^ 48 := by
  have h1 := pkC_lt hc (alN c 6 a - a) a 0 0 (by decide)
  have h2 := alN_6 (c := c) 6 a
  have h3 : 2 ^ (8 * (0 + (alN c 6 a - a))) ≤ 2 ^ 48 := Nat.pow_le_pow_right (by decide) (by omega)
  show pkC c (alN c 6 a - a) a 0 < 2 ^ 48
  omega
/-- the smallest kind that a name has -/
def kst (c : Nat → Nat) (X k : Nat) (q : Nx) : Nat := if pkN c q.1 = X ∧ (k = 0 ∨ q.2.1 < k) then q.2.1 else k
theorem kh_loop {post : Int32 → MS → Prop} {q : Nat × List Tz} {X ty : Nat} (t : Tx c n u) (hz : Rz n u q) (hrb : rbL q.2) (hX : X < 2 ^ 48) : ∀ (m i k : Nat), i + m = n → k ≤ 6 → post (nI ((nmsZ ty i (q.2.drop i)).foldl (kst c X) k)) u → P_T_kindHere_5 post (m + 1) (lN X) (nI k) (nI i) u := by
  have h80 := t.1
  have h48 : (2 : Nat) ^ 48 < 2 ^ 62 := by decide
  intro m
  induction m with
  | zero =>
    intro i k hi hk h
    refine ⟨fun _ => ?_, fun h0 => absurd (by rw [t.2.1]; exact nI_le (by omega) (by omega)) h0⟩
    rw [List.drop_eq_nil_of_le (by rw [hz.2.1]; omega)] at h
    exact h
  | succ m ih =>
    intro i k hi hk h
    have hlt : i < q.2.length := by rw [hz.2.1]; omega
    rw [List.drop_eq_getElem_cons hlt] at h
    have hg : q.2[i]? = some q.2[i] := List.getElem?_eq_getElem hlt
    have hr := hz.2.2 i _ hg
    have hrole := hrb _ (List.getElem_mem hlt)
    generalize q.2[i] = tt at h hr hrole
    have e : nmsZ ty i (tt :: List.drop (i + 1) q.2) = (if 1 ≤ tt.2.1 ∧ tt.2.1 ≤ 4 then [(i, tt.2.1, ty)] else []) ++ nmsZ ty (i + 1) (List.drop (i + 1) q.2) := rfl
    rw [e, List.foldl_append] at h
    refine ⟨fun h0 => absurd h0 (by rw [t.2.1]; exact nI_ge (by omega) (by omega)), fun _ => ⟨t.vp (by omega), ?_⟩⟩
    rw [nI_clamp (by omega), hr.2.1]
    have l1 : (nI tt.2.1 < (1 : Int32)) ↔ tt.2.1 < 1 := nI_ltI (b := 1) (by omega) (by decide)
    have l4 : ((4 : Int32) < nI tt.2.1) ↔ 4 < tt.2.1 := nI_ltI (a := 4) (by decide) (by omega)
    rw [l1, l4]
    have skip : ∀ k2, k2 ≤ 6 → post (nI (List.foldl (kst c X) k2 (nmsZ ty (i + 1) (List.drop (i + 1) q.2)))) u → P_T_kindHere_82 post (fun zx1 zx3 zx4 zu => P_T_kindHere_5 post (m + 1) zx1 zx3 zx4 zu) (lN X) (nI k2) (nI i) u := by
      intro k2 hk2 h2
      unfold P_T_kindHere_82
      rw [nI_1]
      exact ih (i + 1) k2 (by omega) hk2 h2
    have no : ¬ (1 ≤ tt.2.1 ∧ tt.2.1 ≤ 4) → P_T_kindHere_40 post (fun zx1 zx3 zx4 zu => P_T_kindHere_5 post (m + 1) zx1 zx3 zx4 zu) (lN X) (nI k) (nI i) u := by
      intro hn
      rw [if_neg hn] at h
      exact ⟨fun _ => skip k hk h, fun e => absurd rfl e⟩
    refine ⟨fun h1 => no (by omega), fun h1 => ⟨t.vp (by omega), fun h4 => no (by omega), fun h4 => ⟨fun e => absurd e (by decide), fun _ => ?_⟩⟩⟩
    rw [if_pos ⟨by omega, by omega⟩] at h
    have h' : post (nI (List.foldl (kst c X) (kst c X k (i, tt.2.1, ty)) (nmsZ ty (i + 1) (List.drop (i + 1) q.2)))) u := h
    unfold kst at h'
    simp only at h'
    have k63 : (k = 0 ∨ tt.2.1 < k) → P_T_kindHere_63 post (fun zx1 zx3 zx4 zu => P_T_kindHere_5 post (m + 1) zx1 zx3 zx4 zu) (lN X) (nI k) (nI i) u := by
      intro hq
      refine nameAt_of t (by omega) ?_
      rw [lgc0 (by have := pkN_lt t.lt i; omega) (by omega)]
      refine ⟨fun hx => ?_, fun hx => ⟨t.vp (by omega), fun v3 e3 => ?_⟩⟩
      · rw [if_neg (fun q => hx q.1)] at h'
        exact skip k hk h'
      · rw [nI_clamp (by omega), hr.2.1] at e3
        subst e3
        rw [if_pos ⟨hx, hq⟩] at h'
        exact skip _ hrole h'
    have k0 : (nI k = 0) ↔ k = 0 := nI_eq (b := 0) (by omega) (by decide)
    rw [k0, nI_clamp (by omega), hr.2.1, nI_leI (by omega) (by omega)]
    refine ⟨fun h0 => k63 (Or.inl h0), fun h0 => ⟨t.vp (by omega), fun h2 => ?_, fun h2 => k63 (Or.inr (by omega))⟩⟩
    rw [if_neg (fun q => by omega)] at h'
    exact skip k hk h'
theorem kindHere_of {post : Int32 → MS → Prop} {q : Nat × List Tz} {X ty : Nat} (t : Tx c n u) (hz : Rz n u q) (hrb : rbL q.2) (hX : X < 2 ^ 48) (h : post (nI ((nmsZ ty 0 q.2).foldl (kst c X) 0)) u) : P_T_kindHere post (lN X) u := ⟨n + 1, kh_loop (ty := ty) t hz hrb hX n 0 0 (by omega) (by omega) h⟩
theorem nu_loop {post : Int32 → MS → Prop} {i : Nat} (t : Tx c n u) : ∀ (f m x : Nat), m + f = 5 → i + m ≤ n → post (nI (vlN c (dgN c f (i + m) - (i + m)) (i + m) x)) u → P_T_numberAt_4 post (f + 1) (nI i) (nI x) (nI (i + m)) u := by
  have h80 := t.1
  intro f
  induction f with
  | zero =>
    intro m x hm hn h
    refine ⟨fun _ => ?_, fun h0 => absurd (by rw [nI_5]; exact nI_le (by omega) (by omega)) h0⟩
    have e : dgN c 0 (i + m) = i + m := rfl
    rw [e, Nat.sub_self] at h
    exact h
  | succ f ih =>
    intro m x hm hn h
    refine ⟨fun h0 => absurd h0 (by rw [nI_5]; exact nI_ge (by omega) (by omega)), fun _ => ?_⟩
    rw [t.2.1, nI_leI (by omega) (by omega)]
    unfold dgN at h
    refine ⟨fun h0 => ?_, fun h0 => ⟨t.vp (by omega), ?_⟩⟩
    · rw [t.2.2.2 _ h0, if_neg (by decide), Nat.sub_self] at h
      exact h
    · rw [t.at (by omega), isDig_0 _ (t.lt _), Classical.not_not]
      refine ⟨fun h2 => ?_, fun h2 => ⟨t.vp (by omega), fun v1 e1 => ?_⟩⟩
      · rw [if_neg h2, Nat.sub_self] at h
        exact h
      · rw [if_pos h2] at h
        have hb := dg_b h2
        have e3 : v1 = nI (10 * x + (c (i + m) - 48)) := by
          rw [e1, show (10 : Int32) = nI 10 from rfl, show (48 : Int32) = nI 48 from rfl, pk_mul, nI_add, pk_sub (by omega)]
          congr 1
          omega
        subst e3
        rw [nI_1]
        refine ih (m + 1) _ (by omega) (by omega) ?_
        have hle := dgN_le (c := c) f (i + m + 1)
        rw [show dgN c f (i + m + 1) - (i + m) = (dgN c f (i + (m + 1)) - (i + (m + 1))) + 1 by rw [show i + (m + 1) = i + m + 1 by omega]; omega] at h
        exact h
theorem numberAt_of {post : Int32 → MS → Prop} {i : Nat} (t : Tx c n u) (hi : i ≤ n) (h : post (nI (nv c i)) u) : P_T_numberAt post (nI i) u := ⟨6, nu_loop t 5 0 0 (by omega) hi h⟩
theorem ln_loop {post : Int32 → MS → Prop} {q : Nat × List Tz} (t : Tx c n u) (hz : Rz n u q) (hrb : rbL q.2) : ∀ (m i : Nat), i + m = n → post (nI ((amZ c i (q.2.drop i)).headD 0)) u → P_S_loopNumber_2 post (m + 1) (nI i) u := by
  have h80 := t.1
  intro m
  induction m with
  | zero =>
    intro i hi h
    refine ⟨fun _ => ?_, fun h0 => absurd (by rw [t.2.1]; exact nI_le (by omega) (by omega)) h0⟩
    rw [List.drop_eq_nil_of_le (by rw [hz.2.1]; omega)] at h
    exact h
  | succ m ih =>
    intro i hi h
    have hlt : i < q.2.length := by rw [hz.2.1]; omega
    rw [List.drop_eq_getElem_cons hlt] at h
    have hg : q.2[i]? = some q.2[i] := List.getElem?_eq_getElem hlt
    have hr := hz.2.2 i _ hg
    have hrole := hrb _ (List.getElem_mem hlt)
    generalize q.2[i] = tt at h hr hrole
    have e : amZ c i (tt :: List.drop (i + 1) q.2) = (if tt.2.1 = 6 then [nv c i] else []) ++ amZ c (i + 1) (List.drop (i + 1) q.2) := rfl
    rw [e] at h
    refine ⟨fun h0 => absurd h0 (by rw [t.2.1]; exact nI_ge (by omega) (by omega)), fun _ => ⟨t.vp (by omega), ?_⟩⟩
    rw [nI_clamp (by omega), hr.2.1, show (nI tt.2.1 = 6) ↔ tt.2.1 = 6 from nI_eq (b := 6) (by omega) (by decide)]
    refine ⟨fun h6 => ?_, fun h6 => ?_⟩
    · rw [if_neg h6] at h
      rw [nI_1]
      exact ih (i + 1) (by omega) h
    · rw [if_pos h6] at h
      exact numberAt_of t (by omega) h
theorem loopNumber_of {post : Int32 → MS → Prop} {q : Nat × List Tz} (t : Tx c n u) (hz : Rz n u q) (hrb : rbL q.2) (h : post (nI ((amZ c 0 q.2).headD 0)) u) : P_S_loopNumber post u := ⟨n + 1, ln_loop t hz hrb n 0 (by omega) h⟩
theorem RC_15 (h : (RC c n).1 = 15) : ∃ Z, ftP c 15 0 = some Z ∧ RC c n = (15, Z) := by
  cases hF : FT c n 0 with
  | some q =>
    have e : RC c n = q := by unfold RC; rw [hF]
    rw [e] at h
    obtain ⟨k, Z⟩ := q
    simp only at h
    subst h
    exact ⟨Z, (ftF_k _ _ _ _ hF).2.2.1, e⟩
  | none =>
    have e : (RC c n).1 = 4 ∨ (RC c n).1 = 0 := by
      unfold RC
      rw [hF]
      simp only
      cases ifP c n with
      | none => exact Or.inr rfl
      | some Z => exact Or.inl rfl
    omega
theorem tyK_15 (h : (RC c n).1 = 15) : (c 0 = 73 ∧ tyK c 0 = 1) ∨ (c 0 = 82 ∧ tyK c 0 = 2) ∨ (c 0 = 76 ∧ tyK c 0 = 3) := by
  obtain ⟨Z, hZ, _⟩ := RC_15 h
  unfold tyK
  by_cases h1 : st c 0 (wS 51) = true
  · rw [if_pos h1]
    exact Or.inl ⟨st1 (w := [78, 84, 69, 71, 69, 82]) h1, rfl⟩
  · rw [if_neg h1]
    by_cases h2 : st c 0 (wS 52) = true
    · rw [if_pos h2]
      exact Or.inr (Or.inl ⟨st1 (w := [69, 65, 76]) h2, rfl⟩)
    · rw [if_neg h2]
      by_cases h3 : st c 0 (wS 53) = true
      · rw [if_pos h3]
        exact Or.inr (Or.inr ⟨st1 (w := [79, 71, 73, 67, 65, 76]) h3, rfl⟩)
      · have : ftP c 15 0 = none := by
          show sq (orP (wdP c 51) (orP (wdP c 52) (wdP c 53))) (srP c (nmP c 4)) 0 = _
          refine sq_none0 ?_
          unfold orP wdP
          rw [if_neg h1, if_neg h2, if_neg h3]
        rw [this] at hZ
        exact absurd hZ (by simp)
theorem typeTold_of {post : Int32 → MS → Prop} (t : Tx c n u) (h15 : (RC c n).1 = 15) (h : post (nI (tyK c 0)) u) : P_S_typeTold post u := by
  have hc := tyK_15 h15
  have hn : 0 < n := t.in (i := 0) (by omega)
  have e0 : gA u 0 (0 : Int32).toNatClampNeg = nI (c 0) := (t.2.2.1 0 hn).1
  have cq : ∀ x, x < 256 → (nI (c 0) = nI x ↔ c 0 = x) := fun x hx => nI_eq (by have := t.lt 0; omega) (by omega)
  unfold P_S_typeTold
  rw [e0, show (73 : Int32) = nI 73 from rfl, show (82 : Int32) = nI 82 from rfl, cq _ (by decide), cq _ (by decide)]
  refine ⟨vp_in_nI (n := 0) (by decide) (by decide), fun h1 => ⟨vp_in_nI (n := 0) (by decide) (by decide), fun h2 => ?_, fun h2 => ?_⟩, fun h1 => ?_⟩
  · rcases hc with q | q | q
    · omega
    · omega
    · rw [q.2] at h; exact h
  · rcases hc with q | q | q
    · omega
    · rw [q.2] at h; exact h
    · omega
  · rcases hc with q | q | q
    · rw [q.2] at h; exact h
    · omega
    · omega
end CQ
