/-! the rounds that have something -/
theorem nmsZ_le (ty : Nat) : ∀ (Y : List Tz) (a : Nat), (nmsZ ty a Y).length ≤ Y.length := by
  intro Y
  induction Y with
  | nil => intro a; simp [nmsZ]
  | cons t Y ih =>
    intro a
    have := ih (a + 1)
    simp only [nmsZ, List.length_append, List.length_cons]
    split <;> simp <;> omega
section MHO
variable {c : Nat → Nat} {n b a0 : Nat} {u0 : MS} {sh : List Nat} {nm : List Nx} {d : Nat} {post : Int32 → MS → Prop}
theorem Sc.of {pos : Int32} {v : MS} {Y : List Tz} (h : Sc c n b a0 u0 sh nm pos v Y) : Of c u0 v sh nm := ⟨h.1, h.2.2.2.2.1, fun j q hj => h.2.2.2.2.2.2 j q (by rw [List.getElem?_append_left (List.getElem?_eq_some_iff.mp hj).1]; exact hj)⟩
theorem RH.at {pos pos' : Int32} {u : MS} {S : List Fm} {y : List Tz} (h : RH c n b a0 u0 sh nm pos u S y) : RH c n b a0 u0 sh nm pos' (sI u 9 pos') S y := by
  obtain ⟨⟨s1, s2, s3, s4, s5, s6, s7⟩, nv, lo, hi, rs, pv, h25, h27, h18⟩ := h
  have ga : ∀ f i, gA (sI u 9 pos') f i = gA u f i := fun _ _ => rfl
  exact ⟨⟨s1.i _ rfl, s2, by rw [gI_sI, if_pos rfl], by rw [gI_sI, if_neg (by decide)]; exact s4, s5, by rw [gI_sI, if_neg (by decide)]; exact s6, s7⟩, nv, lo, hi, RepS.fr S nv lo rs ⟨fun f _ _ i _ => ga f i, fun i _ => ga 26 i, fun f _ _ i _ _ => ga f i⟩, pv.fr (ga 26 nv) (fun f _ _ i _ _ => ga f i), by rw [gI_sI, if_neg (by decide)]; exact h25, by rw [gI_sI, if_neg (by decide)]; exact h27, by rw [gI_sI, if_neg (by decide)]; exact h18⟩
theorem Sc.at {pos pos' : Int32} {u : MS} {Y Y' : List Tz} {x : Int32} (h : Sc c n b a0 u0 sh nm pos u Y) (hl : a0 + Y'.length ≤ n) (hn : nmsZ 0 a0 Y' = nmsZ 0 a0 Y) : Sc c n b a0 u0 sh nm pos' (sI (sI u 9 pos') 27 x) Y' := by
  obtain ⟨s1, s2, s3, s4, s5, s6, s7⟩ := h
  refine ⟨(s1.i _ rfl).i _ rfl, hl, by rw [gI_sI, if_neg (by decide), gI_sI, if_pos rfl], by rw [gI_sI, if_neg (by decide), gI_sI, if_neg (by decide)]; exact s4, s5, by rw [gI_sI, if_neg (by decide), gI_sI, if_neg (by decide), hn]; exact s6, ?_⟩
  rw [hn]
  exact s7
/-- a sign between is pushed -/
theorem push_RW {pos : Int32} {v : MS} {S : List Fm} {y : List Tz} {k p m : Nat} (hn : n ≤ 80) (hk : 1 ≤ k ∧ k < 8) (hm : 1 ≤ m) (hp : p = a0 + (seg S ++ y).length) (hpm : p + m ≤ n) (hpos : pos = nI (b + (p + m))) (h : RH c n b a0 u0 sh nm pos v S y) : RW c n b a0 u0 sh nm (newS v S.length (nI k) (nI (b + p)) pos 0) ((k, y, m) :: S) := by
  obtain ⟨⟨s1, s2, s3, s4, s5, s6, s7⟩, nv, lo, hi, rs, pv, h25, h27, h18⟩ := h
  have hb := RepS.bd _ _ _ rs
  have eY : seg ((k, y, m) :: S) = seg S ++ (y ++ zn m) := by
    show seg S ++ fY (k, y, m) = _
    unfold fY
    rw [if_pos hk.2]
  have eL : a0 + (seg ((k, y, m) :: S)).length = p + m := by
    rw [eY, hp, ← List.append_assoc, List.length_append (bs := zn m), zn_len]
    omega
  have eN : nmsZ 0 a0 (seg ((k, y, m) :: S)) = nmsZ 0 a0 (seg S ++ y) := by
    rw [eY, ← List.append_assoc, nmsZ_app, nmsZ_zn, List.append_nil]
  have gi : ∀ j, j ≠ 27 → gI (newS v S.length (nI k) (nI (b + p)) pos 0) j = gI v j := fun j q => newS_i q
  have ga : ∀ f i, (i ≠ S.length ∨ f < 28 ∨ 31 < f) → gA (newS v S.length (nI k) (nI (b + p)) pos 0) f i = gA v f i := fun f i q => newS_a q
  refine ⟨⟨s1.tr newS_km, by rw [eL]; exact hpm, by rw [eL, ← hpos]; exact (gi 9 (by decide)).trans s3, (gi 10 (by decide)).trans s4, fun j x hj => (ga 11 j (by omega)).trans (s5 j x hj), by rw [eN]; exact (gi 12 (by decide)).trans s6, fun j q hj => ?_⟩, nv + 1, hi, ⟨?_, Or.inr (Or.inl ⟨hk.1, hk.2, hm, ?_, ?_, ?_, nv, lo, rfl, RepS.fr S nv lo rs ⟨fun f q1 q2 i q3 => ga f i (by omega), fun i _ => ga 26 i (by omega), fun f q1 q2 i q3 q4 => ga f i (by omega)⟩, pv.fr (ga 26 nv (by omega)) (fun f q1 q2 i q3 q4 => ga f i (by omega))⟩)⟩, (gi 25 (by decide)).trans h25, ?_, (gi 18 (by decide)).trans h18⟩
  · rw [eN] at hj
    have := s7 j q hj
    exact ⟨this.1, (ga 14 j (by omega)).trans this.2.1, (ga 15 j (by omega)).trans this.2.2⟩
  · rw [newS_A]; simp
  · rw [newS_A]; simp
  · rw [newS_A, hp, List.length_append]; simp [Nat.add_assoc]
  · rw [newS_A, hpos, hp, List.length_append]; simp [Nat.add_assoc]
  · rw [newS_I, if_pos rfl]; rfl
theorem H_of {S : List Fm} {y : List Tz} {p : Nat} (o : Os c n b u0 a0 sh nm) (hp : p = a0 + (seg S ++ y).length) (hF : (btC c p = 0 ∨ (btC c p = 4 ∧ relS S = true)) → ∀ q S', (redV 1 S y).2 = q :: S' → ¬ c p = 41 → ¬ (q.1 = 9 ∧ c p = 44) → ∀ v, Of c u0 v sh nm → post 0 v)
    (h1 : btC c p ≠ 0 → ¬ (btC c p = 4 ∧ relS S = true) → p + blC (btC c p) ≤ n → Wn c n b a0 u0 sh nm d post ((btC c p, (redV (if btC c p = 7 then 8 else btC c p) S y).1, blC (btC c p)) :: (redV (if btC c p = 7 then 8 else btC c p) S y).2))
    (h2 : (btC c p = 0 ∨ (btC c p = 4 ∧ relS S = true)) → ((redV 1 S y).2 = [] → ∀ v, KM u0 v → Os c n b v p (sh ++ shZ c a0 (redV 1 S y).1) (nm ++ nmsZ 0 a0 (redV 1 S y).1) → post 1 v) ∧ (∀ q S', (redV 1 S y).2 = q :: S' → (q.1 = 8 → c p = 41 → Hv c n b a0 u0 sh nm d post S' ((0, 5, 0) :: ((redV 1 S y).1 ++ [(0, 5, 0)]))) ∧ (q.1 = 9 → c p = 41 → Hv c n b a0 u0 sh nm d post S' (q.2.1 ++ ((redV 1 S y).1 ++ zn 1))) ∧ (q.1 = 9 → c p = 44 → Wn c n b a0 u0 sh nm d post ((9, q.2.1 ++ ((redV 1 S y).1 ++ zn 1), 1) :: S')))) : Hv c n b a0 u0 sh nm d post S y := by
  intro x u m3 hx h
  have h80 := o.1.1
  have h19 := o.1.2.1
  have hlen : a0 + (seg S ++ y).length ≤ n := h.1.2.1
  have hpn : p ≤ n := by omega
  have t := o.1.of h.1.1
  have h9 : gI u 9 = nI (b + p) := by rw [hp]; exact h.1.2.2.1
  have hS : S.length ≤ (seg S).length := by
    obtain ⟨_, nv, lo, hi, rs, _⟩ := h
    exact (RepS.bd _ _ _ rs).2.1
  rw [List.length_append] at hx hlen
  have hbt := btC_lt (c := c) p
  have cq : ∀ (i x : Nat), x < 256 → (nI (c i) = nI x ↔ c i = x) := fun i x hx => nI_eq (by have := t.lt i; omega) (by omega)
  rw [show 301 - x = (301 - (x + 1)) + 1 by omega]
  refine ⟨fun h9 => absurd h9 (nI_ge (b := 300) (by omega) (by decide)), fun _ => ⟨fun _ => ?_, fun e => absurd rfl e⟩⟩
  have kcase : btC c p = 0 ∨ btC c p = 1 ∨ btC c p = 2 ∨ btC c p = 4 ∨ btC c p = 5 ∨ btC c p = 6 ∨ btC c p = 7 := by
    unfold btC
    split
    · omega
    · split
      · split <;> omega
      · split
        · omega
        · split <;> omega
  have hq4 : (nI (btC c p) = 4) ↔ btC c p = 4 := nI_eq (b := 4) (by omega) (by decide)
  have hq7 : (nI (btC c p) = 7) ↔ btC c p = 7 := nI_eq (b := 7) (by omega) (by decide)
  have hq1 : (nI (btC c p) = 1) ↔ btC c p = 1 := nI_eq (b := 1) (by omega) (by decide)
  have hq2 : (nI (btC c p) = 2) ↔ btC c p = 2 := nI_eq (b := 2) (by omega) (by decide)
  -- the operator's words
  have hdot : (btC c p = 1 ∨ btC c p = 2 ∨ btC c p = 4) → dtC c p = btC c p := by
    intro hk
    unfold btC at hk ⊢
    split at hk
    · omega
    · split at hk
      · split at hk <;> omega
      · split at hk
        · omega
        · rename_i e1 e2 e3
          rw [if_neg e1, if_neg e2, if_neg e3]
          split at hk
          · rename_i e4
            rw [if_pos e4]
          · omega
  have hwl : ∀ q ∈ dtW, q.2 = dtC c p → (btC c p = 1 ∨ btC c p = 2 ∨ btC c p = 4) → (46 :: (q.1.reverse ++ [46])).length = blC (btC c p) := by
    intro q hq e hk
    rw [hdot hk] at e
    have : ∀ q ∈ dtW, (q.2 = 1 ∨ q.2 = 2 ∨ q.2 = 4) → (46 :: (q.1.reverse ++ [46])).length = blC q.2 := by decide
    rw [← e]
    exact this q hq (by omega)
  have op174 : btC c p ≠ 0 → ¬ (btC c p = 4 ∧ relS S = true) → P_M_expression_174 post (fun zx2 zx3 zx4 zx5 zu => P_M_expression_25 post (301 - (x + 1)) zx2 zx3 zx4 zx5 zu) (nI (d + dp S)) (nI x) (nI (btC c p)) u := by
    intro hk0 hkr
    have go : p + blC (btC c p) ≤ n → P_M_expression_220 post (fun zx2 zx3 zx4 zx5 zu => P_M_expression_25 post (301 - (x + 1)) zx2 zx3 zx4 zx5 zu) (nI (d + dp S)) (nI x) (nI (btC c p)) (nI (b + p)) (nI (b + (p + blC (btC c p)))) u := by
      intro hpm
      have hW := h1 hk0 hkr hpm
      have hRH := h.at (pos' := nI (b + (p + blC (btC c p))))
      have hbl : 1 ≤ blC (btC c p) := by unfold blC; split; omega; split; omega; split <;> omega
      have g238 : ∀ l, l = (if btC c p = 7 then 8 else btC c p) → P_M_expression_238 post (fun zx2 zx3 zx4 zx5 zu => P_M_expression_25 post (301 - (x + 1)) zx2 zx3 zx4 zx5 zu) (nI (d + dp S)) (nI x) (nI (btC c p)) (nI (b + p)) (nI l) (sI u 9 (nI (b + (p + blC (btC c p))))) := by
        intro l hl
        rw [← hl] at hW
        refine reduce_of h80 (by rw [hl]; split <;> omega) hRH (fun v hv => ?_)
        have hv9 : gI v 9 = nI (b + (p + blC (btC c p))) := hv.1.2.2.1
        have hv27 : gI v 27 = nI (redV l S y).2.length := by
          obtain ⟨_, nv, lo, hi, _, _, _, h, _⟩ := hv
          exact h
        have hlv := redV_len l S y
        have hSv : (redV l S y).2.length ≤ (seg (redV l S y).2).length := by
          obtain ⟨_, nv, lo, hi, rs, _⟩ := hv
          exact (RepS.bd _ _ _ rs).2.1
        have hlv2 := hlv
        rw [List.length_append, List.length_append] at hlv2
        rw [hv9]
        refine push_of hv27 (by omega) (by decide) ?_
        have hrw := push_RW (k := btC c p) (p := p) (m := blC (btC c p)) h80 (by omega) hbl (by rw [hlv]; exact hp) hpm rfl hv
        have hseg2 : (seg ((btC c p, (redV l S y).1, blC (btC c p)) :: (redV l S y).2)).length = (seg S).length + y.length + blC (btC c p) := by
          show (seg (redV l S y).2 ++ fY _).length = _
          unfold fY
          rw [if_pos (by omega : btC c p < 8)]
          simp only [List.length_append, zn_len]
          omega
        have hfin := hW (x + 1) _ (by rw [hseg2]; omega) hrw
        have e2 : dp ((btC c p, (redV l S y).1, blC (btC c p)) :: (redV l S y).2) = dp S := by
          simp only [dp]
          rw [if_neg (by omega), redV_dp]
          rfl
        rw [e2] at hfin
        unfold P_M_expression_269 P_M_expression_284 P_M_expression_444
        rw [hq1, hq2, hq4, nI_1]
        refine ⟨fun k => ?_, fun k1 => ⟨fun k2 => ⟨fun k4 => ?_, fun k4 => ?_⟩, fun k2 => ?_⟩⟩
        · have e3 : may ((btC c p, (redV l S y).1, blC (btC c p)) :: (redV l S y).2) = 2 := by simp [may, k]
          rw [e3] at hfin
          exact hfin
        · have e3 : may ((btC c p, (redV l S y).1, blC (btC c p)) :: (redV l S y).2) = 0 := by
            simp only [may]
            rw [if_neg k4, if_pos (by omega)]
          rw [e3] at hfin
          exact hfin
        · have e3 : may ((btC c p, (redV l S y).1, blC (btC c p)) :: (redV l S y).2) = 1 := by simp [may, k4]
          rw [e3] at hfin
          exact hfin
        · have e3 : may ((btC c p, (redV l S y).1, blC (btC c p)) :: (redV l S y).2) = 2 := by simp [may, k2]
          rw [e3] at hfin
          exact hfin
      unfold P_M_expression_220
      rw [hq7]
      exact ⟨fun k => g238 (btC c p) (by rw [if_neg k]), fun k => g238 8 (by rw [if_pos k])⟩
    intro v6 e6
    rw [h9] at e6
    subst e6
    rw [hq7]
    refine ⟨fun k7 => ⟨fun k5 => ?_, fun k5 => ?_⟩, fun k7 => ?_⟩
    · have k5' : btC c p = 5 ∨ btC c p = 6 := by
        have : 5 ≤ btC c p := (nI_leI (a := 5) (by decide) (by omega)).mp k5
        omega
      have e1 : blC (btC c p) = 1 := by
        unfold blC
        rw [if_neg k7, if_neg (by omega), if_neg (by omega)]
      have hin : p < n := by
        refine t.in ?_
        unfold btC at k5'
        split at k5'
        · omega
        · split at k5'
          · omega
          · split at k5'
            · omega
            · split at k5' <;> omega
      have := go (by rw [e1]; omega)
      rw [e1] at this
      rw [h9, nI_1]
      exact this
    · have k5' : btC c p = 1 ∨ btC c p = 2 ∨ btC c p = 4 := by
        have : ¬ 5 ≤ btC c p := fun q => k5 ((nI_leI (a := 5) (by decide) (by omega)).mpr q)
        omega
      rw [h9]
      have hd0 : dtC c p ≠ 0 := by rw [hdot k5']; exact hk0
      refine dotted_dt t (by omega) hd0 (fun q hq e hs => ?_)
      rw [hwl q hq e k5']
      refine go ?_
      have := st_in t.2.2.2.2.2 _ p (by simp) (by
        intro x hx
        have h6' := (dtW_ok q hq).1
        simp only [List.mem_cons, List.mem_append, List.mem_reverse, List.not_mem_nil, or_false] at hx
        rcases hx with rfl | hx | rfl
        · decide
        · have := h6' x hx
          unfold lr at this
          have a1 := of_decide_eq_true (Bool.and_eq_true_iff.mp this).1
          have a2 := of_decide_eq_true (Bool.and_eq_true_iff.mp this).2
          omega
        · decide) hs
      rw [hwl q hq e k5'] at this
      exact this
    · have e1 : blC (btC c p) = 2 := by unfold blC; rw [if_pos k7]
      have hin : p + 1 < n := by
        refine t.in ?_
        unfold btC at k7
        split at k7
        · omega
        · split at k7
          · split at k7 <;> omega
          · split at k7
            · omega
            · split at k7 <;> omega
      have := go (by rw [e1]; omega)
      rw [e1] at this
      rw [h9, nI_2]
      exact this
  have end288 : (btC c p = 0 ∨ (btC c p = 4 ∧ relS S = true)) → P_M_expression_288 post (fun zx2 zx3 zx4 zx5 zu => P_M_expression_25 post (301 - (x + 1)) zx2 zx3 zx4 zx5 zu) (nI (d + dp S)) (nI x) u := by
    intro hk
    obtain ⟨g1, g2⟩ := h2 hk
    have hF' := hF hk
    clear hF h1 op174
    refine reduce_of (l := 1) h80 (by decide) h (fun v hv => ?_)
    have hlv := redV_len 1 S y
    have hdv := redV_dp 1 S y
    have htop := redV_top 1 S y
    generalize (redV 1 S y).1 = y' at *
    generalize (redV 1 S y).2 = S' at *
    have tv := o.1.of hv.1.1
    have off := hv.1.of
    have hv9 : gI v 9 = nI (b + p) := by rw [hp]; exact hv.1.2.2.1
    cases S' with
    | nil =>
      obtain ⟨sc, nv, lo, hi, rs, ⟨k, kv, pr⟩, h25, h27, h18⟩ := hv
      obtain ⟨e1, e2⟩ : nv = 0 ∧ lo = 0 := rs
      subst e1 e2
      refine ⟨fun e => absurd h27 e, fun _ => ⟨vp_in_nI (n := 0) (by decide) (by decide), ?_⟩⟩
      have ey : (seg ([] : List Fm) ++ y').length = y'.length := rfl
      have e0 : a0 + (seg ([] : List Fm)).length = a0 := rfl
      rw [e0] at pr
      have hylen : p = a0 + y'.length := by rw [hp, ← hlv, ey]
      obtain ⟨q1, q2, q3, q4, q5, q6, q7, cost, q8⟩ := pr
      have hsl := o.2.2.2.1.2.1
      have hnl := o.2.2.2.2.2.1
      have hnz := nmsZ_le 0 y' a0
      rw [show gA v 26 (0 : Int32).toNatClampNeg = nI k from kv]
      refine ⟨vp_in_nI (n := 0) (by decide) (by decide), 1 + cost, ?_⟩
      have kw := KP.w v (i := 0) (nI k) (Nat.le_refl 0)
      have hhi : hi ≤ y'.length := by omega
      refine q8 (sA v 32 0 (nI k)) (tv.of kw.km) (fun f r1 r2 i _ _ _ => by rw [gA_sA, if_neg (by omega)]) 0 1 _ sh (by omega) (by rw [gI_sA]; exact sc.2.2.2.1) (sc.2.2.2.2.1.w _ _) (by omega) (by rw [gA_sA, if_pos ⟨rfl, rfl⟩]) (fun v2 kv2 r1 r2 => ⟨fun _ => ?_, fun e => absurd (by decide) e⟩)
      have k2 : KP v v2 0 := kw.tr kv2 (Nat.le_refl _)
      refine g1 rfl v2 (sc.1.tr k2.km) ⟨tv.of k2.km, hpn, (k2.1 9 (by decide)).trans hv9, ⟨r1, by rw [List.length_append]; omega, r2⟩, (k2.1 12 (by decide)).trans sc.2.2.2.2.2.1, by rw [List.length_append]; omega, fun j q hj => ?_⟩
      have := sc.2.2.2.2.2.2 j q hj
      exact ⟨(k2.2.2.2 j).trans this.1, (k2.2.1 14 (by decide) (by decide) j).trans this.2.1, (k2.2.1 15 (by decide) (by decide) j).trans this.2.2⟩
    | cons q S' =>
      have hSl : (q :: S').length = S'.length + 1 := rfl
      obtain ⟨q8, q9⟩ := g2 q S' rfl
      have ht := htop q S' rfl
      have hv' := hv
      obtain ⟨sc, nv, lo, hi, rs, pv, h25, h27, h18⟩ := hv'
      have hb := RepS.bd _ _ _ rs
      have hfq : 1 ≤ (fY q).length ∧ (seg (q :: S')).length = (seg S').length + (fY q).length := by
        refine ⟨?_, by show (seg S' ++ fY q).length = _; rw [List.length_append]⟩
        unfold fY
        rcases rs.2 with ⟨p1, p2, p3, _⟩ | ⟨p1, p2, p3, _⟩ | ⟨p1, _⟩ | ⟨p1, nv', lo', _, _, _, m, _, r1, r2, r3, _⟩
        · rw [if_pos p2, List.length_append, zn_len]; omega
        · rw [if_pos p2, List.length_append, zn_len]; omega
        · rw [if_neg (by omega), if_pos p1]; decide
        · rw [if_neg (by omega), if_neg (by omega)]; omega
      rw [List.length_append, List.length_append, hfq.2] at hlv
      rw [hfq.2] at hb
      rw [hSl] at h27 hb
      have h28 : gA v 28 S'.length = nI q.1 := rs.1
      have q89 : q.1 = 8 ∨ q.1 = 9 := by
        rcases rs.2 with ⟨p1, p2, _⟩ | ⟨p1, p2, _⟩ | ⟨p1, _⟩ | ⟨p1, _⟩ <;> omega
      have e27 : gI v 27 - 1 = nI S'.length := by rw [h27, nI_pred]
      have edp : d + dp S = d + dp S' + 1 := by rw [← hdv]; simp only [dp]; rw [if_pos (by omega)]; omega
      refine ⟨fun _ => ?_, fun e => absurd e (by rw [h27]; exact nI_ne0 (by omega) (by omega))⟩
      rw [e27, nI_clamp (by omega), h28]
      have hq9 : (nI q.1 = 9) ↔ q.1 = 9 := nI_eq (b := 9) (by omega) (by decide)
      rw [hq9]
      refine ⟨vp_in_nI (by omega) (by decide), fun n9 => ?_, fun n9 => ?_⟩
      · have hq8 : q.1 = 8 := by omega
        unfold P_M_expression_333
        rw [hv9, tv.v (by omega), show (41 : Int32) = nI 41 from rfl, show (44 : Int32) = nI 44 from rfl, cq _ _ (by decide), cq _ _ (by decide)]
        refine ⟨tv.q (by omega), fun h41 => ?_, fun h41 => ⟨tv.q (by omega), fun h44 => hF' q S' rfl h41 (fun e => n9 e.1) v off, fun h44 => ⟨fun e => absurd rfl e, fun _ => hF' q S' rfl h41 (fun e => n9 e.1) v off⟩⟩⟩
        have hin : p < n := tv.in (by omega)
        have hfin := q8 hq8 h41
        unfold P_M_expression_368
        rw [hv9, tv.v (by omega), show (44 : Int32) = nI 44 from rfl, cq _ _ (by decide)]
        refine ⟨tv.q (by omega), fun _ => ?_, fun e => absurd e (by omega)⟩
        unfold P_M_expression_386 P_M_expression_407 P_M_expression_426 P_M_expression_441 P_M_expression_444
        rw [hv9, nI_1, nI_1]
        refine ⟨fun _ => ⟨fun _ => ⟨fun _ => ?_, fun e => absurd rfl e⟩, fun e => absurd rfl e⟩, fun e => absurd rfl e⟩
        rw [show gI (sI v 9 (nI (b + p + 1))) 27 - 1 = nI S'.length from e27, edp, nI_pred]
        have efY : fY q = [(0, 5, 0)] := by unfold fY; rw [if_neg (by omega), if_pos hq8]
        have elen : (seg S' ++ ((0, 5, 0) :: (y' ++ [(0, 5, 0)]))).length = (seg S ++ y).length + 1 := by
          simp only [List.length_append, List.length_cons, List.length_nil]
          rw [efY] at hlv
          simp at hlv
          omega
        have eN : nmsZ 0 a0 (seg S' ++ ((0, 5, 0) :: (y' ++ [(0, 5, 0)]))) = nmsZ 0 a0 (seg (q :: S') ++ y') := by
          show _ = nmsZ 0 a0 ((seg S' ++ fY q) ++ y')
          rw [efY, List.append_assoc, nmsZ_app, nmsZ_app]
          simp only [List.cons_append, List.nil_append, nmsZ, nmsZ_app]
          simp
        refine hfin (x + 1) _ 2 (by rw [elen, List.length_append]; omega) ⟨?_, nv, lo, hi, ?_, ?_, ?_, ?_, ?_⟩
        · rw [elen, show b + (a0 + ((seg S ++ y).length + 1)) = b + p + 1 by omega]
          exact sc.at (by rw [elen]; omega) eN
        · rcases rs.2 with ⟨p1, p2, _⟩ | ⟨p1, p2, _⟩ | ⟨p1, p2⟩ | ⟨p1, _⟩
          · omega
          · omega
          · exact RepS.fr S' nv lo p2 ⟨fun f _ _ i _ => rfl, fun i _ => rfl, fun f _ _ i _ _ => rfl⟩
          · omega
        · obtain ⟨k, k1, k2⟩ := pv
          refine ⟨k, k1, ?_⟩
          have k3 : Pr0 c n b (sI (sI v 9 (nI (b + p + 1))) 27 (nI S'.length)) lo hi k (a0 + (seg (q :: S')).length) y' := k2.fr (fun f _ _ i _ _ => rfl)
          rw [hfq.2, efY, show a0 + ((seg S').length + [((0, 5, 0) : Tz)].length) = a0 + (seg S').length + 1 by simp; omega] at k3
          exact k3.group
        · rw [gI_sI, if_neg (by decide), gI_sI, if_neg (by decide)]; exact h25
        · rw [gI_sI, if_pos rfl]
        · rw [gI_sI, if_neg (by decide), gI_sI, if_neg (by decide)]; exact h18
      · unfold P_M_expression_333
        rw [hv9, tv.v (by omega), show (41 : Int32) = nI 41 from rfl, show (44 : Int32) = nI 44 from rfl, cq _ _ (by decide), cq _ _ (by decide)]
        obtain ⟨kq, X, mm⟩ := q
        simp only at n9
        subst n9
        simp only at q9
        have efY : fY (9, X, mm) = X := rfl
        rw [efY] at hlv hfq
        have hRJ : c p = 41 ∨ c p = 44 → p < n ∧ ∀ Q : MS → Prop, (∀ w, RJ c n b a0 u0 sh nm (nI (b + p + 1)) w S' X y' → Q w) → P_M_joins Q (sI v 9 (nI (b + p + 1))) := fun hc => ⟨tv.in (by omega), fun Q hQ => joins_of h80 (hv.at) hQ⟩
        have elen : ((seg S' ++ X) ++ y').length = (seg S ++ y).length := by
          simp only [List.length_append]
          omega
        have elen1 : (seg S' ++ (X ++ (y' ++ zn 1))).length = (seg S ++ y).length + 1 := by
          simp only [List.length_append, zn_len]
          omega
        have eN1 : nmsZ 0 a0 (seg S' ++ (X ++ (y' ++ zn 1))) = nmsZ 0 a0 ((seg S' ++ X) ++ y') := by
          rw [← List.append_assoc, ← List.append_assoc, nmsZ_app, nmsZ_zn, List.append_nil]
        have g368 : c p = 41 ∨ c p = 44 → P_M_expression_368 post (fun zx2 zx3 zx4 zx5 zu => P_M_expression_25 post (301 - (x + 1)) zx2 zx3 zx4 zx5 zu) (nI (d + dp S)) (nI x) 1 v := by
          intro hc
          obtain ⟨hin, hj⟩ := hRJ hc
          unfold P_M_expression_368
          rw [hv9, tv.v (by omega), show (44 : Int32) = nI 44 from rfl, cq _ _ (by decide)]
          refine ⟨tv.q (by omega), fun h44 => ?_, fun h44 => ?_⟩
          · have h41 : c p = 41 := by omega
            have hfin := q9.1 trivial h41
            unfold P_M_expression_386
            rw [hv9, nI_1]
            refine ⟨fun e => absurd e (by decide), fun _ => hj _ (fun w hw => ?_)⟩
            obtain ⟨scw, nw, low, hiw, mw, T, rw', w26, w25, w27, w28, w18, nd, pj, a1, a2, a3, a4, a5, a6⟩ := hw
            unfold P_M_expression_407 P_M_expression_426 P_M_expression_441 P_M_expression_444
            rw [nI_1]
            refine ⟨fun _ => ⟨fun _ => ?_, fun e => absurd rfl e⟩, fun e => absurd rfl e⟩
            rw [w27, nI_pred, edp, nI_pred]
            refine hfin (x + 1) _ 2 (by rw [elen1, List.length_append]; omega) ⟨?_, nw, low, hiw, RepS.fr S' nw low rw' ⟨fun f _ _ i _ => rfl, fun i _ => rfl, fun f _ _ i _ _ => rfl⟩, ⟨low, w26, ?_⟩, ?_, ?_, ?_⟩
            · rw [elen1]
              have q := scw
              refine ⟨q.1.i _ rfl, by rw [elen1]; omega, ?_, ?_, q.2.2.2.2.1, ?_, by rw [eN1]; exact q.2.2.2.2.2.2⟩
              · rw [gI_sI, if_neg (by decide), q.2.2.1]; congr 1; omega
              · rw [gI_sI, if_neg (by decide)]; exact q.2.2.2.1
              · rw [gI_sI, if_neg (by decide), eN1]; exact q.2.2.2.2.2.1
            · have e5 : shZ c (a0 + (seg S').length) (X ++ (y' ++ zn 1)) = sgN c mw (a0 + (seg S').length) ++ ([40] ++ (T ++ [41])) := by
                rw [← List.append_assoc, shZ_app, a4, shZ_zn]
                have : a0 + (seg S').length + (X ++ y').length = p := by
                  rw [List.length_append]
                  rw [List.length_append] at hp
                  omega
                rw [this]
                simp [sgN, h41]
              have e6 : (X ++ (y' ++ zn 1)).length = (X ++ y').length + 1 := by simp only [List.length_append, zn_len]; omega
              refine PrJ.close (m := mw) (T := T) (nd.fr (fun f _ _ i _ _ => rfl)) (pj.fr (fun f _ _ i _ _ => rfl)) a2 (by rw [e6]; omega) (fun e => a6 (List.append_eq_nil_iff.mp (List.append_eq_nil_iff.mp e).2).1) ?_ e5
              rw [e5, e6]
              rw [a4] at a5
              simp only [List.length_append, List.length_cons, List.length_nil] at a5 ⊢
              omega
            · rw [gI_sI, if_neg (by decide)]; exact w25
            · rw [gI_sI, if_pos rfl]
            · rw [gI_sI, if_neg (by decide)]; exact w18
          · have hfin := q9.2 trivial h44
            unfold P_M_expression_386
            rw [hv9, nI_1]
            refine ⟨fun e => absurd e (by decide), fun _ => hj _ (fun w hw => ?_)⟩
            obtain ⟨scw, nw, low, hiw, mw, T, rw', w26, w25, w27, w28, w18, nd, pj, a1, a2, a3, a4, a5, a6⟩ := hw
            unfold P_M_expression_407 P_M_expression_426 P_M_expression_441 P_M_expression_444
            rw [nI_1]
            refine ⟨fun e => absurd e (by decide), fun _ => ⟨fun e => absurd e (by decide), fun _ => ?_⟩⟩
            have esegn : seg ((9, X ++ (y' ++ zn 1), 1) :: S') = seg S' ++ (X ++ (y' ++ zn 1)) := rfl
            have edpn : dp ((9, X ++ (y' ++ zn 1), 1) :: S') = dp S' + 1 := rfl
            have emay : may ((9, X ++ (y' ++ zn 1), 1) :: S') = 2 := rfl
            have hfin2 := hfin (x + 1) (sI w 27 (gI w 27)) (by rw [esegn, elen1, List.length_append]; omega) ⟨?_, nw + 1, hiw, ⟨?_, Or.inr (Or.inr (Or.inr ⟨rfl, nw, low, rfl, RepS.fr S' nw low rw' ⟨fun f _ _ i _ => rfl, fun i _ => rfl, fun f _ _ i _ _ => rfl⟩, w26, mw, nd.fr (fun f _ _ i _ _ => rfl), a1, a2, ?_, ?_, Or.inr ⟨T, pj.fr (fun f _ _ i _ _ => rfl), ?_⟩⟩))⟩, ?_, ?_, ?_⟩
            · rw [edpn, emay] at hfin2
              rw [edp]
              exact hfin2
            · rw [esegn, elen1]
              have q := scw
              refine ⟨q.1.i _ rfl, by rw [elen1]; omega, ?_, ?_, q.2.2.2.2.1, ?_, by rw [eN1]; exact q.2.2.2.2.2.2⟩
              · rw [gI_sI, if_neg (by decide), q.2.2.1]; congr 1; omega
              · rw [gI_sI, if_neg (by decide)]; exact q.2.2.2.1
              · rw [gI_sI, if_neg (by decide), eN1]; exact q.2.2.2.2.2.1
            · exact w28
            · have e6 : (X ++ (y' ++ zn 1)).length = (X ++ y').length + 1 := by simp only [List.length_append, zn_len]; omega
              show _ ≤ (X ++ (y' ++ zn 1)).length
              rw [e6]; omega
            · have e6 : (X ++ (y' ++ zn 1)).length = (X ++ y').length + 1 := by simp only [List.length_append, zn_len]; omega
              show (shZ c _ (X ++ (y' ++ zn 1))).length ≤ 3 * (X ++ (y' ++ zn 1)).length
              rw [e6, ← List.append_assoc, shZ_app, shZ_zn, List.length_append, sgN_len]
              omega
            · show shZ c _ (X ++ (y' ++ zn 1)) = _
              rw [← List.append_assoc, shZ_app, a4, shZ_zn]
              have : a0 + (seg S').length + (X ++ y').length = p := by
                rw [List.length_append]
                rw [List.length_append] at hp
                omega
              rw [this]
              simp [sgN, h44]
            · rw [gI_sI, if_neg (by decide)]; exact w25
            · rw [gI_sI, if_pos rfl]; exact w27
            · rw [gI_sI, if_neg (by decide)]; exact w18
        refine ⟨tv.q (by omega), fun h41 => g368 (Or.inl h41), fun h41 => ⟨tv.q (by omega), fun h44 => hF' _ S' rfl h41 (fun e => h44 e.2) v off, fun h44 => ⟨fun _ => g368 (Or.inr h44), fun e => absurd e (by decide)⟩⟩⟩
  refine between_of t hpn h9 ⟨fun h0 => end288 (Or.inl ?_), fun h0 => ⟨fun k4 => op174 ?_ ?_, fun k4 => ?_⟩⟩
  · have : btC c p ≤ 0 := (nI_leI (b := 0) (by omega) (by decide)).mp h0
    omega
  · intro e
    exact h0 (by rw [e]; decide)
  · rw [hq4] at k4
    exact fun q => k4 q.1
  · rw [hq4] at k4
    have hh := h
    obtain ⟨_, nv, lo, hi, rs, _, _, h27, _⟩ := hh
    refine related_of rs (by omega) h27 ?_
    by_cases hr : relS S = true
    · rw [if_pos hr]
      exact ⟨fun _ => end288 (Or.inr ⟨k4, hr⟩), fun e => absurd e (by decide)⟩
    · rw [if_neg hr]
      exact ⟨fun e => absurd rfl e, fun _ => op174 (by omega) (fun q => hr q.2)⟩
end MHO
