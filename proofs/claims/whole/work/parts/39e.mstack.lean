/-! the reference's stacks -/
abbrev Fm : Type := Nat × List Tz × Nat
def fY (q : Fm) : List Tz := if q.1 < 8 then q.2.1 ++ zn q.2.2 else if q.1 = 8 then [(0, 5, 0)] else q.2.1
def seg : List Fm → List Tz
  | [] => []
  | q :: S => seg S ++ fY q
def PV (c : Nat → Nat) (n b : Nat) (u : MS) (lo hi s : Nat) (Z : List Tz) (v : Nat) : Prop := ∃ k, gA u 26 v = nI k ∧ Pr0 c n b u lo hi k s Z
def RepS (c : Nat → Nat) (n b a0 : Nat) (u : MS) : List Fm → Nat → Nat → Prop
  | [], nv, hi => nv = 0 ∧ hi = 0
  | q :: S, nv, hi => gA u 28 S.length = nI q.1 ∧ ((1 ≤ q.1 ∧ q.1 < 8 ∧ 1 ≤ q.2.2 ∧ q.2.1 = [] ∧ gA u 31 S.length = 1 ∧ gA u 29 S.length = nI (b + (a0 + (seg S).length)) ∧ gA u 30 S.length = nI (b + (a0 + (seg S).length + q.2.2)) ∧ RepS c n b a0 u S nv hi) ∨ (1 ≤ q.1 ∧ q.1 < 8 ∧ 1 ≤ q.2.2 ∧ gA u 31 S.length = 0 ∧ gA u 29 S.length = nI (b + (a0 + (seg S).length + q.2.1.length)) ∧ gA u 30 S.length = nI (b + (a0 + (seg S).length + q.2.1.length + q.2.2)) ∧ ∃ nv' lo, nv = nv' + 1 ∧ RepS c n b a0 u S nv' lo ∧ PV c n b u lo hi (a0 + (seg S).length) q.2.1 nv') ∨ (q.1 = 8 ∧ RepS c n b a0 u S nv hi) ∨ (q.1 = 9 ∧ ∃ nv' lo, nv = nv' + 1 ∧ RepS c n b a0 u S nv' lo ∧ gA u 26 nv' = nI lo ∧ PrL c n b u lo hi (a0 + (seg S).length) q.2.1))
def Sc (c : Nat → Nat) (n b a0 : Nat) (u0 : MS) (sh : List Nat) (nm : List Nx) (pos : Int32) (u : MS) (Y : List Tz) : Prop := KM u0 u ∧ a0 + Y.length ≤ n ∧ gI u 9 = pos ∧ gI u 10 = nI sh.length ∧ Sh u sh ∧ gI u 12 = nI (nm ++ nmsZ 0 a0 Y).length ∧ Nm c u (nm ++ nmsZ 0 a0 Y)
def RW (c : Nat → Nat) (n b a0 : Nat) (u0 : MS) (sh : List Nat) (nm : List Nx) (u : MS) (S : List Fm) : Prop := Sc c n b a0 u0 sh nm (nI (b + (a0 + (seg S).length))) u (seg S) ∧ ∃ nv hi, RepS c n b a0 u S nv hi ∧ gI u 25 = nI nv ∧ gI u 27 = nI S.length ∧ gI u 18 = nI hi
def RH (c : Nat → Nat) (n b a0 : Nat) (u0 : MS) (sh : List Nat) (nm : List Nx) (pos : Int32) (u : MS) (S : List Fm) (y : List Tz) : Prop := Sc c n b a0 u0 sh nm pos u (seg S ++ y) ∧ ∃ nv lo hi, RepS c n b a0 u S nv lo ∧ PV c n b u lo hi (a0 + (seg S).length) y nv ∧ gI u 25 = nI (nv + 1) ∧ gI u 27 = nI S.length ∧ gI u 18 = nI hi
def redV (l : Nat) : List Fm → List Tz → List Tz × List Fm
  | [], y => (y, [])
  | q :: S, y => if q.1 < 8 ∧ l ≤ q.1 then redV l S (wc 1 (wo (fY q ++ y))) else (y, q :: S)
def relS : List Fm → Bool
  | [] => false
  | q :: S => if q.1 < 8 ∧ 4 < q.1 then relS S else decide (q.1 = 4)
section MST
variable {c : Nat → Nat} {n b a0 : Nat} {u0 : MS} {sh : List Nat} {nm : List Nx}
def EqS (u u' : MS) (ns nv hi : Nat) : Prop := (∀ f, 28 ≤ f → f ≤ 31 → ∀ i, i < ns → gA u' f i = gA u f i) ∧ (∀ i, i < nv → gA u' 26 i = gA u 26 i) ∧ Eq6 u u' 0 hi
theorem EqS.le {u u' : MS} {ns nv hi ns' nv' hi' : Nat} (h : EqS u u' ns nv hi) (h1 : ns' ≤ ns) (h2 : nv' ≤ nv) (h3 : hi' ≤ hi) : EqS u u' ns' nv' hi' := ⟨fun f q1 q2 i q3 => h.1 f q1 q2 i (by omega), fun i q => h.2.1 i (by omega), fun f q1 q2 i q3 q4 => h.2.2 f q1 q2 i q3 (by omega)⟩
theorem PV.fr {u u' : MS} {lo hi s v : Nat} {Z : List Tz} (h : PV c n b u lo hi s Z v) (e1 : gA u' 26 v = gA u 26 v) (e2 : Eq6 u u' 0 hi) : PV c n b u' lo hi s Z v := by
  obtain ⟨k, h1, h2⟩ := h
  exact ⟨k, e1.trans h1, h2.fr (fun f q1 q2 i q3 q4 => e2 f q1 q2 i (by omega) q4)⟩
theorem RepS.fr {u u' : MS} : ∀ (S : List Fm) (nv hi : Nat), RepS c n b a0 u S nv hi → EqS u u' S.length nv hi → RepS c n b a0 u' S nv hi := by
  intro S
  induction S with
  | nil => intro nv hi h _; exact h
  | cons q S ih =>
    intro nv hi h e
    have g := fun f h1 h2 => e.1 f h1 h2 S.length (by rw [List.length_cons]; omega)
    refine ⟨(g 28 (by decide) (by decide)).trans h.1, ?_⟩
    rcases h.2 with ⟨p1, p2, p3, p4, p5, p6, p7, p8⟩ | ⟨p1, p2, p3, p5, p6, p7, nv', lo, p8, p9, p10⟩ | ⟨p1, p2⟩ | ⟨p1, nv', lo, p2, p3, p4, p5⟩
    · exact Or.inl ⟨p1, p2, p3, p4, (g 31 (by decide) (by decide)).trans p5, (g 29 (by decide) (by decide)).trans p6, (g 30 (by decide) (by decide)).trans p7, ih _ _ p8 (e.le (by rw [List.length_cons]; omega) (Nat.le_refl _) (Nat.le_refl _))⟩
    · obtain ⟨k, r1, r2⟩ := p10
      have hlo : lo ≤ hi := by have := r2.1; have := r2.2.1; omega
      exact Or.inr (Or.inl ⟨p1, p2, p3, (g 31 (by decide) (by decide)).trans p5, (g 29 (by decide) (by decide)).trans p6, (g 30 (by decide) (by decide)).trans p7, nv', lo, p8, ih _ _ p9 (e.le (by rw [List.length_cons]; omega) (by omega) hlo), PV.fr ⟨k, r1, r2⟩ (e.2.1 nv' (by omega)) e.2.2⟩)
    · exact Or.inr (Or.inr (Or.inl ⟨p1, ih _ _ p2 (e.le (by rw [List.length_cons]; omega) (Nat.le_refl _) (Nat.le_refl _))⟩))
    · have hlo : lo < hi := by obtain ⟨m, _, r, _⟩ := p5; exact r
      exact Or.inr (Or.inr (Or.inr ⟨p1, nv', lo, p2, ih _ _ p3 (e.le (by rw [List.length_cons]; omega) (by omega) (by omega)), (e.2.1 nv' (by omega)).trans p4, p5.fr (fun f q1 q2 i q3 q4 => e.2.2 f q1 q2 i (by omega) q4)⟩))
theorem RepS.bd {u : MS} : ∀ (S : List Fm) (nv hi : Nat), RepS c n b a0 u S nv hi → nv ≤ (seg S).length ∧ S.length ≤ (seg S).length ∧ hi ≤ (seg S).length := by
  intro S
  induction S with
  | nil => intro nv hi h; obtain ⟨h1, h2⟩ := h; simp [h1, h2]
  | cons q S ih =>
    intro nv hi h
    simp only [seg, List.length_append, List.length_cons]
    rcases h.2 with ⟨p1, p2, p3, p4, p5, p6, p7, p8⟩ | ⟨p1, p2, p3, p5, p6, p7, nv', lo, p8, p9, p10⟩ | ⟨p1, p2⟩ | ⟨p1, nv', lo, p2, p3, p4, p5⟩
    · have h1 := ih _ _ p8
      have e : (fY q).length = q.2.1.length + q.2.2 := by unfold fY; rw [if_pos p2, List.length_append, zn_len]
      omega
    · have h1 := ih _ _ p9
      obtain ⟨k, r1, r2⟩ := p10
      have e : (fY q).length = q.2.1.length + q.2.2 := by unfold fY; rw [if_pos p2, List.length_append, zn_len]
      have := r2.2.2.2.1
      have := List.length_pos_iff.mpr r2.2.2.2.2.1
      omega
    · have h1 := ih _ _ p2
      have e : (fY q).length = 1 := by unfold fY; rw [if_neg (by omega), if_pos p1]; rfl
      omega
    · have h1 := ih _ _ p3
      have e : fY q = q.2.1 := by unfold fY; rw [if_neg (by omega), if_neg (by omega)]
      obtain ⟨m, _, r1, r2, r3, _⟩ := p5
      rw [e]
      omega
theorem Sc.fr {pos : Int32} {u u' : MS} {Y Y' : List Tz} (h : Sc c n b a0 u0 sh nm pos u Y) (hk : KM u u') (h9 : gI u' 9 = gI u 9) (h10 : gI u' 10 = gI u 10) (h12 : gI u' 12 = gI u 12) (h11 : ∀ i, gA u' 11 i = gA u 11 i) (h14 : ∀ i, gA u' 14 i = gA u 14 i) (h15 : ∀ i, gA u' 15 i = gA u 15 i) (hL : ∀ i, gL u' i = gL u i) (hl : Y'.length = Y.length) (hn : nmsZ 0 a0 Y' = nmsZ 0 a0 Y) : Sc c n b a0 u0 sh nm pos u' Y' := by
  obtain ⟨s1, s2, s3, s4, s5, s6, s7⟩ := h
  refine ⟨s1.tr hk, by rw [hl]; exact s2, h9.trans s3, h10.trans s4, fun j x hj => (h11 j).trans (s5 j x hj), by rw [hn, h12]; exact s6, fun j q hj => ?_⟩
  rw [hn] at hj
  have := s7 j q hj
  exact ⟨(hL j).trans this.1, (h14 j).trans this.2.1, (h15 j).trans this.2.2⟩
def newP (u : MS) (hi : Nat) (kd f t l r : Int32) : MS := sI (sA (sA (sA (sA (sA (sA u 24 hi kd) 19 hi f) 20 hi t) 21 hi l) 22 hi r) 23 hi (-1 : Int32)) 18 (nI (hi + 1))
def newV (u : MS) (nv : Nat) (x : Int32) : MS := sI (sA u 26 nv x) 25 (nI (nv + 1))
def newS (u : MS) (ns : Nat) (how f t one : Int32) : MS := sI (sA (sA (sA (sA u 28 ns how) 29 ns f) 30 ns t) 31 ns one) 27 (nI (ns + 1))
theorem part_of {post : Int32 → MS → Prop} {u : MS} {hi : Nat} {kd f t l r : Int32} (h : gI u 18 = nI hi) (hh : hi < 100) (hp : post (nI hi) (newP u hi kd f t l r)) : P_M_part post kd f t l r u := by
  unfold P_M_part
  rw [h, nI_clamp (by omega), nI_1, nI_pred]
  exact ⟨vp_in_nI hh (by decide), vp_in_nI hh (by decide), vp_in_nI hh (by decide), vp_in_nI hh (by decide), vp_in_nI hh (by decide), vp_in_nI hh (by decide), hp⟩
theorem value_of {post : MS → Prop} {u : MS} {nv : Nat} {x : Int32} (h : gI u 25 = nI nv) (hh : nv < 100) (hp : post (newV u nv x)) : P_M_value post x u := by
  unfold P_M_value
  rw [h, nI_clamp (by omega), nI_1]
  exact ⟨vp_in_nI hh (by decide), hp⟩
theorem push_of {post : MS → Prop} {u : MS} {ns : Nat} {how f t one : Int32} (h : gI u 27 = nI ns) (hh : ns < 100) (ho : vp_nar .boolean one = one) (hp : post (newS u ns how f t one)) : P_M_push post how f t one u := by
  unfold P_M_push
  rw [h, nI_clamp (by omega), nI_1, ho]
  exact ⟨vp_in_nI hh (by decide), vp_in_nI hh (by decide), vp_in_nI hh (by decide), vp_in_nI hh (by decide), hp⟩
theorem newP_km {u : MS} {hi : Nat} {kd f t l r : Int32} : KM u (newP u hi kd f t l r) := ((((((((KM.refl u).a _ _ rfl).a _ _ rfl).a _ _ rfl).a _ _ rfl).a _ _ rfl).a _ _ rfl).i _ rfl)
theorem newV_km {u : MS} {nv : Nat} {x : Int32} : KM u (newV u nv x) := ((KM.refl u).a _ _ rfl).i _ rfl
theorem newS_km {u : MS} {ns : Nat} {how f t one : Int32} : KM u (newS u ns how f t one) := (((((KM.refl u).a _ _ rfl).a _ _ rfl).a _ _ rfl).a _ _ rfl).i _ rfl
theorem newP_I {u : MS} {hi : Nat} {kd f t l r : Int32} (k : Nat) : gI (newP u hi kd f t l r) k = if k = 18 then nI (hi + 1) else gI u k := by
  unfold newP
  rw [gI_sI]
  rfl
theorem newV_I {u : MS} {nv : Nat} {x : Int32} (k : Nat) : gI (newV u nv x) k = if k = 25 then nI (nv + 1) else gI u k := by
  unfold newV
  rw [gI_sI]
  rfl
theorem newS_I {u : MS} {ns : Nat} {how f t one : Int32} (k : Nat) : gI (newS u ns how f t one) k = if k = 27 then nI (ns + 1) else gI u k := by
  unfold newS
  rw [gI_sI]
  rfl
theorem newP_A {u : MS} {hi : Nat} {kd f t l r : Int32} (k i : Nat) : gA (newP u hi kd f t l r) k i = if k = 23 ∧ i = hi then -1 else if k = 22 ∧ i = hi then r else if k = 21 ∧ i = hi then l else if k = 20 ∧ i = hi then t else if k = 19 ∧ i = hi then f else if k = 24 ∧ i = hi then kd else gA u k i := by
  unfold newP
  rw [gA_sI, gA_sA, gA_sA, gA_sA, gA_sA, gA_sA, gA_sA]
theorem newV_A {u : MS} {nv : Nat} {x : Int32} (k i : Nat) : gA (newV u nv x) k i = if k = 26 ∧ i = nv then x else gA u k i := by
  unfold newV
  rw [gA_sI, gA_sA]
theorem newS_A {u : MS} {ns : Nat} {how f t one : Int32} (k i : Nat) : gA (newS u ns how f t one) k i = if k = 31 ∧ i = ns then one else if k = 30 ∧ i = ns then t else if k = 29 ∧ i = ns then f else if k = 28 ∧ i = ns then how else gA u k i := by
  unfold newS
  rw [gA_sI, gA_sA, gA_sA, gA_sA, gA_sA]
theorem newP_L {u : MS} {hi : Nat} {kd f t l r : Int32} (i : Nat) : gL (newP u hi kd f t l r) i = gL u i := rfl
theorem newV_L {u : MS} {nv : Nat} {x : Int32} (i : Nat) : gL (newV u nv x) i = gL u i := rfl
theorem newS_L {u : MS} {ns : Nat} {how f t one : Int32} (i : Nat) : gL (newS u ns how f t one) i = gL u i := rfl
theorem newP_i {u : MS} {hi : Nat} {kd f t l r : Int32} {k : Nat} (h : k ≠ 18) : gI (newP u hi kd f t l r) k = gI u k := by rw [newP_I, if_neg h]
theorem newP_a {u : MS} {hi : Nat} {kd f t l r : Int32} {k i : Nat} (h : i ≠ hi ∨ k < 19 ∨ 24 < k) : gA (newP u hi kd f t l r) k i = gA u k i := by
  rw [newP_A, if_neg (by omega), if_neg (by omega), if_neg (by omega), if_neg (by omega), if_neg (by omega), if_neg (by omega)]
theorem newV_i {u : MS} {nv : Nat} {x : Int32} {k : Nat} (h : k ≠ 25) : gI (newV u nv x) k = gI u k := by rw [newV_I, if_neg h]
theorem newV_a {u : MS} {nv : Nat} {x : Int32} {k i : Nat} (h : i ≠ nv ∨ k ≠ 26) : gA (newV u nv x) k i = gA u k i := by rw [newV_A, if_neg (by omega)]
theorem newS_i {u : MS} {ns : Nat} {how f t one : Int32} {k : Nat} (h : k ≠ 27) : gI (newS u ns how f t one) k = gI u k := by rw [newS_I, if_neg h]
theorem newS_a {u : MS} {ns : Nat} {how f t one : Int32} {k i : Nat} (h : i ≠ ns ∨ k < 28 ∨ 31 < k) : gA (newS u ns how f t one) k i = gA u k i := by
  rw [newS_A, if_neg (by omega), if_neg (by omega), if_neg (by omega), if_neg (by omega)]
/-- one sign's reduction -/
theorem red_step {pos : Int32} {post : MS → Prop} {u : MS} {q : Fm} {S : List Fm} {y : List Tz} {l f : Nat} (hn : n ≤ 80) (hl8 : l ≤ 8) (h : RH c n b a0 u0 sh nm pos u (q :: S) y) (hq : q.1 < 8) (hlq : l ≤ q.1) (hK : ∀ v, RH c n b a0 u0 sh nm pos v S (wc 1 (wo (fY q ++ y))) → P_M_reduce_0 post f (nI l) v) : P_M_reduce_0 post (f + 1) (nI l) u := by
  obtain ⟨sc, nv, lo, hi, rs, ⟨ky, kp, py⟩, h25, h27, h18⟩ := h
  have hb := RepS.bd _ _ _ rs
  have hlen := sc.2.1
  have hfq : (fY q).length = q.2.1.length + q.2.2 := by unfold fY; rw [if_pos hq, List.length_append, zn_len]
  have hseg : (seg (q :: S)).length = (seg S).length + (fY q).length := by show (seg S ++ fY q).length = _; rw [List.length_append]
  rw [List.length_append, hseg] at hlen
  rw [hseg] at hb
  have hpy := py.2.2.2.1
  have hpy2 := List.length_pos_iff.mpr py.2.2.2.2.1
  have hky := py.2.1
  have hky0 := py.1
  have hSl : (q :: S).length = S.length + 1 := rfl
  have hyne : fY q ++ y ≠ [] := fun e => py.2.2.2.2.1 (List.append_eq_nil_iff.mp e).2
  have eY : (seg S ++ wc 1 (wo (fY q ++ y))).length = (seg (q :: S) ++ y).length := by
    simp only [seg, List.length_append, wc_len, wo_len]
    omega
  have eN : nmsZ 0 a0 (seg S ++ wc 1 (wo (fY q ++ y))) = nmsZ 0 a0 (seg (q :: S) ++ y) := by
    show _ = nmsZ 0 a0 ((seg S ++ fY q) ++ y)
    rw [nmsZ_app, nmsZ_wc, nmsZ_wo, nmsZ_app, nmsZ_app, nmsZ_app, List.append_assoc, List.length_append, Nat.add_assoc]
  have h28 : gA u 28 S.length = nI q.1 := rs.1
  have e1 : gI u 27 - 1 = nI S.length := by rw [h27, hSl, nI_pred]
  have e2 : gI u 25 - 1 = nI nv := by rw [h25, nI_pred]
  refine ⟨fun h9 => absurd h9 (by rw [h27]; exact nI_nle (by omega) (by omega)), fun _ => ?_⟩
  rw [e1, e2, nI_clamp (by omega), nI_clamp (by omega), h28]
  refine ⟨vp_in_nI (by omega) (by decide), fun h9 => absurd h9 (nI_ge (b := 8) hq (by decide)), fun _ => ⟨vp_in_nI (by omega) (by decide), fun h9 => absurd h9 (nI_nlt hlq (by omega)), fun _ => ⟨vp_in_nI (by omega) (by decide), fun v1 e => ?_⟩⟩⟩
  have e : v1 = nI ky := e.trans kp
  subst e
  have eI : ∀ (x y : Int32) (f i : Nat), gA (sI (sI u 27 x) 25 y) f i = gA u f i := fun _ _ _ _ => rfl
  have eI3 : ∀ (x y z : Int32) (f i : Nat), gA (sI (sI (sI u 27 x) 25 y) 25 z) f i = gA u f i := fun _ _ _ _ _ => rfl
  rw [eI]
  simp only [eI, eI3]
  rcases rs.2 with ⟨p1, p2, p3, p4, p5, p6, p7, p8⟩ | ⟨p1, p2, p3, p5, p6, p7, nv', lo', p8, p9, kx, px1, px⟩ | ⟨p1, p2⟩ | ⟨p1, p2⟩
  · refine ⟨vp_in_nI (by omega) (by decide), fun h9 => absurd h9 (by rw [p5]; decide), fun _ => ⟨vp_in_nI (by omega) (by decide), vp_in_nI (by omega) (by decide), ?_⟩⟩
    rw [p6, p7]
    have f18 : gI (sI (sI u 27 (nI S.length)) 25 (nI nv)) 18 = nI hi := h18
    refine part_of f18 (by omega) (value_of (nv := nv) ?_ (by omega) ?_)
    · rw [newP_i (by decide)]; rfl
    · unfold P_M_reduce_159
      have hnv : nv ≤ (seg S).length := (RepS.bd _ _ _ p8).1
      have f6 : Eq6 u (newV (newP (sI (sI u 27 (nI S.length)) 25 (nI nv)) hi 2 (nI (b + (a0 + (seg S).length))) (nI (b + (a0 + (seg S).length + q.2.2))) (nI ky) (-1)) nv (nI hi)) 0 hi := fun f q1 q2 i _ q4 => by
        rw [newV_a (by omega), newP_a (by omega)]; rfl
      refine hK _ ⟨sc.fr (((newV_km).tr (KM.refl _) : KM _ _) |> fun k => (((KM.refl u).i _ rfl).i _ rfl).tr (newP_km.tr k)) ?_ ?_ ?_ ?_ ?_ ?_ (fun i => rfl) eY eN, nv, lo, hi + 1, RepS.fr S nv lo p8 ⟨fun f q1 q2 i q3 => ?_, fun i hi' => ?_, fun f q1 q2 i _ q4 => ?_⟩, ⟨hi, ?_, ?_⟩, ?_, ?_, ?_⟩
      · rw [newV_i (by decide), newP_i (by decide)]; rfl
      · rw [newV_i (by decide), newP_i (by decide)]; rfl
      · rw [newV_i (by decide), newP_i (by decide)]; rfl
      · intro i; rw [newV_a (by omega), newP_a (by omega)]; rfl
      · intro i; rw [newV_a (by omega), newP_a (by omega)]; rfl
      · intro i; rw [newV_a (by omega), newP_a (by omega)]; rfl
      · rw [newV_a (by omega), newP_a (by omega)]; rfl
      · rw [newV_a (by omega), newP_a (by omega)]; rfl
      · rw [newV_a (by omega), newP_a (by omega)]; rfl
      · rw [newV_A, if_pos ⟨rfl, rfl⟩]
      · have e4 : fY q = zn q.2.2 := by unfold fY; rw [if_pos hq, p4]; rfl
        rw [e4]
        have epos : a0 + (seg (q :: S)).length = a0 + (seg S).length + q.2.2 := by rw [hseg, hfq, p4, List.length_nil]; omega
        have py' := py.fr (fun f q1 q2 i q3 q4 => f6 f q1 q2 i (by omega) q4)
        rw [epos] at py'
        rw [p4, List.length_nil] at hfq
        refine Pr0.unary py' (by omega) (by omega) p3 ?_ ?_ ?_ ?_ ?_ <;> rw [newV_a (by omega), newP_A] <;> simp
      · rw [newV_I, if_pos rfl]
      · rw [newV_i (by decide), newP_i (by decide)]; rfl
      · rw [newV_i (by decide), newP_I, if_pos rfl]
  · subst p8
    have hb9 := RepS.bd _ _ _ p9
    have e3 : nI (nv' + 1) - 1 = nI nv' := nI_pred nv'
    rw [e3, nI_clamp (by omega)]
    refine ⟨vp_in_nI (by omega) (by decide), fun _ => ⟨vp_in_nI (by omega) (by decide), vp_in_nI (by omega) (by decide), vp_in_nI (by omega) (by decide), ?_⟩, fun h9 => absurd p5 h9⟩
    rw [p6, p7, px1]
    have f18 : gI (sI (sI (sI u 27 (nI S.length)) 25 (nI (nv' + 1))) 25 (nI nv')) 18 = nI hi := h18
    have hpx := px.2.2.2.1
    have hpx1 := px.2.1
    have hpx0 := px.1
    refine part_of f18 (by omega) (value_of (nv := nv') ?_ (by omega) ?_)
    · rw [newP_i (by decide)]; rfl
    · unfold P_M_reduce_159
      have f6 : Eq6 u (newV (newP (sI (sI (sI u 27 (nI S.length)) 25 (nI (nv' + 1))) 25 (nI nv')) hi 1 (nI (b + (a0 + (seg S).length + q.2.1.length))) (nI (b + (a0 + (seg S).length + q.2.1.length + q.2.2))) (nI kx) (nI ky)) nv' (nI hi)) 0 hi := fun f q1 q2 i _ q4 => by
        rw [newV_a (by omega), newP_a (by omega)]; rfl
      refine hK _ ⟨sc.fr (((newV_km).tr (KM.refl _) : KM _ _) |> fun k => ((((KM.refl u).i _ rfl).i _ rfl).i _ rfl).tr (newP_km.tr k)) ?_ ?_ ?_ ?_ ?_ ?_ (fun i => rfl) eY eN, nv', lo', hi + 1, RepS.fr S nv' lo' p9 ⟨fun f q1 q2 i q3 => ?_, fun i hi' => ?_, fun f q1 q2 i _ q4 => ?_⟩, ⟨hi, ?_, ?_⟩, ?_, ?_, ?_⟩
      · rw [newV_i (by decide), newP_i (by decide)]; rfl
      · rw [newV_i (by decide), newP_i (by decide)]; rfl
      · rw [newV_i (by decide), newP_i (by decide)]; rfl
      · intro i; rw [newV_a (by omega), newP_a (by omega)]; rfl
      · intro i; rw [newV_a (by omega), newP_a (by omega)]; rfl
      · intro i; rw [newV_a (by omega), newP_a (by omega)]; rfl
      · rw [newV_a (by omega), newP_a (by omega)]; rfl
      · rw [newV_a (by omega), newP_a (by omega)]; rfl
      · rw [newV_a (by omega), newP_a (by omega)]; rfl
      · rw [newV_A, if_pos ⟨rfl, rfl⟩]
      · have e4 : fY q = q.2.1 ++ zn q.2.2 := by unfold fY; rw [if_pos hq]
        rw [e4]
        have epos : a0 + (seg (q :: S)).length = a0 + (seg S).length + q.2.1.length + q.2.2 := by rw [hseg, hfq]; omega
        have py' := py.fr (fun f q1 q2 i q3 q4 => f6 f q1 q2 i (by omega) q4)
        have px' := px.fr (fun f q1 q2 i q3 q4 => f6 f q1 q2 i (by omega) (by omega))
        rw [epos] at py'
        refine Pr0.binary px' py' (by omega) (by omega) p3 ?_ ?_ ?_ ?_ ?_ ?_ <;> rw [newV_a (by omega), newP_A] <;> simp
      · rw [newV_I, if_pos rfl]
      · rw [newV_i (by decide), newP_i (by decide)]; rfl
      · rw [newV_i (by decide), newP_I, if_pos rfl]
  · omega
  · omega
theorem red_loop {pos : Int32} {post : MS → Prop} {l : Nat} (hn : n ≤ 80) (hl8 : l ≤ 8) : ∀ (S : List Fm) (y : List Tz) (u : MS), RH c n b a0 u0 sh nm pos u S y → (∀ v, RH c n b a0 u0 sh nm pos v (redV l S y).2 (redV l S y).1 → post v) → P_M_reduce_0 post (S.length + 1) (nI l) u := by
  intro S
  induction S with
  | nil =>
    intro y u h hp
    obtain ⟨sc, nv, lo, hi, rs, py, h25, h27, h18⟩ := h
    exact ⟨fun _ => hp u ⟨sc, nv, lo, hi, rs, py, h25, h27, h18⟩, fun h9 => absurd (by rw [h27]; decide) h9⟩
  | cons q S ih =>
    intro y u h hp
    by_cases hc : q.1 < 8 ∧ l ≤ q.1
    · unfold redV at hp
      rw [if_pos hc] at hp
      exact red_step hn hl8 h hc.1 hc.2 (fun v hv => ih _ v hv hp)
    · unfold redV at hp
      rw [if_neg hc] at hp
      have hh := h
      obtain ⟨sc, nv, lo, hi, rs, py, h25, h27, h18⟩ := h
      have hb := RepS.bd _ _ _ rs
      have hlen := sc.2.1
      rw [List.length_append] at hlen
      have hSl : (q :: S).length = S.length + 1 := rfl
      have e1 : gI u 27 - 1 = nI S.length := by rw [h27, hSl, nI_pred]
      have h28 : gA u 28 S.length = nI q.1 := rs.1
      have h9q : q.1 ≤ 9 := by
        rcases rs.2 with ⟨p1, p2, _⟩ | ⟨p1, p2, _⟩ | ⟨p1, _⟩ | ⟨p1, _⟩ <;> omega
      refine ⟨fun h9 => absurd h9 (by rw [h27]; exact nI_nle (by omega) (by omega)), fun _ => ?_⟩
      rw [e1, nI_clamp (by omega), h28]
      refine ⟨vp_in_nI (by omega) (by decide), fun _ => hp u hh, fun h9 => ⟨vp_in_nI (by omega) (by decide), fun _ => hp u hh, fun h8 => ?_⟩⟩
      rw [show (8 : Int32) = nI 8 from rfl, nI_leI (by decide) (by omega)] at h9
      rw [nI_ltI (by omega) (by omega)] at h8
      exact absurd ⟨by omega, by omega⟩ hc
theorem reduce_of {pos : Int32} {post : MS → Prop} {l : Nat} {S : List Fm} {y : List Tz} {u : MS} (hn : n ≤ 80) (hl8 : l ≤ 8) (h : RH c n b a0 u0 sh nm pos u S y) (hp : ∀ v, RH c n b a0 u0 sh nm pos v (redV l S y).2 (redV l S y).1 → post v) : P_M_reduce post (nI l) u := ⟨S.length + 1, red_loop hn hl8 S y u h hp⟩
theorem rel_loop {post : Int32 → MS → Prop} {u : MS} : ∀ (S : List Fm) (nv hi : Nat), RepS c n b a0 u S nv hi → S.length ≤ 99 → post (if relS S = true then 1 else 0) u → P_M_related_7 post (S.length + 1) (nI S.length - 1) u := by
  intro S
  induction S with
  | nil =>
    intro nv hi rs hl h
    have e : nI ([] : List Fm).length - 1 < 0 := by decide
    refine ⟨fun _ => ⟨fun _ => h, fun h9 => absurd e h9⟩, fun h9 => absurd e h9⟩
  | cons q S ih =>
    intro nv hi rs hl h
    have hSl : (q :: S).length = S.length + 1 := rfl
    have h28 : gA u 28 S.length = nI q.1 := rs.1
    have h9q : q.1 ≤ 9 := by
      rcases rs.2 with ⟨p1, p2, _⟩ | ⟨p1, p2, _⟩ | ⟨p1, _⟩ | ⟨p1, _⟩ <;> omega
    have sub : ∃ nv' hi', RepS c n b a0 u S nv' hi' := by
      rcases rs.2 with ⟨_, _, _, _, _, _, _, p⟩ | ⟨_, _, _, _, _, _, nv', lo, _, p, _⟩ | ⟨_, p⟩ | ⟨_, nv', lo, _, p, _⟩
      · exact ⟨_, _, p⟩
      · exact ⟨_, _, p⟩
      · exact ⟨_, _, p⟩
      · exact ⟨_, _, p⟩
    obtain ⟨nv', hi', rs'⟩ := sub
    rw [hSl, nI_pred]
    unfold relS at h
    have k8 : ((8 : Int32) ≤ nI q.1) ↔ 8 ≤ q.1 := nI_leI (a := 8) (by decide) (by omega)
    have k4 : (nI q.1 ≤ (4 : Int32)) ↔ q.1 ≤ 4 := nI_leI (b := 4) (by omega) (by decide)
    have q4 : (nI q.1 = (4 : Int32)) ↔ q.1 = 4 := nI_eq (b := 4) (by omega) (by decide)
    have fin : ¬ (q.1 < 8 ∧ 4 < q.1) → P_M_related_38 post (nI S.length) u := by
      intro hc
      rw [if_neg hc] at h
      refine ⟨fun h9 => absurd h9 (nI_pos (by omega)), fun _ => ?_⟩
      rw [nI_clamp (by rw [hSl] at hl; omega), h28, q4]
      refine ⟨vp_in_nI (by rw [hSl] at hl; omega) (by decide), fun h4 => ?_, fun h4 => ?_⟩
      · rw [if_neg (by simpa using h4)] at h; exact h
      · rw [if_pos (by simpa using h4)] at h; exact h
    refine ⟨fun h9 => absurd h9 (nI_pos (by rw [hSl] at hl; omega)), fun _ => ?_⟩
    rw [nI_clamp (by rw [hSl] at hl; omega), h28, k8, k4]
    refine ⟨vp_in_nI (by rw [hSl] at hl; omega) (by decide), fun h9 => fin (by omega), fun h9 => ⟨vp_in_nI (by rw [hSl] at hl; omega) (by decide), fun h8 => fin (by omega), fun h8 => ?_⟩⟩
    rw [if_pos (show q.1 < 8 ∧ 4 < q.1 from ⟨by omega, by omega⟩)] at h
    have := ih nv' hi' rs' (by rw [hSl] at hl; omega) h
    have e : nI S.length + (-1) = nI S.length - 1 := by
      rw [Int32.sub_eq_add_neg]
    rw [e]
    exact this
theorem related_of {post : Int32 → MS → Prop} {u : MS} {S : List Fm} {nv hi : Nat} (rs : RepS c n b a0 u S nv hi) (hl : S.length ≤ 99) (h27 : gI u 27 = nI S.length) (h : post (if relS S = true then 1 else 0) u) : P_M_related post u := by
  intro v1 e1
  rw [h27] at e1
  subst e1
  exact ⟨S.length + 1, rel_loop S nv hi rs hl h⟩
end MST
