/-! what is wanted -/
theorem sI_sI (u : MS) (k : Nat) (x y : Int32) : sI (sI u k x) k y = sI u k y := by
  unfold sI va_up
  simp only [Prod.mk.injEq, and_true]
  funext j
  split <;> rfl
def may (S : List Fm) : Nat := match S with
  | [] => 2
  | q :: _ => if q.1 = 4 then 1 else if q.1 = 5 ∨ q.1 = 6 ∨ q.1 = 7 then 0 else 2
def dp : List Fm → Nat
  | [] => 0
  | q :: S => dp S + (if 8 ≤ q.1 then 1 else 0)
def Wn (c : Nat → Nat) (n b a0 : Nat) (u0 : MS) (sh : List Nat) (nm : List Nx) (d : Nat) (post : Int32 → MS → Prop) (S : List Fm) : Prop := ∀ (x : Nat) (u : MS), x ≤ (seg S).length → RW c n b a0 u0 sh nm u S → P_M_expression_25 post (301 - x) (nI (d + dp S)) (nI (may S)) 1 (nI x) u
def Hv (c : Nat → Nat) (n b a0 : Nat) (u0 : MS) (sh : List Nat) (nm : List Nx) (d : Nat) (post : Int32 → MS → Prop) (S : List Fm) (y : List Tz) : Prop := ∀ (x : Nat) (u : MS) (m3 : Int32), x ≤ (seg S ++ y).length → RH c n b a0 u0 sh nm (nI (b + (a0 + (seg S ++ y).length))) u S y → P_M_expression_25 post (301 - x) (nI (d + dp S)) m3 0 (nI x) u
section MWA
variable {c : Nat → Nat} {n b a0 : Nat} {u0 : MS} {sh : List Nat} {nm : List Nx}
/-- a part, its value, a place -/
def vN (u : MS) (hi nv : Nat) (kd f t : Int32) (pos : Int32) : MS := sI (newV (newP u hi kd f t (-1) (-1)) nv (nI hi)) 9 pos
theorem vN_i {u : MS} {hi nv : Nat} {kd f t pos : Int32} {k : Nat} (h1 : k ≠ 9) (h2 : k ≠ 25) (h3 : k ≠ 18) : gI (vN u hi nv kd f t pos) k = gI u k := by
  unfold vN
  rw [gI_sI, if_neg h1, newV_i h2, newP_i h3]
theorem vN_a {u : MS} {hi nv : Nat} {kd f t pos : Int32} {k i : Nat} (h1 : i ≠ hi ∨ k < 19 ∨ 24 < k) (h2 : i ≠ nv ∨ k ≠ 26) : gA (vN u hi nv kd f t pos) k i = gA u k i := by
  unfold vN
  rw [gA_sI, newV_a h2, newP_a h1]
theorem vN_km {u : MS} {hi nv : Nat} {kd f t pos : Int32} : KM u (vN u hi nv kd f t pos) := (newP_km.tr newV_km).i _ rfl
theorem vN_eqs {u : MS} {hi nv ns : Nat} {kd f t pos : Int32} : EqS u (vN u hi nv kd f t pos) ns nv hi := ⟨fun f q1 q2 i q3 => vN_a (by omega) (by omega), fun i hi' => vN_a (by omega) (by omega), fun f q1 q2 i q3 q4 => vN_a (by omega) (by omega)⟩
theorem vN_at {u : MS} {hi nv : Nat} {kd f t pos : Int32} : gA (vN u hi nv kd f t pos) 24 hi = kd ∧ gA (vN u hi nv kd f t pos) 19 hi = f ∧ gA (vN u hi nv kd f t pos) 20 hi = t ∧ gA (vN u hi nv kd f t pos) 21 hi = -1 ∧ gA (vN u hi nv kd f t pos) 23 hi = -1 := by
  unfold vN
  refine ⟨?_, ?_, ?_, ?_, ?_⟩ <;> rw [gA_sI, newV_a (by omega), newP_A] <;> simp
theorem vN_26 {u : MS} {hi nv : Nat} {kd f t pos : Int32} : gA (vN u hi nv kd f t pos) 26 nv = nI hi := by
  unfold vN
  rw [gA_sI, newV_A, if_pos ⟨rfl, rfl⟩]
theorem vN_25 {u : MS} {hi nv : Nat} {kd f t pos : Int32} : gI (vN u hi nv kd f t pos) 25 = nI (nv + 1) := by
  unfold vN
  rw [gI_sI, if_neg (by decide), newV_I, if_pos rfl]
theorem vN_18 {u : MS} {hi nv : Nat} {kd f t pos : Int32} : gI (vN u hi nv kd f t pos) 18 = nI (hi + 1) := by
  unfold vN
  rw [gI_sI, if_neg (by decide), newV_i (by decide), newP_I, if_pos rfl]
theorem vN_sc {u : MS} {hi nv : Nat} {kd f t pos : Int32} {Y : List Tz} (km : KM u0 u) (hY : a0 + Y.length ≤ n) (h10 : gI u 10 = nI sh.length) (hsh : Sh u sh) (h12 : gI u 12 = nI (nm ++ nmsZ 0 a0 Y).length) (hnm : Nm c u (nm ++ nmsZ 0 a0 Y)) : Sc c n b a0 u0 sh nm pos (vN u hi nv kd f t pos) Y := by
  refine ⟨km.tr vN_km, hY, by unfold vN; rw [gI_sI, if_pos rfl], (vN_i (by decide) (by decide) (by decide)).trans h10, fun j x hj => (vN_a (by omega) (by omega)).trans (hsh j x hj), (vN_i (by decide) (by decide) (by decide)).trans h12, fun j q hj => ?_⟩
  have := hnm j q hj
  exact ⟨this.1, (vN_a (by omega) (by omega)).trans this.2.1, (vN_a (by omega) (by omega)).trans this.2.2⟩
theorem leaf_RH {u : MS} {S : List Fm} {Z : List Tz} {nv hi : Nat} {pos : Int32} (hn : n ≤ 80) (rs : RepS c n b a0 u S nv hi) (h27 : gI u 27 = nI S.length) (km : KM u0 u) (hY : a0 + (seg S ++ Z).length ≤ n) (h10 : gI u 10 = nI sh.length) (hsh : Sh u sh) (h12 : gI u 12 = nI (nm ++ nmsZ 0 a0 (seg S ++ Z)).length) (hnm : Nm c u (nm ++ nmsZ 0 a0 (seg S ++ Z))) (hZ : 0 < Z.length) (hs : shZ c (a0 + (seg S).length) Z = sgN c Z.length (a0 + (seg S).length)) : RH c n b a0 u0 sh nm pos (vN u hi nv 0 (nI (b + (a0 + (seg S).length))) (nI (b + (a0 + (seg S).length + Z.length))) pos) S Z := by
  have hb := RepS.bd _ _ _ rs
  have hY' := hY
  rw [List.length_append] at hY'
  obtain ⟨a1, a2, a3, a4, a5⟩ := vN_at (u := u) (hi := hi) (nv := nv) (kd := 0) (f := nI (b + (a0 + (seg S).length))) (t := nI (b + (a0 + (seg S).length + Z.length))) (pos := pos)
  exact ⟨vN_sc km hY h10 hsh h12 hnm, nv, hi, hi + 1, RepS.fr S nv hi rs vN_eqs, ⟨hi, vN_26, Pr0.leaf (by omega) (by omega) rfl hZ hs a1 a2 a3 a5⟩, vN_25, (vN_i (by decide) (by decide) (by decide)).trans h27, vN_18⟩
theorem nm_sh {a m role : Nat} (hr : role ≠ 5) (hl : lr (c a) = true) : shZ c a (nmZ c role a ++ zn m) = sgN c (alN c 6 a - a + m) a := by
  have hlt := alN_lt hl
  have e1 : shZ c a (nmZ c role a) = sgN c (alN c 6 a - a) a := by
    rw [show alN c 6 a - a = (alN c 6 a - a - 1) + 1 by omega]
    simp only [nmZ, shZ, shZ_zn, sgN]
    rw [if_neg hr]
    rfl
  have e2 : ∀ (k m a : Nat), sgN c k a ++ sgN c m (a + k) = sgN c (k + m) a := by
    intro k
    induction k with
    | zero => intro m a; simp [sgN]
    | succ k ih =>
      intro m a
      have := ih m (a + 1)
      rw [show k + 1 + m = (k + m) + 1 by omega]
      simp only [sgN, List.cons_append]
      rw [← this, show a + 1 + k = a + (k + 1) by omega]
  rw [shZ_app, e1, shZ_zn, nmZ_len hl, ← e2, show a + (alN c 6 a - a) = alN c 6 a by omega]
theorem sgN_app (c : Nat → Nat) : ∀ (k m a : Nat), sgN c (k + m) a = sgN c k a ++ sgN c m (a + k) := by
  intro k
  induction k with
  | zero => intro m a; simp [sgN]
  | succ k ih =>
    intro m a
    rw [show k + 1 + m = (k + m) + 1 by omega]
    simp only [sgN, List.cons_append]
    rw [ih, show a + 1 + k = a + (k + 1) by omega]
def wBad (c : Nat → Nat) (D : Nat) (S : List Fm) (p : Nat) : Prop := ¬ p < numE c p ∧ ((lr (c p) = true ∧ c (alN c 6 p) = 40 ∧ D = 8) ∨ (c p = 39 ∧ qtN c 81 (p + 1) = none) ∨ (c p = 40 ∧ D = 8) ∨ (¬ lr (c p) = true ∧ c p ≠ 39 ∧ c p ≠ 40 ∧ dtC c p ≠ 20 ∧ ¬ (dtC c p = 3 ∧ may S = 2) ∧ ¬ (dtC c p ≠ 3 ∧ (c p = 43 ∨ c p = 45) ∧ 0 < may S)))
theorem wanted_of {post : Int32 → MS → Prop} {u : MS} {S : List Fm} {D : Nat} {p : Nat} (o : Os c n b u0 a0 sh nm) (h : RW c n b a0 u0 sh nm u S) (hp : p = a0 + (seg S).length) (hF : wBad c D S p → ∀ v, Of c u0 v sh nm → post (-1) v)
    (h1 : p < numE c p → ∀ v, RH c n b a0 u0 sh nm (nI (b + (a0 + (seg S ++ zn (numE c p - p)).length))) v S (zn (numE c p - p)) → post 1 v)
    (h2 : ¬ p < numE c p → lr (c p) = true → (¬ c (alN c 6 p) = 40 → ∀ v, RH c n b a0 u0 sh nm (nI (b + (a0 + (seg S ++ nmZ c 4 p).length))) v S (nmZ c 4 p) → post 1 v) ∧ (c (alN c 6 p) = 40 → D < 8 → (c (alN c 6 p + 1) = 41 → ∀ v, RH c n b a0 u0 sh nm (nI (b + (a0 + (seg S ++ (nmZ c 3 p ++ zn 2)).length))) v S (nmZ c 3 p ++ zn 2) → post 1 v) ∧ (¬ c (alN c 6 p + 1) = 41 → ∀ v, RW c n b a0 u0 sh nm v ((9, nmZ c 3 p ++ zn 1, 0) :: S) → post 0 v)))
    (h3 : c p = 39 → ∀ e, qtN c 81 (p + 1) = some e → ∀ v, RH c n b a0 u0 sh nm (nI (b + (a0 + (seg S ++ zn (e - p)).length))) v S (zn (e - p)) → post 1 v)
    (h4 : c p = 40 → D < 8 → ∀ v, RW c n b a0 u0 sh nm v ((8, [], 0) :: S) → post 0 v)
    (h5 : ¬ p < numE c p → dtC c p = 20 → ∀ m, (st c p (wS 19) = true ∧ m = 6 ∨ st c p (wS 20) = true ∧ m = 7) → ∀ v, RH c n b a0 u0 sh nm (nI (b + (a0 + (seg S ++ zn m).length))) v S (zn m) → post 1 v)
    (h6 : dtC c p = 3 → may S = 2 → ∀ v, RW c n b a0 u0 sh nm v ((3, [], 5) :: S) → post 0 v)
    (h7 : c p = 43 ∨ c p = 45 → 0 < may S → ∀ v, RW c n b a0 u0 sh nm v ((5, [], 1) :: S) → post 0 v) (hD : D ≤ 8) : P_M_wanted post (nI (may S)) (nI D) u := by
  obtain ⟨sc, nv, hi, rs, h25, h27, h18⟩ := h
  obtain ⟨km, hlen, h9, h10, hsh, h12, hnm⟩ := sc
  have t := o.1.of km
  have h80 := t.1
  have h19 := t.2.1
  have hb := RepS.bd _ _ _ rs
  have hpn : p ≤ n := by omega
  have h9' : gI u 9 = nI (b + p) := by rw [h9, hp]
  have cq : ∀ (i x : Nat), x < 256 → (nI (c i) = nI x ↔ c i = x) := fun i x hx => nI_eq (by have := t.lt i; omega) (by omega)
  have off : Of c u0 u sh nm := ⟨km, hsh, fun j q hj => hnm j q (by rw [List.getElem?_append_left (List.getElem?_eq_some_iff.mp hj).1]; exact hj)⟩
  -- a part without names, up to e
  have leaf : ∀ (m : Nat), 0 < m → p + m ≤ n → (∀ v, RH c n b a0 u0 sh nm (nI (b + (a0 + (seg S ++ zn m).length))) v S (zn m) → post 1 v) → ∀ K : MS → Prop, (K (vN u hi nv 0 (nI (b + p)) (nI (b + (p + m))) (nI (b + (p + m)))) ↔ post 1 (vN u hi nv 0 (nI (b + p)) (nI (b + (p + m))) (nI (b + (p + m))))) → K (vN u hi nv 0 (nI (b + p)) (nI (b + (p + m))) (nI (b + (p + m)))) := by
    intro m hm hpm hq K hK
    have e1 : (seg S ++ zn m).length = (seg S).length + m := by rw [List.length_append, zn_len]
    have e2 : nmsZ 0 a0 (seg S ++ zn m) = nmsZ 0 a0 (seg S) := by rw [nmsZ_app, nmsZ_zn, List.append_nil]
    have q := leaf_RH (pos := nI (b + (a0 + (seg S ++ zn m).length))) (Z := zn m) h80 rs h27 km (by rw [e1]; omega) h10 hsh (by rw [e2]; exact h12) (by rw [e2]; exact hnm) (by rw [zn_len]; exact hm) (by rw [shZ_zn, zn_len])
    have q2 := hq _ q
    rw [e1, zn_len, ← hp, show a0 + ((seg S).length + m) = p + m by omega] at q2
    exact hK.mpr q2
  unfold P_M_wanted
  rw [h9', t.v (by omega)]
  refine ⟨t.q (by omega), fun v1 ev => ?_⟩
  subst ev
  refine numberEnd_of t hpn ?_
  rw [h9']
  refine nameEnd_of t (by omega) ?_
  rw [h9']
  have hnE : numE c p ≤ n := by
    have t2 : p ≤ numD c p ∧ numD c p ≤ n := by
      have h1' := dgN_le (c := c) 81 p
      have h2' := dgN_n (c := c) t.2.2.2.2.2 81 p hpn
      have e1 : dgN c 81 p = dgE c p := rfl
      unfold numD
      split
      · rename_i hq
        have h3' : st c (dgE c p) (wS 5) = true := (Bool.and_eq_true_iff.mp hq).1
        have h4' := st_in t.2.2.2.2.2 (wS 5) (dgE c p) (by decide +kernel) (wS_pos 5 (by decide)) h3'
        have h5' : (wS 5).length = 1 := by decide +kernel
        have h6' := dgN_le (c := c) 81 (dgE c p + 1)
        have h7' := dgN_n (c := c) t.2.2.2.2.2 81 (dgE c p + 1) (by omega)
        have e2 : dgN c 81 (dgE c p + 1) = dgE c (dgE c p + 1) := rfl
        split <;> omega
      · omega
    unfold numE
    split
    · unfold expE exD
      split
      · rename_i hE
        have hn1 : numD c p < n := t.in (by omega)
        have h3' := dgN_n (c := c) t.2.2.2.2.2 81 (numD c p + 1) (by omega)
        have e3 : dgN c 81 (numD c p + 1) = dgE c (numD c p + 1) := rfl
        split
        · rename_i hq
          have h4' : numD c p + 2 ≤ n := by
            rcases Bool.or_eq_true_iff.mp hq with hq | hq
            · have := st_in t.2.2.2.2.2 (wS 17) (numD c p) (by decide +kernel) (wS_pos 17 (by decide)) hq
              rw [show (wS 17).length = 2 by decide +kernel] at this
              exact this
            · have := st_in t.2.2.2.2.2 (wS 18) (numD c p) (by decide +kernel) (wS_pos 18 (by decide)) hq
              rw [show (wS 18).length = 2 by decide +kernel] at this
              exact this
          have h5' := dgN_n (c := c) t.2.2.2.2.2 81 (numD c p + 2) h4'
          have e4 : dgN c 81 (numD c p + 2) = dgE c (numD c p + 2) := rfl
          split <;> omega
        · split <;> omega
      · omega
    · exact hpn
  rw [nI_leI (by omega) (by omega)]
  refine ⟨fun hnum => ?_, fun hnum => ?_⟩
  · have hnum' : ¬ p < numE c p := by omega
    have hal := alN_n t.2.2.2.2.2 6 p hpn
    have hnm9 : nmE c p ≤ n := by
      unfold nmE
      split <;> omega
    rw [nI_leI (by omega) (by omega)]
    refine ⟨fun hname => ?_, fun hname => ?_⟩
    · have hlr : ¬ lr (c p) = true := fun hl => by
        have := alN_lt hl
        unfold nmE at hname
        rw [if_pos hl] at hname
        omega
      rw [show (39 : Int32) = nI 39 from rfl, show (40 : Int32) = nI 40 from rfl, show (43 : Int32) = nI 43 from rfl, show (45 : Int32) = nI 45 from rfl, cq _ _ (by decide), cq _ _ (by decide), cq _ _ (by decide), cq _ _ (by decide)]
      refine ⟨fun h39 => ⟨fun h40 => ?_, fun h40 => ?_⟩, fun h39 => ?_⟩
      · refine dots_of t (by omega) ?_
        have hd100 : dtC c p < 100 := by
          by_cases h0 : dtC c p = 0
          · omega
          · obtain ⟨q, hq, e2, _⟩ := (dt_iff (k := p) h0).mp rfl
            have := (by decide : ∀ q ∈ dtW, q.2 < 100) q hq
            omega
        rw [show (20 : Int32) = nI 20 from rfl, show (3 : Int32) = nI 3 from rfl, nI_eq (by omega) (by decide), nI_eq (by omega) (by decide)]
        have h407 : (c p = 43 ∨ c p = 45) → ¬ dtC c p = 20 → ¬ dtC c p = 3 → P_M_wanted_407 post (nI (may S)) (nI (dtC c p)) u := by
          intro hc hd20 hd
          have hm2 : may S ≤ 2 := by
            unfold may
            split
            · omega
            · split
              · omega
              · split <;> omega
          have f3 : ¬ nI (dtC c p) = 3 := fun e => hd ((nI_eq (b := 3) (by omega) (by decide)).mp e)
          have hpn1 : p < n := t.in (by omega)
          refine ⟨fun h0 => ?_, fun h0 => ?_⟩
          · have hm0 : may S = 0 := by
              have : may S ≤ 0 := (nI_leI (b := 0) (by omega) (by decide)).mp h0
              omega
            exact ⟨fun e => absurd rfl e, fun _ => hF ⟨hnum', Or.inr (Or.inr (Or.inr ⟨hlr, h39, h40, hd20, fun q => hd q.1, fun q => by omega⟩))⟩ u off⟩
          · refine ⟨fun _ => ⟨fun _ => ⟨fun _ => ?_, fun e => absurd e f3⟩, fun e => absurd e f3⟩, fun e => absurd e (by decide)⟩
            unfold P_M_wanted_462
            rw [h9', nI_1]
            refine push_of h27 (by omega) (by decide) ?_
            have hm0 : 0 < may S := by
              have : ¬ may S ≤ 0 := fun q => h0 ((nI_leI (b := 0) (by omega) (by decide)).mpr q)
              omega
            have eY : (seg ((5, [], 1) :: S)).length = (seg S).length + 1 := by
              show (seg S ++ fY (5, [], 1)).length = _
              rw [List.length_append]; rfl
            have eN : nmsZ 0 a0 (seg ((5, [], 1) :: S)) = nmsZ 0 a0 (seg S) := by
              show nmsZ 0 a0 (seg S ++ zn 1) = _
              rw [nmsZ_app, nmsZ_zn, List.append_nil]
            refine h7 hc hm0 _ ⟨⟨km.tr (newS_km.i _ rfl), by rw [eY]; omega, by rw [gI_sI, if_pos rfl, eY]; congr 1; omega, ?_, ?_, ?_, ?_⟩, nv, hi, ⟨?_, Or.inl ⟨by decide, by decide, by decide, rfl, ?_, ?_, ?_, RepS.fr S nv hi rs ⟨fun f q1 q2 i q3 => ?_, fun i hi' => ?_, fun f q1 q2 i q3 q4 => ?_⟩⟩⟩, ?_, ?_, ?_⟩
            · rw [gI_sI, if_neg (by decide), newS_i (by decide)]; exact h10
            · intro j x hj; rw [gA_sI, newS_a (by omega)]; exact hsh j x hj
            · rw [gI_sI, if_neg (by decide), newS_i (by decide), eN]; exact h12
            · intro j q hj
              rw [eN] at hj
              have := hnm j q hj
              exact ⟨this.1, by rw [gA_sI, newS_a (by omega)]; exact this.2.1, by rw [gA_sI, newS_a (by omega)]; exact this.2.2⟩
            · rw [gA_sI, newS_A]; simp; rfl
            · rw [gA_sI, newS_A]; simp
            · rw [gA_sI, newS_A, hp]; simp
            · rw [gA_sI, newS_A, hp]; simp [Nat.add_assoc]
            · rw [gA_sI, newS_a (by omega)]
            · rw [gA_sI, newS_a (by omega)]
            · rw [gA_sI, newS_a (by omega)]
            · rw [gI_sI, if_neg (by decide), newS_i (by decide)]; exact h25
            · rw [gI_sI, if_neg (by decide), newS_I, if_pos rfl]; rfl
            · rw [gI_sI, if_neg (by decide), newS_i (by decide)]; exact h18
        refine ⟨fun h20 => ⟨fun hd3 => ⟨fun h43 => h407 (Or.inl h43) h20 hd3, fun h43 => ⟨fun h45 => ?_, fun h45 => h407 (Or.inr h45) h20 hd3⟩⟩, fun hd3 => ⟨fun hm => ?_, fun hm => ?_⟩⟩, fun h20 => ?_⟩
        · exact ⟨fun e => absurd rfl e, fun _ => hF ⟨hnum', Or.inr (Or.inr (Or.inr ⟨hlr, h39, h40, h20, fun q => hd3 q.1, fun q => by omega⟩))⟩ u off⟩
        · have hmn : ¬ may S = 2 := fun e => hm (by rw [e]; rfl)
          exact ⟨fun e => absurd rfl e, fun _ => hF ⟨hnum', Or.inr (Or.inr (Or.inr ⟨hlr, h39, h40, h20, fun q => hmn q.2, fun q => q.1 hd3⟩))⟩ u off⟩
        · refine ⟨fun _ => ⟨fun e => absurd (by rw [hd3]; rfl) e, fun _ => ?_⟩, fun e => absurd e (by decide)⟩
          rw [h9']
          have hm2 : may S ≤ 2 := by
            unfold may
            split
            · omega
            · split
              · omega
              · split <;> omega
          have hmay : may S = 2 := (nI_eq (b := 2) (by omega) (by decide)).mp hm
          refine dotted_dt t (by omega) (by omega) (fun q hq e2 hs => ?_)
          have hq5 : (46 :: (q.1.reverse ++ [46])).length = 5 := by
            have : ∀ q ∈ dtW, q.2 = 3 → (46 :: (q.1.reverse ++ [46])).length = 5 := by decide
            exact this q hq (e2.trans hd3)
          have hp5 : p + 5 ≤ n := by
            have := st_in t.2.2.2.2.2 _ p (by simp) (by
              intro x hx
              have h6' := (dtW_ok q hq).1
              simp only [List.mem_cons, List.mem_append, List.mem_reverse, List.not_mem_nil, or_false] at hx
              rcases hx with rfl | hx | rfl
              · decide
              · have := h6' x hx
                unfold lr at this
                have a1 := of_decide_eq_true (Bool.and_eq_true_iff.mp this).1
                have a2 := of_decide_eq_true (Bool.and_eq_true_iff.mp this).2
                omega
              · decide) hs
            rw [hq5] at this
            exact this
          rw [hq5]
          refine ⟨fun e => absurd (by rw [hd3]; rfl) e, fun _ => ?_⟩
          unfold P_M_wanted_462
          rw [h9']
          refine push_of h27 (by omega) (by decide) ?_
          have eY : (seg ((3, [], 5) :: S)).length = (seg S).length + 5 := by
            show (seg S ++ fY (3, [], 5)).length = _
            rw [List.length_append]; rfl
          have eN : nmsZ 0 a0 (seg ((3, [], 5) :: S)) = nmsZ 0 a0 (seg S) := by
            show nmsZ 0 a0 (seg S ++ zn 5) = _
            rw [nmsZ_app, nmsZ_zn, List.append_nil]
          refine h6 hd3 hmay _ ⟨⟨km.tr (newS_km.i _ rfl), by rw [eY]; omega, by rw [gI_sI, if_pos rfl, eY]; congr 1; omega, ?_, ?_, ?_, ?_⟩, nv, hi, ⟨?_, Or.inl ⟨by decide, by decide, by decide, rfl, ?_, ?_, ?_, RepS.fr S nv hi rs ⟨fun f q1 q2 i q3 => ?_, fun i hi' => ?_, fun f q1 q2 i q3 q4 => ?_⟩⟩⟩, ?_, ?_, ?_⟩
          · rw [gI_sI, if_neg (by decide), newS_i (by decide)]; exact h10
          · intro j x hj; rw [gA_sI, newS_a (by omega)]; exact hsh j x hj
          · rw [gI_sI, if_neg (by decide), newS_i (by decide), eN]; exact h12
          · intro j q hj
            rw [eN] at hj
            have := hnm j q hj
            exact ⟨this.1, by rw [gA_sI, newS_a (by omega)]; exact this.2.1, by rw [gA_sI, newS_a (by omega)]; exact this.2.2⟩
          · rw [gA_sI, newS_A]; simp; rfl
          · rw [gA_sI, newS_A]; simp
          · rw [gA_sI, newS_A, hp]; simp
          · rw [gA_sI, newS_A, hp]; simp
          · rw [gA_sI, newS_a (by omega)]
          · rw [gA_sI, newS_a (by omega)]
          · rw [gA_sI, newS_a (by omega)]
          · rw [gI_sI, if_neg (by decide), newS_i (by decide)]; exact h25
          · rw [gI_sI, if_neg (by decide), newS_I, if_pos rfl]; rfl
          · rw [gI_sI, if_neg (by decide), newS_i (by decide)]; exact h18
        · rw [h9']
          refine dotted_dt t (by omega) (by omega) (fun q hq e2 hs => ?_)
          have hq6 : (q.1 = [69, 85, 82, 84] ∧ (46 :: (q.1.reverse ++ [46])).length = 6 ∨ q.1 = [69, 83, 76, 65, 70] ∧ (46 :: (q.1.reverse ++ [46])).length = 7) := by
            have : ∀ q ∈ dtW, q.2 = 20 → (q.1 = [69, 85, 82, 84] ∧ (46 :: (q.1.reverse ++ [46])).length = 6 ∨ q.1 = [69, 83, 76, 65, 70] ∧ (46 :: (q.1.reverse ++ [46])).length = 7) := by decide
            exact this q hq (e2.trans h20)
          obtain ⟨m, hm, hmm, hm0⟩ : ∃ m, (46 :: (q.1.reverse ++ [46])).length = m ∧ (st c p (wS 19) = true ∧ m = 6 ∨ st c p (wS 20) = true ∧ m = 7) ∧ (m = 6 ∨ m = 7) := by
            rcases hq6 with ⟨e, l⟩ | ⟨e, l⟩
            · refine ⟨6, l, Or.inl ⟨?_, rfl⟩, Or.inl rfl⟩
              rw [e] at hs
              exact hs
            · refine ⟨7, l, Or.inr ⟨?_, rfl⟩, Or.inr rfl⟩
              rw [e] at hs
              exact hs
          have hpm : p + m ≤ n := by
            rcases hmm with ⟨hs', e⟩ | ⟨hs', e⟩
            · have := st_in t.2.2.2.2.2 (wS 19) p (by decide +kernel) (wS_pos 19 (by decide)) hs'
              rw [show (wS 19).length = 6 by decide +kernel] at this
              omega
            · have := st_in t.2.2.2.2.2 (wS 20) p (by decide +kernel) (wS_pos 20 (by decide)) hs'
              rw [show (wS 20).length = 7 by decide +kernel] at this
              omega
          rw [hm]
          refine part_of h18 (by omega) (value_of (nv := nv) (by rw [newP_i (by decide)]; exact h25) (by omega) ?_)
          have e9 : gI (newV (newP u hi 0 (nI (b + p)) (nI (b + (p + m))) (-1) (-1)) nv (nI hi)) 9 = nI (b + p) := by
            rw [newV_i (by decide), newP_i (by decide)]; exact h9'
          rw [e9]
          have t3 : MT c n b (newV (newP u hi 0 (nI (b + p)) (nI (b + (p + m))) (-1) (-1)) nv (nI hi)) := t.of (newP_km.tr newV_km)
          refine dotted_dt t3 (by omega) (by omega) (fun q' hq' e2' hs' => ?_)
          have e10 : (46 :: (q'.1.reverse ++ [46])).length = m := by
            have k1 : lts c 6 (p + 1) [] = q.1 := by
              have hs2 := hs
              simp only [st, Bool.and_eq_true, decide_eq_true_eq] at hs2
              have := lts_st q.1.reverse 6 (p + 1) [] (fun x hx => (dtW_ok q hq).1 x (List.mem_reverse.mp hx)) (by rw [List.length_reverse]; exact (dtW_ok q hq).2.1) hs2.2
              simpa using this
            have k2 : lts c 6 (p + 1) [] = q'.1 := by
              have hs2 := hs'
              simp only [st, Bool.and_eq_true, decide_eq_true_eq] at hs2
              have := lts_st q'.1.reverse 6 (p + 1) [] (fun x hx => (dtW_ok q' hq').1 x (List.mem_reverse.mp hx)) (by rw [List.length_reverse]; exact (dtW_ok q' hq').2.1) hs2.2
              simpa using this
            rw [← k2, k1]
            exact hm
          rw [e10]
          exact leaf m (by omega) hpm (h5 hnum' h20 m hmm) (fun v => post 1 v) Iff.rfl
      · -- a group
        have hpn1 : p < n := t.in (by omega)
        rw [nI_1]
        have e8 : (nI D = 8) ↔ D = 8 := nI_eq (b := 8) (by omega) (by decide)
        refine push_of (u := sI u 9 (nI (b + p + 1))) h27 (by omega) (by decide) ?_
        rw [e8]
        have eY : (seg ((8, [], 0) :: S)).length = (seg S).length + 1 := by
          show (seg S ++ fY (8, [], 0)).length = _
          rw [List.length_append]; rfl
        have eN : nmsZ 0 a0 (seg ((8, [], 0) :: S)) = nmsZ 0 a0 (seg S) := by
          show nmsZ 0 a0 (seg S ++ [(0, 5, 0)]) = _
          rw [nmsZ_app]
          simp [nmsZ]
        have kk : KM u (newS (sI u 9 (nI (b + p + 1))) S.length 8 0 0 0) := ((KM.refl u).i _ rfl).tr newS_km
        have gi : ∀ k, k ≠ 27 → k ≠ 9 → gI (newS (sI u 9 (nI (b + p + 1))) S.length 8 0 0 0) k = gI u k := fun k q1 q2 => by rw [newS_i q1, gI_sI, if_neg q2]
        have ga : ∀ k i, (i ≠ S.length ∨ k < 28 ∨ 31 < k) → gA (newS (sI u 9 (nI (b + p + 1))) S.length 8 0 0 0) k i = gA u k i := fun k i q1 => by rw [newS_a q1, gA_sI]
        refine ⟨fun h8 => h4 h40 (by omega) _ ⟨⟨km.tr kk, by rw [eY]; omega, by rw [newS_i (by decide), gI_sI, if_pos rfl, eY]; congr 1; omega, (gi 10 (by decide) (by decide)).trans h10, fun j x hj => (ga 11 j (by omega)).trans (hsh j x hj), by rw [eN]; exact (gi 12 (by decide) (by decide)).trans h12, fun j q hj => ?_⟩, nv, hi, ⟨?_, Or.inr (Or.inr (Or.inl ⟨rfl, RepS.fr S nv hi rs ⟨fun f q1 q2 i q3 => ga f i (by omega), fun i hi' => ga 26 i (by omega), fun f q1 q2 i q3 q4 => ga f i (by omega)⟩⟩))⟩, (gi 25 (by decide) (by decide)).trans h25, ?_, (gi 18 (by decide) (by decide)).trans h18⟩, fun h8 => hF ⟨hnum', Or.inr (Or.inr (Or.inl ⟨h40, h8⟩))⟩ _ ⟨km.tr kk, fun j x hj => (ga 11 j (by omega)).trans (hsh j x hj), fun j q hj => ?_⟩⟩
        · rw [eN] at hj
          have := hnm j q hj
          exact ⟨this.1, (ga 14 j (by omega)).trans this.2.1, (ga 15 j (by omega)).trans this.2.2⟩
        · rw [newS_A]; simp; rfl
        · rw [newS_I, if_pos rfl]; rfl
        · have := off.2.2 j q hj
          exact ⟨this.1, (ga 14 j (by omega)).trans this.2.1, (ga 15 j (by omega)).trans this.2.2⟩
      · -- a quote
        intro v19 e19
        rw [nI_1, show b + p + 1 = b + (p + 1) by omega] at e19
        subst e19
        have hpn1 : p < n := t.in (by omega)
        have q245 : ∀ k, p < k → k < n → qtN c 81 (p + 1) = some (k + 1) → P_M_wanted_245 post (nI (b + k)) u := by
          intro k hk hkn he
          unfold P_M_wanted_245
          rw [t.2.2.2.1, nI_eq (by omega) (by omega)]
          refine ⟨fun _ => ?_, fun e => absurd e (by omega)⟩
          rw [nI_1, h9', show b + k + 1 = b + (p + (k + 1 - p)) by omega]
          refine part_of h18 (by omega) (value_of (nv := nv) (by rw [newP_i (by decide)]; exact h25) (by omega) ?_)
          exact leaf (k + 1 - p) (by omega) (by omega) (h3 h39 (k + 1) he) (fun v => post 1 v) Iff.rfl
        have q0 : qtN c 81 (p + 1) = none → P_M_wanted_245 post (nI (b + n)) u := by
          intro he
          unfold P_M_wanted_245
          rw [t.2.2.2.1]
          exact ⟨fun e => absurd rfl e, fun _ => hF ⟨hnum', Or.inr (Or.inl ⟨h39, he⟩)⟩ u off⟩
        have loop : ∀ (f k : Nat), p < k → k ≤ n → n ≤ k + f → qtN c (f + 1) k = qtN c 81 (p + 1) → P_M_wanted_218 post (f + 1) (nI (b + k)) u := by
          intro f
          induction f with
          | zero =>
            intro k hk hkn hf he
            have ek : k = n := by omega
            refine ⟨fun _ => ?_, fun h0 => absurd (by rw [t.2.2.2.1]; exact nI_le (by omega) (by omega)) h0⟩
            subst ek
            refine q0 ?_
            rw [← he]
            unfold qtN
            rw [if_pos (t.2.2.2.2.2 k (Nat.le_refl _))]
          | succ f ih =>
            intro k hk hkn hf he
            unfold qtN at he
            by_cases ek : k = n
            · refine ⟨fun _ => ?_, fun h0 => absurd (by rw [t.2.2.2.1]; exact nI_le (by omega) (by omega)) h0⟩
              rw [if_pos (t.2.2.2.2.2 k (by omega))] at he
              rw [ek]
              exact q0 he.symm
            · have hck := t.2.2.2.2.1 k (by omega)
              refine ⟨fun h0 => absurd h0 (by rw [t.2.2.2.1]; exact nI_ge (by omega) (by omega)), fun _ => ⟨vp_in_nI (by omega) (by decide), ?_⟩⟩
              rw [nI_clamp (by omega), hck.1, show (39 : Int32) = nI 39 from rfl, cq _ _ (by decide)]
              rw [if_neg (by omega)] at he
              refine ⟨fun h0 => ?_, fun h0 => ?_⟩
              · rw [if_pos h0] at he
                exact q245 k hk (by omega) he.symm
              · rw [if_neg h0] at he
                rw [nI_1, show b + k + 1 = b + (k + 1) by omega]
                exact ih (k + 1) (by omega) (by omega) (by omega) he
        exact ⟨81, loop 80 (p + 1) (by omega) (by omega) (by omega) rfl⟩
    · -- a name
      have hl : lr (c p) = true := by
        by_cases hl : lr (c p) = true
        · exact hl
        · unfold nmE at hname
          rw [if_neg hl] at hname
          omega
      have enm : nmE c p = alN c 6 p := by unfold nmE; rw [if_pos hl]
      have hlt := alN_lt hl
      have h2' := h2 hnum' hl
      rw [enm, t.v (by omega), show (40 : Int32) = nI 40 from rfl, cq _ _ (by decide)]
      have e8 : (nI D = 8) ↔ D = 8 := nI_eq (b := 8) (by omega) (by decide)
      have osu : Os c n b u p sh (nm ++ nmsZ 0 a0 (seg S)) := by
        refine ⟨t, hpn, h9', ⟨h10, by have := o.2.2.2.1.2.1; omega, hsh⟩, h12, ?_, hnm⟩
        have e1 := o.2.2.2.2.2.1
        have e2 : ∀ (Y : List Tz) (a : Nat), (nmsZ 0 a Y).length ≤ Y.length := by
          intro Y
          induction Y with
          | nil => intro a; simp [nmsZ]
          | cons t Y ih =>
            intro a
            have := ih (a + 1)
            simp only [nmsZ, List.length_append, List.length_cons]
            split <;> simp <;> omega
        have := e2 (seg S) a0
        rw [List.length_append]
        omega
      have enms : ∀ (role m : Nat), 1 ≤ role → role ≤ 4 → nmsZ 0 a0 (seg S ++ (nmZ c role p ++ zn m)) = nmsZ 0 a0 (seg S) ++ [(p, role, 0)] := by
        intro role m r1 r2
        rw [nmsZ_app, nmsZ_app, nmsZ_zn, List.append_nil, ← hp]
        congr 1
        simp only [nmZ, nmsZ, nmsZ_zn]
        rw [if_pos ⟨r1, r2⟩]
        rfl
      have elen : ∀ (role m : Nat), a0 + (seg S ++ (nmZ c role p ++ zn m)).length = alN c 6 p + m := by
        intro role m
        have := nmZ_len (role := role) hl
        rw [List.length_append, List.length_append, zn_len]
        omega
      refine ⟨t.q (by omega), fun h40 => ⟨fun _ => ?_, fun e => absurd rfl e⟩, fun h40 => ⟨fun e => absurd e (by decide), fun _ => ?_⟩⟩
      · unfold P_M_wanted_107
        rw [h9']
        refine use_of (how := 4) (ty := 0) osu hl (fun v kv g12 gnm => ⟨fun _ => ?_, fun e => absurd rfl e⟩)
        unfold P_M_wanted_123
        have v9 : gI v 9 = nI (b + p) := (kv.1 9 (by decide)).trans h9'
        have v18 : gI v 18 = nI hi := (kv.1 18 (by decide)).trans h18
        have v25 : gI v 25 = nI nv := (kv.1 25 (by decide)).trans h25
        rw [v9]
        refine part_of v18 (by omega) (value_of (nv := nv) (by rw [newP_i (by decide)]; exact v25) (by omega) ⟨fun e => absurd rfl e, fun _ => ?_⟩)
        have en := enms 4 0 (by decide) (by decide)
        have el := elen 4 0
        have e0 : nmZ c 4 p ++ zn 0 = nmZ c 4 p := List.append_nil _
        rw [e0] at en el
        rw [List.append_assoc, ← en] at g12 gnm
        have q := leaf_RH (pos := nI (b + (a0 + (seg S ++ nmZ c 4 p).length))) (Z := nmZ c 4 p) h80 (RepS.fr S nv hi rs ⟨fun f q1 q2 i q3 => kv.2 f (by omega) (by omega) i, fun i _ => kv.2 26 (by decide) (by decide) i, fun f q1 q2 i q3 q4 => kv.2 f (by omega) (by omega) i⟩) ((kv.1 27 (by decide)).trans h27) (km.tr kv.km) (by rw [el]; omega) ((kv.1 10 (by decide)).trans h10) (fun j x hj => (kv.2 11 (by decide) (by decide) j).trans (hsh j x hj)) g12 gnm (by simp [nmZ]) (by
          have := nm_sh (m := 0) (role := 4) (by decide) hl
          rw [e0, Nat.add_zero] at this
          rw [← hp, this]
          congr 1
          have := nmZ_len (role := 4) hl
          omega)
        have q2 := h2'.1 h40 _ q
        have el2 := nmZ_len (role := 4) hl
        rw [el, ← hp, el2, Nat.add_zero] at q2
        exact q2
      · unfold P_M_wanted_107
        rw [h9']
        refine use_of (how := 3) (ty := 0) osu hl (fun v kv g12 gnm => ⟨fun e => absurd e (by decide), fun _ => ?_⟩)
        unfold P_M_wanted_123
        have v9 : gI v 9 = nI (b + p) := (kv.1 9 (by decide)).trans h9'
        have v18 : gI v 18 = nI hi := (kv.1 18 (by decide)).trans h18
        have v25 : gI v 25 = nI nv := (kv.1 25 (by decide)).trans h25
        have hin : alN c 6 p < n := t.in (by omega)
        rw [v9]
        refine part_of v18 (by omega) (value_of (nv := nv) (by rw [newP_i (by decide)]; exact v25) (by omega) ⟨fun _ => ?_, fun e => absurd e (by decide)⟩)
        rw [e8]
        have kmv : KM u0 v := km.tr kv.km
        have nmv : Nm c v nm := fun j q hj => gnm j q (by rw [List.append_assoc, List.getElem?_append_left (List.getElem?_eq_some_iff.mp hj).1]; exact hj)
        have shv : Sh v sh := fun j x hj => (kv.2 11 (by decide) (by decide) j).trans (hsh j x hj)
        have rsv : RepS c n b a0 v S nv hi := RepS.fr S nv hi rs ⟨fun f q1 q2 i q3 => kv.2 f (by omega) (by omega) i, fun i _ => kv.2 26 (by decide) (by decide) i, fun f q1 q2 i q3 q4 => kv.2 f (by omega) (by omega) i⟩
        refine ⟨fun h8 => ?_, fun h8 => hF ⟨hnum', Or.inl ⟨hl, h40, h8⟩⟩ _ ⟨kmv.tr vN_km, fun j x hj => (vN_a (by omega) (by omega)).trans (shv j x hj), fun j q hj => ?_⟩⟩
        · rw [sI_sI, nI_1, nI_1, show b + alN c 6 p + 1 = b + (alN c 6 p + 1) by omega, show b + (alN c 6 p + 1) + 1 = b + (alN c 6 p + 2) by omega, sI_sI]
          have t4 : MT c n b (sI (newV (newP v hi 3 (nI (b + p)) (nI (b + alN c 6 p)) (-1) (-1)) nv (nI hi)) 9 (nI (b + (alN c 6 p + 1)))) := (t.of kv.km).of (vN_km (pos := nI (b + (alN c 6 p + 1))))
          rw [t4.v (by omega), show (41 : Int32) = nI 41 from rfl, cq _ _ (by decide)]
          have hsub := h2'.2 h40 (by omega)
          refine ⟨t4.q (by omega), fun h41 => ?_, fun h41 => ?_⟩
          · obtain ⟨a1, a2, a3, a4, a5⟩ := vN_at (u := v) (hi := hi) (nv := nv) (kd := 3) (f := nI (b + p)) (t := nI (b + alN c 6 p)) (pos := nI (b + (alN c 6 p + 1)))
            have f27 : gI (vN v hi nv 3 (nI (b + p)) (nI (b + alN c 6 p)) (nI (b + (alN c 6 p + 1)))) 27 = nI S.length := (vN_i (by decide) (by decide) (by decide)).trans ((kv.1 27 (by decide)).trans h27)
            refine push_of f27 (by omega) (by decide) ?_
            have en := enms 3 1 (by decide) (by decide)
            have el := elen 3 1
            have efY : fY (9, nmZ c 3 p ++ zn 1, 0) = nmZ c 3 p ++ zn 1 := rfl
            have eseg : seg ((9, nmZ c 3 p ++ zn 1, 0) :: S) = seg S ++ (nmZ c 3 p ++ zn 1) := rfl
            rw [List.append_assoc, ← en] at g12 gnm
            have scv := vN_sc (a0 := a0) (n := n) (b := b) (hi := hi) (nv := nv) (kd := 3) (f := nI (b + p)) (t := nI (b + alN c 6 p)) (pos := nI (b + (alN c 6 p + 1))) (Y := seg S ++ (nmZ c 3 p ++ zn 1)) kmv (by rw [el]; omega) ((kv.1 10 (by decide)).trans h10) shv g12 gnm
            have ga : ∀ k i, (i ≠ S.length ∨ k < 28 ∨ 31 < k) → gA (newS (vN v hi nv 3 (nI (b + p)) (nI (b + alN c 6 p)) (nI (b + (alN c 6 p + 1)))) S.length 9 0 0 0) k i = gA (vN v hi nv 3 (nI (b + p)) (nI (b + alN c 6 p)) (nI (b + (alN c 6 p + 1)))) k i := fun k i q => newS_a q
            have gi : ∀ k, k ≠ 27 → gI (newS (vN v hi nv 3 (nI (b + p)) (nI (b + alN c 6 p)) (nI (b + (alN c 6 p + 1)))) S.length 9 0 0 0) k = gI (vN v hi nv 3 (nI (b + p)) (nI (b + alN c 6 p)) (nI (b + (alN c 6 p + 1)))) k := fun k q => newS_i q
            have el3 := nmZ_len (role := 3) hl
            have hshX : shZ c p (nmZ c 3 p ++ zn 1) = sgN c (alN c 6 p - p) p ++ [40] := by
              rw [nm_sh (by decide) hl, sgN_app, show p + (alN c 6 p - p) = alN c 6 p by omega]
              simp [sgN, h40]
            refine hsub.2 h41 _ ⟨?_, nv + 1, hi + 1, ⟨?_, Or.inr (Or.inr (Or.inr ⟨rfl, nv, hi, rfl, RepS.fr S nv hi (RepS.fr S nv hi rsv vN_eqs) ⟨fun f q1 q2 i q3 => ga f i (by omega), fun i hi' => ga 26 i (by omega), fun f q1 q2 i q3 q4 => ga f i (by omega)⟩, (ga 26 nv (by omega)).trans vN_26, alN c 6 p - p, ⟨by omega, by omega, (ga 24 hi (by omega)).trans a1, ?_, ?_, (ga 23 hi (by omega)).trans a5⟩, by omega, by omega, ?_, ?_, Or.inl ⟨rfl, (ga 21 hi (by omega)).trans a4, ?_⟩⟩))⟩, (gi 25 (by decide)).trans vN_25, ?_, (gi 18 (by decide)).trans vN_18⟩
            · rw [eseg, el, show b + (alN c 6 p + 1) = b + (alN c 6 p + 1) from rfl]
              exact scv.fr newS_km (gi 9 (by decide)) (gi 10 (by decide)) (gi 12 (by decide)) (fun i => ga 11 i (by omega)) (fun i => ga 14 i (by omega)) (fun i => ga 15 i (by omega)) (fun i => rfl) rfl rfl
            · rw [newS_A]; simp; rfl
            · exact ((ga 19 hi (by omega)).trans a2).trans (by rw [hp])
            · exact ((ga 20 hi (by omega)).trans a3).trans (by rw [← hp]; congr 1; omega)
            · simp only [nmZ, List.length_append, List.length_cons, zn_len]; omega
            · rw [← hp, hshX]
              simp only [nmZ, List.length_append, List.length_cons, zn_len, sgN_len, List.length_nil]; omega
            · rw [← hp]; exact hshX
            · rw [newS_I, if_pos rfl]; rfl
          · obtain ⟨a1, a2, a3, a4, a5⟩ := vN_at (u := v) (hi := hi) (nv := nv) (kd := 3) (f := nI (b + p)) (t := nI (b + alN c 6 p)) (pos := nI (b + (alN c 6 p + 2)))
            have hin2 : alN c 6 p + 1 < n := t.in (by omega)
            have en := enms 3 2 (by decide) (by decide)
            have el := elen 3 2
            rw [List.append_assoc, ← en] at g12 gnm
            have scv := vN_sc (a0 := a0) (n := n) (b := b) (hi := hi) (nv := nv) (kd := 3) (f := nI (b + p)) (t := nI (b + alN c 6 p)) (pos := nI (b + (alN c 6 p + 2))) (Y := seg S ++ (nmZ c 3 p ++ zn 2)) kmv (by rw [el]; omega) ((kv.1 10 (by decide)).trans h10) shv g12 gnm
            have el3 := nmZ_len (role := 3) hl
            have hshX : shZ c p (nmZ c 3 p ++ zn 2) = sgN c (alN c 6 p - p) p ++ [40] ++ [41] := by
              rw [nm_sh (by decide) hl, sgN_app, show p + (alN c 6 p - p) = alN c 6 p by omega]
              simp [sgN, h40, h41]
            refine hsub.1 h41 _ ⟨by rw [el]; exact scv, nv, hi, hi + 1, RepS.fr S nv hi rsv vN_eqs, ⟨hi, vN_26, Pr0.none (m := alN c 6 p - p) ⟨by omega, by omega, a1, ?_, ?_, a5⟩ a4 ?_ ?_⟩, vN_25, (vN_i (by decide) (by decide) (by decide)).trans ((kv.1 27 (by decide)).trans h27), vN_18⟩
            · exact a2.trans (by rw [hp])
            · exact a3.trans (by rw [← hp]; congr 1; omega)
            · simp only [nmZ, List.length_append, List.length_cons, zn_len]; omega
            · rw [← hp]; exact hshX
        · have := nmv j q hj
          exact ⟨this.1, (vN_a (by omega) (by omega)).trans this.2.1, (vN_a (by omega) (by omega)).trans this.2.2⟩
  · have hlt : p < numE c p := by omega
    have e : numE c p = p + (numE c p - p) := by omega
    rw [e]
    refine part_of h18 (by omega) (value_of (nv := nv) (by rw [newP_i (by decide)]; exact h25) (by omega) ?_)
    exact leaf (numE c p - p) (by omega) (by omega) (h1 hlt) (fun v => post 1 v) Iff.rfl
end MWA
