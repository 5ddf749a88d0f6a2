/-! how the reference reads a statement -/
section MRD
variable {c : Nat → Nat} {n b : Nat}
theorem MT.kr {u v : MS} (t : MT c n b u) (h : KR u v) : MT c n b v := by
  refine ⟨t.1, t.2.1, (h.1 7 rfl (by decide)).trans t.2.2.1, (h.1 8 rfl (by decide)).trans t.2.2.2.1, fun i hi => ?_, t.2.2.2.2.2⟩
  rw [h.2 6 rfl (by decide)]
  exact t.2.2.2.2.1 i hi
/-- back to an earlier place -/
def rst (u : MS) (x y z : Int32) : MS := sI (sI (sI (sI u 9 x) 10 y) 12 z) 16 (0 : Int32)
theorem rst_i {u : MS} {x y z : Int32} {k : Nat} (h9 : k ≠ 9) (h10 : k ≠ 10) (h12 : k ≠ 12) (h16 : k ≠ 16) : gI (rst u x y z) k = gI u k := by
  unfold rst
  rw [gI_sI, if_neg h16, gI_sI, if_neg h12, gI_sI, if_neg h10, gI_sI, if_neg h9]
theorem rst_kr {u : MS} {x y z : Int32} : KR u (rst u x y z) := ⟨fun k hk q => by
    have h9 : k ≠ 9 := fun e => by subst e; exact absurd hk (by decide)
    have h10 : k ≠ 10 := fun e => by subst e; exact absurd hk (by decide)
    have h12 : k ≠ 12 := fun e => by subst e; exact absurd hk (by decide)
    exact rst_i h9 h10 h12 q, fun k hk q i => rfl⟩
theorem rst_os {u : MS} {p : Nat} {sh : List Nat} {nm : List Nx} (t : MT c n b u) (hp : p ≤ n) (h3 : sh.length ≤ 3 * p) (h4 : nm.length ≤ p) (hs : Sh u sh) (hn : Nm c u nm) : Os c n b (rst u (nI (b + p)) (nI sh.length) (nI nm.length)) p sh nm ∧ gI (rst u (nI (b + p)) (nI sh.length) (nI nm.length)) 16 = 0 := by
  refine ⟨⟨t.kr rst_kr, hp, ?_, ⟨?_, h3, hs⟩, ?_, h4, hn⟩, ?_⟩
  · unfold rst; rw [gI_sI, if_neg (by decide), gI_sI, if_neg (by decide), gI_sI, if_neg (by decide), gI_sI, if_pos rfl]
  · unfold rst; rw [gI_sI, if_neg (by decide), gI_sI, if_neg (by decide), gI_sI, if_pos rfl]
  · unfold rst; rw [gI_sI, if_neg (by decide), gI_sI, if_pos rfl]
  · unfold rst; rw [gI_sI, if_pos rfl]
theorem mayF_of {post : Int32 → Unit → Prop} {k : Nat} (hk : k ≤ 17) (h : post (if mayS k = true then 1 else 0) ()) : P_M_mayFollow post (nI k) () := by
  have key : ∀ k, k ≤ 17 → (mayS k = true → nI k = 2 ∨ (¬ nI k = 2 ∧ ((¬ nI k ≤ 8 ∧ nI k < 14) ∨ ((nI k ≤ 8 ∨ ¬ nI k < 14) ∧ nI k = 17)))) ∧ (¬ mayS k = true → ¬ nI k = 2 ∧ (nI k ≤ 8 ∨ ¬ nI k < 14) ∧ ¬ nI k = 17) := by decide +kernel
  have hk2 := key k hk
  unfold P_M_mayFollow P_M_mayFollow_17
  by_cases hm : mayS k = true
  · rw [if_pos hm] at h
    refine ⟨fun _ => h, fun h2 => ⟨fun h9 => ⟨fun h17 => ?_, fun _ => h⟩, fun h9 => ⟨fun _ => h, fun h13 => ⟨fun h17 => ?_, fun _ => h⟩⟩⟩⟩
    · rcases hk2.1 hm with q | ⟨_, q | q⟩
      · exact absurd q h2
      · exact absurd h9 q.1
      · exact absurd q.2 h17
    · rcases hk2.1 hm with q | ⟨_, q | q⟩
      · exact absurd q h2
      · exact absurd q.2 h13
      · exact absurd q.2 h17
  · rw [if_neg hm] at h
    obtain ⟨q1, q2, q3⟩ := hk2.2 hm
    refine ⟨fun e => absurd e q1, fun _ => ⟨fun _ => ⟨fun _ => h, fun e => absurd e q3⟩, fun h9 => ⟨fun h13 => ?_, fun _ => ⟨fun _ => h, fun e => absurd e q3⟩⟩⟩⟩
    rcases q2 with q | q
    · exact absurd q h9
    · exact absurd h13 q
theorem ftF_skip {a : Nat} : ∀ (f k : Nat) (g : Nat), (∀ j, k ≤ j → j < k + f → ∀ Z, ftP c j a = some Z → a + Z.length ≠ n) → ftF c n a (f + g) k = ftF c n a g (k + f) := by
  intro f
  induction f with
  | zero => intro k g _; rw [Nat.zero_add]; rfl
  | succ f ih =>
    intro k g h
    rw [show f + 1 + g = (f + g) + 1 by omega]
    conv => lhs; unfold ftF
    have h2 := ih (k + 1) g (fun j h1 h2 => h j (by omega) (by omega))
    rw [show k + 1 + f = k + (f + 1) by omega] at h2
    cases hF : ftP c k a with
    | none => exact h2
    | some Z =>
      simp only
      rw [if_neg (h k (Nat.le_refl _) (by omega) Z hF)]
      exact h2
theorem ftF_next {a f k : Nat} (h : ∀ Z, ftP c k a = some Z → a + Z.length ≠ n) : ftF c n a (f + 1) k = ftF c n a f (k + 1) := by
  have := ftF_skip (c := c) (n := n) (a := a) 1 k f (fun j h1 h2 => by
    have e : j = k := by omega
    subst e
    exact h)
  rw [Nat.add_comm 1 f] at this
  exact this
theorem ftF_hit {a f k : Nat} {Z : List Tz} (h : ftP c k a = some Z) (hl : a + Z.length = n) : ftF c n a (f + 1) k = some (k, Z) := by
  unfold ftF
  rw [h]
  simp only
  rw [if_pos hl]
theorem behind_loop {u : MS} {post : Int32 → MS → Prop} {a : Nat} {sh : List Nat} {nm : List Nx} (o : Os c n b u a sh nm) : ∀ (f k : Nat) (v : MS), k + f = 18 → 1 ≤ k → KR u v → Sh v sh → Nm c v nm → (∀ k' Z w, ftF c n a f k = some (k', Z) → mayS k' = true → KR u w → Os c n b w n (sh ++ shZ c a Z) (nm ++ nmsZ 0 a Z) → Am w (amZ c a Z) → post (nI k') w) → (∀ w, (∀ k' Z, ftF c n a f k = some (k', Z) → ¬ mayS k' = true) → KR u w → Sh w sh → Nm c w nm → post 0 w) → P_M_behind_18 post (f + 1) (nI (b + a)) (nI sh.length) (nI nm.length) (nI k) v := by
  intro f
  induction f with
  | zero =>
    intro k v hk h1 kv hs hn g1 g2
    exact ⟨fun _ => g2 v (fun k' Z h => absurd h (by simp [ftF])) kv hs hn, fun h0 => absurd (nI_le (a := 18) (by omega) (by omega)) h0⟩
  | succ f ih =>
    intro k v hk h1 kv hs hn g1 g2
    refine ⟨fun h0 => absurd h0 (nI_ge (b := 18) (by omega) (by decide)), fun _ => ?_⟩
    obtain ⟨or, h16⟩ := rst_os (p := a) (o.1.kr kv) o.2.1 o.2.2.2.1.2.1 o.2.2.2.2.2.1 hs hn
    have kr0 : KR u (rst v (nI (b + a)) (nI sh.length) (nI nm.length)) := kv.tr rst_kr
    refine simple_sim h1 (by omega) _ _ a sh nm or h16 (fun Z w hZ hend kw ow am => ⟨fun e => absurd e (by decide), fun _ => ?_⟩) (fun w hZ kw hs' hn' => ⟨fun _ => ?_, fun e => absurd rfl e⟩)
    · rw [ftF_hit hZ hend] at g1 g2
      refine mayF_of (by omega) ?_
      by_cases hm : mayS k = true
      · rw [if_pos hm]
        have h15 : k ≠ 15 := fun e => by rw [e] at hm; exact absurd hm (by decide)
        rw [if_neg h15] at ow
        exact ⟨fun e => absurd e (by decide), fun _ => g1 k Z w rfl hm (kr0.tr kw) ow am⟩
      · rw [if_neg hm]
        refine ⟨fun _ => g2 w (fun k' Z' h => ?_) (kr0.tr kw) (pre_sh ow.of.2.1) (pre_nm ow.of.2.2), fun e => absurd rfl e⟩
        cases h
        exact hm
    · rw [ftF_next hZ] at g1 g2
      rw [nI_1]
      exact ih (k + 1) w (by omega) (by omega) (kr0.tr kw) hs' hn' g1 g2
theorem behind_of {u : MS} {post : Int32 → MS → Prop} {a : Nat} {sh : List Nat} {nm : List Nx} (o : Os c n b u a sh nm) (g1 : ∀ k' Z w, FT c n a = some (k', Z) → mayS k' = true → KR u w → Os c n b w n (sh ++ shZ c a Z) (nm ++ nmsZ 0 a Z) → Am w (amZ c a Z) → post (nI k') w) (g2 : ∀ w, (∀ k' Z, FT c n a = some (k', Z) → ¬ mayS k' = true) → KR u w → Sh w sh → Nm c w nm → post 0 w) : P_M_behind post u := by
  intro v1 e1 v2 e2 v3 e3
  rw [o.2.2.1] at e1
  rw [o.2.2.2.1.1] at e2
  rw [o.2.2.2.2.1] at e3
  subst e1 e2 e3
  exact ⟨18, behind_loop o 17 1 u (by omega) (by omega) (KM.refl u).kr o.of.2.1 o.of.2.2 g1 g2⟩
theorem if_of {u : MS} {post : Int32 → MS → Prop} (o : Os c n b u 0 [] []) (g1 : ∀ Z w, ifP c n = some Z → Z.length = n → KR u w → Os c n b w n (shZ c 0 Z) (nmsZ 0 0 Z) → Am w (amZ c 0 Z) → post 1 w) (g2 : ∀ w, ifP c n = none → KR u w → post 0 w) : P_M_isIf post u := by
  have three : TieM c n b 0 (sq (wdP c 39) (sq (EX c 7) (wdP c 24))) (fun post u => P_M_word (fun r2 u1 => ((r2 = 0 → post 0 u1) ∧ (¬ r2 = 0 → P_M_expression (fun r4 u3 => ((r4 = 0 → post 0 u3) ∧ (¬ r4 = 0 → P_M_sign (fun r6 u5 => ((r6 = 0 → post 0 u5) ∧ (¬ r6 = 0 → post 1 u5))) (41 : Int32) u3))) (1 : Int32) u1))) (4802088 : Int64) u) := TieM.sq (wtie (i := 39) (by decide) (by unfold wOk; decide +kernel)) (TieM.sq (expr_tieM (m := 7) (d := 1) rfl) (TieM.e1 (sgn_tie (i := 24) (x := 41) (by decide) (by decide) (by decide +kernel))))
  have h := three (fun r w => (r = 0 → post 0 w) ∧ (¬ r = 0 → P_M_behind (fun r8 u7 => ((r8 ≤ 0 → post 0 u7) ∧ (¬ r8 ≤ 0 → post 1 u7))) w)) u 0 [] [] o (fun Z v hZ k ov => ⟨fun e => absurd e (by decide), fun _ => ?_⟩) (fun v hZ hv => ⟨fun _ => g2 v ?_ hv.1.kr, fun e => absurd rfl e⟩)
  · unfold P_M_isIf
    simpa using h
  · refine behind_of ov (fun k' Y w hF hm kw ow am => ?_) (fun w hF kw hs hn => ⟨fun _ => g2 w ?_ (k.kr.tr kw), fun e => absurd (by decide) e⟩)
    · have hk := ftF_k _ _ _ _ hF
      have hif : ifP c n = some (Z ++ Y) := by
        unfold ifP
        rw [hZ]
        simp only
        rw [hF]
        simp only [if_pos hm]
      refine ⟨fun e => absurd e (nI_nle (by omega) (by omega)), fun _ => g1 (Z ++ Y) w hif (by rw [List.length_append]; omega) (k.kr.tr kw) ?_ ?_⟩
      · rw [shZ_app, nmsZ_app]
        exact ow
      · have ns : nsL Z := ns_sq (ns_wd c _) (ns_sq (ns_EX c 7) (ns_wd c _)) _ _ hZ
        rw [amZ_app, amZ_ns c Z 0 ns]
        exact am
    · unfold ifP
      rw [hZ]
      simp only
      cases hFT : FT c n (0 + Z.length) with
      | none => rfl
      | some q =>
        simp only
        rw [if_neg (hF q.1 q.2 hFT)]
  · unfold ifP
    rw [hZ]
theorem if_no {k : Nat} (h5 : 5 ≤ k) (hst : st c 0 (wS 39) = true) : ftP c k 0 = none := by
  have hc : c 0 = 73 ∧ c 1 = 70 := by
    rw [show wS 39 = [73, 70, 40] by decide +kernel] at hst
    simp only [st, Bool.and_eq_true, decide_eq_true_eq] at hst
    exact ⟨hst.1, hst.2.1⟩
  have w1 : ∀ i x, (wS i).head? = some x → x ≠ 73 → wdP c i 0 = none := fun i x hw hx => by
    unfold wdP
    cases hl : wS i with
    | nil => rw [hl] at hw; exact absurd hw (by simp)
    | cons y l =>
      rw [hl] at hw
      have e : y = x := by simpa using hw
      subst e
      rw [if_neg (fun q => hx ((st1 q).symm.trans hc.1))]
  have w51 : wdP c 51 0 = none := by
    unfold wdP
    rw [show wS 51 = [73, 78, 84, 69, 71, 69, 82] by decide +kernel]
    rw [if_neg (fun q => by
      simp only [st, Bool.and_eq_true, decide_eq_true_eq] at q
      have h9 : c 1 = 78 := q.2.1
      omega)]
  by_cases h17 : k ≤ 17
  · rcases (by omega : k = 5 ∨ k = 6 ∨ k = 7 ∨ k = 8 ∨ k = 9 ∨ k = 10 ∨ k = 11 ∨ k = 12 ∨ k = 13 ∨ k = 14 ∨ k = 15 ∨ k = 16 ∨ k = 17) with rfl | rfl | rfl | rfl | rfl | rfl | rfl | rfl | rfl | rfl | rfl | rfl | rfl
    · exact sq_none0 (w1 41 69 (by decide +kernel) (by decide))
    · exact w1 42 69 (by decide +kernel) (by decide)
    · exact w1 43 69 (by decide +kernel) (by decide)
    · exact w1 44 67 (by decide +kernel) (by decide)
    · exact sq_none0 (w1 45 71 (by decide +kernel) (by decide))
    · exact sq_none0 (w1 46 67 (by decide +kernel) (by decide))
    · exact w1 47 82 (by decide +kernel) (by decide)
    · exact w1 48 83 (by decide +kernel) (by decide)
    · exact sq_none0 (w1 49 80 (by decide +kernel) (by decide))
    · exact w1 50 69 (by decide +kernel) (by decide)
    · refine sq_none0 ?_
      unfold orP
      rw [w51, w1 52 82 (by decide +kernel) (by decide), w1 53 76 (by decide +kernel) (by decide)]
    · exact sq_none0 (w1 54 68 (by decide +kernel) (by decide))
    · exact sq_none0 (w1 55 71 (by decide +kernel) (by decide))
  · unfold ftP
    split <;> first | omega | rfl
/-- none before k fits -/
def NoF (c : Nat → Nat) (n a k : Nat) : Prop := ∀ j, 1 ≤ j → j < k → ∀ Z, ftP c j a = some Z → a + Z.length ≠ n
theorem FT_some {a k : Nat} {Z : List Tz} (h1 : 1 ≤ k) (h2 : k ≤ 17) (hn : NoF c n a k) (hZ : ftP c k a = some Z) (hl : a + Z.length = n) : FT c n a = some (k, Z) := by
  unfold FT
  rw [show 17 = (k - 1) + ((17 - k) + 1) by omega, ftF_skip (k - 1) 1 _ (fun j h1 h2 => hn j h1 (by omega)), show 1 + (k - 1) = k by omega]
  unfold ftF
  rw [hZ]
  simp only
  rw [if_pos hl]
theorem FT_none {a : Nat} (hn : NoF c n a 18) : FT c n a = none := by
  unfold FT
  rw [show 17 = 17 + 0 by rfl, ftF_skip 17 1 0 (fun j h1 h2 => hn j h1 (by omega))]
  rfl
theorem if_st {Z : List Tz} (h : ifP c n = some Z) : st c 0 (wS 39) = true := by
  unfold ifP at h
  cases hs : sq (wdP c 39) (sq (EX c 7) (wdP c 24)) 0 with
  | none => rw [hs] at h; exact absurd h (by simp)
  | some X =>
    by_cases hst : st c 0 (wS 39) = true
    · exact hst
    · rw [sq_none0 (by unfold wdP; rw [if_neg hst])] at hs
      exact absurd hs (by simp)
/-- what is read: its kind, what is shown, names, labels -/
def Rd (c : Nat → Nat) (n b : Nat) (v : MS) : Prop := MT c n b v ∧ (gI v 10 = nI (shZ c 0 (RC c n).2).length ∧ (shZ c 0 (RC c n).2).length ≤ 240 ∧ Sh v (shZ c 0 (RC c n).2)) ∧ (gI v 12 = nI (nmsZ (if (RC c n).1 = 15 then tyK c 0 else 0) 0 (RC c n).2).length ∧ (nmsZ (if (RC c n).1 = 15 then tyK c 0 else 0) 0 (RC c n).2).length ≤ 80 ∧ Nm c v (nmsZ (if (RC c n).1 = 15 then tyK c 0 else 0) 0 (RC c n).2)) ∧ Am v (amZ c 0 (RC c n).2)
theorem Os.rd {v : MS} {k : Nat} {Z : List Tz} (hR : RC c n = (k, Z)) (o : Os c n b v n (shZ c 0 Z) (nmsZ (if k = 15 then tyK c 0 else 0) 0 Z)) (am : Am v (amZ c 0 Z)) : Rd c n b v := by
  have h80 := o.1.1
  unfold Rd
  rw [hR]
  exact ⟨o.1, ⟨o.2.2.2.1.1, by have := o.2.2.2.1.2.1; simp only; omega, o.2.2.2.1.2.2⟩, ⟨o.2.2.2.2.1, by have := o.2.2.2.2.2.1; simp only; omega, o.2.2.2.2.2.2⟩, am⟩
theorem read_loop {u : MS} {post : Int32 → MS → Prop} (t : MT c n b u) (h : ∀ w, KR u w → Rd c n b w → post (nI (RC c n).1) w) : ∀ (f k : Nat) (v : MS), k + f = 18 → 1 ≤ k → KR u v → NoF c n 0 k → (4 < k → ifP c n = none) → P_M_read_25 post (f + 1) (nI k) v := by
  have h80 := t.1
  have h19 := t.2.1
  intro f
  induction f with
  | zero =>
    intro k v hk h1 kv hno hif
    have ek : k = 18 := by omega
    subst ek
    refine ⟨fun _ => ?_, fun h0 => absurd (nI_le (a := 18) (by omega) (by omega)) h0⟩
    have tv := t.kr kv
    have hR : RC c n = (0, zn n) := by
      unfold RC
      rw [FT_none hno, hif (by decide)]
    have gi : ∀ j, j ≠ 10 → j ≠ 12 → j ≠ 16 → gI (sI (sI (sI v 10 (0 : Int32)) 12 (0 : Int32)) 16 (0 : Int32)) j = gI v j := fun j q1 q2 q3 => by rw [gI_sI, if_neg q3, gI_sI, if_neg q2, gI_sI, if_neg q1]
    have kw : KR u (sI (sI (sI v 10 (0 : Int32)) 12 (0 : Int32)) 16 (0 : Int32)) := kv.tr ⟨fun j hj q => gi j (fun e => by subst e; exact absurd hj (by decide)) (fun e => by subst e; exact absurd hj (by decide)) q, fun j hj q i => rfl⟩
    have tw := t.kr kw
    rw [tv.2.2.1, tv.2.2.2.1]
    refine putPart_of (a := 0) (e := n) (sh := []) tw (Nat.zero_le _) (Nat.le_refl _) rfl (by simp; omega) (fun j x hj => absurd hj (by simp)) (fun w ks r1 r2 => ?_)
    have hrd : Rd c n b w := by
      unfold Rd
      rw [hR]
      simp only
      rw [shZ_zn, nmsZ_zn, amZ_ns c _ _ (nsL.zn _), sgN_len]
      rw [Nat.sub_zero, List.nil_append, sgN_len] at r1
      rw [Nat.sub_zero, List.nil_append] at r2
      refine ⟨tw.of ks.km, ⟨r1, by omega, r2⟩, ⟨(ks.1 12 (by decide)).trans ?_, by simp, fun j q hj => absurd hj (by simp)⟩, ⟨(ks.1 16 (by decide)).trans ?_, fun j q hj => absurd hj (by simp)⟩⟩
      · rw [gI_sI, if_neg (by decide), gI_sI, if_pos rfl]; rfl
      · rw [gI_sI, if_pos rfl]; rfl
    have h9 := h w (kw.tr ks.km.kr) hrd
    rw [hR] at h9
    exact h9
  | succ f ih =>
    intro k v hk h1 kv hno hif
    have tv := t.kr kv
    refine ⟨fun h0 => absurd h0 (nI_ge (b := 18) (by omega) (by decide)), fun _ => ?_⟩
    rw [tv.2.2.1]
    obtain ⟨or, h16⟩ := rst_os (c := c) (p := 0) (sh := []) (nm := []) tv (Nat.zero_le _) (by simp) (by simp) (fun j x hj => absurd hj (by simp)) (fun j x hj => absurd hj (by simp))
    have kr0 : KR u (rst v (nI (b + 0)) (nI ([] : List Nat).length) (nI ([] : List Nx).length)) := kv.tr rst_kr
    have h4 : (nI k = 4) ↔ k = 4 := nI_eq (b := 4) (by omega) (by decide)
    rw [h4]
    refine ⟨fun k4 => ?_, fun k4 => ?_⟩
    · refine simple_sim h1 (by omega) _ _ 0 [] [] or h16 (fun Z w hZ hend kw ow am => ⟨fun e => absurd e (by decide), fun _ => ?_⟩) (fun w hZ kw hs' hn' => ⟨fun _ => ?_, fun e => absurd rfl e⟩)
      · have hR : RC c n = (k, Z) := by
          unfold RC
          rw [FT_some h1 (by omega) hno hZ hend]
        have h9 := h w (kr0.tr kw) (Os.rd hR ow am)
        rw [hR] at h9
        exact h9
      · unfold P_M_read_79
        rw [nI_1]
        refine ih (k + 1) w (by omega) (by omega) (kr0.tr kw) (fun j q1 q2 => ?_) (fun q => hif (by omega))
        by_cases e : j = k
        · subst e; exact hZ
        · exact hno j q1 (by omega)
    · subst k4
      refine if_of or (fun Z w hZ hend kw ow am => ⟨fun e => absurd e (by decide), fun _ => ?_⟩) (fun w hZ kw => ⟨fun _ => ?_, fun e => absurd rfl e⟩)
      · have hFT : FT c n 0 = none := FT_none (fun j q1 q2 Y hY => by
          by_cases e4 : j < 4
          · exact hno j q1 e4 Y hY
          · by_cases e5 : j = 4
            · subst e5
              exact absurd hY (by simp [ftP])
            · rw [if_no (by omega) (if_st hZ)] at hY
              exact absurd hY (by simp))
        have hR : RC c n = (4, Z) := by
          unfold RC
          rw [hFT, hZ]
        have h9 := h w (kr0.tr kw) (Os.rd hR ow am)
        rw [hR] at h9
        exact h9
      · unfold P_M_read_79
        rw [nI_1]
        refine ih (4 + 1) w (by omega) (by omega) (kr0.tr kw) (fun j q1 q2 => ?_) (fun q => hZ)
        by_cases e : j = 4
        · subst e
          intro Y hY
          exact absurd hY (by simp [ftP])
        · exact hno j q1 (by omega)
theorem read_of {u : MS} {post : Int32 → MS → Prop} {s : Nat} (hs : s < 24) (t : MT c n (80 * s) (sI (sI u 7 (nI (80 * s))) 8 (nI (80 * s + n)))) (h5 : gA u 5 s = nI n) (h : ∀ w, KR (sI (sI u 7 (nI (80 * s))) 8 (nI (80 * s + n))) w → Rd c n (80 * s) w → post (nI (RC c n).1) w) : P_M_read post (nI s) u := by
  refine ⟨vp_in_nI hs (by decide), 18, ?_⟩
  have e1 : (80 : Int32) * nI s = nI (80 * s) := pk_mul 80 s
  have e2 : gA (sI u 7 (nI (80 * s))) 5 (nI s).toNatClampNeg = nI n := by
    rw [gA_sI, nI_clamp (by omega)]
    exact h5
  rw [e1, e2, nI_add]
  exact read_loop t h 17 1 _ (by omega) (by omega) (KM.refl _).kr (fun j q1 q2 => by omega) (fun q => by omega)
end MRD
