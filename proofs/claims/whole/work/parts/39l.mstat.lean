/-! statements of the reference -/
def KR (u v : MS) : Prop := (∀ k, kI k = true → k ≠ 16 → gI v k = gI u k) ∧ ∀ k, kA k = true → k ≠ 17 → ∀ i, gA v k i = gA u k i
theorem KM.kr {u v : MS} (h : KM u v) : KR u v := ⟨fun k hk _ => h.1 k hk, fun k hk _ => h.2 k hk⟩
theorem KR.tr {u v w : MS} (h : KR u v) (h' : KR v w) : KR u w := ⟨fun k hk q => (h'.1 k hk q).trans (h.1 k hk q), fun k hk q i => (h'.2 k hk q i).trans (h.2 k hk q i)⟩
def Am (v : MS) (L : List Nat) : Prop := gI v 16 = nI L.length ∧ ∀ j x, L[j]? = some x → gA v 17 j = nI x
abbrev EndM (post : Int32 → MS → Prop) (u : MS) : Prop := ((¬ (gI u 9) = (gI u 8) → post 0 u) ∧ ((gI u 9) = (gI u 8) → post 1 u))
def TX (c : Nat → Nat) (n b ty : Nat) (F : Ps) (Q : (Int32 → MS → Prop) → MS → Prop) : Prop := ∀ (post : Int32 → MS → Prop) (u : MS) (a : Nat) (sh : List Nat) (nm : List Nx), Os c n b u a sh nm → (∀ Z v, F a = some Z → a + Z.length = n → KM u v → Os c n b v n (sh ++ shZ c a Z) (nm ++ nmsZ ty a Z) → post 1 v) → (∀ v, (∀ Z, F a = some Z → a + Z.length ≠ n) → Of c u v sh nm → post 0 v) → Q post u
section MSL
variable {c : Nat → Nat} {n b : Nat}
theorem Of.tr {u v w : MS} {sh s2 : List Nat} {nm n2 : List Nx} (k : KM u v) (h : Of c v w (sh ++ s2) (nm ++ n2)) : Of c u w sh nm := ⟨k.tr h.1, fun j x hj => h.2.1 j x (by rw [List.getElem?_append_left (List.getElem?_eq_some_iff.mp hj).1]; exact hj), fun j q hj => h.2.2 j q (by rw [List.getElem?_append_left (List.getElem?_eq_some_iff.mp hj).1]; exact hj)⟩
theorem Os.off {u v : MS} {p : Nat} {sh s2 : List Nat} {nm n2 : List Nx} (k : KM u v) (o : Os c n b v p (sh ++ s2) (nm ++ n2)) : Of c u v sh nm := Of.tr k o.of
theorem endM {post : Int32 → MS → Prop} {u : MS} {p : Nat} {sh : List Nat} {nm : List Nx} (o : Os c n b u p sh nm) (h1 : p = n → post 1 u) (h2 : p ≠ n → post 0 u) : EndM post u := by
  have t := o.1
  have h80 := t.1
  have h19 := t.2.1
  have hp := o.2.1
  unfold EndM
  rw [o.2.2.1, t.2.2.2.1, nI_eq (by omega) (by omega)]
  exact ⟨fun h => h2 (by omega), fun h => h1 (by omega)⟩
theorem TieM.ne {ty : Nat} {F : Ps} {P : (Int32 → MS → Prop) → MS → Prop} (h : TieM c n b 0 F P) (hF : ∀ a Z, F a = some Z → ∃ m, Z = zn m) : TieM c n b ty F P := by
  intro post u a sh nm o h1 h2
  refine h post u a sh nm o (fun Z v hZ k ov => h1 Z v hZ k ?_) h2
  obtain ⟨m, e⟩ := hF a Z hZ
  subst e
  rw [nmsZ_zn] at ov ⊢
  exact ov
theorem lw_zn {L : List Nat} (a : Nat) (Z : List Tz) (h : lwP c L a = some Z) : ∃ m, Z = zn m := by
  unfold lwP at h
  split at h
  · cases h; exact ⟨_, rfl⟩
  · exact absurd h (by simp)
theorem TX.sq {ty : Nat} {F G : Ps} {P Q : (Int32 → MS → Prop) → MS → Prop} (h : TieM c n b ty F P) (h' : TX c n b ty G Q) : TX c n b ty (sq F G) (fun post u => P (fun r u1 => ((r = 0 → post 0 u1) ∧ (¬ r = 0 → Q post u1))) u) := by
  intro post u a sh nm o h1 h2
  refine h _ u a sh nm o (fun Z v hZ k ov => ⟨fun e => absurd e (by decide), fun _ => ?_⟩) (fun v hZ hv => ⟨fun _ => h2 v (fun Y hY => by rw [sq_none0 hZ] at hY; exact absurd hY (by simp)) hv, fun e => absurd rfl e⟩)
  refine h' _ v _ _ _ ov (fun Y w hY hn kw ow => h1 (Z ++ Y) w (sq_some hZ hY) (by rw [List.length_append]; omega) (k.tr kw) ?_) (fun w hY hw => h2 w (fun X hX => ?_) (Of.tr k hw))
  · rw [shZ_app, nmsZ_app, ← List.append_assoc, ← List.append_assoc]
    exact ow
  · intro hn
    cases hG : G (a + Z.length) with
    | none => rw [sq_none hZ hG] at hX; exact absurd hX (by simp)
    | some Y =>
      rw [sq_some hZ hG] at hX
      cases hX
      rw [List.length_append] at hn
      exact hY Y hG (by omega)
theorem TX.last {ty : Nat} {F : Ps} {P : (Int32 → MS → Prop) → MS → Prop} (h : TieM c n b ty F P) : TX c n b ty F (fun post u => P (fun r u1 => ((r = 0 → post 0 u1) ∧ (¬ r = 0 → EndM post u1))) u) := by
  intro post u a sh nm o h1 h2
  refine h _ u a sh nm o (fun Z v hZ k ov => ⟨fun e => absurd e (by decide), fun _ => endM ov (fun e => h1 Z v hZ e k (by rw [e] at ov; exact ov)) (fun e => h2 v (fun Y hY => ?_) (Os.off k ov))⟩) (fun v hZ hv => ⟨fun _ => h2 v (fun Y hY => by rw [hZ] at hY; exact absurd hY (by simp)) hv, fun e => absurd rfl e⟩)
  rw [hZ] at hY
  cases hY
  exact e
theorem TieM.sq {ty : Nat} {F G : Ps} {P Q : (Int32 → MS → Prop) → MS → Prop} (h : TieM c n b ty F P) (h' : TieM c n b ty G Q) : TieM c n b ty (sq F G) (fun post u => P (fun r u1 => ((r = 0 → post 0 u1) ∧ (¬ r = 0 → Q post u1))) u) := by
  intro post u a sh nm o h1 h2
  refine h _ u a sh nm o (fun Z v hZ k ov => ⟨fun e => absurd e (by decide), fun _ => ?_⟩) (fun v hZ hv => ⟨fun _ => h2 v (sq_none0 hZ) hv, fun e => absurd rfl e⟩)
  refine h' _ v _ _ _ ov (fun Y w hY kw ow => h1 (Z ++ Y) w (sq_some hZ hY) (k.tr kw) ?_) (fun w hY hw => h2 w (sq_none hZ hY) (Of.tr k hw))
  rw [shZ_app, nmsZ_app, ← List.append_assoc, ← List.append_assoc, List.length_append, ← Nat.add_assoc]
  exact ow
theorem TieM.e1 {ty : Nat} {F : Ps} {P : (Int32 → MS → Prop) → MS → Prop} (h : TieM c n b ty F P) : TieM c n b ty F (fun post u => P (fun r u1 => ((r = 0 → post 0 u1) ∧ (¬ r = 0 → post 1 u1))) u) := fun post u a sh nm o h1 h2 =>
  h _ u a sh nm o (fun Z v hZ k ov => ⟨fun e => absurd e (by decide), fun _ => h1 Z v hZ k ov⟩) (fun v hZ hv => ⟨fun _ => h2 v hZ hv, fun e => absurd rfl e⟩)
theorem sgn_tie {i x : Nat} (hx : 0 < x) (hx2 : x < 256) (hw : wS i = [x]) : TieM c n b 0 (wdP c i) (fun post u => P_M_sign post (nI x) u) := by
  rw [wd_lw, hw]
  exact sign_tie hx hx2
/-- expressions with commas between -/
theorem exs_loop {m d : Nat} (hd : d + m = 8) {post : Int32 → MS → Prop} {u : MS} {a : Nat} {sh : List Nat} {nm : List Nx} (o : Os c n b u a sh nm) : ∀ (f : Nat) (acc : List Tz) (v : MS), n ≤ a + acc.length + f → KM u v → Os c n b v (a + acc.length) (sh ++ shZ c a acc) (nm ++ nmsZ 0 a acc) → (∀ Z w, srR c (EX c m) a f acc = some Z → KM u w → Os c n b w (a + Z.length) (sh ++ shZ c a Z) (nm ++ nmsZ 0 a Z) → post 1 w) → (∀ w, srR c (EX c m) a f acc = none → Of c u w sh nm → post 0 w) → P_M_expressions_6 post (f + 2) (nI d) 1 v := by
  have hz := o.1.2.2.2.2.2
  have e23 : wS 23 = [44] := by decide +kernel
  intro f
  have cq : ∀ (v : MS), MT c n b v → ∀ i, (nI (c i) = 44 ↔ c i = 44) := fun v t i => nI_eq (b := 44) (by have := t.lt i; omega) (by decide)
  induction f with
  | zero =>
    intro acc v hf kv ov h1 h2
    have t := ov.1
    have h80 := t.1
    have hp := ov.2.1
    refine ⟨fun e => absurd e (by decide), fun _ => ?_⟩
    rw [ov.2.2.1, t.v (by omega), cq v t]
    have h0 := hz (a + acc.length) (by omega)
    exact ⟨t.q (by omega), fun _ => ⟨rfl, h1 acc v rfl kv ov⟩, fun e => by omega⟩
  | succ f ih =>
    intro acc v hf kv ov h1 h2
    have t := ov.1
    have h80 := t.1
    have hp := ov.2.1
    refine ⟨fun e => absurd e (by decide), fun _ => ?_⟩
    rw [ov.2.2.1, t.v (by omega), cq v t]
    unfold srR at h1 h2
    have hs : st c (a + acc.length) (wS 23) = true ↔ c (a + acc.length) = 44 := by rw [e23]; simp [st]
    have e1 : (wS 23).length = 1 := by rw [e23]; rfl
    refine ⟨t.q (by omega), fun h44 => ⟨rfl, h1 acc v (by rw [if_neg (fun q => h44 (hs.mp q))]) kv ov⟩, fun h44 => ?_⟩
    rw [if_pos (hs.mpr h44), e1] at h1 h2
    have hin : a + acc.length < n := t.in (by omega)
    have hsl := ov.2.2.2.1.2.1
    refine ⟨by rw [ov.2.2.2.1.1]; exact vp_in_nI (by omega) (by decide), ?_⟩
    obtain ⟨p1, p2⟩ := ov.2.2.2.1.2.2.put ov.2.2.2.1.1 (by omega) (x := 44) (by decide)
    have kp := KS.put v (nI 44)
    have e9 : gI (mPut v (44 : Int32)) 9 = nI (b + (a + acc.length)) := (kp.1 9 (by decide)).trans ov.2.2.1
    rw [e9, nI_1, show b + (a + acc.length) + 1 = b + (a + acc.length + 1) by omega]
    have o2 : Os c n b (sI (mPut v (44 : Int32)) 9 (nI (b + (a + acc.length + 1)))) (a + acc.length + 1) (sh ++ shZ c a acc ++ [44]) (nm ++ nmsZ 0 a acc) := ov.step (m := 1) (kp.s9 _) hin rfl p2 (by simp) p1 (kp.1 12 (by decide)) (kp.nm ov.2.2.2.2.2.2)
    refine expr_tieM hd _ _ _ _ _ o2 (fun Y w hY kw ow => ?_) (fun w hY hw => ?_)
    · rw [hY] at h1 h2
      simp only at h1 h2
      refine ih (acc ++ (zn 1 ++ Y)) w (by simp only [List.length_append, zn_len]; omega) (kv.tr ((kp.s9 _).tr kw)) ?_ h1 h2
      have es : shZ c a (acc ++ (zn 1 ++ Y)) = shZ c a acc ++ ([44] ++ shZ c (a + acc.length + 1) Y) := by
        rw [shZ_app, shZ_app, shZ_zn, zn_len]
        simp [sgN, h44]
      have en : nmsZ 0 a (acc ++ (zn 1 ++ Y)) = nmsZ 0 a acc ++ nmsZ 0 (a + acc.length + 1) Y := by
        rw [nmsZ_app, nmsZ_app, nmsZ_zn, zn_len]
        rfl
      have el : a + (acc ++ (zn 1 ++ Y)).length = a + acc.length + 1 + Y.length := by
        simp only [List.length_append, zn_len]; omega
      rw [es, en, el]
      simp only [List.append_assoc] at ow ⊢
      exact ow
    · rw [hY] at h2
      have hw2 : Of c v w (sh ++ shZ c a acc) (nm ++ nmsZ 0 a acc) := Of.tr (s2 := [44]) (n2 := []) (kp.s9 (nI (b + (a + acc.length + 1)))) (by rw [List.append_nil]; exact hw)
      have h3 := h2 w rfl (Of.tr kv hw2)
      exact ⟨fun _ => ⟨rfl, h3⟩, fun e => absurd rfl e⟩
theorem exs_tieM {m d : Nat} (hd : d + m = 8) : TieM c n b 0 (srP c (EX c m)) (fun post u => P_M_expressions post (nI d) u) := by
  intro post u a sh nm o h1 h2
  have h80 := o.1.1
  unfold srP at h1 h2
  refine expr_tieM hd _ u a sh nm o (fun Z v hZ k ov => ⟨82, ?_⟩) (fun v hZ hv => ⟨1, ?_⟩)
  · rw [hZ] at h1 h2
    simp only at h1 h2
    exact exs_loop hd o 80 Z v (by omega) k ov h1 h2
  · rw [hZ] at h2
    have h3 := h2 v rfl hv
    exact ⟨fun _ => ⟨rfl, h3⟩, fun e => absurd rfl e⟩
/-- a name, perhaps with a list -/
def nwP (c : Nat → Nat) (pl li : Nat) : Ps := fun a => if lr (c a) = true then (if c (alN c 6 a) = 40 then (match lsP c (EX c 7) (alN c 6 a) with
  | none => none
  | some Y => some (nmZ c li a ++ Y)) else some (nmZ c pl a)) else none
theorem nwl_tie {pl li : Nat} (h1 : 1 ≤ pl ∧ pl ≤ 4) (h2 : 1 ≤ li ∧ li ≤ 4) : TieM c n b 0 (nwP c pl li) (fun post u => P_M_nameWithList post (nI pl) (nI li) u) := by
  intro post u a sh nm o g1 g2
  have t := o.1
  have h80 := t.1
  have han := o.2.1
  have cq : ∀ (i x : Nat), x < 256 → (nI (c i) = nI x ↔ c i = x) := fun i x hx => nI_eq (by have := t.lt i; omega) (by omega)
  unfold P_M_nameWithList
  rw [o.2.2.1]
  refine nameEnd_of t (by omega) ?_
  have hnE : nmE c a ≤ n := by
    have := alN_n t.2.2.2.2.2 6 a han
    unfold nmE
    split <;> omega
  rw [t.v (by omega), show (40 : Int32) = nI 40 from rfl, cq _ _ (by decide)]
  unfold nwP at g1 g2
  refine ⟨t.q (by omega), fun h40 => ⟨fun _ => ?_, fun e => absurd rfl e⟩, fun h40 => ⟨fun e => absurd e (by decide), fun _ => ?_⟩⟩
  · unfold P_M_nameWithList_37
    refine name_tieM (ty := 0) h1.1 h1.2 _ u a sh nm o (fun Z v hZ k ov => ⟨fun _ => ⟨fun _ => ?_, fun e => absurd rfl e⟩, fun e => absurd e (by decide)⟩) (fun v hZ hv => ⟨fun e => absurd rfl e, fun _ => ?_⟩)
    · unfold nmP at hZ
      split at hZ
      · rename_i hl
        cases hZ
        have e : nmE c a = alN c 6 a := by unfold nmE; rw [if_pos hl]
        rw [e] at h40
        exact g1 _ v (by rw [if_pos hl, if_neg h40]) k ov
      · exact absurd hZ (by simp)
    · unfold nmP at hZ
      split at hZ
      · exact absurd hZ (by simp)
      · rename_i hl
        exact g2 v (by rw [if_neg hl]) hv
  · unfold P_M_nameWithList_37
    refine name_tieM (ty := 0) h2.1 h2.2 _ u a sh nm o (fun Z v hZ k ov => ⟨fun _ => ⟨fun e => absurd e (by decide), fun _ => ?_⟩, fun e => absurd e (by decide)⟩) (fun v hZ hv => ⟨fun e => absurd rfl e, fun _ => ?_⟩)
    · unfold nmP at hZ
      split at hZ
      · rename_i hl
        cases hZ
        have e : nmE c a = alN c 6 a := by unfold nmE; rw [if_pos hl]
        rw [e] at h40
        rw [if_pos hl, if_pos h40] at g1 g2
        have el := nmZ_len (role := li) hl
        have three : TieM c n b 0 (lsP c (EX c 7)) (fun post u => P_M_sign (fun r6 u5 => ((r6 = 0 → post 0 u5) ∧ (¬ r6 = 0 → P_M_expressions (fun r8 u7 => ((r8 = 0 → post 0 u7) ∧ (¬ r8 = 0 → P_M_sign (fun r10 u9 => ((r10 = 0 → post 0 u9) ∧ (¬ r10 = 0 → post 1 u9))) (41 : Int32) u7))) (1 : Int32) u5))) (40 : Int32) u) := TieM.sq (sgn_tie (i := 22) (x := 40) (by decide) (by decide) (by decide +kernel)) (TieM.sq (exs_tieM (m := 7) (d := 1) rfl) (TieM.e1 (sgn_tie (i := 24) (x := 41) (by decide) (by decide) (by decide +kernel))))
        refine three post v _ _ _ ov (fun Y w hY kw ow => ?_) (fun w hY hw => ?_)
        · rw [el] at hY ow
          refine g1 _ w (by rw [hY]) (k.tr kw) ?_
          rw [shZ_app, nmsZ_app, List.length_append, ← Nat.add_assoc, el, ← List.append_assoc, ← List.append_assoc]
          exact ow
        · rw [el] at hY
          exact g2 w (by rw [hY]) (Of.tr k hw)
      · exact absurd hZ (by simp)
    · unfold nmP at hZ
      split at hZ
      · exact absurd hZ (by simp)
      · rename_i hl
        exact g2 v (by rw [if_neg hl]) hv
theorem nw43 : nwP c 4 3 = rfP c (IX c 8) false := by
  funext a
  unfold nwP rfP
  split
  · split
    · simp only [IX, Bool.false_and]
      rfl
    · rfl
  · rfl
theorem nw22 : nwP c 2 2 = sq (nmP c 2) (clP c) := by
  funext a
  unfold nwP sq nmP
  by_cases hl : lr (c a) = true
  · rw [if_pos hl, if_pos hl]
    simp only
    rw [nmZ_len hl]
    unfold clP
    by_cases h40 : c (alN c 6 a) = 40
    · rw [if_pos h40, if_pos h40]
      all_goals (cases lsP c (EX c 7) (alN c 6 a) <;> rfl)
    · rw [if_neg h40, if_neg h40]
      simp
  · rw [if_neg hl, if_neg hl]
theorem wtie {w : Int64} {i : Nat} (hi : i < 56) (ok : wOk w (wS i)) : TieM c n b 0 (wdP c i) (fun post u => P_M_word post w u) := by
  rw [wd_lw]
  exact word_tie ok (fun e => by have := wS_ne i hi; rw [← wS_len, e] at this; exact absurd this (by decide))
theorem TX.nar {ty : Nat} {F : Ps} {Q : (Int32 → MS → Prop) → MS → Prop} (h : TX c n b ty F Q) : TX c n b ty F (fun post u => Q (fun r u1 => (narrow .boolean (.int r) = .int r ∧ post r u1)) u) := fun post u a sh nm o h1 h2 => h _ u a sh nm o (fun Z v hZ hn k ov => ⟨rfl, h1 Z v hZ hn k ov⟩) (fun v hZ hv => ⟨rfl, h2 v hZ hv⟩)
theorem alone_tx {w : Int64} {i : Nat} (hi : i < 56) (ok : wOk w (wS i)) : TX c n b 0 (wdP c i) (fun post u => P_M_alone post w 0 u) := by
  intro post u a sh nm o h1 h2
  unfold P_M_alone P_M_alone_20
  have := TX.last (wtie (c := c) (n := n) (b := b) hi ok) post u a sh nm o h1 h2
  refine wtie hi ok _ u a sh nm o (fun Z v hZ k ov => ⟨fun e => absurd e (by decide), fun _ => ⟨fun _ => endM ov (fun e => h1 Z v hZ e k (by rw [e] at ov; exact ov)) (fun e => h2 v (fun Y hY => ?_) (Os.off k ov)), fun e => absurd rfl e⟩⟩) (fun v hZ hv => ⟨fun _ => h2 v (fun Y hY => by rw [hZ] at hY; exact absurd hY (by simp)) hv, fun e => absurd rfl e⟩)
  rw [hZ] at hY
  cases hY
  exact e
theorem tx2 : TX c n b 0 (ftP c 2) (fun post u => P_M_isAssignment post u) := by
  show TX c n b 0 (sq (rfP c (IX c 8) false) (sq (wdP c 4) (EX c 8))) _
  rw [← nw43]
  exact TX.sq (nwl_tie (by decide) (by decide)) (TX.sq (sgn_tie (i := 4) (x := 61) (by decide) (by decide) (by decide +kernel)) (TX.last (expr_tieM (m := 8) (d := 0) rfl)))
theorem tx3 : TX c n b 0 (ftP c 3) (fun post u => P_M_isThen post 4802088 u) := TX.sq (wtie (i := 39) (by decide) (by unfold wOk; decide +kernel)) (TX.sq (expr_tieM (m := 7) (d := 1) rfl) (TX.last (wtie (i := 40) (by decide) (by unfold wOk; decide +kernel))))
theorem tx5 : TX c n b 0 (ftP c 5) (fun post u => P_M_isThen post 19505693921461800 u) := TX.sq (wtie (i := 41) (by decide) (by unfold wOk; decide +kernel)) (TX.sq (expr_tieM (m := 7) (d := 1) rfl) (TX.last (wtie (i := 40) (by decide) (by unfold wOk; decide +kernel))))
theorem tx6 : TX c n b 0 (ftP c 6) (fun post u => P_M_alone post 1162629957 0 u) := alone_tx (i := 42) (by decide) (by unfold wOk; decide +kernel)
theorem tx7 : TX c n b 0 (ftP c 7) (fun post u => P_M_alone post 297665841478 0 u) := alone_tx (i := 43) (by decide) (by unfold wOk; decide +kernel)
theorem tx8 : TX c n b 0 (ftP c 8) (fun post u => P_M_alone post 4850181447615403333 0 u) := alone_tx (i := 44) (by decide) (by unfold wOk; decide +kernel)
theorem tx10 : TX c n b 0 (ftP c 10) (fun post u => P_M_isCall post u) := by
  show TX c n b 0 (sq (wdP c 46) (sq (nmP c 2) (clP c))) _
  rw [← nw22]
  exact TX.sq (wtie (i := 46) (by decide) (by unfold wOk; decide +kernel)) (TX.last (nwl_tie (by decide) (by decide)))
theorem tx11 : TX c n b 0 (ftP c 11) (fun post u => P_M_alone post 90457721098830 0 u) := alone_tx (i := 47) (by decide) (by unfold wOk; decide +kernel)
theorem tx12 : TX c n b 0 (ftP c 12) (fun post u => P_M_alone post 1398034256 0 u) := alone_tx (i := 48) (by decide) (by unfold wOk; decide +kernel)
theorem tx13 : TX c n b 0 (ftP c 13) (fun post u => P_M_word (fun r24 u23 => ((r24 = 0 → post 0 u23) ∧ (¬ r24 = 0 → P_M_expressions (fun r26 u25 => ((r26 = 0 → post 0 u25) ∧ (¬ r26 = 0 → EndM post u25))) (0 : Int32) u23))) (22608472937081388 : Int64) u) := TX.sq (wtie (i := 49) (by decide) (by unfold wOk; decide +kernel)) (TX.last (exs_tieM (m := 8) (d := 0) rfl))
theorem tx14 : TX c n b 0 (ftP c 14) (fun post u => P_M_alone post 4542020 0 u) := alone_tx (i := 50) (by decide) (by unfold wOk; decide +kernel)
end MSL
