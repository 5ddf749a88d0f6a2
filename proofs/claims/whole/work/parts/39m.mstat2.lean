section MSM
variable {c : Nat → Nat} {n b : Nat} {u : MS}
theorem Of.trs {v w : MS} {sh s2 : List Nat} {nm : List Nx} (k : KM u v) (h : Of c v w (sh ++ s2) nm) : Of c u w sh nm := Of.tr (s2 := s2) (n2 := []) k (by rw [List.append_nil]; exact h)
theorem Os.offs {v : MS} {p : Nat} {sh s2 : List Nat} {nm : List Nx} (k : KM u v) (o : Os c n b v p (sh ++ s2) nm) : Of c u v sh nm := Of.trs k o.of
theorem sign_of {post : Int32 → MS → Prop} {x a : Nat} {sh : List Nat} {nm : List Nx} (hx : 0 < x) (hx2 : x < 256) (o : Os c n b u a sh nm) (h1 : c a = x → ∀ v, KM u v → Os c n b v (a + 1) (sh ++ [x]) nm → post 1 v) (h2 : ¬ c a = x → post 0 u) : P_M_sign post (nI x) u := by
  have t := o.1
  have h80 := t.1
  have han := o.2.1
  have hsl := o.2.2.2.1.2.1
  unfold P_M_sign
  rw [o.2.2.1, t.v (by omega), nI_eq (by have := t.lt a; omega) (by omega)]
  refine ⟨t.q (by omega), fun h => ?_, h2⟩
  have hn := t.in (i := a) (by omega)
  refine ⟨by rw [o.2.2.2.1.1]; exact vp_in_nI (by omega) (by decide), ?_⟩
  obtain ⟨p1, p2⟩ := o.2.2.2.1.2.2.put o.2.2.2.1.1 (by omega) hx2
  have kp := KS.put u (nI x)
  rw [show gI (mPut u (nI x)) 9 = nI (b + a) from (kp.1 9 (by decide)).trans o.2.2.1, nI_1]
  exact h1 h _ (kp.s9 _) (o.step (m := 1) (kp.s9 _) hn rfl p2 (by simp) p1 (kp.1 12 (by decide)) (kp.nm o.2.2.2.2.2.2))
theorem word_of {post : Int32 → MS → Prop} {w : Int64} {L : List Nat} {a : Nat} {sh : List Nat} {nm : List Nx} (ok : wOk w L) (hL : L ≠ []) (o : Os c n b u a sh nm) (h1 : st c a L = true → ∀ v, KM u v → Os c n b v (a + L.length) (sh ++ shZ c a (zn L.length)) nm → post 1 v) (h2 : ¬ st c a L = true → post 0 u) : P_M_word post w u := by
  have hpos : ∀ x ∈ L, 0 < x ∧ x < 256 := by
    intro x hx
    obtain ⟨k, hk, rfl⟩ := List.getElem_of_mem hx
    have := (ok.2.2.2 k hk).2
    simpa [List.getD, hk] using this
  refine ⟨L.length + 1, word_loop ok ⟨L.length + 1, word2 ok o (fun k hk hs => ?_) h1 h2 L.length 0 (by omega) (by simp)⟩ L.length 0 (by omega)⟩
  have := st_in o.1.2.2.2.2.2 L a hL hpos hs
  omega
def tyK (c : Nat → Nat) (a : Nat) : Nat := if st c a (wS 51) = true then 1 else if st c a (wS 52) = true then 2 else if st c a (wS 53) = true then 3 else 0
theorem ty_loop {ty : Nat} {post : Int32 → MS → Prop} {a : Nat} {sh : List Nat} {nm : List Nx} (o : Os c n b u a sh nm) : ∀ (f : Nat) (acc : List Tz) (v : MS), n ≤ a + acc.length + f → KM u v → Os c n b v (a + acc.length) (sh ++ shZ c a acc) (nm ++ nmsZ ty a acc) → (∀ Z w, srR c (nmP c 4) a f acc = some Z → KM u w → Os c n b w (a + Z.length) (sh ++ shZ c a Z) (nm ++ nmsZ ty a Z) → EndM post w) → (∀ w, srR c (nmP c 4) a f acc = none → Of c u w sh nm → post 0 w) → P_M_isType_63 post (f + 2) (nI ty) 1 v := by
  have hz := o.1.2.2.2.2.2
  have e23 : wS 23 = [44] := by decide +kernel
  intro f
  induction f with
  | zero =>
    intro acc v hf kv ov h1 h2
    have h0 := hz (a + acc.length) (by omega)
    refine ⟨fun e => absurd e (by decide), fun _ => ?_⟩
    exact sign_of (x := 44) (by decide) (by decide) ov (fun e => by omega) (fun _ => ⟨fun _ => ⟨fun e => absurd e (by decide), fun _ => h1 acc v rfl kv ov⟩, fun e => absurd rfl e⟩)
  | succ f ih =>
    intro acc v hf kv ov h1 h2
    refine ⟨fun e => absurd e (by decide), fun _ => ?_⟩
    unfold srR at h1 h2
    have hs : st c (a + acc.length) (wS 23) = true ↔ c (a + acc.length) = 44 := by rw [e23]; simp [st]
    have e1 : (wS 23).length = 1 := by rw [e23]; rfl
    refine sign_of (x := 44) (by decide) (by decide) ov (fun h44 w kw ow => ⟨fun e => absurd e (by decide), fun _ => ?_⟩) (fun h44 => ⟨fun _ => ⟨fun e => absurd e (by decide), fun _ => h1 acc v (by rw [if_neg (fun q => h44 (hs.mp q))]) kv ov⟩, fun e => absurd rfl e⟩)
    rw [if_pos (hs.mpr h44), e1] at h1 h2
    refine name_tieM (how := 4) (ty := ty) (by decide) (by decide) _ w _ _ _ ow (fun Y w2 hY kw2 ow2 => ?_) (fun w2 hY hw2 => ?_)
    · rw [hY] at h1 h2
      simp only at h1 h2
      refine ih (acc ++ (zn 1 ++ Y)) w2 (by simp only [List.length_append, zn_len]; omega) (kv.tr (kw.tr kw2)) ?_ h1 h2
      have es : shZ c a (acc ++ (zn 1 ++ Y)) = shZ c a acc ++ ([44] ++ shZ c (a + acc.length + 1) Y) := by
        rw [shZ_app, shZ_app, shZ_zn, zn_len]
        simp [sgN, h44]
      have en : nmsZ ty a (acc ++ (zn 1 ++ Y)) = nmsZ ty a acc ++ nmsZ ty (a + acc.length + 1) Y := by
        rw [nmsZ_app, nmsZ_app, nmsZ_zn, zn_len]
        rfl
      have el : a + (acc ++ (zn 1 ++ Y)).length = a + acc.length + 1 + Y.length := by
        simp only [List.length_append, zn_len]; omega
      rw [es, en, el]
      simp only [List.append_assoc] at ow2 ⊢
      exact ow2
    · rw [hY] at h2
      have hw3 : Of c v w2 (sh ++ shZ c a acc) (nm ++ nmsZ ty a acc) := Of.tr (s2 := [44]) (n2 := []) kw (by rw [List.append_nil]; exact hw2)
      have h3 := h2 w2 rfl (Of.tr kv hw3)
      exact ⟨fun _ => ⟨fun _ => h3, fun e => absurd rfl e⟩, fun e => absurd rfl e⟩
theorem type_of {post : Int32 → MS → Prop} {a : Nat} {sh : List Nat} {nm : List Nx} (o : Os c n b u a sh nm) (h1 : ∀ Z v, ftP c 15 a = some Z → a + Z.length = n → KM u v → Os c n b v n (sh ++ shZ c a Z) (nm ++ nmsZ (tyK c a) a Z) → post 1 v) (h2 : ∀ v, (∀ Z, ftP c 15 a = some Z → a + Z.length ≠ n) → Of c u v sh nm → post 0 v) : P_M_isType post u := by
  have h80 := o.1.1
  -- behind the word
  have go : ∀ (ty i : Nat) (v : MS), 1 ≤ ty → ty ≤ 3 → tyK c a = ty → orP (wdP c 51) (orP (wdP c 52) (wdP c 53)) a = some (zn (wS i).length) → KM u v → Os c n b v (a + (wS i).length) (sh ++ shZ c a (zn (wS i).length)) nm → P_M_isType_43 post (nI ty) v := by
    intro ty i v t1 t3 htk hor kv ov
    refine ⟨fun e => absurd e (nI_nle (by omega) (by omega)), fun _ => ?_⟩
    have hsq : ∀ R, srP c (nmP c 4) (a + (wS i).length) = R → ftP c 15 a = match R with
      | none => none
      | some Y => some (zn (wS i).length ++ Y) := by
      intro R hR
      show sq (orP (wdP c 51) (orP (wdP c 52) (wdP c 53))) (srP c (nmP c 4)) a = _
      unfold sq
      rw [hor]
      simp only [zn_len]
      rw [hR]
      all_goals (cases R <;> rfl)
    refine name_tieM (how := 4) (ty := ty) (by decide) (by decide) _ v _ _ _ ov (fun Z w hZ kw ow => ⟨fun e => absurd e (by decide), fun _ => ⟨82, ?_⟩⟩) (fun w hZ hw => ⟨fun _ => ⟨1, fun _ => ⟨fun _ => ?_, fun e => absurd rfl e⟩, fun e => absurd rfl e⟩, fun e => absurd rfl e⟩)
    · refine ty_loop (ty := ty) ov 80 Z w (by omega) kw ow (fun Y w2 hY kw2 ow2 => ?_) (fun w2 hY hw2 => ?_)
      · have hf := hsq (some Y) (by unfold srP; rw [hZ]; exact hY)
        simp only at hf
        refine endM ow2 (fun e => h1 _ w2 hf (by rw [List.length_append, zn_len]; omega) (kv.tr kw2) ?_) (fun e => h2 w2 (fun X hX => ?_) (Os.off (s2 := shZ c a (zn (wS i).length) ++ shZ c (a + (wS i).length) Y) (kv.tr kw2) (by rw [← List.append_assoc]; exact ow2)))
        · rw [shZ_app, nmsZ_app, nmsZ_zn, zn_len, htk, ← List.append_assoc, List.nil_append]
          rw [e] at ow2
          exact ow2
        · rw [hf] at hX
          cases hX
          rw [List.length_append, zn_len]
          omega
      · have hf := hsq none (by unfold srP; rw [hZ]; exact hY)
        refine h2 w2 (fun X hX => by rw [hf] at hX; exact absurd hX (by simp)) (Of.trs kv hw2)
    · have hf := hsq none (by unfold srP; rw [hZ])
      exact h2 w (fun X hX => by rw [hf] at hX; exact absurd hX (by simp)) (Of.trs kv hw)
  unfold P_M_isType
  refine word_of (L := wS 51) (by unfold wOk; decide +kernel) (by decide +kernel) o (fun hs v k ov => ⟨fun e => absurd e (by decide), fun _ => go 1 51 v (by decide) (by decide) (by unfold tyK; rw [if_pos hs]) (by unfold orP wdP; rw [if_pos hs]) k ov⟩) (fun hs1 => ⟨fun _ => ?_, fun e => absurd rfl e⟩)
  refine word_of (L := wS 52) (by unfold wOk; decide +kernel) (by decide +kernel) o (fun hs v k ov => ⟨fun e => absurd e (by decide), fun _ => go 2 52 v (by decide) (by decide) (by unfold tyK; rw [if_neg hs1, if_pos hs]) (by unfold orP wdP; rw [if_neg hs1, if_pos hs]) k ov⟩) (fun hs2 => ⟨fun _ => ?_, fun e => absurd rfl e⟩)
  refine word_of (L := wS 53) (by unfold wOk; decide +kernel) (by decide +kernel) o (fun hs v k ov => ⟨fun e => absurd e (by decide), fun _ => go 3 53 v (by decide) (by decide) (by unfold tyK; rw [if_neg hs1, if_neg hs2, if_pos hs]) (by unfold orP wdP; rw [if_neg hs1, if_neg hs2, if_pos hs]) k ov⟩) (fun hs3 => ⟨fun _ => ⟨fun _ => ⟨1, fun _ => ⟨fun _ => ?_, fun e => absurd rfl e⟩, fun e => absurd rfl e⟩, fun e => absurd (by decide) e⟩, fun e => absurd rfl e⟩)
  refine h2 u (fun Z hZ => ?_) o.of
  have : ftP c 15 a = none := by
    show sq (orP (wdP c 51) (orP (wdP c 52) (wdP c 53))) (srP c (nmP c 4)) a = _
    refine sq_none0 ?_
    unfold orP wdP
    rw [if_neg hs1, if_neg hs2, if_neg hs3]
  rw [this] at hZ
  exact absurd hZ (by simp)
/-- an item of a dimension -/
theorem dim_item {A B : MS → Prop} {a : Nat} {sh : List Nat} {nm : List Nx} (o : Os c n b u a sh nm) (hB : ∀ Z v, dmP c a = some Z → KM u v → Os c n b v (a + Z.length) (sh ++ shZ c a Z) (nm ++ nmsZ 0 a Z) → B v) (hA : ∀ v, dmP c a = none → Of c u v sh nm → A v) : P_M_name (fun r4 u3 => ((r4 = 0 → A u3) ∧ (¬ r4 = 0 → P_M_sign (fun r8 u7 => ((r8 = 0 → A u7) ∧ (¬ r8 = 0 → P_M_digits (fun r10 u9 => ((r10 < 0 → A u9) ∧ (¬ r10 < 0 → P_M_sign (fun r12 u11 => ((r12 = 0 → A u11) ∧ (¬ r12 = 0 → B u11))) (41 : Int32) u9))) (3 : Int32) u7))) (40 : Int32) u3))) (1 : Int32) (0 : Int32) u := by
  have e22 : wS 22 = [40] := by decide +kernel
  have e24 : wS 24 = [41] := by decide +kernel
  have w22 : ∀ p, (c p = 40 → wdP c 22 p = some (zn 1)) ∧ (¬ c p = 40 → wdP c 22 p = none) := fun p => by
    unfold wdP
    rw [e22]
    exact ⟨fun h => by rw [if_pos (by simp [st, h])]; rfl, fun h => by rw [if_neg (by simp [st, h])]⟩
  have w24 : ∀ p, (c p = 41 → wdP c 24 p = some (zn 1)) ∧ (¬ c p = 41 → wdP c 24 p = none) := fun p => by
    unfold wdP
    rw [e24]
    exact ⟨fun h => by rw [if_pos (by simp [st, h])]; rfl, fun h => by rw [if_neg (by simp [st, h])]⟩
  unfold dmP at hA hB
  refine name_tieM (how := 1) (ty := 0) (by decide) (by decide) _ u a sh nm o (fun Z v hZ k ov => ⟨fun e => absurd e (by decide), fun _ => ?_⟩) (fun v hZ hv => ⟨fun _ => hA v (sq_none0 hZ) hv, fun e => absurd rfl e⟩)
  refine sign_of (x := 40) (by decide) (by decide) ov (fun h40 v2 k2 o2 => ⟨fun e => absurd e (by decide), fun _ => ?_⟩) (fun h40 => ⟨fun _ => hA v (sq_none hZ (sq_none0 ((w22 _).2 h40))) (Os.off k ov), fun e => absurd rfl e⟩)
  have h22 := (w22 _).1 h40
  refine digits_of (most := 3) (role := 0) (by decide) (by decide) (by decide) o2 (fun D v3 hD k3 o3 => ?_) (fun v3 hD k3 o3 => ⟨fun _ => hA v3 (sq_none hZ (sq_none h22 (sq_none0 hD))) ?_, fun e => absurd (by decide) e⟩)
  · have hlt : vlN c (dgN c 3 (a + Z.length + 1) - (a + Z.length + 1)) (a + Z.length + 1) 0 < 10 ^ 3 := by
      have h1 := vl_lt (dgN_dgs (c := c) 3 (a + Z.length + 1))
      have h2 : ∀ f p, dgN c f p ≤ p + f := by
        intro f
        induction f with
        | zero => intro p; exact Nat.le_refl _
        | succ f ih =>
          intro p
          unfold dgN
          split
          · have := ih (p + 1); omega
          · omega
      have h3 := h2 3 (a + Z.length + 1)
      have h4 : (10 : Nat) ^ (dgN c 3 (a + Z.length + 1) - (a + Z.length + 1)) ≤ 10 ^ 3 := Nat.pow_le_pow_right (by decide) (by omega)
      omega
    refine ⟨fun e => absurd e (nI_pos (by omega)), fun _ => ?_⟩
    have off3 : Of c u v3 sh nm := Of.tr k (Of.trs k2 (Os.off k3 o3))
    refine sign_of (x := 41) (by decide) (by decide) o3 (fun h41 v4 k4 o4 => ⟨fun e => absurd e (by decide), fun _ => ?_⟩) (fun h41 => ⟨fun _ => hA v3 (sq_none hZ (sq_none h22 (sq_none hD ((w24 _).2 h41)))) off3, fun e => absurd rfl e⟩)
    have h24 := (w24 _).1 h41
    refine hB _ v4 (sq_some hZ (sq_some h22 (sq_some hD h24))) (k.tr (k2.tr (k3.tr k4))) ?_
    have es : shZ c a (Z ++ (zn 1 ++ (D ++ zn 1))) = shZ c a Z ++ ([40] ++ (shZ c (a + Z.length + 1) D ++ [41])) := by
      rw [shZ_app, shZ_app, shZ_app, shZ_zn, shZ_zn, zn_len]
      simp [sgN, h40, h41]
    have en : nmsZ 0 a (Z ++ (zn 1 ++ (D ++ zn 1))) = nmsZ 0 a Z ++ nmsZ 0 (a + Z.length + 1) D := by
      rw [nmsZ_app, nmsZ_app, nmsZ_app, nmsZ_zn, nmsZ_zn, zn_len, List.append_nil]
      rfl
    have el : a + (Z ++ (zn 1 ++ (D ++ zn 1))).length = a + Z.length + 1 + D.length + 1 := by
      simp only [List.length_append, zn_len]; omega
    rw [es, en, el]
    simp only [List.append_assoc] at o4 ⊢
    exact o4
  · have h9 : Of c v2 v3 (sh ++ shZ c a Z ++ [40]) (nm ++ nmsZ 0 a Z) := ⟨k3, o3.of.2⟩
    exact Of.tr k (Of.trs k2 h9)
theorem dim_loop {post : Int32 → MS → Prop} {a : Nat} {sh : List Nat} {nm : List Nx} (o : Os c n b u a sh nm) (hfin : ∀ Z w, srP c (dmP c) a = some Z → KM u w → Os c n b w (a + Z.length) (sh ++ shZ c a Z) (nm ++ nmsZ 0 a Z) → EndM post w) (hbad : ∀ w, srP c (dmP c) a = none → Of c u w sh nm → post 0 w) : ∀ (f : Nat) (acc : List Tz) (v : MS), n ≤ a + acc.length + f → KM u v → Os c n b v (a + acc.length) (sh ++ shZ c a acc) (nm ++ nmsZ 0 a acc) → ((acc = [] ∧ f = 80) ∨ ∃ acc0, acc = acc0 ++ zn 1 ∧ c (a + acc0.length) = 44 ∧ srP c (dmP c) a = srR c (dmP c) a (f + 1) acc0) → P_M_isDimension_27 post (f + 2) 1 1 v := by
  have hz := o.1.2.2.2.2.2
  have e23 : wS 23 = [44] := by decide +kernel
  have hs : ∀ p, (st c p (wS 23) = true ↔ c p = 44) := fun p => by rw [e23]; simp [st]
  have e1 : (wS 23).length = 1 := by rw [e23]; rfl
  intro f
  induction f with
  | zero =>
    intro acc v hf kv ov hacc
    rcases hacc with ⟨_, h⟩ | ⟨acc0, h1, h2, h3⟩
    · omega
    · refine ⟨fun e => absurd e (by decide), fun _ => ⟨fun e => absurd e (by decide), fun _ => ?_⟩⟩
      refine dim_item (A := fun u3 => P_M_isDimension_74 post (fun zx1 zx2 zu => P_M_isDimension_27 post 1 zx1 zx2 zu) u3) (B := fun u11 => P_M_isDimension_75 post (fun zx1 zx2 zu => P_M_isDimension_27 post 1 zx1 zx2 zu) 1 u11) ov (fun Z w hZ kw ow => ?_) (fun w hZ hw => ⟨fun _ => ⟨fun _ => ⟨fun _ => ?_, fun e => absurd rfl e⟩, fun e => absurd rfl e⟩, fun e => absurd rfl e⟩)
      · have h0 := hz (a + acc.length) (by omega)
        have : lr (c (a + acc.length)) = true := by
          by_cases hl : lr (c (a + acc.length)) = true
          · exact hl
          · have : dmP c (a + acc.length) = none := sq_none0 (by unfold nmP; rw [if_neg hl])
            rw [this] at hZ
            exact absurd hZ (by simp)
        rw [h0] at this
        exact absurd this (by decide)
      · refine hbad w ?_ (Of.tr kv hw)
        rw [h3]
        unfold srR
        rw [if_pos ((hs _).mpr h2), e1]
        rw [h1, List.length_append, zn_len, ← Nat.add_assoc] at hZ
        rw [hZ]
  | succ f ih =>
    intro acc v hf kv ov hacc
    refine ⟨fun e => absurd e (by decide), fun _ => ⟨fun e => absurd e (by decide), fun _ => ?_⟩⟩
    -- what the whole is, by this item
    have whole : ∀ R, dmP c (a + acc.length) = R → srP c (dmP c) a = match R with
      | none => none
      | some Z => srR c (dmP c) a (f + 1) (acc ++ Z) := by
      intro R hR
      rcases hacc with ⟨h1, h2⟩ | ⟨acc0, h1, h2, h3⟩
      · subst h1
        have hR' : dmP c a = R := hR
        have h9 : f = 79 := by omega
        subst h9
        unfold srP
        rw [hR']
        cases R <;> rfl
      · rw [h3]
        conv => lhs; unfold srR
        rw [if_pos ((hs _).mpr h2), e1]
        rw [h1, List.length_append, zn_len, ← Nat.add_assoc] at hR
        rw [hR]
        cases R with
        | none => rfl
        | some Z => simp only; rw [h1, List.append_assoc]
    refine dim_item (A := fun u3 => P_M_isDimension_74 post (fun zx1 zx2 zu => P_M_isDimension_27 post (f + 2) zx1 zx2 zu) u3) (B := fun u11 => P_M_isDimension_75 post (fun zx1 zx2 zu => P_M_isDimension_27 post (f + 2) zx1 zx2 zu) 1 u11) ov (fun Z w hZ kw ow => ⟨fun e => absurd e (by decide), fun _ => ?_⟩) (fun w hZ hw => ⟨fun _ => ⟨fun _ => ⟨fun _ => ?_, fun e => absurd rfl e⟩, fun e => absurd rfl e⟩, fun e => absurd rfl e⟩)
    · have hw := whole _ hZ
      simp only at hw
      have ow' : Os c n b w (a + (acc ++ Z).length) (sh ++ shZ c a (acc ++ Z)) (nm ++ nmsZ 0 a (acc ++ Z)) := by
        rw [shZ_app, nmsZ_app, List.length_append, ← Nat.add_assoc, ← List.append_assoc, ← List.append_assoc]
        exact ow
      have hZne : 0 < Z.length := by
        cases Z with
        | nil =>
          have : NE (nmP c 1) := by
            intro p Y h
            unfold nmP at h
            split at h
            · cases h; simp
            · exact absurd h (by simp)
          unfold dmP sq at hZ
          split at hZ
          · exact absurd hZ (by simp)
          · rename_i Y hY
            split at hZ
            · exact absurd hZ (by simp)
            · have h9 := Option.some.inj hZ
              exact absurd (List.append_eq_nil_iff.mp h9).1 (this _ _ hY)
        | cons t Z => simp
      refine sign_of (x := 44) (by decide) (by decide) ow' (fun h44 w2 k2 o2 => ⟨fun e => absurd e (by decide), fun _ => ?_⟩) (fun h44 => ⟨fun _ => ⟨fun e => absurd e (by decide), fun _ => ⟨fun _ => ⟨fun e => absurd e (by decide), fun _ => ?_⟩, fun e => absurd rfl e⟩⟩, fun e => absurd rfl e⟩)
      · unfold P_M_isDimension_94
        refine ih ((acc ++ Z) ++ zn 1) w2 (by simp only [List.length_append, zn_len]; omega) (kv.tr (kw.tr k2)) ?_ (Or.inr ⟨acc ++ Z, rfl, h44, hw⟩)
        have es : shZ c a ((acc ++ Z) ++ zn 1) = shZ c a (acc ++ Z) ++ [44] := by
          rw [shZ_app, shZ_zn]
          simp only [sgN, h44]
        have en : nmsZ 0 a ((acc ++ Z) ++ zn 1) = nmsZ 0 a (acc ++ Z) := by rw [nmsZ_app, nmsZ_zn, List.append_nil]
        rw [es, en, List.length_append (bs := zn 1), zn_len, ← Nat.add_assoc, ← List.append_assoc]
        exact o2
      · refine hfin (acc ++ Z) w ?_ (kv.tr kw) ow'
        rw [hw]
        unfold srR
        rw [if_neg (fun q => h44 ((hs _).mp q))]
    · have hw' := whole _ hZ
      simp only at hw'
      exact hbad w hw' (Of.tr kv hw)
theorem tx16 : TX c n b 0 (ftP c 16) (fun post u => P_M_isDimension post u) := by
  intro post u a sh nm o h1 h2
  have h80 := o.1.1
  have e54 : wS 54 = [68, 73, 77, 69, 78, 83, 73, 79] ++ [78] := by decide +kernel
  have hst : st c a (wS 54) = (st c a [68, 73, 77, 69, 78, 83, 73, 79] && decide (c (a + 8) = 78)) := by
    rw [e54, st_app]
    simp [st]
  have none : ¬ st c a (wS 54) = true → ftP c 16 a = none := fun h => sq_none0 (by unfold wdP; rw [if_neg h])
  unfold P_M_isDimension
  refine word_of (L := [68, 73, 77, 69, 78, 83, 73, 79]) (by unfold wOk; decide +kernel) (by decide) o (fun hs v k ov => ⟨fun e => absurd e (by decide), fun _ => ?_⟩) (fun hs => ⟨fun _ => ⟨1, fun _ => ⟨fun _ => ?_, fun e => absurd rfl e⟩, fun e => absurd rfl e⟩, fun e => absurd rfl e⟩)
  · refine sign_of (x := 78) (by decide) (by decide) ov (fun h78 v2 k2 o2 => ⟨fun e => absurd e (by decide), fun _ => ?_⟩) (fun h78 => ⟨fun _ => ⟨1, fun _ => ⟨fun _ => ?_, fun e => absurd rfl e⟩, fun e => absurd rfl e⟩, fun e => absurd rfl e⟩)
    · have hS : st c a (wS 54) = true := by
        rw [hst, hs]
        simpa using h78
      have hw54 : wdP c 54 a = some (zn 9) := by
        unfold wdP
        rw [if_pos hS, e54]
        rfl
      have o2' : Os c n b v2 (a + 9) (sh ++ shZ c a (zn 9)) nm := by
        have e : shZ c a (zn 9) = shZ c a (zn 8) ++ [78] := by
          have h78' : c (a + 8) = 78 := h78
          rw [show zn 9 = zn 8 ++ zn 1 from rfl, shZ_app, zn_len, shZ_zn c 1]
          simp [sgN, h78']
        rw [e, ← List.append_assoc]
        exact o2
      have o3 : Os c n b v2 (a + 9 + ([] : List Tz).length) ((sh ++ shZ c a (zn 9)) ++ shZ c (a + 9) []) (nm ++ nmsZ 0 (a + 9) []) := by
        show Os c n b v2 (a + 9) ((sh ++ shZ c a (zn 9)) ++ []) (nm ++ [])
        rw [List.append_nil, List.append_nil]
        exact o2'
      refine ⟨82, dim_loop o2' (fun Z w hZ kw ow => ?_) (fun w hZ hw => ?_) 80 [] v2 (by omega) (KM.refl v2) o3 (Or.inl ⟨rfl, rfl⟩)⟩
      · have hf : ftP c 16 a = some (zn 9 ++ Z) := sq_some hw54 (by rw [zn_len]; exact hZ)
        refine endM ow (fun e => h1 _ w hf (by rw [List.length_append, zn_len]; omega) (k.tr (k2.tr kw)) ?_) (fun e => h2 w (fun Y hY => ?_) ?_)
        · rw [shZ_app, nmsZ_app, nmsZ_zn, zn_len, ← List.append_assoc, List.nil_append]
          rw [e] at ow
          exact ow
        · rw [hf] at hY
          cases hY
          rw [List.length_append, zn_len]
          omega
        · have ow9 := ow
          rw [List.append_assoc] at ow9
          exact Os.off (k.tr (k2.tr kw)) ow9
      · have hf : ftP c 16 a = .none := sq_none hw54 (by rw [zn_len]; exact hZ)
        exact h2 w (fun Y hY => by rw [hf] at hY; exact absurd hY (by simp)) (Of.trs (k.tr k2) hw)
    · refine h2 v (fun Y hY => ?_) (Os.offs k ov)
      have h78' : ¬ c (a + 8) = 78 := h78
      rw [none (by rw [hst]; simp [h78'])] at hY
      exact absurd hY (by simp)
  · refine h2 u (fun Y hY => ?_) o.of
    rw [none (by rw [hst]; simp [hs])] at hY
    exact absurd hY (by simp)
end MSM
