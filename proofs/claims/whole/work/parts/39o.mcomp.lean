section MSO
variable {c : Nat → Nat} {n b : Nat}
theorem comp_loop {u : MS} {post : Int32 → MS → Prop} {a : Nat} {sh : List Nat} {nm : List Nx} (hz : ∀ i, n ≤ i → c i = 0) (h80 : n ≤ 80) (hfin : ∀ Z w L, srP c (dgP c 5 6) a = some Z → KR u w → Os c n b w (a + Z.length) (sh ++ shZ c a Z) (nm ++ nmsZ 0 a Z) → Am w L → (¬ dg (c (a + Z.length)) = true → L = amZ c a Z) → P_M_isComputed_97 post 1 w) (hbad : ∀ w, srP c (dgP c 5 6) a = none → KR u w → Sh w sh → Nm c w nm → post 0 w) : ∀ (f : Nat) (acc : List Tz) (v : MS) (L : List Nat), n ≤ a + acc.length + f → KR u v → Os c n b v (a + acc.length) (sh ++ shZ c a acc) (nm ++ nmsZ 0 a acc) → Am v L → L = amZ c a acc → L.length ≤ acc.length → ((acc = [] ∧ f = 80) ∨ ∃ acc0, acc = acc0 ++ zn 1 ∧ c (a + acc0.length) = 44 ∧ srP c (dgP c 5 6) a = srR c (dgP c 5 6) a (f + 1) acc0) → P_M_isComputed_25 post (f + 2) 1 1 v := by
  have e23 : wS 23 = [44] := by decide +kernel
  have hs : ∀ p, (st c p (wS 23) = true ↔ c p = 44) := fun p => by rw [e23]; simp [st]
  have e1 : (wS 23).length = 1 := by rw [e23]; rfl
  intro f
  induction f with
  | zero =>
    intro acc v L hf kv ov hA hL hLl hacc
    rcases hacc with ⟨_, h⟩ | ⟨acc0, h1, h2, h3⟩
    · omega
    · refine ⟨fun e => absurd e (by decide), fun _ => ⟨fun e => absurd e (by decide), fun _ => ?_⟩⟩
      have h0 := hz (a + acc.length) (by omega)
      have hp := ov.2.1
      have hD : dgP c 5 6 (a + acc.length) = none := by
        unfold dgP
        have : dgN c 5 (a + acc.length) = a + acc.length := by
          show dgN c (4 + 1) _ = _
          unfold dgN
          rw [h0, if_neg (by decide)]
        rw [if_pos this]
      refine digits_of (most := 5) (role := 6) (by decide) (by decide) (by decide) ov (fun D w hD' => by rw [hD] at hD'; exact absurd hD' (by simp)) (fun w _ kw ow => ?_)
      have w16 : gI w 16 = nI L.length := (kw.1 16 rfl).trans hA.1
      rw [hA.1, w16, nI_clamp (by omega)]
      refine ⟨vp_in_nI (by omega) (by decide), vp_in_nI (by omega) (by decide), fun _ => ⟨fun _ => ⟨fun _ => ⟨fun _ => ?_, fun e => absurd rfl e⟩, fun e => absurd rfl e⟩, fun e => absurd rfl e⟩, fun h => absurd (by rw [gA_sA, if_pos ⟨rfl, rfl⟩]; decide) h⟩
      have ow' := ow.aim (i := L.length) (x := -1) (y := gI (sA w 17 L.length (-1)) 16 + 1)
      refine hbad _ ?_ (KR.aim (kv.tr kw.kr)) ?_ ?_
      · rw [h3]
        unfold srR
        rw [if_pos ((hs _).mpr h2), e1]
        rw [h1, List.length_append, zn_len, ← Nat.add_assoc] at hD
        rw [hD]
      · have := ow'.of.2.1
        exact fun j x hj => this j x (by rw [List.getElem?_append_left (List.getElem?_eq_some_iff.mp hj).1]; exact hj)
      · have := ow'.of.2.2
        exact fun j x hj => this j x (by rw [List.getElem?_append_left (List.getElem?_eq_some_iff.mp hj).1]; exact hj)
  | succ f ih =>
    intro acc v L hf kv ov hA hL hLl hacc
    have hp := ov.2.1
    refine ⟨fun e => absurd e (by decide), fun _ => ⟨fun e => absurd e (by decide), fun _ => ?_⟩⟩
    have whole : ∀ R, dgP c 5 6 (a + acc.length) = R → srP c (dgP c 5 6) a = match R with
      | none => none
      | some Z => srR c (dgP c 5 6) a (f + 1) (acc ++ Z) := by
      intro R hR
      rcases hacc with ⟨h1, h2⟩ | ⟨acc0, h1, h2, h3⟩
      · subst h1
        have hR' : dgP c 5 6 a = R := hR
        have h9 : f = 79 := by omega
        subst h9
        unfold srP
        rw [hR']
        cases R <;> rfl
      · rw [h3]
        conv => lhs; unfold srR
        rw [if_pos ((hs _).mpr h2), e1]
        rw [h1, List.length_append, zn_len, ← Nat.add_assoc] at hR
        rw [hR]
        cases R with
        | none => rfl
        | some Z => simp only; rw [h1, List.append_assoc]
    refine digits_of (most := 5) (role := 6) (by decide) (by decide) (by decide) ov (fun D w hD kw ow => ?_) (fun w hD kw ow => ?_)
    · obtain ⟨m, f1, f2, f3, f4, f5, f6⟩ := dg_facts hD
      have ev : dgN c 5 (a + acc.length) - (a + acc.length) = m + 1 := by omega
      rw [ev]
      have hw := whole _ hD
      simp only at hw
      have w16 : gI w 16 = nI L.length := (kw.1 16 rfl).trans hA.1
      rw [hA.1, w16, nI_clamp (by omega)]
      refine ⟨vp_in_nI (by omega) (by decide), vp_in_nI (by omega) (by decide), fun h => absurd h (by rw [gA_sA, if_pos ⟨rfl, rfl⟩]; exact nI_pos (by omega)), fun _ => ⟨fun e => absurd e (by decide), fun _ => ?_⟩⟩
      rw [gI_sA, w16, nI_1]
      have ow' := ow.aim (i := L.length) (x := nI (vlN c (m + 1) (a + acc.length) 0)) (y := nI (L.length + 1))
      have kr : KR u (sI (sA w 17 L.length (nI (vlN c (m + 1) (a + acc.length) 0))) 16 (nI (L.length + 1))) := KR.aim (kv.tr kw.kr)
      have am' : Am (sI (sA w 17 L.length (nI (vlN c (m + 1) (a + acc.length) 0))) 16 (nI (L.length + 1))) (L ++ [vlN c (m + 1) (a + acc.length) 0]) := by
        refine ⟨by rw [gI_sI, if_pos rfl, List.length_append, List.length_singleton], fun j x hj => ?_⟩
        rw [gA_sI, gA_sA]
        by_cases e : j = L.length
        · subst e
          rw [List.getElem?_append_right (Nat.le_refl _), Nat.sub_self] at hj
          cases hj
          rw [if_pos ⟨rfl, rfl⟩]
        · have hlt := (List.getElem?_eq_some_iff.mp hj).1
          rw [List.length_append, List.length_singleton] at hlt
          rw [List.getElem?_append_left (by omega)] at hj
          rw [if_neg (fun q => e q.2), kw.2 17 rfl]
          exact hA.2 j x hj
      have ow2 : Os c n b (sI (sA w 17 L.length (nI (vlN c (m + 1) (a + acc.length) 0))) 16 (nI (L.length + 1))) (a + (acc ++ D).length) (sh ++ shZ c a (acc ++ D)) (nm ++ nmsZ 0 a (acc ++ D)) := by
        rw [shZ_app, nmsZ_app, List.length_append, ← Nat.add_assoc, ← List.append_assoc, ← List.append_assoc]
        exact ow'
      have hlen : a + (acc ++ D).length = a + acc.length + (m + 1) := by rw [List.length_append]; omega
      have ham : ¬ dg (c (a + (acc ++ D).length)) = true → L ++ [vlN c (m + 1) (a + acc.length) 0] = amZ c a (acc ++ D) := by
        intro h
        rw [hlen] at h
        rw [amZ_app, ← hL, f5, am_dz m (a + acc.length) f3 f4 h]
      refine sign_of (x := 44) (by decide) (by decide) ow2 (fun h44 w2 k2 o2 => ⟨fun e => absurd e (by decide), fun _ => ?_⟩) (fun h44 => ⟨fun _ => ⟨fun e => absurd e (by decide), fun _ => ⟨fun _ => hfin (acc ++ D) _ _ ?_ kr ow2 am' ham, fun e => absurd rfl e⟩⟩, fun e => absurd rfl e⟩)
      · unfold P_M_isComputed_93
        refine ih ((acc ++ D) ++ zn 1) w2 (L ++ [vlN c (m + 1) (a + acc.length) 0]) (by simp only [List.length_append, zn_len]; omega) (kr.tr k2.kr) ?_ ⟨(k2.1 16 rfl).trans am'.1, fun j x hj => (k2.2 17 rfl j).trans (am'.2 j x hj)⟩ ?_ (by simp only [List.length_append, List.length_singleton, zn_len]; omega) (Or.inr ⟨acc ++ D, rfl, h44, hw⟩)
        · have es : shZ c a ((acc ++ D) ++ zn 1) = shZ c a (acc ++ D) ++ [44] := by
            rw [shZ_app, shZ_zn]
            simp only [sgN, h44]
          have en : nmsZ 0 a ((acc ++ D) ++ zn 1) = nmsZ 0 a (acc ++ D) := by rw [nmsZ_app, nmsZ_zn, List.append_nil]
          rw [es, en, List.length_append (bs := zn 1), zn_len, ← Nat.add_assoc, ← List.append_assoc]
          exact o2
        · rw [ham (by rw [h44]; decide), amZ_app c (acc ++ D) (zn 1), amZ_ns c (zn 1) _ (nsL.zn _), List.append_nil]
      · rw [hw]
        unfold srR
        rw [if_neg (fun q => h44 ((hs _).mp q))]
    · have hw := whole _ hD
      simp only at hw
      have w16 : gI w 16 = nI L.length := (kw.1 16 rfl).trans hA.1
      rw [hA.1, w16, nI_clamp (by omega)]
      refine ⟨vp_in_nI (by omega) (by decide), vp_in_nI (by omega) (by decide), fun _ => ⟨fun _ => ⟨fun _ => ⟨fun _ => ?_, fun e => absurd rfl e⟩, fun e => absurd rfl e⟩, fun e => absurd rfl e⟩, fun h => absurd (by rw [gA_sA, if_pos ⟨rfl, rfl⟩]; decide) h⟩
      have ow' := ow.aim (i := L.length) (x := -1) (y := gI (sA w 17 L.length (-1)) 16 + 1)
      refine hbad _ hw (KR.aim (kv.tr kw.kr)) ?_ ?_
      · have := ow'.of.2.1
        exact fun j x hj => this j x (by rw [List.getElem?_append_left (List.getElem?_eq_some_iff.mp hj).1]; exact hj)
      · have := ow'.of.2.2
        exact fun j x hj => this j x (by rw [List.getElem?_append_left (List.getElem?_eq_some_iff.mp hj).1]; exact hj)
theorem pre_sh {w : MS} {sh s2 : List Nat} (h : Sh w (sh ++ s2)) : Sh w sh := fun j x hj => h j x (by rw [List.getElem?_append_left (List.getElem?_eq_some_iff.mp hj).1]; exact hj)
theorem pre_nm {w : MS} {nm n2 : List Nx} (h : Nm c w (nm ++ n2)) : Nm c w nm := fun j x hj => h j x (by rw [List.getElem?_append_left (List.getElem?_eq_some_iff.mp hj).1]; exact hj)
theorem comp_sim : SimC c n b 17 (fun post u => P_M_isComputed post u) := by
  intro post u a sh nm o h16 h1 h2
  have hz := o.1.2.2.2.2.2
  have h80 := o.1.1
  have e4 : (wS 45).length = 4 := by decide +kernel
  have e24 : wS 24 = [41] := by decide +kernel
  have e55 : wS 55 = wS 45 ++ [40] := by decide +kernel
  have hst : st c a (wS 55) = (st c a (wS 45) && decide (c (a + 4) = 40)) := by
    rw [e55, st_app, e4]
    simp [st]
  have none0 : ¬ st c a (wS 55) = true → ftP c 17 a = none := fun h => sq_none0 (by unfold wdP; rw [if_neg h])
  unfold P_M_isComputed
  refine word_of (L := wS 45) (by unfold wOk; decide +kernel) (by decide +kernel) o (fun hs v k ov => ⟨fun e => absurd e (by decide), fun _ => ?_⟩) (fun hs => ⟨fun _ => h2 u (fun Z hZ => ?_) (KM.refl u).kr o.of.2.1 o.of.2.2, fun e => absurd rfl e⟩)
  · rw [e4] at ov
    refine sign_of (x := 40) (by decide) (by decide) ov (fun h40 v2 k2 o2 => ⟨fun _ => ?_, fun e => absurd e (by decide)⟩) (fun h40 => ⟨fun e => absurd rfl e, fun _ => h2 v (fun Z hZ => ?_) k.kr (pre_sh ov.of.2.1) ov.of.2.2⟩)
    · have hS : st c a (wS 55) = true := by rw [hst, hs]; simpa using h40
      have hw : wdP c 55 a = some (zn 5) := by
        unfold wdP
        rw [if_pos hS]
        congr 2
      have o2' : Os c n b v2 (a + 5) (sh ++ shZ c a (zn 5)) nm := by
        have e : shZ c a (zn 5) = shZ c a (zn 4) ++ [40] := by
          rw [show zn 5 = zn 4 ++ zn 1 from rfl, shZ_app, zn_len, shZ_zn c 1]
          simp [sgN, h40]
        rw [e, ← List.append_assoc]
        exact o2
      have am0 : Am v2 [] := Am.nil (k.tr k2) h16
      have o3 : Os c n b v2 (a + 5 + ([] : List Tz).length) ((sh ++ shZ c a (zn 5)) ++ shZ c (a + 5) []) (nm ++ nmsZ 0 (a + 5) []) := by
        show Os c n b v2 (a + 5) ((sh ++ shZ c a (zn 5)) ++ []) (nm ++ [])
        rw [List.append_nil, List.append_nil]
        exact o2'
      refine ⟨82, comp_loop (u := v2) hz h80 (fun Z w L hZ kw ow am hL => ⟨fun e => absurd e (by decide), fun _ => ?_⟩) (fun w hZ kw hsh hnm => ?_) 80 [] v2 [] (by omega) (KM.refl v2).kr o3 am0 rfl (Nat.le_refl _) (Or.inl ⟨rfl, rfl⟩)⟩
      · have krw : KR u w := (k.tr k2).kr.tr kw
        refine sign_of (x := 41) (by decide) (by decide) ow (fun h41 w2 kw2 ow2 => ⟨fun _ => ?_, fun e => absurd e (by decide)⟩) (fun h41 => ⟨fun e => absurd rfl e, fun _ => h2 w (fun Y hY => ?_) krw (pre_sh (pre_sh ow.of.2.1)) (pre_nm ow.of.2.2)⟩)
        · have h24 : wdP c 24 (a + 5 + Z.length) = some (zn 1) := by
            unfold wdP
            rw [e24, if_pos (by simp [st, h41])]
            rfl
          refine comma_of ow2 (fun C w3 hC kw3 ow3 => ?_)
          have hft : ∀ R, EX c 8 (a + 5 + Z.length + 1 + C.length) = R → ftP c 17 a = match R with
            | none => none
            | some Y => some (zn 5 ++ (Z ++ (zn 1 ++ (C ++ Y)))) := by
            intro R hR
            have hC' : idP c (a + 5 + Z.length + (zn 1).length) = some C := hC
            cases R with
            | none => exact sq_none hw (sq_none (by rw [zn_len]; exact hZ) (sq_none (by rw [zn_len]; exact h24) (sq_none (by rw [zn_len]; exact hC') (by rw [zn_len]; exact hR))))
            | some Y => exact sq_some hw (sq_some (by rw [zn_len]; exact hZ) (sq_some (by rw [zn_len]; exact h24) (sq_some (by rw [zn_len]; exact hC') (by rw [zn_len]; exact hR))))
          have k23 : KM w w3 := kw2.tr kw3
          refine TX.last (expr_tieM (m := 8) (d := 0) rfl) post w3 _ _ _ ow3 (fun Y y hY hn ky oy => ?_) (fun y hY hy => ?_)
          · have hf := hft _ hY
            simp only at hf
            refine h1 _ y hf (by simp only [List.length_append, zn_len]; omega) (krw.tr (k23.tr ky).kr) ?_ ?_
            · rw [if_neg (by decide)]
              have e41 : shZ c (a + (5 + Z.length)) (zn 1) = [41] := by
                rw [shZ_zn]
                simp only [sgN]
                rw [← Nat.add_assoc, h41]
              simp only [shZ_app, nmsZ_app, nmsZ_zn, zn_len, List.nil_append, List.append_nil]
              simp only [List.append_assoc, Nat.add_assoc] at oy ⊢
              rw [e41]
              exact oy
            · have nsC : nsL C := ns_id c _ _ hC
              have nsY : nsL Y := ns_EX c 8 _ _ hY
              rw [amZ_app, amZ_ns c (zn 5) _ (nsL.zn _), amZ_app, zn_len, amZ_ns c _ _ ((nsL.zn 1).app (nsC.app nsY)), List.append_nil, List.nil_append, ← hL (by rw [h41]; decide)]
              exact ⟨((k23.tr ky).1 16 rfl).trans am.1, fun j x hj => ((k23.tr ky).2 17 rfl j).trans (am.2 j x hj)⟩
          · refine h2 y (fun X hX hn => ?_) (krw.tr (k23.tr hy.1).kr) ?_ ?_
            · cases hR : EX c 8 (a + 5 + Z.length + 1 + C.length) with
              | none =>
                rw [hft _ hR] at hX
                exact absurd hX (by simp)
              | some Y =>
                rw [hft _ hR] at hX
                cases hX
                simp only [List.length_append, zn_len] at hn
                exact hY Y hR (by omega)
            · exact pre_sh (pre_sh (pre_sh (pre_sh hy.2.1)))
            · exact pre_nm (pre_nm hy.2.2)
        · have : ftP c 17 a = none := sq_none hw (sq_none (by rw [zn_len]; exact hZ) (sq_none0 (by
            unfold wdP
            rw [e24, zn_len, if_neg (by simp [st, h41])])))
          rw [this] at hY
          exact absurd hY (by simp)
      · have : ftP c 17 a = none := sq_none hw (sq_none0 (by rw [zn_len]; exact hZ))
        exact h2 w (fun Y hY => by rw [this] at hY; exact absurd hY (by simp)) ((k.tr k2).kr.tr kw) (pre_sh hsh) hnm
    · rw [none0 (by rw [hst]; simp [h40])] at hZ
      exact absurd hZ (by simp)
  · rw [none0 (by rw [hst]; simp [hs])] at hZ
    exact absurd hZ (by simp)
theorem SimC.nar {k : Nat} {P : (Int32 → MS → Prop) → MS → Prop} (h : SimC c n b k P) : SimC c n b k (fun post u => P (fun r u1 => (narrow .boolean (.int r) = .int r ∧ post r u1)) u) := fun post u a sh nm o h16 h1 h2 => h _ u a sh nm o h16 (fun Z v hZ hn kr ov am => ⟨rfl, h1 Z v hZ hn kr ov am⟩) (fun v hZ kr hs hn => ⟨rfl, h2 v hZ kr hs hn⟩)
theorem simple_1 : SimC c n b 1 (fun post u => P_M_simple post (nI 1) u) := fun post u a sh nm o h16 h1 h2 => ⟨fun _ => (do_sim.nar) post u a sh nm o h16 h1 h2, fun e => absurd rfl e⟩
theorem simple_2 : SimC c n b 2 (fun post u => P_M_simple post (nI 2) u) := fun post u a sh nm o h16 h1 h2 => ⟨fun e => absurd e (by decide), fun _ => ⟨fun _ => ((TX.sim tx2 (by decide) (ns_sq (ns_rf (fun E h => by cases h; exact ns_EX c 7) false) (ns_sq (ns_wd c _) (ns_EX c 8)))).nar) post u a sh nm o h16 h1 h2, fun e => absurd rfl e⟩⟩
theorem simple_3 : SimC c n b 3 (fun post u => P_M_simple post (nI 3) u) := fun post u a sh nm o h16 h1 h2 => ⟨fun e => absurd e (by decide), fun _ => ⟨fun e => absurd e (by decide), fun _ => ⟨fun _ => ((TX.sim tx3 (by decide) (ns_sq (ns_wd c _) (ns_sq (ns_EX c 7) (ns_wd c _)))).nar) post u a sh nm o h16 h1 h2, fun e => absurd rfl e⟩⟩⟩
theorem simple_4 : SimC c n b 4 (fun post u => P_M_simple post (nI 4) u) := fun post u a sh nm o h16 h1 h2 => ⟨fun e => absurd e (by decide), fun _ => ⟨fun e => absurd e (by decide), fun _ => ⟨fun e => absurd e (by decide), fun _ => ⟨fun _ => h2 u (fun Z hZ => absurd hZ (by simp [ftP])) (KM.refl u).kr o.of.2.1 o.of.2.2, fun e => absurd rfl e⟩⟩⟩⟩
theorem simple_5 : SimC c n b 5 (fun post u => P_M_simple post (nI 5) u) := fun post u a sh nm o h16 h1 h2 => ⟨fun e => absurd e (by decide), fun _ => ⟨fun e => absurd e (by decide), fun _ => ⟨fun e => absurd e (by decide), fun _ => ⟨fun e => absurd e (by decide), fun _ => ⟨fun _ => ((TX.sim tx5 (by decide) (ns_sq (ns_wd c _) (ns_sq (ns_EX c 7) (ns_wd c _)))).nar) post u a sh nm o h16 h1 h2, fun e => absurd rfl e⟩⟩⟩⟩⟩
theorem simple_6 : SimC c n b 6 (fun post u => P_M_simple post (nI 6) u) := fun post u a sh nm o h16 h1 h2 => ⟨fun e => absurd e (by decide), fun _ => ⟨fun e => absurd e (by decide), fun _ => ⟨fun e => absurd e (by decide), fun _ => ⟨fun e => absurd e (by decide), fun _ => ⟨fun e => absurd e (by decide), fun _ => ⟨fun _ => ((TX.sim tx6 (by decide) (ns_wd c _)).nar) post u a sh nm o h16 h1 h2, fun e => absurd rfl e⟩⟩⟩⟩⟩⟩
theorem simple_7 : SimC c n b 7 (fun post u => P_M_simple post (nI 7) u) := fun post u a sh nm o h16 h1 h2 => ⟨fun e => absurd e (by decide), fun _ => ⟨fun e => absurd e (by decide), fun _ => ⟨fun e => absurd e (by decide), fun _ => ⟨fun e => absurd e (by decide), fun _ => ⟨fun e => absurd e (by decide), fun _ => ⟨fun e => absurd e (by decide), fun _ => ⟨fun _ => ((TX.sim tx7 (by decide) (ns_wd c _)).nar) post u a sh nm o h16 h1 h2, fun e => absurd rfl e⟩⟩⟩⟩⟩⟩⟩
theorem simple_8 : SimC c n b 8 (fun post u => P_M_simple post (nI 8) u) := fun post u a sh nm o h16 h1 h2 => ⟨fun e => absurd e (by decide), fun _ => ⟨fun e => absurd e (by decide), fun _ => ⟨fun e => absurd e (by decide), fun _ => ⟨fun e => absurd e (by decide), fun _ => ⟨fun e => absurd e (by decide), fun _ => ⟨fun e => absurd e (by decide), fun _ => ⟨fun e => absurd e (by decide), fun _ => ⟨fun _ => ((TX.sim tx8 (by decide) (ns_wd c _)).nar) post u a sh nm o h16 h1 h2, fun e => absurd rfl e⟩⟩⟩⟩⟩⟩⟩⟩
theorem simple_9 : SimC c n b 9 (fun post u => P_M_simple post (nI 9) u) := fun post u a sh nm o h16 h1 h2 => ⟨fun e => absurd e (by decide), fun _ => ⟨fun e => absurd e (by decide), fun _ => ⟨fun e => absurd e (by decide), fun _ => ⟨fun e => absurd e (by decide), fun _ => ⟨fun e => absurd e (by decide), fun _ => ⟨fun e => absurd e (by decide), fun _ => ⟨fun e => absurd e (by decide), fun _ => ⟨fun e => absurd e (by decide), fun _ => ⟨fun _ => (goto_sim.nar) post u a sh nm o h16 h1 h2, fun e => absurd rfl e⟩⟩⟩⟩⟩⟩⟩⟩⟩
theorem simple_10 : SimC c n b 10 (fun post u => P_M_simple post (nI 10) u) := fun post u a sh nm o h16 h1 h2 => ⟨fun e => absurd e (by decide), fun _ => ⟨fun e => absurd e (by decide), fun _ => ⟨fun e => absurd e (by decide), fun _ => ⟨fun e => absurd e (by decide), fun _ => ⟨fun e => absurd e (by decide), fun _ => ⟨fun e => absurd e (by decide), fun _ => ⟨fun e => absurd e (by decide), fun _ => ⟨fun e => absurd e (by decide), fun _ => ⟨fun e => absurd e (by decide), fun _ => ⟨fun _ => ((TX.sim tx10 (by decide) (ns_sq (ns_wd c _) (ns_sq (ns_nm c (by decide)) (ns_cl c)))).nar) post u a sh nm o h16 h1 h2, fun e => absurd rfl e⟩⟩⟩⟩⟩⟩⟩⟩⟩⟩
theorem simple_11 : SimC c n b 11 (fun post u => P_M_simple post (nI 11) u) := fun post u a sh nm o h16 h1 h2 => ⟨fun e => absurd e (by decide), fun _ => ⟨fun e => absurd e (by decide), fun _ => ⟨fun e => absurd e (by decide), fun _ => ⟨fun e => absurd e (by decide), fun _ => ⟨fun e => absurd e (by decide), fun _ => ⟨fun e => absurd e (by decide), fun _ => ⟨fun e => absurd e (by decide), fun _ => ⟨fun e => absurd e (by decide), fun _ => ⟨fun e => absurd e (by decide), fun _ => ⟨fun e => absurd e (by decide), fun _ => ⟨fun _ => ((TX.sim tx11 (by decide) (ns_wd c _)).nar) post u a sh nm o h16 h1 h2, fun e => absurd rfl e⟩⟩⟩⟩⟩⟩⟩⟩⟩⟩⟩
theorem simple_12 : SimC c n b 12 (fun post u => P_M_simple post (nI 12) u) := fun post u a sh nm o h16 h1 h2 => ⟨fun e => absurd e (by decide), fun _ => ⟨fun e => absurd e (by decide), fun _ => ⟨fun e => absurd e (by decide), fun _ => ⟨fun e => absurd e (by decide), fun _ => ⟨fun e => absurd e (by decide), fun _ => ⟨fun e => absurd e (by decide), fun _ => ⟨fun e => absurd e (by decide), fun _ => ⟨fun e => absurd e (by decide), fun _ => ⟨fun e => absurd e (by decide), fun _ => ⟨fun e => absurd e (by decide), fun _ => ⟨fun e => absurd e (by decide), fun _ => ⟨fun _ => ((TX.sim tx12 (by decide) (ns_wd c _)).nar) post u a sh nm o h16 h1 h2, fun e => absurd rfl e⟩⟩⟩⟩⟩⟩⟩⟩⟩⟩⟩⟩
theorem simple_13 : SimC c n b 13 (fun post u => P_M_simple post (nI 13) u) := fun post u a sh nm o h16 h1 h2 => ⟨fun e => absurd e (by decide), fun _ => ⟨fun e => absurd e (by decide), fun _ => ⟨fun e => absurd e (by decide), fun _ => ⟨fun e => absurd e (by decide), fun _ => ⟨fun e => absurd e (by decide), fun _ => ⟨fun e => absurd e (by decide), fun _ => ⟨fun e => absurd e (by decide), fun _ => ⟨fun e => absurd e (by decide), fun _ => ⟨fun e => absurd e (by decide), fun _ => ⟨fun e => absurd e (by decide), fun _ => ⟨fun e => absurd e (by decide), fun _ => ⟨fun e => absurd e (by decide), fun _ => ⟨fun _ => (TX.sim tx13 (by decide) (ns_sq (ns_wd c _) (ns_sr (ns_EX c 8)))) post u a sh nm o h16 h1 h2, fun e => absurd rfl e⟩⟩⟩⟩⟩⟩⟩⟩⟩⟩⟩⟩⟩
theorem simple_14 : SimC c n b 14 (fun post u => P_M_simple post (nI 14) u) := fun post u a sh nm o h16 h1 h2 => ⟨fun e => absurd e (by decide), fun _ => ⟨fun e => absurd e (by decide), fun _ => ⟨fun e => absurd e (by decide), fun _ => ⟨fun e => absurd e (by decide), fun _ => ⟨fun e => absurd e (by decide), fun _ => ⟨fun e => absurd e (by decide), fun _ => ⟨fun e => absurd e (by decide), fun _ => ⟨fun e => absurd e (by decide), fun _ => ⟨fun e => absurd e (by decide), fun _ => ⟨fun e => absurd e (by decide), fun _ => ⟨fun e => absurd e (by decide), fun _ => ⟨fun e => absurd e (by decide), fun _ => ⟨fun e => absurd e (by decide), fun _ => ⟨fun _ => ((TX.sim tx14 (by decide) (ns_wd c _)).nar) post u a sh nm o h16 h1 h2, fun e => absurd rfl e⟩⟩⟩⟩⟩⟩⟩⟩⟩⟩⟩⟩⟩⟩
theorem simple_15 : SimC c n b 15 (fun post u => P_M_simple post (nI 15) u) := fun post u a sh nm o h16 h1 h2 => ⟨fun e => absurd e (by decide), fun _ => ⟨fun e => absurd e (by decide), fun _ => ⟨fun e => absurd e (by decide), fun _ => ⟨fun e => absurd e (by decide), fun _ => ⟨fun e => absurd e (by decide), fun _ => ⟨fun e => absurd e (by decide), fun _ => ⟨fun e => absurd e (by decide), fun _ => ⟨fun e => absurd e (by decide), fun _ => ⟨fun e => absurd e (by decide), fun _ => ⟨fun e => absurd e (by decide), fun _ => ⟨fun e => absurd e (by decide), fun _ => ⟨fun e => absurd e (by decide), fun _ => ⟨fun e => absurd e (by decide), fun _ => ⟨fun e => absurd e (by decide), fun _ => ⟨fun _ => (type_sim.nar) post u a sh nm o h16 h1 h2, fun e => absurd rfl e⟩⟩⟩⟩⟩⟩⟩⟩⟩⟩⟩⟩⟩⟩⟩
theorem simple_16 : SimC c n b 16 (fun post u => P_M_simple post (nI 16) u) := fun post u a sh nm o h16 h1 h2 => ⟨fun e => absurd e (by decide), fun _ => ⟨fun e => absurd e (by decide), fun _ => ⟨fun e => absurd e (by decide), fun _ => ⟨fun e => absurd e (by decide), fun _ => ⟨fun e => absurd e (by decide), fun _ => ⟨fun e => absurd e (by decide), fun _ => ⟨fun e => absurd e (by decide), fun _ => ⟨fun e => absurd e (by decide), fun _ => ⟨fun e => absurd e (by decide), fun _ => ⟨fun e => absurd e (by decide), fun _ => ⟨fun e => absurd e (by decide), fun _ => ⟨fun e => absurd e (by decide), fun _ => ⟨fun e => absurd e (by decide), fun _ => ⟨fun e => absurd e (by decide), fun _ => ⟨fun e => absurd e (by decide), fun _ => ⟨fun _ => ((TX.sim tx16 (by decide) (ns_sq (ns_wd c _) (ns_sr (ns_sq (ns_nm c (by decide)) (ns_sq (ns_wd c _) (ns_sq (ns_dg c (by decide)) (ns_wd c _))))))).nar) post u a sh nm o h16 h1 h2, fun e => absurd rfl e⟩⟩⟩⟩⟩⟩⟩⟩⟩⟩⟩⟩⟩⟩⟩⟩
theorem simple_17 : SimC c n b 17 (fun post u => P_M_simple post (nI 17) u) := fun post u a sh nm o h16 h1 h2 => ⟨fun e => absurd e (by decide), fun _ => ⟨fun e => absurd e (by decide), fun _ => ⟨fun e => absurd e (by decide), fun _ => ⟨fun e => absurd e (by decide), fun _ => ⟨fun e => absurd e (by decide), fun _ => ⟨fun e => absurd e (by decide), fun _ => ⟨fun e => absurd e (by decide), fun _ => ⟨fun e => absurd e (by decide), fun _ => ⟨fun e => absurd e (by decide), fun _ => ⟨fun e => absurd e (by decide), fun _ => ⟨fun e => absurd e (by decide), fun _ => ⟨fun e => absurd e (by decide), fun _ => ⟨fun e => absurd e (by decide), fun _ => ⟨fun e => absurd e (by decide), fun _ => ⟨fun e => absurd e (by decide), fun _ => ⟨fun e => absurd e (by decide), fun _ => ⟨fun _ => (comp_sim.nar) post u a sh nm o h16 h1 h2, fun e => absurd rfl e⟩⟩⟩⟩⟩⟩⟩⟩⟩⟩⟩⟩⟩⟩⟩⟩⟩
theorem simple_sim {k : Nat} (h1 : 1 ≤ k) (h2 : k ≤ 17) : SimC c n b k (fun post u => P_M_simple post (nI k) u) := by
  rcases (by omega : k = 1 ∨ k = 2 ∨ k = 3 ∨ k = 4 ∨ k = 5 ∨ k = 6 ∨ k = 7 ∨ k = 8 ∨ k = 9 ∨ k = 10 ∨ k = 11 ∨ k = 12 ∨ k = 13 ∨ k = 14 ∨ k = 15 ∨ k = 16 ∨ k = 17) with rfl | rfl | rfl | rfl | rfl | rfl | rfl | rfl | rfl | rfl | rfl | rfl | rfl | rfl | rfl | rfl | rfl
  · exact simple_1
  · exact simple_2
  · exact simple_3
  · exact simple_4
  · exact simple_5
  · exact simple_6
  · exact simple_7
  · exact simple_8
  · exact simple_9
  · exact simple_10
  · exact simple_11
  · exact simple_12
  · exact simple_13
  · exact simple_14
  · exact simple_15
  · exact simple_16
  · exact simple_17
end MSO
