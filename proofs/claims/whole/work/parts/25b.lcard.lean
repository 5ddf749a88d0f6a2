/-! the law's own card(): a method with an exception table -/
section RSW
variable {S Sz : Type} {l : Launch} {D : va_G} {cl : List vw_C} {tys : List (ClassId × FieldType)} {Ev : (Nat → Prop) → State → Prop} {own : String} {cc : ByteArray} {nL : Nat} {Ts : List Cond} {rm : Room} {ret : Option FieldType} {wd : S → va_W} {Qf : List Frame → Array Value → State → (Nat → Prop) → State → Prop} {kc ks : Nat} {pc : Nat} {lv lv' : List (Nat × Value)} {st : List Value} {u u' : S}
theorem x_scall {p : Program} {e : Env} {R : Room} {s : State} {m : MethodId} {args : Array Value} {below : List Frame} {meth : Method} {c : Code} {T : State} {locs : List Loc} {cells slots : Nat} (X : Stand p l e R s m args below meth c T locs cells slots) (hexec : p.tables.exec = Jvm.exec) {own : String} {index : Nat} {y : MethodName} {bytes : ByteArray} {maxL : Nat} {ret : Option FieldType} {hh : List (Nat × Nat × Nat × Nat)}
    (hown : s.vm.findClass own = some m.cls) (hlink : (Cond.methodLink own index y).before args s = true) (hstat : (Cond.static y).before args s = true) (hinit : (Cond.initialized y.cls).before args s = true)
    (hcode : (Cond.codeWith y bytes maxL ret hh).before args s = true) (hy : y.cls ≠ "java/lang/invoke/MethodHandle" ∧ y.cls ≠ "java/lang/invoke/VarHandle")
    {W : Nat} {Pre : Pt → Array Value → Prop} {Post : Pt → Array Value → Option Value → Pt → Prop} (hK : Back l R p e below s args y 3 W Pre Post)
    {g : JFrame} (hg : g.method = m) (hsize : g.locals.size = c.maxLocals) {argsL rest : List Value} (hlen : ∀ sig, parseMethodDescriptor y.desc = some sig → argsL.length = sig.parameters.length)
    (hstack : g.stack = argsL.reverse ++ rest) (hW : 2 * g.monitorRoom + (rest.map fun v => v.category).sum ≤ W) (hdg : decode c.code g.pc = .ok (.invokestatic index, 3))
    (hpre : ∀ vm₁, s.WarmedH vm₁ → Pre ⟨T.setVm vm₁, locs, cells, slots⟩ argsL.toArray) :
    ∃ (v : Option Value) (vm₁ : Vm) (B : Pt), s.WarmedH vm₁ ∧ Stand p l e R s m args below meth c B.U B.locs B.cells B.slots ∧ Post ⟨T.setVm vm₁, locs, cells, slots⟩ argsL.toArray v B ∧
      ∀ target, Steps p.tables e below (B.U.setTop { g with pc := g.pc + 3, stack := v.toList ++ rest }) target → Steps p.tables e below (T.setTop g) target := by
  obtain ⟨mk, methM, cM, hnamed, hmethM, -, -, -, -, -, -, hsigM⟩ := Cond.codeWith_spec hcode
  have hstatic : methM.isStatic = true := Cond.static_spec hnamed hmethM hstat
  obtain ⟨kP, hkP, -⟩ := className_of_methodNamed hnamed
  have hinitP : kP.init = .initialized := Cond.initialized_spec (findClass_of_methodNamed hnamed) hkP hinit
  obtain ⟨vm₁, X₁, hstep₁⟩ := X.invokestatic hexec hown hlink hnamed hmethM hstatic hkP hinitP hy (g := g) hg (argsL := argsL) (rest := rest) (hlen _ hsigM) hstack hdg
  obtain ⟨v, B, X', hpost, hsteps⟩ := hK m meth c ⟨T.setVm vm₁, locs, cells, slots⟩ { g with stack := rest } (.invokestatic index) mk argsL.toArray X₁ hg hsize hdg hW (X₁.named hnamed) (hpre vm₁ X₁.warmed)
  exact ⟨v, vm₁, B, X₁.warmed, X', hpost, fun target h => hstep₁ _ fun acts => by rw [doInvoke_state]; exact hsteps.trans h⟩
def xkSW (Ts : List Cond) (own : String) (index : Nat) (y : MethodName) (bz : ByteArray) (nz : Nat) (rz : Option FieldType) (hh : List (Nat × Nat × Nat × Nat)) (wz : List Cond) (n : Nat) : Prop := GoodIn Ts wz ∧ (∃ w', wz = Cond.codeWith y bz nz rz hh :: w') ∧ Cond.initialized y.cls ∈ Ts ∧ (y.cls ≠ "java/lang/invoke/MethodHandle" ∧ y.cls ≠ "java/lang/invoke/VarHandle" ∧ (parseMethodDescriptor y.desc).map (fun d => d.parameters.length) = some n) ∧ Cond.methodLink own index y ∈ Ts ∧ Cond.static y ∈ Ts
theorem x_callSW {y : MethodName} {bz : ByteArray} {nz n index cz sz : Nat} {rz : Option FieldType} {hh : List (Nat × Nat × Nat × Nat)} {wz : List Cond} {wdz : Sz → va_W} {uz : Sz} {put : Sz → S} {pz : Option Value → Sz → Prop} {rmz : Room} {As st0 : List Value} (K : xkSW Ts own index y bz nz rz hh wz n) (L : xLens wd u wdz uz put) (hz : xC l D cl tys Ev y wz rmz wdz As uz pz cz sz) (hE : xEok Ev) (hR : xRm rm rmz nz cz sz kc ks) (hn : As.length = n) (hw : (st.map fun v => v.category).sum ≤ 8) (hst : st0 = As.reverse ++ st) (hd : decode cc pc = .ok (.invokestatic index, 3))
    (kk : ∀ (r : Option Value) (u1 : Sz), pz r u1 → RRq l D cl tys Ev own cc nL Ts rm ret wd Qf (kc + cz) (ks + sz) (pc + 3) lv (r.toList ++ st) (put u1)) : RRq l D cl tys Ev own cc nL Ts rm ret wd Qf kc ks pc lv st0 u := by
  intro p e s m args below meth c A H locs ls hX hP hD hS hl
  obtain ⟨hG, ⟨w', hw'⟩, hini, hdd, hlk, hstt⟩ := K
  obtain ⟨hx, hb, hml, hown, hts, hK, hEv, -⟩ := id hX
  have hcw : Cond.codeWith y bz nz rz hh ∈ wz := by rw [hw']; exact List.mem_cons_self
  have hlen : ∀ sig, parseMethodDescriptor y.desc = some sig → As.length = sig.parameters.length := fun sig h => by
    have h2 := hdd.2.2
    rw [h] at h2
    rw [hn]
    exact (Option.some.inj h2).symm
  refine x_lens L hX hP hD hS hl (a := As.toArray) (fun hPz hDz => ?_) kk
  have hBk : Back l rm p e below s args y 3 8 (PreOf rm cz sz (va_Pc As (xB D cl tys Ev wdz uz H.size))) (PostOf (xQ D cl wdz (va_A (wdz uz) H.size) pz) cz sz (va_A (wdz uz) H.size)) :=
    va_backW (bytes := bz) (maxL := nz) (ret := rz) (hh := hh) (hz H.size) (xB.blind hE) hR.1.1 hR.1.2 hR.2.1.1 hR.2.1.2 (pay_in hts hG) hcw (fun a' U hW => word_at hW (Or.inl (by first | rfl | simp [Cond.onTables, Cond.keeps, Cond.steady])) (hts _ hini))
  intro T hT X
  obtain ⟨v, vm₁, ⟨U', l2, c2, s2⟩, hW₁, X', ⟨g', mk, t, L, e1, e2, hq, h1, hL, h2, h3⟩, st'⟩ := x_scall X hx (bytes := bz) (maxL := nz) (ret := rz) (hh := hh) hown (hts _ hlk) (hts _ hstt) (hts _ hini) (hts _ (hG _ hcw).1) ⟨hdd.1, hdd.2.1⟩ hBk (g := F0 m pc ls st0) rfl (hl.1.trans hml.symm) (argsL := As) (rest := st) hlen hst (lv_room hw) (by rw [hb]; exact hd)
    (fun vm₁ hW₁ => ⟨hR.2.2.1, hR.2.2.2, x_pre hE hX hS hPz hDz (T.setVm vm₁) hT hW₁⟩)
  dsimp only [Pt.U, Pt.locs, Pt.cells, Pt.slots] at X' e1 e2 h1 h2 h3 st'
  subst h1; subst h2; subst h3
  exact ⟨v, (T.setVm vm₁).calling g' mk As.toArray, t, U', L, hT, X', hL, e1, e2, hq, st'⟩
theorem xC.ofW {y : MethodName} {ws ws' : List Cond} {av : List Value} {hh : List (Nat × Nat × Nat × Nat)} {post : Option Value → S → Prop} {mc ms : Nat} (hy : plainName y.cls = true) (hw : ws = Cond.codeWith y cc nL ret hh :: ws') (hlen : (lg_sl av).length ≤ nL) (h : RR l D cl tys Ev y.cls cc nL ws rm ret wd post mc ms 0 0 0 (lv_args 0 av) [] u) : xC l D cl tys Ev y ws rm wd av u post mc ms := by
  intro sz
  refine va_MetW (cc := cc) (maxL := nL) (ret := ret) (hh := hh) hy hw ?_
  intro p e s m args below meth c s₁ B hml hv
  obtain ⟨rfl, hsz, hP, hK, hD0, hE⟩ := hv
  have hx := B.exec
  have hb := B.bytes
  have hr := B.returns
  have hts := atoms_spec (ws := ws) B.pre
  have hown : s.vm.findClass y.cls = some m.cls := findClass_of_methodNamed B.named
  have hlocks := B.notSynchronized
  subst hsz
  have hD := hD0.self (sz := s.heap.size)
  have hl := lv_entry av (n := nL) hlen
  rw [lg_entry_eq]
  exact h p e s m av.toArray below meth c _ s.heap [] _ ⟨hx, hb, hml, hown, hts, hK, hE, hlocks, hr, fun q h => Or.inr h, fun y' b' n' r' h' => by
    rw [hw] at h'
    simp at h'⟩ hP hD va_S.rf hl
end RSW
abbrev y_L_card : MethodName := ({ cls := "DeckFrontLaw", name := "card", desc := "(LDeckFront;[J)I" } : Jvm.MethodName)
abbrev b_L_card : ByteArray := method_3_code
abbrev hh_L_card : List (Nat × Nat × Nat × Nat) := [((0 : Nat), (8 : Nat), (11 : Nat), (13 : Nat)), ((0 : Nat), (8 : Nat), (14 : Nat), (15 : Nat))]
abbrev w_L_card : List Cond := Cond.codeWith y_L_card b_L_card 3 (Option.some Jvm.ClassFile.FieldType.int) hh_L_card :: wG
theorem tw_L_card : Cond.codeWith y_L_card b_L_card 3 (Option.some Jvm.ClassFile.FieldType.int) hh_L_card ∈ wG := wg_in (wt_2 (List.mem_of_getElem? (i := 155) rfl)) rfl
theorem d_L_card_0 : decode b_L_card 0 = .ok (.aload_n 1, 1) := by decide +kernel
theorem d_L_card_1 : decode b_L_card 1 = .ok (.iconst 0, 1) := by decide +kernel
theorem d_L_card_2 : decode b_L_card 2 = .ok (.aload_n 0, 1) := by decide +kernel
theorem d_L_card_3 : decode b_L_card 3 = .ok (.invokevirtual 7, 3) := by decide +kernel
theorem d_L_card_6 : decode b_L_card 6 = .ok (.i2l, 1) := by decide +kernel
theorem d_L_card_7 : decode b_L_card 7 = .ok (.lastore, 1) := by decide +kernel
theorem d_L_card_8 : decode b_L_card 8 = .ok (.goto 9, 3) := by decide +kernel
theorem d_L_card_11 : decode b_L_card 11 = .ok (.astore_n 2, 1) := by decide +kernel
theorem d_L_card_12 : decode b_L_card 12 = .ok (.iconst 1, 1) := by decide +kernel
theorem d_L_card_13 : decode b_L_card 13 = .ok (.ireturn, 1) := by decide +kernel
theorem d_L_card_14 : decode b_L_card 14 = .ok (.astore_n 2, 1) := by decide +kernel
theorem d_L_card_15 : decode b_L_card 15 = .ok (.iconst 2, 1) := by decide +kernel
theorem d_L_card_16 : decode b_L_card 16 = .ok (.ireturn, 1) := by decide +kernel
theorem d_L_card_17 : decode b_L_card 17 = .ok (.iconst 0, 1) := by decide +kernel
theorem d_L_card_18 : decode b_L_card 18 = .ok (.ireturn, 1) := by decide +kernel
theorem k_L_7 {a : Cond} : xkV (a :: wG) "DeckFrontLaw" 7 "DeckFront" y_D_card b_D_card 3 (Option.some Jvm.ClassFile.FieldType.int) w_D_card 0 := ⟨⟨gG tw_401, ⟨_, rfl⟩, cG tw_1, by decide, by decide, by decide +kernel⟩, cG tw_398, cG tw_399, fun _ _ h => h _ (cG tw_400)⟩
theorem k_L_28 {a : Cond} : xkSW (a :: wG) "DeckFrontLaw" 28 y_L_card b_L_card 3 (Option.some Jvm.ClassFile.FieldType.int) hh_L_card w_L_card 2 := ⟨gG tw_L_card, ⟨_, rfl⟩, cG tw_0, ⟨by decide, by decide, by decide +kernel⟩, cG tw_393, cG tw_394⟩
theorem lensCX (ad to : Nat → Nat) (ta : Nat → Nat → Nat) (oa : Nat) (cs : Nat → ClassId) (x : XS) (g : Nat → Int64) : xLens (wdLC ad to ta oa cs) (x, g) (wdX ad to ta cs) x (fun z => (z, g)) := ⟨wdO oa cs g, List.Perm.refl _, fun _ => List.Perm.refl _⟩
section THF
theorem fd_tab {x1 x2 : ExceptionTableEntry} {r : List ExceptionTableEntry} : True := trivial
theorem fd_two {tl : List ExceptionTableEntry} (h : tl.map (fun h => (h.startPc, h.endPc, h.handlerPc, h.catchType)) = hh_L_card) : ∃ x1 x2, tl = [x1, x2] ∧ (x1.startPc = 0 ∧ x1.endPc = 8 ∧ x1.handlerPc = 11 ∧ x1.catchType = 13) ∧ (x2.startPc = 0 ∧ x2.endPc = 8 ∧ x2.handlerPc = 14 ∧ x2.catchType = 15) := by
  match tl, h with
  | [], h => simp [hh_L_card] at h
  | [_], h => simp [hh_L_card] at h
  | [x1, x2], h =>
    simp only [List.map_cons, List.map_nil, hh_L_card, List.cons.injEq, Prod.mk.injEq, and_true] at h
    exact ⟨x1, x2, rfl, ⟨h.1.1, h.1.2.1, h.1.2.2.1, h.1.2.2.2⟩, ⟨h.2.1, h.2.2.1, h.2.2.2.1, h.2.2.2.2⟩⟩
  | _ :: _ :: _ :: _, h => simp [hh_L_card] at h
theorem fd_IAE {l : Launch} {Ev : (Nat → Prop) → State → Prop} : xFd l Ev "DeckFrontLaw" w_L_card y_L_card nIAE 3 11 := by
  intro p e R s m args below meth c T locs k1 k2 x ce g A X hts hEv hown hnm hg hpc hce f1 f2 f3
  subst hg
  obtain ⟨m9, meth9, c9, hn9, hm9, hc9, -, -, htab, -⟩ := Cond.codeWith_spec (hts _ List.mem_cons_self)
  cases hnm.symm.trans hn9
  cases X.method.symm.trans hm9
  cases X.code.symm.trans hc9
  obtain ⟨x1, x2, htl, hx1, hx2⟩ := fd_two htab
  have hpl : e.platform.magicAccessors = ({} : Platform).magicAccessors := by rw [X.admits.platform]
  obtain ⟨c1, hc1, hcl⟩ := Cond.classLink_spec hown (hts _ (cG tw_396)) e.platform hpl
  cases f1.symm.trans hc1
  have hcl₀ := X.warmed.classLinks hcl
  obtain ⟨dk, _, _, kt, hd, _, _, _, _, hkt, _, hopen⟩ := hcl.here
  have hW' : s.WarmedH (T.vm.noted g.method.cls 13 (.cls ce.cls)) := X.warmed.noted hd hopen (State.rightAt_cls hcl)
  obtain ⟨kt', hkt', -⟩ := hW'.alike.2.2 _ _ hkt
  refine ⟨_, hW', fun Q E d acts => ?_⟩
  have hvm : ((T.setTop g).pushFrame (.throwing x)).vm = T.vm := Stand.throwing_vm T g x
  have hhp : ((T.setTop g).pushFrame (.throwing x)).heap = T.heap := Stand.throwing_heap T g x
  rw [_root_.Jvm.W.findHandler_eq (meth := meth) (code := c) (by rw [hvm]; exact X.method') X.code, htl]
  rw [th_go (c := ce.cls) (cell := ce) (vm' := T.vm.noted g.method.cls 13 (.cls ce.cls)) (by simp [covers, hpc, hx1]) (by rw [hx1.2.2.2]; decide) (by rw [hvm, hx1.2.2.2]; exact resolveClass_links e.toSetting hcl₀) (by rw [hvm]; no_record) (by rw [hhp]; exact hce) (fun k => by rw [f2]; simp) ⟨_, hkt'⟩ ⟨_, hkt'⟩, if_pos (by rw [hW'.alike.assignable]; exact f3), hx1.2.2.1]
theorem fd_ISE {l : Launch} {Ev : (Nat → Prop) → State → Prop} (hTh : ∀ A s, Ev A s → EvT A s) : xFd l Ev "DeckFrontLaw" w_L_card y_L_card nISE 3 14 := by
  intro p e R s m args below meth c T locs k1 k2 x ce g A X hts hEv hown hnm hg hpc hce f1 f2 f3
  subst hg
  obtain ⟨m9, meth9, c9, hn9, hm9, hc9, -, -, htab, -⟩ := Cond.codeWith_spec (hts _ List.mem_cons_self)
  cases hnm.symm.trans hn9
  cases X.method.symm.trans hm9
  cases X.code.symm.trans hc9
  obtain ⟨x1, x2, htl, hx1, hx2⟩ := fd_two htab
  have hpl : e.platform.magicAccessors = ({} : Platform).magicAccessors := by rw [X.admits.platform]
  obtain ⟨c1, hc1, hcl⟩ := Cond.classLink_spec hown (hts _ (cG tw_396)) e.platform hpl
  obtain ⟨c2, hc2, hcl2⟩ := Cond.classLink_spec hown (hts _ (cG tw_397)) e.platform hpl
  cases f1.symm.trans hc2
  obtain ⟨n1, n2, g1, g2, g3⟩ := (hTh A s hEv).2.2.2
  cases f1.symm.trans g1
  cases hc1.symm.trans g2
  have hcl₀ := X.warmed.classLinks hcl
  obtain ⟨dk, _, _, kt, hd, _, _, _, _, hkt, _, hopen⟩ := hcl.here
  obtain ⟨dk2, _, _, kt2, hd2, _, _, _, _, hkt2, _, hopen2⟩ := hcl2.here
  have hW1 : s.WarmedH (T.vm.noted g.method.cls 13 (.cls c1)) := X.warmed.noted hd hopen (State.rightAt_cls hcl)
  have hW2 : s.WarmedH ((T.vm.noted g.method.cls 13 (.cls c1)).noted g.method.cls 15 (.cls ce.cls)) := hW1.noted hd2 hopen2 (State.rightAt_cls hcl2)
  have hcl₂ := hW1.classLinks hcl2
  obtain ⟨a1, ha1, -⟩ := hW1.alike.2.2 _ _ hkt
  obtain ⟨a2, ha2, -⟩ := hW1.alike.2.2 _ _ hkt2
  obtain ⟨a3, ha3, -⟩ := hW2.alike.2.2 _ _ hkt2
  refine ⟨_, hW2, fun Q E d acts => ?_⟩
  have hvm : ((T.setTop g).pushFrame (.throwing x)).vm = T.vm := Stand.throwing_vm T g x
  have hhp : ((T.setTop g).pushFrame (.throwing x)).heap = T.heap := Stand.throwing_heap T g x
  rw [_root_.Jvm.W.findHandler_eq (meth := meth) (code := c) (by rw [hvm]; exact X.method') X.code, htl]
  rw [th_go (c := c1) (cell := ce) (vm' := T.vm.noted g.method.cls 13 (.cls c1)) (by simp [covers, hpc, hx1]) (by rw [hx1.2.2.2]; decide) (by rw [hvm, hx1.2.2.2]; exact resolveClass_links e.toSetting hcl₀) (by rw [hvm]; no_record) (by rw [hhp]; exact hce) (fun k => by rw [f2]; simp) ⟨_, ha2⟩ ⟨_, ha1⟩, if_neg (by rw [hW1.alike.assignable, g3]; decide)]
  rw [th_go (s := ((T.setTop g).pushFrame (.throwing x)).setVm (T.vm.noted g.method.cls 13 (.cls c1))) (c := ce.cls) (cell := ce) (vm' := (T.vm.noted g.method.cls 13 (.cls c1)).noted g.method.cls 15 (.cls ce.cls)) (by simp [covers, hpc, hx2]) (by rw [hx2.2.2.2]; decide) (by rw [hx2.2.2.2]; exact resolveClass_links e.toSetting hcl₂) (by show Array.size (((T.vm.noted g.method.cls 13 (.cls c1)).noted g.method.cls 15 (.cls ce.cls)).classes) ≤ Array.size ((T.vm.noted g.method.cls 13 (.cls c1)).classes); no_record) (by show ((T.setTop g).pushFrame (.throwing x)).heap[x]? = some ce; rw [hhp]; exact hce) (fun k => by rw [f2]; simp) ⟨_, ha3⟩ ⟨_, ha3⟩, if_pos (by rw [hW2.alike.assignable]; exact f3), hx2.2.2.1]
  exact Iff.rfl
end THF
set_option maxHeartbeats 600000 in
set_option maxRecDepth 100000 in
theorem c_L_card (l : Launch) (hfl : l.stackTraces = false) (D : va_G) (cs : Nat → ClassId) (Ev : (Nat → Prop) → State → Prop) (hE : xEok Ev) (adK adV : Nat → Nat) (fm : Option Nat) (X : xEv adK adV fm Ev) (hTh : ∀ A s, Ev A s → EvT A s) (ad to : Nat → Nat) (ta : Nat → Nat → Nat) (oa : Nat) (d : Nat) (post : Int32 → XS × (Nat → Int64) → Prop) (u : XS × (Nat → Int64)) (h : P_L_card post u) : xC l D clX (tysX cs) Ev y_L_card w_L_card (rmT (d + 783)) (wdLC ad to ta oa cs) [.ref (ad 0), .ref oa] u (pI post) 1 6 := by
  unfold P_L_card at h
  refine xC.ofN (cc := b_L_card) (nL := 3) (ret := (Option.some Jvm.ClassFile.FieldType.int)) (hh := hh_L_card) (by decide) rfl (Nat.le_of_ble_eq_true rfl) ?_
  show RRq l D clX (tysX cs) Ev "DeckFrontLaw" b_L_card 3 w_L_card (rmT (d + 783)) (some .int) (wdLC ad to ta oa cs) (qN y_L_card (fun below args s A => MQ below (xQ D clX (wdLC ad to ta oa cs) A (pI post)) args s 1 6 A)) 0 0 0 [(0, .ref (ad 0)), (1, .ref oa)] [] u
  refine x_aload_n (x := oa) d_L_card_0 rfl ?_
  refine x_iconst (v := 0) d_L_card_1 (by decide) ?_
  refine x_aload_n (x := ad 0) d_L_card_2 rfl ?_
  rcases h with h | h | h
  · refine x_callV (st := [.int 0, .ref oa]) k_L_7 rfl (q0 := 1) (fs := [.ref (ad 1), .ref (ad 3), .ref (ad 5)]) (ci := 4) rfl (lensCX ad to ta oa cs u.1 u.2) (c_D_card l D cs Ev hE adK adV fm X ad to ta d _ u.1 h) hE (rmT_ok (by omega) (by decide)) rfl (Nat.le_of_ble_eq_true rfl) rfl d_L_card_3 (x_rI (fun r x1 h => ?_))
    refine RRq.named ?_
    refine x_i2l d_L_card_6 ?_
    refine x_last (q0 := 0) (t0 := 2) (u' := (x1, vp_updL u.2 0 r.toInt64)) rfl rfl (vp_in_nI (n := 0) (by decide) (by decide)) rfl d_L_card_7 ?_
    refine x_goto (tgt := 17) d_L_card_8 rfl ?_
    refine x_iconst (v := 0) d_L_card_17 (by decide) ?_
    exact x_iret d_L_card_18 ⟨_, rfl, h⟩
  · refine x_callVT (st := [.int 0, .ref oa]) k_L_7 rfl (q0 := 1) (fs := [.ref (ad 1), .ref (ad 3), .ref (ad 5)]) (ci := 4) rfl (lensCX ad to ta oa cs u.1 u.2) (c_D_cardA l hfl D cs Ev hE adK adV fm X hTh ad to ta d _ u.1 h) hE (rmT_okT (by omega) (by decide)) rfl (Nat.le_of_ble_eq_true rfl) rfl d_L_card_3 fd_IAE (fun x x1 h => ?_)
    refine RRq.named ?_
    refine x_astore_n (lv' := [(2, .ref x), (0, .ref (ad 0)), (1, .ref oa)]) d_L_card_11 (by decide) rfl ?_
    refine x_iconst (v := 1) d_L_card_12 (by decide) ?_
    exact x_iret d_L_card_13 ⟨_, rfl, h⟩
  · refine x_callVT (st := [.int 0, .ref oa]) k_L_7 rfl (q0 := 1) (fs := [.ref (ad 1), .ref (ad 3), .ref (ad 5)]) (ci := 4) rfl (lensCX ad to ta oa cs u.1 u.2) (c_D_cardS l hfl D cs Ev hE adK adV fm X hTh ad to ta d _ u.1 h) hE (rmT_okT (by omega) (by decide)) rfl (Nat.le_of_ble_eq_true rfl) rfl d_L_card_3 (fd_ISE hTh) (fun x x1 h => ?_)
    refine RRq.named ?_
    refine x_astore_n (lv' := [(2, .ref x), (0, .ref (ad 0)), (1, .ref oa)]) d_L_card_14 (by decide) rfl ?_
    refine x_iconst (v := 2) d_L_card_15 (by decide) ?_
    exact x_iret d_L_card_16 ⟨_, rfl, h⟩
