/-! what throwing leans on beside the words: kept in the environment -/
abbrev tNm : String := "java/lang/Throwable"
abbrev nIAE : String := "java/lang/IllegalArgumentException"
abbrev nISE : String := "java/lang/IllegalStateException"
abbrev nRTE : String := "java/lang/RuntimeException"
abbrev nEXC : String := "java/lang/Exception"
abbrev iniS (C : String) : MethodName := ⟨C, "<init>", "(Ljava/lang/String;)V"⟩
def thW : List Cond := [.declares (iniS nRTE), .declares (iniS nEXC), .declares (iniS tNm), .castable nIAE nIAE, .castable nISE nISE]
/-- a static field of references of a class that has its cell, which nobody here writes -/
def va_LS (C n d : String) (A : Nat → Prop) (U : State) (H : Heap) : Prop := ∃ (c : ClassId) (k : Class) (i : Nat) (f : Field) (a : Nat) (cell : Cell) (v : Value), U.vm.findClass C = some c ∧ U.fieldFound? C n d = some (c, k, i, f) ∧ f.isStatic = true ∧ k.statics = some a ∧ H[a]? = some cell ∧ cell.vm.isStatics = true ∧ cell.cls = c ∧ f.slot < cell.slots.size ∧ k.staticTypes[f.slot]? = some f.type ∧ cell.slots[f.slot]? = some v ∧ v.isRef = true ∧ ¬ A a
theorem va_LS.moved {C n d : String} {A : Nat → Prop} {u U : State} {H : Heap} (hvm : u.vm.Alike U.vm) (h : va_LS C n d A u H) : va_LS C n d A U H := by
  obtain ⟨c, k, i, f, a, cell, v, h0, h1, h2, h3, h4, h5, h6, h7, h8, h9⟩ := h
  obtain ⟨k', hi', he⟩ := State.fieldFound?_setVm hvm h1
  exact ⟨c, k', i, f, a, cell, v, by rw [hvm.findClass]; exact h0, hi', h2, by rw [he]; exact h3, h4, h5, h6, h7, by rw [he]; exact h8, h9⟩
theorem va_LS.kept {C n d : String} {A : Nat → Prop} {U : State} {H H1 : Heap} (h : va_LS C n d A U H) (hq : ∀ a : Nat, a < H.size → ¬ A a → H1[a]? = H[a]?) : va_LS C n d A U H1 := by
  obtain ⟨c, k, i, f, a, cell, v, h0, h1, h2, h3, h4, h5, h6, h7, h8, h9, h10, h11⟩ := h
  exact ⟨c, k, i, f, a, cell, v, h0, h1, h2, h3, by rw [hq a (Array.getElem?_eq_some_iff.mp h4).1 h11]; exact h4, h5, h6, h7, h8, h9, h10, h11⟩
theorem va_LS.narrow {C n d : String} {A B : Nat → Prop} {U : State} {H : Heap} (h : va_LS C n d A U H) (hAB : ∀ q, B q → A q) : va_LS C n d B U H := by
  obtain ⟨c, k, i, f, a, cell, v, h0, h1, h2, h3, h4, h5, h6, h7, h8, h9, h10, h11⟩ := h
  exact ⟨c, k, i, f, a, cell, v, h0, h1, h2, h3, h4, h5, h6, h7, h8, h9, h10, fun z => h11 (hAB a z)⟩
theorem va_LS.lays {C n d : String} {A : Nat → Prop} {U : State} {args : Array Value} (h : va_LS C n d A U U.heap) : (Cond.laysStatic C n d).before args U = true := by
  obtain ⟨c, k, i, f, a, cell, v, h0, h1, h2, h3, h4, h5, h6, h7, h8, h9, h10, h11⟩ := h
  simp [Cond.before, Cond.holds, Cond.value, h0, h1, h2, h3, h4, h5, h6, h7, h8]
theorem va_LS.ref {C n d : String} {A : Nat → Prop} {U : State} {args : Array Value} (h : va_LS C n d A U U.heap) : (Cond.isRef (.static C n d)).before args U = true := by
  obtain ⟨c, k, i, f, a, cell, v, h0, h1, h2, h3, h4, h5, h6, h7, h8, h9, h10, h11⟩ := h
  have he : (Term.static C n d).eval args U none [] U = some v := by simp [Term.eval, State.fieldNamed?, h1, h2, h3, h4, h5, h9]
  simp only [Cond.before, Cond.holds, Cond.value, he]
  cases v <;> first | rfl | (simp [Value.isRef] at h10)
theorem va_LS.of {C n d : String} {A : Nat → Prop} {s : State} {args : Array Value} (hl : (Cond.laysStatic C n d).before args s = true) (hr : (Cond.isRef (.static C n d)).before args s = true) (hA : ∀ a : Nat, a < s.heap.size → ¬ A a) : va_LS C n d A s s.heap := by
  obtain ⟨c, k, i, f, a, cell, hc, hi, hst, ha, hcell, hs, hcls, hlt, hty⟩ := Cond.laysStatic_spec hl
  cases hv : (Term.static C n d).eval args s none [] s with
  | none => simp [Cond.before, Cond.holds, Cond.value, hv] at hr
  | some w =>
    obtain ⟨hst', a', cell', ha', hcell', -, hslot⟩ := Term.static_spec hi hv
    cases ha.symm.trans ha'
    cases hcell.symm.trans hcell'
    refine ⟨c, k, i, f, a, cell, w, hc, hi, hst, ha, hcell, hs, hcls, hlt, hty, hslot, ?_, hA a (Array.getElem?_eq_some_iff.mp hcell).1⟩
    simp only [Cond.before, Cond.holds, Cond.value, hv] at hr
    cases w <;> first | rfl | (simp at hr)
def EvT (A : Nat → Prop) (U : State) : Prop := (∀ w ∈ thW, ∀ args : Array Value, w.before args U = true) ∧ va_LS tNm "UNASSIGNED_STACK" "[Ljava/lang/StackTraceElement;" A U U.heap ∧ va_LS tNm "SUPPRESSED_SENTINEL" "Ljava/util/List;" A U U.heap ∧ va_Nc nISE nIAE U
theorem th_word {s U : State} {w : Cond} (hw : w ∈ thW) (hW : s.WarmedH U.vm) (h : ∀ args : Array Value, w.before args s = true) (args : Array Value) : w.before args U = true := by
  have hb : w.onTables = true ∧ w.keepsFace = true := by
    simp only [thW, List.mem_cons, List.not_mem_nil, or_false] at hw
    rcases hw with rfl | rfl | rfl | rfl | rfl <;> exact ⟨rfl, rfl⟩
  have h1 := Cond.before_shiftedFace (State.Shifted.of_warmed hW) w hb.2 (h args)
  have h2 := Cond.onTables_vm (A := args) (A' := args) (U := s) (U' := U) U.vm w hb.1
  rw [h2, State.setVm_self] at h1
  exact h1
theorem EvT.ok : xEok EvT := by
  refine ⟨fun A A' s U h hW hz hq hA => ⟨fun w hw args => th_word hw hW (h.1 w hw) args, ((h.2.1.moved hW.alike).kept hq).narrow hA, ((h.2.2.1.moved hW.alike).kept hq).narrow hA, h.2.2.2.moved hW.alike⟩, fun A U g mk a h => ⟨fun w hw args => th_word hw (U := U.calling g mk a) (State.WarmedH.refl U) (h.1 w hw) args, va_LS.moved (u := U) (U := U.calling g mk a) (Vm.Alike.refl U.vm) h.2.1, va_LS.moved (u := U) (U := U.calling g mk a) (Vm.Alike.refl U.vm) h.2.2.1, va_Nc.moved (u := U) (U := U.calling g mk a) (Vm.Alike.refl U.vm) h.2.2.2⟩⟩
theorem tw_470 : Cond.superclass tNm "java/lang/Object" ∈ wG := wg_in (wt_2 (List.mem_of_getElem? (i := 230) rfl)) rfl
theorem tw_482 : (Jvm.Cond.codeSync ({ cls := "java/lang/Throwable", name := "fillInStackTrace", desc := "()Ljava/lang/Throwable;" } : Jvm.MethodName) prog_18_method_18_code (1 : Nat) (Option.some (Jvm.ClassFile.FieldType.object "java/lang/Throwable"))) ∈ wG := wg_in (wt_3 (List.mem_of_getElem? (i := 2) rfl)) rfl
theorem tw_487 : (Jvm.Cond.native ({ cls := "java/lang/Throwable", name := "fillInStackTrace", desc := "(I)Ljava/lang/Throwable;" } : Jvm.MethodName)) ∈ wG := wg_in (wt_3 (List.mem_of_getElem? (i := 7) rfl)) rfl
theorem th_IAE {a0 : Cond} {A : Nat → Prop} {s s' : State} {args : Array Value} (hts : ∀ w ∈ a0 :: wG, w.before args s = true) (hW : s.WarmedH s'.vm) (hT : EvT A s') : ∀ a ∈ Bundle.ownAtoms "DeckFront" 46 nIAE [nRTE, nEXC], a.before args s' = true := by
  have wd1 : ∀ (w : Cond), w ∈ a0 :: wG → (w.onTables && w.keeps) = true → w.before args s' = true := fun w hw hk => word_at hW (Or.inl hk) (hts w hw)
  intro a ha
  simp only [Bundle.ownAtoms, Bundle.throwableAtoms, Bundle.throwableSAtoms, Bundle.chainSAtoms, Bundle.passSAtoms, List.mem_append, List.mem_cons, List.not_mem_nil, or_false] at ha
  rcases ha with (((rfl | rfl | rfl | rfl | rfl | rfl | rfl | rfl | rfl | rfl | rfl | rfl | rfl | rfl | rfl | rfl | rfl | rfl | rfl | rfl | rfl | rfl | rfl | rfl) | (rfl | rfl | rfl | rfl)) | (rfl | rfl | rfl | rfl | rfl) | (rfl | rfl | rfl | rfl | rfl) | (rfl | rfl | rfl | rfl | rfl)) | (rfl | rfl | rfl | rfl | rfl | rfl | rfl | rfl | rfl | rfl | rfl | rfl | rfl | rfl)
  · exact wd1 _ (cG tw_14) rfl
  · exact wd1 _ (cG tw_470) rfl
  · exact wd1 _ (cG tw_479) rfl
  · exact wd1 _ (cG tw_482) rfl
  · exact wd1 _ (cG tw_485) rfl
  · exact wd1 _ (cG tw_487) rfl
  · exact wd1 _ (cG tw_471) rfl
  · exact wd1 _ (cG tw_472) rfl
  · exact wd1 _ (cG tw_25) rfl
  · exact wd1 _ (cG tw_26) rfl
  · exact wd1 _ (cG tw_473) rfl
  · exact wd1 _ (cG tw_478) rfl
  · exact wd1 _ (cG tw_483) rfl
  · exact wd1 _ (cG tw_503) rfl
  · exact wd1 _ (cG tw_460) rfl
  · exact wd1 _ (cG tw_504) rfl
  · exact wd1 _ (cG tw_462) rfl
  · exact wd1 _ (cG tw_505) rfl
  · exact wd1 _ (cG tw_464) rfl
  · exact wd1 _ (cG tw_474) rfl
  · exact hT.2.1.lays
  · exact wd1 _ (cG tw_476) rfl
  · exact hT.2.2.1.lays
  · exact wd1 _ (cG tw_466) rfl
  · exact wd1 _ (cG tw_499) rfl
  · exact wd1 _ (cG tw_500) rfl
  · exact wd1 _ (cG tw_502) rfl
  · exact wd1 _ (cG tw_466) rfl
  · exact wd1 _ (cG tw_490) rfl
  · exact wd1 _ (cG tw_491) rfl
  · exact wd1 _ (cG tw_492) rfl
  · exact wd1 _ (cG tw_493) rfl
  · exact hT.1 _ (List.mem_of_getElem? (i := 0) rfl) args
  · exact wd1 _ (cG tw_493) rfl
  · exact wd1 _ (cG tw_494) rfl
  · exact wd1 _ (cG tw_495) rfl
  · exact wd1 _ (cG tw_496) rfl
  · exact hT.1 _ (List.mem_of_getElem? (i := 1) rfl) args
  · exact wd1 _ (cG tw_496) rfl
  · exact wd1 _ (cG tw_497) rfl
  · exact wd1 _ (cG tw_498) rfl
  · exact wd1 _ (cG tw_499) rfl
  · exact hT.1 _ (List.mem_of_getElem? (i := 2) rfl) args
  · exact wd1 _ (cG tw_489) rfl
  · exact wd1 _ (cG tw_449) rfl
  · exact hT.1 _ (List.mem_of_getElem? (i := 3) rfl) args
  · exact wd1 _ (cG tw_457) rfl
  · exact wd1 _ (cG tw_458) rfl
  · exact wd1 _ (cG tw_459) rfl
  · exact wd1 _ (cG tw_461) rfl
  · exact wd1 _ (cG tw_463) rfl
  · exact wd1 _ (cG tw_465) rfl
  · exact hT.2.1.ref
  · exact hT.2.2.1.ref
  · exact wd1 _ (cG tw_469) rfl
  · exact wd1 _ (cG tw_468) rfl
  · exact wd1 _ (cG tw_467) rfl
theorem th_ISE {a0 : Cond} {A : Nat → Prop} {s s' : State} {args : Array Value} (hts : ∀ w ∈ a0 :: wG, w.before args s = true) (hW : s.WarmedH s'.vm) (hT : EvT A s') : ∀ a ∈ Bundle.ownAtoms "DeckFront" 53 nISE [nRTE, nEXC], a.before args s' = true := by
  have wd1 : ∀ (w : Cond), w ∈ a0 :: wG → (w.onTables && w.keeps) = true → w.before args s' = true := fun w hw hk => word_at hW (Or.inl hk) (hts w hw)
  intro a ha
  simp only [Bundle.ownAtoms, Bundle.throwableAtoms, Bundle.throwableSAtoms, Bundle.chainSAtoms, Bundle.passSAtoms, List.mem_append, List.mem_cons, List.not_mem_nil, or_false] at ha
  rcases ha with (((rfl | rfl | rfl | rfl | rfl | rfl | rfl | rfl | rfl | rfl | rfl | rfl | rfl | rfl | rfl | rfl | rfl | rfl | rfl | rfl | rfl | rfl | rfl | rfl) | (rfl | rfl | rfl | rfl)) | (rfl | rfl | rfl | rfl | rfl) | (rfl | rfl | rfl | rfl | rfl) | (rfl | rfl | rfl | rfl | rfl)) | (rfl | rfl | rfl | rfl | rfl | rfl | rfl | rfl | rfl | rfl | rfl | rfl | rfl | rfl)
  · exact wd1 _ (cG tw_14) rfl
  · exact wd1 _ (cG tw_470) rfl
  · exact wd1 _ (cG tw_479) rfl
  · exact wd1 _ (cG tw_482) rfl
  · exact wd1 _ (cG tw_485) rfl
  · exact wd1 _ (cG tw_487) rfl
  · exact wd1 _ (cG tw_471) rfl
  · exact wd1 _ (cG tw_472) rfl
  · exact wd1 _ (cG tw_25) rfl
  · exact wd1 _ (cG tw_26) rfl
  · exact wd1 _ (cG tw_473) rfl
  · exact wd1 _ (cG tw_478) rfl
  · exact wd1 _ (cG tw_483) rfl
  · exact wd1 _ (cG tw_503) rfl
  · exact wd1 _ (cG tw_460) rfl
  · exact wd1 _ (cG tw_504) rfl
  · exact wd1 _ (cG tw_462) rfl
  · exact wd1 _ (cG tw_505) rfl
  · exact wd1 _ (cG tw_464) rfl
  · exact wd1 _ (cG tw_474) rfl
  · exact hT.2.1.lays
  · exact wd1 _ (cG tw_476) rfl
  · exact hT.2.2.1.lays
  · exact wd1 _ (cG tw_466) rfl
  · exact wd1 _ (cG tw_499) rfl
  · exact wd1 _ (cG tw_500) rfl
  · exact wd1 _ (cG tw_502) rfl
  · exact wd1 _ (cG tw_466) rfl
  · exact wd1 _ (cG tw_525) rfl
  · exact wd1 _ (cG tw_526) rfl
  · exact wd1 _ (cG tw_527) rfl
  · exact wd1 _ (cG tw_493) rfl
  · exact hT.1 _ (List.mem_of_getElem? (i := 0) rfl) args
  · exact wd1 _ (cG tw_493) rfl
  · exact wd1 _ (cG tw_494) rfl
  · exact wd1 _ (cG tw_495) rfl
  · exact wd1 _ (cG tw_496) rfl
  · exact hT.1 _ (List.mem_of_getElem? (i := 1) rfl) args
  · exact wd1 _ (cG tw_496) rfl
  · exact wd1 _ (cG tw_497) rfl
  · exact wd1 _ (cG tw_498) rfl
  · exact wd1 _ (cG tw_499) rfl
  · exact hT.1 _ (List.mem_of_getElem? (i := 2) rfl) args
  · exact wd1 _ (cG tw_524) rfl
  · exact wd1 _ (cG tw_515) rfl
  · exact hT.1 _ (List.mem_of_getElem? (i := 4) rfl) args
  · exact wd1 _ (cG tw_517) rfl
  · exact wd1 _ (cG tw_481) rfl
  · exact wd1 _ (cG tw_518) rfl
  · exact wd1 _ (cG tw_519) rfl
  · exact wd1 _ (cG tw_520) rfl
  · exact wd1 _ (cG tw_521) rfl
  · exact hT.2.1.ref
  · exact hT.2.2.1.ref
  · exact wd1 _ (cG tw_469) rfl
  · exact wd1 _ (cG tw_468) rfl
  · exact wd1 _ (cG tw_522) rfl
/-- the room of a method that makes one exception -/
def rmT (d : Nat) : Room := { frames := d, cells := 1, slots := 6, locals := 64 * d }
theorem rmT_ok {a b nz : Nat} (h : a + 1 ≤ b) (hn : nz ≤ 45) : xRm (rmT b) (rmD a) nz 0 0 0 0 := by
  refine ⟨⟨rfl, rfl⟩, ⟨h, ?_⟩, Nat.zero_le _, Nat.zero_le _⟩
  show 8 + (nz + 11) + 64 * a ≤ 64 * b
  omega
theorem rmT_okT {a b nz : Nat} (h : a + 1 ≤ b) (hn : nz ≤ 45) : xRm (rmT b) (rmT a) nz 1 6 0 0 := by
  refine ⟨⟨rfl, rfl⟩, ⟨h, ?_⟩, Nat.le_refl _, Nat.le_refl _⟩
  show 8 + (nz + 11) + 64 * a ≤ 64 * b
  omega
/-- card() throws: join answers r -/
def P_D_cardT (r : Int32) (post : XS → Prop) (u : XS) : Prop := P_K_join (fun r2 u1 => r2 = r ∧ post ((sI u1.1 1 (0 : Int32)), u1.2.1, u1.2.2.1, u1.2.2.2)) u
set_option maxHeartbeats 600000 in
set_option maxRecDepth 100000 in
theorem c_D_cardA (l : Launch) (hfl : l.stackTraces = false) (D : va_G) (cs : Nat → ClassId) (Ev : (Nat → Prop) → State → Prop) (hE : xEok Ev) (adK adV : Nat → Nat) (fm : Option Nat) (X : xEv adK adV fm Ev) (hTh : ∀ A s, Ev A s → EvT A s) (ad to : Nat → Nat) (ta : Nat → Nat → Nat) (d : Nat) (post : XS → Prop) (u : XS) (h : P_D_cardT (-2) post u) : xCT l D clX (tysX cs) Ev y_D_card w_D_card (rmT (d + 782)) (wdX ad to ta cs) [.ref (ad 0)] u nIAE post 1 6 := by
  unfold P_D_cardT at h
  refine xCT.of (cc := b_D_card) (nL := 3) (ret := (some .int)) (by decide) rfl (Nat.le_of_ble_eq_true rfl) ?_
  show RRq l D clX (tysX cs) Ev "DeckFront" b_D_card 3 w_D_card (rmT (d + 782)) (some .int) (wdX ad to ta cs) (qT D clX (wdX ad to ta cs) y_D_card nIAE post 1 6) 0 0 0 [(0, .ref (ad 0))] [] u
  refine x_aload_n (x := (ad 0)) d_D_card_0 rfl ?_
  refine x_get (v := .ref (ad 3)) f_D_19 (eX_0 ad to ta cs u.1 u.2.1 u.2.2.1 u.2.2.2) rfl d_D_card_1 ?_
  refine x_aload_n (x := (ad 0)) d_D_card_4 rfl ?_
  refine x_get (v := .ref (ad 1)) f_D_10 (eX_0 ad to ta cs u.1 u.2.1 u.2.2.1 u.2.2.2) rfl d_D_card_5 ?_
  refine x_callV (st := []) k_D_34 rfl (eX_3 ad to ta cs u.1 u.2.1 u.2.2.1 u.2.2.2) x_id (c_K_join l D cs Ev hE adK adV fm X ad to ta (d + 778) _ u h) hE (rmT_ok (by omega) (by decide)) rfl (Nat.le_of_ble_eq_true rfl) rfl d_D_card_8 (x_rI (fun r2 u1 h => ?_))
  obtain ⟨rfl, h⟩ := h
  refine x_istore_n (lv' := [(1, .int _), (0, .ref (ad 0))]) d_D_card_11 (by decide) rfl ?_
  refine x_aload_n (x := (ad 0)) d_D_card_12 rfl ?_
  refine x_get (v := .ref (ad 1)) f_D_10 (eX_0 ad to ta cs u1.1 u1.2.1 u1.2.2.1 u1.2.2.2) rfl d_D_card_13 ?_
  refine x_iconst (v := 0) d_D_card_16 (by decide) ?_
  refine x_put f_D_38 fw_C_1 (eX_1 ad to ta cs u1.1 u1.2.1 u1.2.2.1 u1.2.2.2) rfl rfl (Nat.le_of_ble_eq_true rfl) (sX_C1 ad to ta cs u1.1 u1.2.1 u1.2.2.1 u1.2.2.2 _) d_D_card_17 ?_
  refine x_iload_n (x := _) d_D_card_20 rfl ?_
  refine x_bipush (v := (-2)) d_D_card_21 (by decide) ?_
  refine x_icmp_ne (tgt := 36) d_D_card_23 rfl (fun hc => absurd rfl hc) (fun hc => ?_)
  exact x_throwS (tx := (strQ 1).2.2.1) (q := adK 1) (names := [nRTE, nEXC]) hfl hE List.mem_cons_self (cG tw_448) (cG tw_449) (cG tw_17) (by decide +kernel) (fun n hn => by simp only [List.mem_cons, List.not_mem_nil, or_false] at hn; rcases hn with rfl | rfl <;> decide +kernel) (fun A s s' args h1 h2 h3 => th_IAE h1 h2 (hTh A s' h3)) (fun A s h3 => ((X A s h3).2.1 1 (by decide)).1) d_D_card_26 d_D_card_29 d_D_card_30 d_D_card_32 d_D_card_35 (Nat.le_refl 1) (Nat.le_refl 6) (by decide) (by decide) (by show 2 + 3 < d + 782; omega) (by show 13 * 3 + 50 ≤ 64 * (d + 782); omega) h

set_option maxHeartbeats 600000 in
set_option maxRecDepth 100000 in
theorem c_D_cardS (l : Launch) (hfl : l.stackTraces = false) (D : va_G) (cs : Nat → ClassId) (Ev : (Nat → Prop) → State → Prop) (hE : xEok Ev) (adK adV : Nat → Nat) (fm : Option Nat) (X : xEv adK adV fm Ev) (hTh : ∀ A s, Ev A s → EvT A s) (ad to : Nat → Nat) (ta : Nat → Nat → Nat) (d : Nat) (post : XS → Prop) (u : XS) (h : P_D_cardT (-3) post u) : xCT l D clX (tysX cs) Ev y_D_card w_D_card (rmT (d + 782)) (wdX ad to ta cs) [.ref (ad 0)] u nISE post 1 6 := by
  unfold P_D_cardT at h
  refine xCT.of (cc := b_D_card) (nL := 3) (ret := (some .int)) (by decide) rfl (Nat.le_of_ble_eq_true rfl) ?_
  show RRq l D clX (tysX cs) Ev "DeckFront" b_D_card 3 w_D_card (rmT (d + 782)) (some .int) (wdX ad to ta cs) (qT D clX (wdX ad to ta cs) y_D_card nISE post 1 6) 0 0 0 [(0, .ref (ad 0))] [] u
  refine x_aload_n (x := (ad 0)) d_D_card_0 rfl ?_
  refine x_get (v := .ref (ad 3)) f_D_19 (eX_0 ad to ta cs u.1 u.2.1 u.2.2.1 u.2.2.2) rfl d_D_card_1 ?_
  refine x_aload_n (x := (ad 0)) d_D_card_4 rfl ?_
  refine x_get (v := .ref (ad 1)) f_D_10 (eX_0 ad to ta cs u.1 u.2.1 u.2.2.1 u.2.2.2) rfl d_D_card_5 ?_
  refine x_callV (st := []) k_D_34 rfl (eX_3 ad to ta cs u.1 u.2.1 u.2.2.1 u.2.2.2) x_id (c_K_join l D cs Ev hE adK adV fm X ad to ta (d + 778) _ u h) hE (rmT_ok (by omega) (by decide)) rfl (Nat.le_of_ble_eq_true rfl) rfl d_D_card_8 (x_rI (fun r2 u1 h => ?_))
  obtain ⟨rfl, h⟩ := h
  refine x_istore_n (lv' := [(1, .int _), (0, .ref (ad 0))]) d_D_card_11 (by decide) rfl ?_
  refine x_aload_n (x := (ad 0)) d_D_card_12 rfl ?_
  refine x_get (v := .ref (ad 1)) f_D_10 (eX_0 ad to ta cs u1.1 u1.2.1 u1.2.2.1 u1.2.2.2) rfl d_D_card_13 ?_
  refine x_iconst (v := 0) d_D_card_16 (by decide) ?_
  refine x_put f_D_38 fw_C_1 (eX_1 ad to ta cs u1.1 u1.2.1 u1.2.2.1 u1.2.2.2) rfl rfl (Nat.le_of_ble_eq_true rfl) (sX_C1 ad to ta cs u1.1 u1.2.1 u1.2.2.1 u1.2.2.2 _) d_D_card_17 ?_
  refine x_iload_n (x := _) d_D_card_20 rfl ?_
  refine x_bipush (v := (-2)) d_D_card_21 (by decide) ?_
  refine x_icmp_ne (tgt := 36) d_D_card_23 rfl (fun hc => ?_) (fun hc => absurd hc (by decide))
  refine x_iload_n (x := _) d_D_card_36 rfl ?_
  refine x_bipush (v := (-3)) d_D_card_37 (by decide) ?_
  refine x_icmp_ne (tgt := 52) d_D_card_39 rfl (fun hc => absurd rfl hc) (fun hc => ?_)
  exact x_throwS (tx := (strQ 2).2.2.1) (q := adK 2) (names := [nRTE, nEXC]) hfl hE List.mem_cons_self (cG tw_514) (cG tw_515) (cG tw_18) (by decide +kernel) (fun n hn => by simp only [List.mem_cons, List.not_mem_nil, or_false] at hn; rcases hn with rfl | rfl <;> decide +kernel) (fun A s s' args h1 h2 h3 => th_ISE h1 h2 (hTh A s' h3)) (fun A s h3 => ((X A s h3).2.1 2 (by decide)).1) d_D_card_42 d_D_card_45 d_D_card_46 d_D_card_48 d_D_card_51 (Nat.le_refl 1) (Nat.le_refl 6) (by decide) (by decide) (by show 2 + 3 < d + 782; omega) (by show 13 * 3 + 50 ≤ 64 * (d + 782); omega) h

