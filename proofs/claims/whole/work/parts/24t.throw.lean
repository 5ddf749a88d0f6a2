/-! a handler of the method's own, found through classes that may be cold -/
section TH
variable {E : CtlPost} {e : Env} {d : Bool} {acts : List Action} {s : State} {f : JFrame} {a : Addr} {Q : Handler → Pre}
theorem th_go {x : ExceptionTableEntry} {t : List ExceptionTableEntry} {c : ClassId} {cell : Cell} {vm' : Vm} (hx : covers x f.pc = true) (h0 : x.catchType ≠ 0)
    (hg : (Jvm.resolveClass f.method.cls x.catchType).Gives e.toSetting s.vm (.ok c) vm') (hsz : vm'.classes.size ≤ s.vm.classes.size) (hcell : s.heap[a]? = some cell) (hobj : ∀ k, cell.vm ≠ .statics k)
    (hk : ∃ k, vm'.classes[cell.cls]? = some k) (hc : ∃ k, vm'.classes[c]? = some k) :
    wp (findHandler.go f a (x :: t)) Q E e d acts s ↔ if vm'.assignable cell.cls c = true then Q (.found x.handlerPc) d acts (s.setVm vm') else wp (findHandler.go f a t) Q E e d acts (s.setVm vm') := by
  simp only [covers] at hx
  obtain ⟨ha, ht⟩ := hg.op (op := VmOp.resolveClass f.method.cls x.catchType) rfl
  cases hfit : vm'.assignable cell.cls c <;>
    simp [findHandler.go, hx, h0, ha, ht, hsz, hcell, hobj, hk, hc, hfit, VmOp.dirties, VmOp.acts]
/-- the search ends with h, and leaves the tables warmer -/
def FindsTo (e : Env) (s : State) (f : JFrame) (a : Addr) (h : Handler) (s' : State) : Prop :=
  ∀ (Q : Handler → Pre) (E : CtlPost) (d : Bool) (acts : List Action), wp (findHandler f a) Q E e d acts s ↔ Q h d acts s'
theorem th_catch {s' : State} {r : List Frame} {pc : Nat} (hfind : FindsTo e s f a (.found pc) s') :
    (stepThrowing e s a (.java f :: r)).Is (s'.setFrames (.java { f with pc := pc, stack := [.ref a] } :: r)) [] := by
  simp only [stepThrowing, searchFrame, vmDo]
  generalize hr : Sem.go _ e false [] s = res
  obtain ⟨as, rfl, ha⟩ := Sem.eq_ok_of hr (a := Handler.found pc) (s' := s') (acts' := []) (by simp [hfind _ _ _ _])
  exact ⟨rfl, ha⟩
theorem th_caught {tb : Tables} {T target : State} {g : JFrame} {c : Code} {below : List Frame} {vm' : Vm} (h : At T g.method c below) {pc : Nat} (hfind : FindsTo e ((T.setTop g).pushFrame (.throwing a)) g a (.found pc) (((T.setTop g).pushFrame (.throwing a)).setVm vm'))
    (hrest : Steps tb e below ((T.setVm vm').setTop { g with pc := pc, stack := [.ref a] }) target) :
    Steps tb e below ((T.setTop g).pushFrame (.throwing a)) target := by
  obtain ⟨hgo, hw⟩ := h.throwing a
  refine Steps.head hgo hw ?_
  rw [stepThread_throwing (frames_entered h.top _), (th_catch (s := (T.setTop g).pushFrame (.throwing a)) hfind).1]
  obtain ⟨g₀, hg⟩ := Option.isSome_iff_exists.mp h.top
  obtain ⟨r, hr⟩ := State.topJava?_eq_some.mp hg
  have hr2 : (T.setVm vm').frames = .java g₀ :: r := hr
  rw [State.setTop_of_frames _ hr2] at hrest
  have e9 : (((T.setTop g).pushFrame (.throwing a)).setVm vm').setFrames (.java { g with pc := pc, stack := [.ref a] } :: T.frames.tail) = (T.setVm vm').setFrames (.java { g with pc := pc, stack := [.ref a] } :: r) := by
    rw [State.pushFrame, State.setTop_of_frames _ hr, State.setFrames_setFrames, hr]
    show ((T.setFrames _).setVm vm').setFrames _ = _
    have : ∀ fs : List Frame, (T.setFrames fs).setVm vm' = (T.setVm vm').setFrames fs := fun _ => rfl
    rw [this, State.setFrames_setFrames]
    rfl
  rw [e9]
  exact hrest
end TH
section TH2
variable {p : Program} {l : Launch} {e : Env} {R : Room} {s : State} {m : MethodId} {args : Array Value} {below : List Frame} {meth : Method} {c : Code} {T : State} {locs : List Loc} {cells slots : Nat}
/-- the walk so far, as if the method had been entered with the heap as it is now -/
theorem th_base (X : Stand p l e R s m args below meth c T locs cells slots) (hc : cells ≤ R.cells) (hs : slots ≤ R.slots) :
    Stand p l e { R with cells := R.cells - cells, slots := R.slots - slots } ({ s with heap := T.heap, slotsUsed := T.slotsUsed } : State) m args below meth c T [] 0 0 := by
  have hroom := X.room
  have hbook := X.book
  obtain ⟨e1, e2, e3, e4, e5, e6⟩ := X.same
  refine ⟨X.admits, X.cas, X.clock, X.frames, ?_, X.hears, X.method, X.code, X.here, X.tail, X.warmed, X.limits, X.bytes, ?_⟩
  · have hh : T.heap.size ≤ s.heap.size + cells := e3
    have hu : T.slotsUsed = s.slotsUsed + ((T.heap.toList.drop s.heap.size).map (·.slots.size)).sum := e4
    have hu2 : ((T.heap.toList.drop s.heap.size).map (·.slots.size)).sum ≤ slots := e5
    simp only [State.hasRoom, Bool.and_eq_true, decide_eq_true_eq] at hroom ⊢
    obtain ⟨⟨⟨⟨r1, r2⟩, r3⟩, r4⟩, r5⟩ := hroom
    refine ⟨⟨⟨⟨r1, r2⟩, ?_⟩, ?_⟩, hbook⟩
    · show T.heap.size + (R.cells - cells) ≤ _
      omega
    · show T.slotsUsed + (R.slots - slots) ≤ _
      omega
  · have hz : T.heap.toList.drop T.heap.size = [] := List.drop_eq_nil_of_le (Nat.le_of_eq Array.length_toList)
    refine ⟨?_, Nat.le_refl _, Nat.le_refl _, ?_, ?_, fun a c h => ⟨c, h, rfl, rfl, fun _ _ => rfl⟩⟩
    · exact e1
    · show T.slotsUsed = T.slotsUsed + ((T.heap.toList.drop T.heap.size).map (·.slots.size)).sum
      rw [hz]
      rfl
    · show ((T.heap.toList.drop T.heap.size).map (·.slots.size)).sum ≤ 0
      rw [hz]
      exact Nat.le_refl 0
/-- a method's end by an exception of the class X: the object x, and a state u of the world, with post -/
def xQT {S : Type} (D : va_G) (cl : List vw_C) (wd : S → va_W) (A : Nat → Prop) (X : String) (post : S → Prop) : Array Value → State → Outcome → State → Prop := fun _ st oc t => (∃ (x : Addr) (u : S) (ce : Cell), oc = .threw x ∧ post u ∧ va_P D cl (wd u) t.heap ∧ va_D A (wd u) ∧ t.heap[x]? = some ce ∧ st.vm.findClass X = some ce.cls ∧ ce.vm = .none ∧ st.vm.assignable ce.cls ce.cls = true) ∧ va_F A st t
def qT {S : Type} (D : va_G) (cl : List vw_C) (wd : S → va_W) (y : MethodName) (X : String) (post : S → Prop) (mc ms : Nat) : List Frame → Array Value → State → (Nat → Prop) → State → Prop := fun below args s A t =>
  (∀ (q : Nat) (cell : Cell), A q → s.heap[q]? = some cell → cell.vm.isStatics = false) → (∀ m, s.frames = .invoking m args :: below → s.methodNamed? y = some m) →
  ∃ o, t.status = .running ∧ Ended t below o ∧ xQT D cl wd A X post args s o t ∧ ∃ L, FrameEndT s o t L mc ms ∧ ∀ q ∈ L, A q.base
section TH3
variable {S : Type} {D : va_G} {cl : List vw_C} {tys : List (ClassId × FieldType)} {Ev : (Nat → Prop) → State → Prop} {own : String} {cc : ByteArray} {nL : Nat} {Ts : List Cond} {rm : Room} {ret : Option FieldType} {wd : S → va_W} {post : S → Prop} {mc ms kc ks : Nat} {pc : Nat} {lv : List (Nat × Value)} {u : S}
/-- new X; dup; ldc; X.<init>(String); athrow -/
theorem x_throwS {y : MethodName} {bz : ByteArray} {nz : Nat} {rz : Option FieldType} {X tx : String} {names : List String} {inew il ic q : Nat} (hfl : l.stackTraces = false) (hE : xEok Ev) (hcode : Cond.code y bz nz rz ∈ Ts)
    (hcl : Cond.classLink own inew X ∈ Ts) (hinst : Cond.instantiable X 6 ∈ Ts) (hini : Cond.initialized X ∈ Ts) (hfit : Bundle.fit X = true) (hnames : ∀ n ∈ names, Bundle.fit n = true)
    (hat : ∀ (A : Nat → Prop) (s s' : State) (args : Array Value), (∀ w ∈ Ts, w.before args s = true) → s.WarmedH s'.vm → Ev A s' → ∀ a ∈ Bundle.ownAtoms own ic X names, a.before args s' = true) (hZ : ∀ (A : Nat → Prop) (s : State), Ev A s → vk_R own il tx q s)
    (hd0 : decode cc pc = .ok (.new inew, 3)) (hd3 : decode cc (pc + 3) = .ok (.dup, 1)) (hd4 : decode cc (pc + 4) = .ok (.ldc il, 2)) (hd6 : decode cc (pc + 6) = .ok (.invokespecial ic, 3)) (hd9 : decode cc (pc + 9) = .ok (.athrow, 1))
    (hkc : kc + 1 ≤ rm.cells) (hks : ks + 6 ≤ rm.slots) (hmc : kc + 1 ≤ mc) (hms : ks + 6 ≤ ms) (hfr : names.length + 3 < rm.frames) (hlo : 13 * (names.length + 1) + 50 ≤ rm.locals) (hpost : post u) : RRq l D cl tys Ev own cc nL Ts rm ret wd (qT D cl wd y X post mc ms) kc ks pc lv [] u := by
  intro p e s m args below meth c A H locs ls hX hP hD hS hl
  obtain ⟨hx, hb, hml, hown, hts, hK, hEv, hlk, hr, hA, -⟩ := id hX
  refine Classical.byCases (p := ∀ (q : Nat) (cell : Cell), A q → s.heap[q]? = some cell → cell.vm.isStatics = false) (fun h1 => ?_) (fun h1 T hT X0 => ⟨_, Steps.refl _, fun a => absurd a h1⟩)
  refine Classical.byCases (p := ∀ m, s.frames = .invoking m args :: below → s.methodNamed? y = some m) (fun h2 => ?_) (fun h2 T hT X0 => ⟨_, Steps.refl _, fun _ b => absurd b h2⟩)
  intro T hT X0
  have hn := h2 m X0.frames
  obtain ⟨meth', c', hm', hc', -, -, -, -, hempty, -⟩ := Cond.code_spec hn (hts _ hcode)
  cases X0.method.symm.trans hm'
  cases X0.code.symm.trans hc'
  have hno : c.exceptionTable.toList = [] := by
    have h0 : c.exceptionTable.size = 0 := by simpa [Array.isEmpty] using hempty
    exact List.eq_nil_of_length_eq_zero (by simpa using h0)
  have Z := th_base X0 (by omega) (by omega)
  have hs' : ∀ w ∈ Ts, True := fun _ _ => trivial
  have hE' : Ev A ({ s with heap := T.heap, slotsUsed := T.slotsUsed } : State) := hE.1 A A s _ hEv (show s.WarmedH s.vm from State.WarmedH.refl s) (by show s.heap.size ≤ T.heap.size; rw [hT]; exact hS.1) (fun q h3 h4 => by show T.heap[q]? = _; rw [hT]; exact hS.2.1 q h3 h4) (fun q h => h)
  have hat' := hat A s ({ s with heap := T.heap, slotsUsed := T.slotsUsed } : State) args hts (State.WarmedH.refl s) hE'
  have wd1 : ∀ (w : Cond), w ∈ Ts → (w.onTables && w.keeps) = true → w.before args ({ s with heap := T.heap, slotsUsed := T.slotsUsed } : State) = true := fun w hw hk => word_at (U := ({ s with heap := T.heap, slotsUsed := T.slotsUsed } : State)) (State.WarmedH.refl s) (Or.inl hk) (hts w hw)
  have main : W p l e { rm with cells := rm.cells - kc, slots := rm.slots - ks } ({ s with heap := T.heap, slotsUsed := T.slotsUsed } : State) m args below meth c T.heap [] 0 0 (fun t => ∃ ce : Cell, t.status = .running ∧ Ended t below (.threw T.heap.size) ∧ s.WarmedH t.vm ∧ ({ s with heap := T.heap, slotsUsed := T.slotsUsed } : State).sameButNew ({ t with vm := s.vm } : State) [] 1 6 ∧ t.heap[T.heap.size]? = some ce ∧ s.vm.findClass X = some ce.cls ∧ ce.vm = .none ∧ s.vm.assignable ce.cls ce.cls = true) (F0 m pc ls []) := by
    have o1 : 0 + 1 ≤ rm.cells - kc := by omega
    have o2 : 0 + 6 ≤ rm.slots - ks := by omega
    refine W.newc (s := ({ s with heap := T.heap, slotsUsed := T.slotsUsed } : State)) (R := { rm with cells := rm.cells - kc, slots := rm.slots - ks }) (cells := 0) (slots := 0) hx hb hown (wd1 _ hcl rfl) (wd1 _ hinst rfl) (wd1 _ hini rfl) (g := F0 m pc ls []) rfl hd0 o1 o2 (fun cC kC f1 f2 f3 f4 => ?_)
    refine lv_dup hx hb hd3 rfl ?_
    refine va_ldcS (s := ({ s with heap := T.heap, slotsUsed := T.slotsUsed } : State)) hx hb hown (hZ A _ hE') hd4 ?_
    intro T2 hT2 X2
    have hce : T2.heap[T.heap.size]? = some (freshCell cC kC) := by
      rw [hT2]
      simp [freshCell]
    obtain ⟨U, st1, hrun, hend, hWU, hsame, ce, hce2, hOC⟩ := X2.ctorThrowS hx (by rw [X2.admits.platform]; exact hfl) hown hfit hnames hat' (fun x h => by cases h) f1 f2 (a := T.heap.size) hce (Nat.le_refl _) (msg := .ref q) rfl (g := F0 m (pc + 6) ls (.ref q :: .ref T.heap.size :: .ref T.heap.size :: [])) rfl (hl.1.trans hml.symm) rfl rfl rfl (by rw [hb]; exact hd6) (by rw [hb]; exact hd9) (fun x h => by rw [hno] at h; cases h) hfr (by show 2 * 0 + (1 + 0) + _ ≤ rm.locals; omega) hlk
    exact ⟨U, st1, ce, hrun, hend, hWU, hsame, hce2, hOC.cls, hOC.vm, hOC.self⟩
  obtain ⟨t, st1, ce, hrun, hend, hW, hsame, hce, f1, f2, f3⟩ := main T rfl Z
  have hkept : ∀ (q : Nat) (cell : Cell), H[q]? = some cell → t.heap[q]? = some cell := fun q cell h => by
    have h9 : (({ t with vm := s.vm } : State)).heap[q]? = some cell := State.sameButNew.old_cell hsame (by show T.heap[q]? = some cell; rw [hT]; exact h)
    exact h9
  have hsz : H.size ≤ t.heap.size := by
    have h9 := hsame.2.1
    rw [← hT]
    exact h9
  have hkq : ∀ q : Nat, q < H.size → t.heap[q]? = H[q]? := fun q hq => by
    rw [hkept q _ (Array.getElem?_eq_getElem hq), Array.getElem?_eq_getElem hq]
  refine ⟨t, st1, fun _ _ => ⟨.threw T.heap.size, hrun, hend, ⟨⟨T.heap.size, u, ce, rfl, hpost, x_Pi.mpr (fun q hq => ?_), hD, hce, f1, f2, f3⟩, ?_⟩, locs, ⟨⟨_, rfl⟩, hW, ?_⟩, hS.2.2⟩⟩
  · have h9 := x_Pi.mp hP q hq
    exact h9.kept (hkq q.1 h9.lt)
  · exact ⟨Nat.le_trans hS.1 hsz, fun q h3 h4 => by rw [hkq q (Nat.lt_of_lt_of_le h3 hS.1)]; exact hS.2.1 q h3 h4⟩
  · have h3 : ({ s with heap := T.heap, slotsUsed := T.slotsUsed } : State).sameButNew ({ t with vm := s.vm } : State) [] 1 6 := hsame
    have h4 : s.sameButNew ({ s with heap := T.heap, slotsUsed := T.slotsUsed } : State) locs kc ks := by
      obtain ⟨e1, e2, e3, e4, e5, e6⟩ := X0.same
      refine ⟨?_, e2, e3, e4, e5, e6⟩
      obtain ⟨th, hth⟩ : ∃ th, s.threads[s.cur]? = some th := ⟨_, Array.getElem?_eq_getElem X0.cur⟩
      show ({ s with heap := T.heap, slotsUsed := T.slotsUsed } : State) = { s.setFrames s.frames with heap := T.heap, slotsUsed := T.slotsUsed }
      rw [State.setFrames_self hth]
    have h5 := h4.trans h3
    rw [List.append_nil] at h5
    exact h5.mono hmc hms
end TH3
end TH2
section TH4
variable {S Sz : Type} {l : Launch} {D : va_G} {cl : List vw_C} {tys : List (ClassId × FieldType)} {Ev : (Nat → Prop) → State → Prop} {own : String} {cc : ByteArray} {nL : Nat} {Ts : List Cond} {rm : Room} {ret : Option FieldType} {wd : S → va_W} {Qf : List Frame → Array Value → State → (Nat → Prop) → State → Prop} {mc ms kc ks : Nat} {pc : Nat} {lv : List (Nat × Value)} {u : S}
/-- the contract of a method that throws an X -/
def xCT {S : Type} (l : Launch) (D : va_G) (cl : List vw_C) (tys : List (ClassId × FieldType)) (Ev : (Nat → Prop) → State → Prop) (y : MethodName) (ws : List Cond) (rm : Room) (wd : S → va_W) (av : List Value) (u : S) (X : String) (post : S → Prop) (mc ms : Nat) : Prop := ∀ sz : Nat, MetFree l y (headSpec ws rm) (va_Pc av (xB D cl tys Ev wd u sz)) (fun _ _ _ _ _ => True) (fun a st o t => xQT D cl wd (va_A (wd u) sz) X post a st o t ∧ ∃ L, FrameEndT st o t L mc ms ∧ ∀ q ∈ L, va_A (wd u) sz q.base)
theorem va_at_stat {q : Nat × va_E} {H : Heap} {cell : Cell} (h : va_at D cl q H) (hc : H[q.1]? = some cell) : cell.vm.isStatics = false := by
  obtain ⟨a, e⟩ := q
  cases e with
  | inl z =>
    obtain ⟨cA, n, f⟩ := z
    have h1 : H[a]? = some (vp_cell cA (n, f)) := h
    cases h1.symm.trans hc
    rcases f with f | f | f | f | f <;> rfl
  | inr o =>
    obtain ⟨r, -, c9, h2, -, h3, -⟩ := h
    cases h2.symm.trans hc
    rw [h3]
    rfl
theorem xCT.of {y : MethodName} {ws ws' : List Cond} {av : List Value} {X : String} {post : S → Prop} (hy : plainName y.cls = true) (hw : ws = Cond.code y cc nL ret :: ws') (hlen : (lg_sl av).length ≤ nL) (h : RRq l D cl tys Ev y.cls cc nL ws rm ret wd (qT D cl wd y X post mc ms) 0 0 0 (lv_args 0 av) [] u) : xCT l D cl tys Ev y ws rm wd av u X post mc ms := by
  intro sz
  refine MetFree.of_bodyS (code := cc) (maxLocals := nL) (ret := ret) hy ?_ ?_
  · intro args s m h hn
    obtain ⟨meth, c, h1, h2, h3, h4, h5, h6, -, -⟩ := Cond.code_spec hn (atoms_spec (ws := ws) h _ (by rw [hw]; exact List.mem_cons_self))
    exact ⟨meth, c, h1, h2, h3, h4, h5, h6⟩
  · intro p e s m args below meth c s₁ B hml hv _
    obtain ⟨rfl, hsz, hP, hK, hD0, hE⟩ := hv
    have hx := B.exec
    have hb := B.bytes
    have hr := B.returns
    have hts := atoms_spec (ws := ws) B.pre
    have hown : s.vm.findClass y.cls = some m.cls := findClass_of_methodNamed B.named
    have hlocks := B.notSynchronized
    subst hsz
    have hD := hD0.self (sz := s.heap.size)
    have hl := lv_entry av (n := nL) hlen
    have hh0 : s₁.heap = s.heap := by rw [B.state]; rfl
    have main := h p e s m av.toArray below meth c _ s.heap [] _ ⟨hx, hb, hml, hown, hts, hK, hE, hlocks, hr, fun q h => Or.inr h, fun y' b' n' r' h' => by
      rw [hw] at h'
      simp only [List.head?_cons, Option.some.injEq, Cond.code.injEq] at h'
      rw [← h'.1]
      exact (name_of_methodNamed B.named B.method).1⟩ hP hD va_S.rf hl
    rw [← lg_entry_eq] at main
    obtain ⟨t, a1, b1⟩ := main s₁ hh0 (Stand.of_body B)
    obtain ⟨o, r1, r2, r3, r4⟩ := b1 (fun q cell hq hc => by
      rcases hq with ⟨k, e, hq⟩ | hq
      · exact va_at_stat (hP k _ hq) hc
      · have := (Array.getElem?_eq_some_iff.mp hc).1
        omega) (fun m' h' => by
      cases B.frames.symm.trans h'
      exact B.named)
    exact ⟨t, o, a1, r1, r2, r3, r4⟩
/-- an end that leans on the method's being the one of that name -/
def qN (y : MethodName) (Qf : List Frame → Array Value → State → (Nat → Prop) → State → Prop) : List Frame → Array Value → State → (Nat → Prop) → State → Prop := fun below args s A t => (∀ m, s.frames = .invoking m args :: below → s.methodNamed? y = some m) → Qf below args s A t
theorem RRq.named {y : MethodName} {st : List Value} (h : RRq l D cl tys Ev own cc nL Ts rm ret wd Qf kc ks pc lv st u) : RRq l D cl tys Ev own cc nL Ts rm ret wd (qN y Qf) kc ks pc lv st u := by
  intro p e s m args below meth c A H locs ls hX hP hD hS hl T hT Z
  obtain ⟨t, a1, b1⟩ := h p e s m args below meth c A H locs ls hX hP hD hS hl T hT Z
  exact ⟨t, a1, fun _ => b1⟩
theorem xC.ofN {y : MethodName} {ws ws' : List Cond} {av : List Value} {hh : List (Nat × Nat × Nat × Nat)} {post : Option Value → S → Prop} {mc ms : Nat} (hy : plainName y.cls = true) (hw : ws = Cond.codeWith y cc nL ret hh :: ws') (hlen : (lg_sl av).length ≤ nL) (h : RRq l D cl tys Ev y.cls cc nL ws rm ret wd (qN y (fun below args s A => MQ below (xQ D cl wd A post) args s mc ms A)) 0 0 0 (lv_args 0 av) [] u) : xC l D cl tys Ev y ws rm wd av u post mc ms := by
  intro sz
  refine va_MetW (cc := cc) (maxL := nL) (ret := ret) (hh := hh) hy hw ?_
  intro p e s m args below meth c s₁ B hml hv
  obtain ⟨rfl, hsz, hP, hK, hD0, hE⟩ := hv
  have hx := B.exec
  have hb := B.bytes
  have hr := B.returns
  have hts := atoms_spec (ws := ws) B.pre
  have hown : s.vm.findClass y.cls = some m.cls := findClass_of_methodNamed B.named
  have hlocks := B.notSynchronized
  subst hsz
  have hD := hD0.self (sz := s.heap.size)
  have hl := lv_entry av (n := nL) hlen
  have main := h p e s m av.toArray below meth c _ s.heap [] _ ⟨hx, hb, hml, hown, hts, hK, hE, hlocks, hr, fun q h => Or.inr h, fun y' b' n' r' h' => by
    rw [hw] at h'
    simp at h'⟩ hP hD va_S.rf hl
  rw [← lg_entry_eq] at main
  intro T hT Z
  obtain ⟨t, a1, b1⟩ := main T hT Z
  exact ⟨t, a1, b1 (fun m' h' => by
    cases B.frames.symm.trans h'
    exact B.named)⟩
/-- where an X that comes out of the call at pc is caught: at hpc -/
def xFd (l : Launch) (Ev : (Nat → Prop) → State → Prop) (own : String) (Ts : List Cond) (yL : MethodName) (X : String) (pc hpc : Nat) : Prop := ∀ (p : Program) (e : Env) (R : Room) (s : State) (m : MethodId) (args : Array Value) (below : List Frame) (meth : Method) (c : Code) (T : State) (locs : List Loc) (k1 k2 x : Nat) (ce : Cell) (g : JFrame) (A : Nat → Prop), Stand p l e R s m args below meth c T locs k1 k2 → (∀ w ∈ Ts, w.before args s = true) → Ev A s → s.vm.findClass own = some m.cls → s.methodNamed? yL = some m → g.method = m → g.pc = pc → T.heap[x]? = some ce → s.vm.findClass X = some ce.cls → ce.vm = .none → s.vm.assignable ce.cls ce.cls = true → ∃ vm', s.WarmedH vm' ∧ FindsTo e ((T.setTop g).pushFrame (.throwing x)) g x (.found hpc) (((T.setTop g).pushFrame (.throwing x)).setVm vm')
theorem x_callVT {yL y : MethodName} {bz : ByteArray} {nz n index cz sz a : Nat} {rz : Option FieldType} {wz : List Cond} {wdz : Sz → va_W} {uz : Sz} {put : Sz → S} {X : String} {pz : Sz → Prop} {rmz : Room} {As st st0 : List Value} {C : String} {q0 ci hpc : Nat} {fs : List Value} {T : u_T} {N : Nat} (K : xkV Ts own index C y bz nz rz wz n) (hc : cl[ci]? = some (C, T, N)) (he : (wd u)[q0]? = some (a, .inr (ci, fs))) (L : xLens wd u wdz uz put) (hz : xCT l D cl tys Ev y wz rmz wdz (.ref a :: As) uz X pz cz sz) (hE : xEok Ev) (hR : xRm rm rmz nz cz sz kc ks) (hn : As.length = n) (hw : (st.map fun v => v.category).sum ≤ 8) (hst : st0 = As.reverse ++ .ref a :: st) (hd : decode cc pc = .ok (.invokevirtual index, 3)) (hF : xFd l Ev own Ts yL X pc hpc)
    (kk : ∀ (x : Nat) (u1 : Sz), pz u1 → RRq l D cl tys Ev own cc nL Ts rm ret wd (qN yL Qf) (kc + cz) (ks + sz) hpc lv [.ref x] (put u1)) : RRq l D cl tys Ev own cc nL Ts rm ret wd (qN yL Qf) kc ks pc lv st0 u := by
  intro p e s m args below meth c A H locs ls hX hP hD hS hl
  obtain ⟨⟨hG, ⟨w', hw'⟩, hini, hdd⟩, hlk, hin, hsel⟩ := K
  obtain ⟨hx, hb, hml, hown, hts, hK, hEv, hlocks, hret, hA, hhd⟩ := id hX
  refine Classical.byCases (p := ∀ m, s.frames = .invoking m args :: below → s.methodNamed? yL = some m) (fun h2 => ?_) (fun h2 T hT X0 => ⟨_, Steps.refl _, fun b => absurd b h2⟩)
  obtain ⟨wr, hC, hput⟩ := L
  have hP0 := x_Pp hP hC
  have hD0 := x_Dp hD hC
  have hPz : va_P D cl (wdz uz) H := x_Pi.mpr (fun q hq => x_Pi.mp hP0 q (List.mem_append_right _ hq))
  have hDz : va_D A (wdz uz) := x_Di.mpr ⟨(List.pairwise_append.mp (x_Di.mp hD0).1).2.1, fun q hq => (x_Di.mp hD0).2 q (List.mem_append_right _ hq)⟩
  have hFr := x_freeS hA hS hDz
  intro T0 hT0 X0
  have hnm := h2 m X0.frames
  have hcw : Cond.code y bz nz rz ∈ wz := by rw [hw']; exact List.mem_cons_self
  have hBk : BackT l rm p e below s args y 3 8 (PreOf rm cz sz (va_Pc (.ref a :: As) (xB D cl tys Ev wdz uz H.size))) (fun A1 a1 x B => ∃ (g : JFrame) (mk : MethodId) (t : State) (L : List Loc), B.U.heap = t.heap ∧ B.U.vm = t.vm ∧ xQT D cl wdz (va_A (wdz uz) H.size) X pz a1 (A1.U.calling g mk a1) (.threw x) t ∧ B.locs = A1.locs ++ L ∧ (∀ q ∈ L, va_A (wdz uz) H.size q.base) ∧ B.cells = A1.cells + cz ∧ B.slots = A1.slots + sz) := by
    refine BackT.of_free (S := headSpec wz rmz) (bytes := bz) (maxL := nz) (ret := rz) (E := fun a st o t L k n => k = cz ∧ n = sz ∧ ∀ q ∈ L, va_A (wdz uz) H.size q.base) (hz H.size) hR.2.1.1 hR.2.1.2 ?_ ?_ (fun _ _ _ _ _ _ _ _ _ => trivial) ?_ ?_
    · intro m1 meth1 c1 A1 a1 X1 hp1
      exact ⟨atoms_intro fun w hw => pay_in hts hG w hw _ _ X1.warmed, pay_in hts hG _ hcw _ _ X1.warmed, word_at X1.warmed (Or.inl (by first | rfl | simp [Cond.onTables, Cond.keeps, Cond.steady])) (hts _ hini), by rw [show (headSpec wz rmz).room.cells = cz from hR.1.1]; exact hp1.1, by rw [show (headSpec wz rmz).room.slots = sz from hR.1.2]; exact hp1.2.1⟩
    · intro m1 meth1 c1 A1 a1 g1 mk1 X1 hp1
      exact xB.blind hE _ _ _ _ hp1.2.2
    · intro a1 st1 o1 t1 ⟨hq, L1, hF1, hL1⟩
      exact ⟨L1, cz, sz, hF1, rfl, rfl, hL1⟩
    · intro m1 meth1 c1 A1 a1 g1 mk1 v1 t1 L1 k1 n1 X1 hp1 hq1 hF1 ⟨e1, e2, hL1⟩
      subst e1; subst e2
      exact ⟨g1, mk1, t1, L1, rfl, rfl, hq1.1, rfl, hL1, rfl, rfl⟩
  obtain ⟨cellB, hcB, hoB, hclB⟩ := va_recv hK hP hc he
  have hlen : ∀ sig, parseMethodDescriptor y.desc = some sig → As.length = sig.parameters.length := fun sig h => by
    have h9 := hdd.2.2
    rw [h] at h9
    rw [hn]
    exact (Option.some.inj h9).symm
  obtain ⟨mk, methM, hnamed, hmethM, hstM, habM⟩ := Cond.instanceMethod_spec (hts _ hin)
  obtain ⟨methM', cM, hmethM', -, -, -, -, -, -, hsigM⟩ := Cond.code_spec hnamed (hts _ (hG _ hcw).1)
  cases hmethM.symm.trans hmethM'
  obtain ⟨c2, r2, m2, q1, q2, q3, q4, kP, hkP, hkPi⟩ := Cond.selects_spec (hsel _ _ hts)
  cases hclB.symm.trans q1
  cases (State.methodFound?_of_named hnamed ⟨hdd.1, hdd.2.1⟩).symm.trans q2
  cases hnamed.symm.trans q3
  have hselP : selectMethod e.platform s.vm cellB.cls mk = .method mk := by rw [Launch.admits_selectMethod X0.admits]; exact q4
  obtain ⟨vm₁, X₁, hstep₁⟩ := X0.invokevirtual hx hown (hts _ hlk) hnamed hmethM hstM hkP hkPi ⟨hdd.1, hdd.2.1⟩ (a := a) (cell := cellB) (by rw [hT0]; exact hcB)
    (fun z h => by rw [h] at hoB; cases hoB) hselP hmethM habM hkP hkPi (g := F0 m pc ls st0) rfl (argsL := As) (rest := st) (hlen _ hsigM) hst (by rw [hb]; exact hd)
  obtain ⟨x, ⟨U', l2, c2, s2⟩, X', ⟨g', mk', t, L, e1, e2, hq, h1, hL, h3, h4⟩, hsteps⟩ := hBk m meth c ⟨T0.setVm vm₁, locs, kc, ks⟩ (F0 m pc ls st) (.invokevirtual index) mk (Value.ref a :: As).toArray X₁ rfl (hl.1.trans hml.symm) (by rw [hb]; exact hd) (lv_room hw) (X₁.named hnamed) ⟨hR.2.2.1, hR.2.2.2, x_pre hE hX hS hPz hDz (T0.setVm vm₁) hT0 X₁.warmed⟩
  dsimp only [Pt.U, Pt.locs, Pt.cells, Pt.slots] at X' e1 e2 h1 h3 h4 hsteps
  subst h1; subst h3; subst h4
  obtain ⟨⟨x', u1, ce, hx', hp, hP1, hD1, hce, f1, f2, f3⟩, hz1, hz2⟩ := hq
  cases hx'
  have hvs : ((T0.setVm vm₁).calling g' mk' (Value.ref a :: As).toArray).vm.Alike s.vm := X₁.warmed.alike.symm
  have hhs : ((T0.setVm vm₁).calling g' mk' (Value.ref a :: As).toArray).heap = H := hT0
  rw [hhs] at hz1 hz2
  obtain ⟨vm', hW', hfind⟩ := hF p e rm s m args below meth c U' _ _ _ x ce (F0 m pc ls st) A X' hts hEv hown hnm rfl rfl (by rw [e1]; exact hce) (by rw [hvs.findClass]; exact f1) f2 (by rw [hvs.assignable]; exact f3)
  obtain ⟨hP2, hD2⟩ := x_join (wr := wr) (w1 := wdz u1) hP0 hD0 hz2 hFr hP1 hD1
  have hS1 : va_S A s.heap t.heap (locs ++ L) := ⟨Nat.le_trans hS.1 hz1, fun q h5 h6 => by rw [hz2 q (Nat.lt_of_lt_of_le h5 hS.1) (fun z => h6 (hFr q z))]; exact hS.2.1 q h5 h6, fun q hq => by
    rcases List.mem_append.mp hq with h | h
    · exact hS.2.2 q h
    · exact hFr _ (hL q h)⟩
  obtain ⟨t2, a1, b1⟩ := kk x u1 hp p e s m args below meth c A t.heap (locs ++ L) ls hX (x_Pp hP2 (hput u1)) (x_Dp hD2 (hput u1)) hS1 hl (U'.setVm vm') e1 (X'.noted hW')
  refine ⟨t2, hstep₁ _ fun acts => ?_, b1⟩
  rw [doInvoke_state]
  exact hsteps.trans (th_caught (g := F0 m pc ls st) X'.here hfind a1)
end TH4
