/-! a handler of the method's own, found through classes that may be cold -/
section TH
variable {E : CtlPost} {e : Env} {d : Bool} {acts : List Action} {s : State} {f : JFrame} {a : Addr} {Q : Handler → Pre}
theorem th_go {x : ExceptionTableEntry} {t : List ExceptionTableEntry} {c : ClassId} {cell : Cell} {vm' : Vm} (hx : covers x f.pc = true) (h0 : x.catchType ≠ 0)
    (hg : (Jvm.resolveClass f.method.cls x.catchType).Gives e.toSetting s.vm (.ok c) vm') (hsz : vm'.classes.size ≤ s.vm.classes.size) (hcell : s.heap[a]? = some cell) (hobj : ∀ k, cell.vm ≠ .statics k)
    (hk : ∃ k, vm'.classes[cell.cls]? = some k) (hc : ∃ k, vm'.classes[c]? = some k) :
    wp (findHandler.go f a (x :: t)) Q E e d acts s ↔ if vm'.assignable cell.cls c = true then Q (.found x.handlerPc) d acts (s.setVm vm') else wp (findHandler.go f a t) Q E e d acts (s.setVm vm') := by
  simp only [covers] at hx
  obtain ⟨ha, ht⟩ := hg.op (op := VmOp.resolveClass f.method.cls x.catchType) rfl
  cases hfit : vm'.assignable cell.cls c <;>
    simp [findHandler.go, hx, h0, ha, ht, hsz, hcell, hobj, hk, hc, hfit, VmOp.dirties, VmOp.acts]
/-- the search ends with h, and leaves the tables warmer -/
def FindsTo (e : Env) (s : State) (f : JFrame) (a : Addr) (h : Handler) (s' : State) : Prop :=
  ∀ (Q : Handler → Pre) (E : CtlPost) (d : Bool) (acts : List Action), wp (findHandler f a) Q E e d acts s ↔ Q h d acts s'
theorem th_catch {s' : State} {r : List Frame} {pc : Nat} (hfind : FindsTo e s f a (.found pc) s') :
    (stepThrowing e s a (.java f :: r)).Is (s'.setFrames (.java { f with pc := pc, stack := [.ref a] } :: r)) [] := by
  simp only [stepThrowing, searchFrame, vmDo]
  generalize hr : Sem.go _ e false [] s = res
  obtain ⟨as, rfl, ha⟩ := Sem.eq_ok_of hr (a := Handler.found pc) (s' := s') (acts' := []) (by simp [hfind _ _ _ _])
  exact ⟨rfl, ha⟩
theorem th_caught {tb : Tables} {T target : State} {g : JFrame} {c : Code} {below : List Frame} {vm' : Vm} (h : At T g.method c below) {pc : Nat} (hfind : FindsTo e ((T.setTop g).pushFrame (.throwing a)) g a (.found pc) (((T.setTop g).pushFrame (.throwing a)).setVm vm'))
    (hrest : Steps tb e below ((T.setVm vm').setTop { g with pc := pc, stack := [.ref a] }) target) :
    Steps tb e below ((T.setTop g).pushFrame (.throwing a)) target := by
  obtain ⟨hgo, hw⟩ := h.throwing a
  refine Steps.head hgo hw ?_
  rw [stepThread_throwing (frames_entered h.top _), (th_catch (s := (T.setTop g).pushFrame (.throwing a)) hfind).1]
  obtain ⟨g₀, hg⟩ := Option.isSome_iff_exists.mp h.top
  obtain ⟨r, hr⟩ := State.topJava?_eq_some.mp hg
  have hr2 : (T.setVm vm').frames = .java g₀ :: r := hr
  rw [State.setTop_of_frames _ hr2] at hrest
  have e9 : (((T.setTop g).pushFrame (.throwing a)).setVm vm').setFrames (.java { g with pc := pc, stack := [.ref a] } :: T.frames.tail) = (T.setVm vm').setFrames (.java { g with pc := pc, stack := [.ref a] } :: r) := by
    rw [State.pushFrame, State.setTop_of_frames _ hr, State.setFrames_setFrames, hr]
    show ((T.setFrames _).setVm vm').setFrames _ = _
    have : ∀ fs : List Frame, (T.setFrames fs).setVm vm' = (T.setVm vm').setFrames fs := fun _ => rfl
    rw [this, State.setFrames_setFrames]
    rfl
  rw [e9]
  exact hrest
end TH
section TH2
variable {p : Program} {l : Launch} {e : Env} {R : Room} {s : State} {m : MethodId} {args : Array Value} {below : List Frame} {meth : Method} {c : Code} {T : State} {locs : List Loc} {cells slots : Nat}
/-- the walk so far, as if the method had been entered with the heap as it is now -/
theorem th_base (X : Stand p l e R s m args below meth c T locs cells slots) (hc : cells ≤ R.cells) (hs : slots ≤ R.slots) :
    Stand p l e { R with cells := R.cells - cells, slots := R.slots - slots } ({ s with heap := T.heap, slotsUsed := T.slotsUsed } : State) m args below meth c T [] 0 0 := by
  have hroom := X.room
  have hbook := X.book
  obtain ⟨e1, e2, e3, e4, e5, e6⟩ := X.same
  refine ⟨X.admits, X.cas, X.clock, X.frames, ?_, X.hears, X.method, X.code, X.here, X.tail, X.warmed, X.limits, X.bytes, ?_⟩
  · have hh : T.heap.size ≤ s.heap.size + cells := e3
    have hu : T.slotsUsed = s.slotsUsed + ((T.heap.toList.drop s.heap.size).map (·.slots.size)).sum := e4
    have hu2 : ((T.heap.toList.drop s.heap.size).map (·.slots.size)).sum ≤ slots := e5
    simp only [State.hasRoom, Bool.and_eq_true, decide_eq_true_eq] at hroom ⊢
    obtain ⟨⟨⟨⟨r1, r2⟩, r3⟩, r4⟩, r5⟩ := hroom
    refine ⟨⟨⟨⟨r1, r2⟩, ?_⟩, ?_⟩, hbook⟩
    · show T.heap.size + (R.cells - cells) ≤ _
      omega
    · show T.slotsUsed + (R.slots - slots) ≤ _
      omega
  · have hz : T.heap.toList.drop T.heap.size = [] := List.drop_eq_nil_of_le (Nat.le_of_eq Array.length_toList)
    refine ⟨?_, Nat.le_refl _, Nat.le_refl _, ?_, ?_, fun a c h => ⟨c, h, rfl, rfl, fun _ _ => rfl⟩⟩
    · exact e1
    · show T.slotsUsed = T.slotsUsed + ((T.heap.toList.drop T.heap.size).map (·.slots.size)).sum
      rw [hz]
      rfl
    · show ((T.heap.toList.drop T.heap.size).map (·.slots.size)).sum ≤ 0
      rw [hz]
      exact Nat.le_refl 0
/-- a method's end by an exception of the class X: the object x, and a state u of the world, with post -/
def xQT {S : Type} (D : va_G) (cl : List vw_C) (wd : S → va_W) (A : Nat → Prop) (X : String) (post : S → Prop) : Array Value → State → Outcome → State → Prop := fun _ st oc t => (∃ (x : Addr) (u : S) (ce : Cell), oc = .threw x ∧ post u ∧ va_P D cl (wd u) t.heap ∧ va_D A (wd u) ∧ t.heap[x]? = some ce ∧ st.vm.findClass X = some ce.cls ∧ ce.vm = .none ∧ st.vm.assignable ce.cls ce.cls = true) ∧ va_F A st t
def qT {S : Type} (D : va_G) (cl : List vw_C) (wd : S → va_W) (y : MethodName) (X : String) (post : S → Prop) (mc ms : Nat) : List Frame → Array Value → State → (Nat → Prop) → State → Prop := fun below args s A t =>
  (∀ (q : Nat) (cell : Cell), A q → s.heap[q]? = some cell → cell.vm.isStatics = false) → (∀ m, s.frames = .invoking m args :: below → s.methodNamed? y = some m) →
  ∃ o, t.status = .running ∧ Ended t below o ∧ xQT D cl wd A X post args s o t ∧ ∃ L, FrameEndT s o t L mc ms ∧ ∀ q ∈ L, A q.base
section TH3
variable {S : Type} {D : va_G} {cl : List vw_C} {tys : List (ClassId × FieldType)} {Ev : (Nat → Prop) → State → Prop} {own : String} {cc : ByteArray} {nL : Nat} {Ts : List Cond} {rm : Room} {ret : Option FieldType} {wd : S → va_W} {post : S → Prop} {mc ms kc ks : Nat} {pc : Nat} {lv : List (Nat × Value)} {u : S}
/-- new X; dup; ldc; X.<init>(String); athrow -/
theorem x_throwS {y : MethodName} {bz : ByteArray} {nz : Nat} {rz : Option FieldType} {X tx : String} {names : List String} {inew il ic q : Nat} (hfl : l.stackTraces = false) (hE : xEok Ev) (hcode : Cond.code y bz nz rz ∈ Ts)
    (hcl : Cond.classLink own inew X ∈ Ts) (hinst : Cond.instantiable X 6 ∈ Ts) (hini : Cond.initialized X ∈ Ts) (hfit : Bundle.fit X = true) (hnames : ∀ n ∈ names, Bundle.fit n = true)
    (hat : ∀ (A : Nat → Prop) (s s' : State) (args : Array Value), (∀ w ∈ Ts, w.before args s = true) → s.WarmedH s'.vm → Ev A s' → ∀ a ∈ Bundle.ownAtoms own ic X names, a.before args s' = true) (hZ : ∀ (A : Nat → Prop) (s : State), Ev A s → vk_R own il tx q s)
    (hd0 : decode cc pc = .ok (.new inew, 3)) (hd3 : decode cc (pc + 3) = .ok (.dup, 1)) (hd4 : decode cc (pc + 4) = .ok (.ldc il, 2)) (hd6 : decode cc (pc + 6) = .ok (.invokespecial ic, 3)) (hd9 : decode cc (pc + 9) = .ok (.athrow, 1))
    (hkc : kc + 1 ≤ rm.cells) (hks : ks + 6 ≤ rm.slots) (hmc : kc + 1 ≤ mc) (hms : ks + 6 ≤ ms) (hfr : names.length + 3 < rm.frames) (hlo : 13 * (names.length + 1) + 50 ≤ rm.locals) (hpost : post u) : RRq l D cl tys Ev own cc nL Ts rm ret wd (qT D cl wd y X post mc ms) kc ks pc lv [] u := by
  intro p e s m args below meth c A H locs ls hX hP hD hS hl
  obtain ⟨hx, hb, hml, hown, hts, hK, hEv, hlk, hr, hA, -⟩ := id hX
  refine Classical.byCases (p := ∀ (q : Nat) (cell : Cell), A q → s.heap[q]? = some cell → cell.vm.isStatics = false) (fun h1 => ?_) (fun h1 T hT X0 => ⟨_, Steps.refl _, fun a => absurd a h1⟩)
  refine Classical.byCases (p := ∀ m, s.frames = .invoking m args :: below → s.methodNamed? y = some m) (fun h2 => ?_) (fun h2 T hT X0 => ⟨_, Steps.refl _, fun _ b => absurd b h2⟩)
  intro T hT X0
  have hn := h2 m X0.frames
  obtain ⟨meth', c', hm', hc', -, -, -, -, hempty, -⟩ := Cond.code_spec hn (hts _ hcode)
  cases X0.method.symm.trans hm'
  cases X0.code.symm.trans hc'
  have hno : c.exceptionTable.toList = [] := by
    have h0 : c.exceptionTable.size = 0 := by simpa [Array.isEmpty] using hempty
    exact List.eq_nil_of_length_eq_zero (by simpa using h0)
  have Z := th_base X0 (by omega) (by omega)
  have hs' : ∀ w ∈ Ts, True := fun _ _ => trivial
  have hE' : Ev A ({ s with heap := T.heap, slotsUsed := T.slotsUsed } : State) := hE.1 A A s _ hEv (show s.WarmedH s.vm from State.WarmedH.refl s) (by show s.heap.size ≤ T.heap.size; rw [hT]; exact hS.1) (fun q h3 h4 => by show T.heap[q]? = _; rw [hT]; exact hS.2.1 q h3 h4) (fun q h => h)
  have hat' := hat A s ({ s with heap := T.heap, slotsUsed := T.slotsUsed } : State) args hts (State.WarmedH.refl s) hE'
  have wd1 : ∀ (w : Cond), w ∈ Ts → (w.onTables && w.keeps) = true → w.before args ({ s with heap := T.heap, slotsUsed := T.slotsUsed } : State) = true := fun w hw hk => word_at (U := ({ s with heap := T.heap, slotsUsed := T.slotsUsed } : State)) (State.WarmedH.refl s) (Or.inl hk) (hts w hw)
  have main : W p l e { rm with cells := rm.cells - kc, slots := rm.slots - ks } ({ s with heap := T.heap, slotsUsed := T.slotsUsed } : State) m args below meth c T.heap [] 0 0 (fun t => ∃ ce : Cell, t.status = .running ∧ Ended t below (.threw T.heap.size) ∧ s.WarmedH t.vm ∧ ({ s with heap := T.heap, slotsUsed := T.slotsUsed } : State).sameButNew ({ t with vm := s.vm } : State) [] 1 6 ∧ t.heap[T.heap.size]? = some ce ∧ s.vm.findClass X = some ce.cls ∧ ce.vm = .none ∧ s.vm.assignable ce.cls ce.cls = true) (F0 m pc ls []) := by
    have o1 : 0 + 1 ≤ rm.cells - kc := by omega
    have o2 : 0 + 6 ≤ rm.slots - ks := by omega
    refine W.newc (s := ({ s with heap := T.heap, slotsUsed := T.slotsUsed } : State)) (R := { rm with cells := rm.cells - kc, slots := rm.slots - ks }) (cells := 0) (slots := 0) hx hb hown (wd1 _ hcl rfl) (wd1 _ hinst rfl) (wd1 _ hini rfl) (g := F0 m pc ls []) rfl hd0 o1 o2 (fun cC kC f1 f2 f3 f4 => ?_)
    refine lv_dup hx hb hd3 rfl ?_
    refine va_ldcS (s := ({ s with heap := T.heap, slotsUsed := T.slotsUsed } : State)) hx hb hown (hZ A _ hE') hd4 ?_
    intro T2 hT2 X2
    have hce : T2.heap[T.heap.size]? = some (freshCell cC kC) := by
      rw [hT2]
      simp [freshCell]
    obtain ⟨U, st1, hrun, hend, hWU, hsame, ce, hce2, hOC⟩ := X2.ctorThrowS hx (by rw [X2.admits.platform]; exact hfl) hown hfit hnames hat' (fun x h => by cases h) f1 f2 (a := T.heap.size) hce (Nat.le_refl _) (msg := .ref q) rfl (g := F0 m (pc + 6) ls (.ref q :: .ref T.heap.size :: .ref T.heap.size :: [])) rfl (hl.1.trans hml.symm) rfl rfl rfl (by rw [hb]; exact hd6) (by rw [hb]; exact hd9) (fun x h => by rw [hno] at h; cases h) hfr (by show 2 * 0 + (1 + 0) + _ ≤ rm.locals; omega) hlk
    exact ⟨U, st1, ce, hrun, hend, hWU, hsame, hce2, hOC.cls, hOC.vm, hOC.self⟩
  obtain ⟨t, st1, ce, hrun, hend, hW, hsame, hce, f1, f2, f3⟩ := main T rfl Z
  have hkept : ∀ (q : Nat) (cell : Cell), H[q]? = some cell → t.heap[q]? = some cell := fun q cell h => by
    have h9 : (({ t with vm := s.vm } : State)).heap[q]? = some cell := State.sameButNew.old_cell hsame (by show T.heap[q]? = some cell; rw [hT]; exact h)
    exact h9
  have hsz : H.size ≤ t.heap.size := by
    have h9 := hsame.2.1
    rw [← hT]
    exact h9
  have hkq : ∀ q : Nat, q < H.size → t.heap[q]? = H[q]? := fun q hq => by
    rw [hkept q _ (Array.getElem?_eq_getElem hq), Array.getElem?_eq_getElem hq]
  refine ⟨t, st1, fun _ _ => ⟨.threw T.heap.size, hrun, hend, ⟨⟨T.heap.size, u, ce, rfl, hpost, x_Pi.mpr (fun q hq => ?_), hD, hce, f1, f2, f3⟩, ?_⟩, locs, ⟨⟨_, rfl⟩, hW, ?_⟩, hS.2.2⟩⟩
  · have h9 := x_Pi.mp hP q hq
    exact h9.kept (hkq q.1 h9.lt)
  · exact ⟨Nat.le_trans hS.1 hsz, fun q h3 h4 => by rw [hkq q (Nat.lt_of_lt_of_le h3 hS.1)]; exact hS.2.1 q h3 h4⟩
  · have h3 : ({ s with heap := T.heap, slotsUsed := T.slotsUsed } : State).sameButNew ({ t with vm := s.vm } : State) [] 1 6 := hsame
    have h4 : s.sameButNew ({ s with heap := T.heap, slotsUsed := T.slotsUsed } : State) locs kc ks := by
      obtain ⟨e1, e2, e3, e4, e5, e6⟩ := X0.same
      refine ⟨?_, e2, e3, e4, e5, e6⟩
      obtain ⟨th, hth⟩ : ∃ th, s.threads[s.cur]? = some th := ⟨_, Array.getElem?_eq_getElem X0.cur⟩
      show ({ s with heap := T.heap, slotsUsed := T.slotsUsed } : State) = { s.setFrames s.frames with heap := T.heap, slotsUsed := T.slotsUsed }
      rw [State.setFrames_self hth]
    have h5 := h4.trans h3
    rw [List.append_nil] at h5
    exact h5.mono hmc hms
end TH3
end TH2
