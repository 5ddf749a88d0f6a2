section RL
/-- a method's end: an answer r and a state u of the world, with post; nothing else of what was there has changed -/
def xQ {S : Type} (D : va_G) (cl : List vw_C) (wd : S → va_W) (A : Nat → Prop) (post : Option Value → S → Prop) : Array Value → State → Outcome → State → Prop := fun _ st oc t => (∃ (r : Option Value) (u : S), oc = .returned r ∧ post r u ∧ va_P D cl (wd u) t.heap ∧ va_D A (wd u)) ∧ va_F A st t
def xB {S : Type} (D : va_G) (cl : List vw_C) (tys : List (ClassId × FieldType)) (Ev : (Nat → Prop) → State → Prop) (wd : S → va_W) (u : S) (sz : Nat) (U : State) : Prop := U.heap.size = sz ∧ va_P D cl (wd u) U.heap ∧ va_K D cl tys U ∧ va_D (fun _ => True) (wd u) ∧ Ev (va_A (wd u) sz) U
/-- the contract of a method at the arguments av and the state u -/
def xC {S : Type} (l : Launch) (D : va_G) (cl : List vw_C) (tys : List (ClassId × FieldType)) (Ev : (Nat → Prop) → State → Prop) (y : MethodName) (ws : List Cond) (rm : Room) (wd : S → va_W) (av : List Value) (u : S) (post : Option Value → S → Prop) (mc ms : Nat) : Prop := ∀ sz : Nat, Met l y ws rm (va_Pc av (xB D cl tys Ev wd u sz)) (xQ D cl wd (va_A (wd u) sz) post) mc ms (va_A (wd u) sz)
def xX (D : va_G) (cl : List vw_C) (tys : List (ClassId × FieldType)) (Ev : (Nat → Prop) → State → Prop) (own : String) (cc : ByteArray) (nL : Nat) (Ts : List Cond) (ret : Option FieldType) (p : Program) (s : State) (m : MethodId) (args : Array Value) (meth : Method) (c : Code) (A : Nat → Prop) : Prop :=
  p.tables.exec = Jvm.exec ∧ c.code = cc ∧ c.maxLocals = nL ∧ s.vm.findClass own = some m.cls ∧ (∀ w ∈ Ts, w.before args s = true) ∧ va_K D cl tys s ∧ Ev A s ∧ meth.locks = false ∧ meth.sig.returnType = ret ∧ (∀ q, s.heap.size ≤ q → A q) ∧ ∀ (y : MethodName) (b : ByteArray) (n : Nat) (r : Option FieldType), Ts.head? = some (Cond.code y b n r) → meth.name = y.name
/-- the machine in a method, at pc, with the locals lv, the operands st and the world's state u, comes to an end with Qf -/
def RRq {S : Type} (l : Launch) (D : va_G) (cl : List vw_C) (tys : List (ClassId × FieldType)) (Ev : (Nat → Prop) → State → Prop) (own : String) (cc : ByteArray) (nL : Nat) (Ts : List Cond) (rm : Room) (ret : Option FieldType) (wd : S → va_W) (Qf : List Frame → Array Value → State → (Nat → Prop) → State → Prop) (kc ks : Nat) (pc : Nat) (lv : List (Nat × Value)) (st : List Value) (u : S) : Prop :=
  ∀ (p : Program) (e : Env) (s : State) (m : MethodId) (args : Array Value) (below : List Frame) (meth : Method) (c : Code) (A : Nat → Prop) (H : Heap) (locs : List Loc) (ls : Array Slot),
    xX D cl tys Ev own cc nL Ts ret p s m args meth c A → va_P D cl (wd u) H → va_D A (wd u) → va_S A s.heap H locs → lv_has ls nL lv →
    W p l e rm s m args below meth c H locs kc ks (Qf below args s A) (F0 m pc ls st)
/-- the same, with an end that is a method's return with post -/
abbrev RR {S : Type} (l : Launch) (D : va_G) (cl : List vw_C) (tys : List (ClassId × FieldType)) (Ev : (Nat → Prop) → State → Prop) (own : String) (cc : ByteArray) (nL : Nat) (Ts : List Cond) (rm : Room) (ret : Option FieldType) (wd : S → va_W) (post : Option Value → S → Prop) (mc ms kc ks : Nat) (pc : Nat) (lv : List (Nat × Value)) (st : List Value) (u : S) : Prop := RRq l D cl tys Ev own cc nL Ts rm ret wd (fun below args s A => MQ below (xQ D cl wd A post) args s mc ms A) kc ks pc lv st u
variable {S : Type} {l : Launch} {D : va_G} {cl : List vw_C} {tys : List (ClassId × FieldType)} {Ev : (Nat → Prop) → State → Prop} {own : String} {cc : ByteArray} {nL : Nat} {Ts : List Cond} {rm : Room} {ret : Option FieldType} {wd : S → va_W} {Qf : List Frame → Array Value → State → (Nat → Prop) → State → Prop} {post : Option Value → S → Prop} {mc ms kc ks : Nat} {pc : Nat} {lv lv' : List (Nat × Value)} {st : List Value} {u u' : S}
theorem x_lk {i : Nat} {v : Value} : ∀ {lv : List (Nat × Value)}, lv.lookup i = some v → (i, v) ∈ lv
  | [], h => by cases h
  | (j, w) :: r, h => by
    rw [List.lookup_cons] at h
    by_cases hj : i = j
    · subst hj
      simp at h
      subst h
      exact List.mem_cons_self
    · have hb : (i == j) = false := by simp [hj]
      rw [hb] at h
      exact List.mem_cons_of_mem _ (x_lk h)
theorem x_has {ls : Array Slot} {i : Nat} {v : Value} (h : lv_has ls nL lv) (hk : lv.lookup i = some v) : ls[i]? = some (.val v) := h.2.2 (i, v) (x_lk hk)

theorem x_iconst {n : Int} {v : Int32} (hd : decode cc pc = .ok (.iconst n, 1)) (hv : Int32.ofInt n = v) (kk : RRq l D cl tys Ev own cc nL Ts rm ret wd Qf kc ks (pc + 1) lv (.int v :: st) u) : RRq l D cl tys Ev own cc nL Ts rm ret wd Qf kc ks pc lv st u := by
  intro p e s m args below meth c A H locs ls hX hP hD hS hl
  exact lv_iconst hX.1 hX.2.1 hd hv (kk p e s m args below meth c A H locs ls hX hP hD hS hl)

theorem x_bipush {n : Int} {v : Int32} (hd : decode cc pc = .ok (.bipush n, 2)) (hv : (Int8.ofInt n).toInt32 = v) (kk : RRq l D cl tys Ev own cc nL Ts rm ret wd Qf kc ks (pc + 2) lv (.int v :: st) u) : RRq l D cl tys Ev own cc nL Ts rm ret wd Qf kc ks pc lv st u := by
  intro p e s m args below meth c A H locs ls hX hP hD hS hl
  exact lv_bipush hX.1 hX.2.1 hd hv (kk p e s m args below meth c A H locs ls hX hP hD hS hl)

theorem x_sipush {n : Int} {v : Int32} (hd : decode cc pc = .ok (.sipush n, 3)) (hv : (Int16.ofInt n).toInt32 = v) (kk : RRq l D cl tys Ev own cc nL Ts rm ret wd Qf kc ks (pc + 3) lv (.int v :: st) u) : RRq l D cl tys Ev own cc nL Ts rm ret wd Qf kc ks pc lv st u := by
  intro p e s m args below meth c A H locs ls hX hP hD hS hl
  exact lv_sipush hX.1 hX.2.1 hd hv (kk p e s m args below meth c A H locs ls hX hP hD hS hl)

theorem x_lconst {n : Fin 2} {v : Int64} (hd : decode cc pc = .ok (.lconst n, 1)) (hv : Int64.ofNat (n : Nat) = v) (kk : RRq l D cl tys Ev own cc nL Ts rm ret wd Qf kc ks (pc + 1) lv (.long v :: st) u) : RRq l D cl tys Ev own cc nL Ts rm ret wd Qf kc ks pc lv st u := by
  intro p e s m args below meth c A H locs ls hX hP hD hS hl
  exact lv_lconst hX.1 hX.2.1 hd hv (kk p e s m args below meth c A H locs ls hX hP hD hS hl)

theorem x_null (hd : decode cc pc = .ok (.aconst_null, 1)) (kk : RRq l D cl tys Ev own cc nL Ts rm ret wd Qf kc ks (pc + 1) lv (.null :: st) u) : RRq l D cl tys Ev own cc nL Ts rm ret wd Qf kc ks pc lv st u := by
  intro p e s m args below meth c A H locs ls hX hP hD hS hl
  exact lv_null hX.1 hX.2.1 hd (kk p e s m args below meth c A H locs ls hX hP hD hS hl)

theorem x_ldc2 {index : Nat} {v : Int64} (hc : Cond.constantLong own index v ∈ Ts) (hd : decode cc pc = .ok (.ldc2_w index, 3)) (kk : RRq l D cl tys Ev own cc nL Ts rm ret wd Qf kc ks (pc + 3) lv (.long v :: st) u) : RRq l D cl tys Ev own cc nL Ts rm ret wd Qf kc ks pc lv st u := by
  intro p e s m args below meth c A H locs ls hX hP hD hS hl
  exact lv_ldc2 hX.1 hX.2.1 hX.2.2.2.1 (hX.2.2.2.2.1 _ hc) hd (kk p e s m args below meth c A H locs ls hX hP hD hS hl)

theorem x_ldc {index : Nat} {v : Int32} (hc : Cond.constant own index v ∈ Ts) (hd : decode cc pc = .ok (.ldc index, 2)) (kk : RRq l D cl tys Ev own cc nL Ts rm ret wd Qf kc ks (pc + 2) lv (.int v :: st) u) : RRq l D cl tys Ev own cc nL Ts rm ret wd Qf kc ks pc lv st u := by
  intro p e s m args below meth c A H locs ls hX hP hD hS hl
  exact lv_ldc hX.1 hX.2.1 hX.2.2.2.1 (hX.2.2.2.2.1 _ hc) hd (kk p e s m args below meth c A H locs ls hX hP hD hS hl)

theorem x_iload_n {k : Fin 4} {x : Int32} (hd : decode cc pc = .ok (.iload_n k, 1)) (hk : lv.lookup (k : Nat) = some (.int x)) (kk : RRq l D cl tys Ev own cc nL Ts rm ret wd Qf kc ks (pc + 1) lv (.int x :: st) u) : RRq l D cl tys Ev own cc nL Ts rm ret wd Qf kc ks pc lv st u := by
  intro p e s m args below meth c A H locs ls hX hP hD hS hl
  exact lv_iload_n hX.1 hX.2.1 hd rfl (x_has hl hk) (kk p e s m args below meth c A H locs ls hX hP hD hS hl)

theorem x_iload {i : Nat} {x : Int32} (hd : decode cc pc = .ok (.iload i, 2)) (hk : lv.lookup i = some (.int x)) (kk : RRq l D cl tys Ev own cc nL Ts rm ret wd Qf kc ks (pc + 2) lv (.int x :: st) u) : RRq l D cl tys Ev own cc nL Ts rm ret wd Qf kc ks pc lv st u := by
  intro p e s m args below meth c A H locs ls hX hP hD hS hl
  exact lv_iload hX.1 hX.2.1 hd (x_has hl hk) (kk p e s m args below meth c A H locs ls hX hP hD hS hl)

theorem x_lload_n {k : Fin 4} {x : Int64} (hd : decode cc pc = .ok (.lload_n k, 1)) (hk : lv.lookup (k : Nat) = some (.long x)) (kk : RRq l D cl tys Ev own cc nL Ts rm ret wd Qf kc ks (pc + 1) lv (.long x :: st) u) : RRq l D cl tys Ev own cc nL Ts rm ret wd Qf kc ks pc lv st u := by
  intro p e s m args below meth c A H locs ls hX hP hD hS hl
  exact lv_lload_n hX.1 hX.2.1 hd rfl (x_has hl hk) (kk p e s m args below meth c A H locs ls hX hP hD hS hl)

theorem x_lload {i : Nat} {x : Int64} (hd : decode cc pc = .ok (.lload i, 2)) (hk : lv.lookup i = some (.long x)) (kk : RRq l D cl tys Ev own cc nL Ts rm ret wd Qf kc ks (pc + 2) lv (.long x :: st) u) : RRq l D cl tys Ev own cc nL Ts rm ret wd Qf kc ks pc lv st u := by
  intro p e s m args below meth c A H locs ls hX hP hD hS hl
  exact lv_lload hX.1 hX.2.1 hd (x_has hl hk) (kk p e s m args below meth c A H locs ls hX hP hD hS hl)

theorem x_aload_n {k : Fin 4} {x : Nat} (hd : decode cc pc = .ok (.aload_n k, 1)) (hk : lv.lookup (k : Nat) = some (.ref x)) (kk : RRq l D cl tys Ev own cc nL Ts rm ret wd Qf kc ks (pc + 1) lv (.ref x :: st) u) : RRq l D cl tys Ev own cc nL Ts rm ret wd Qf kc ks pc lv st u := by
  intro p e s m args below meth c A H locs ls hX hP hD hS hl
  exact lv_aload_n hX.1 hX.2.1 hd rfl (x_has hl hk) (kk p e s m args below meth c A H locs ls hX hP hD hS hl)

theorem x_aload {i : Nat} {x : Nat} (hd : decode cc pc = .ok (.aload i, 2)) (hk : lv.lookup i = some (.ref x)) (kk : RRq l D cl tys Ev own cc nL Ts rm ret wd Qf kc ks (pc + 2) lv (.ref x :: st) u) : RRq l D cl tys Ev own cc nL Ts rm ret wd Qf kc ks pc lv st u := by
  intro p e s m args below meth c A H locs ls hX hP hD hS hl
  exact lv_aload hX.1 hX.2.1 hd (x_has hl hk) (kk p e s m args below meth c A H locs ls hX hP hD hS hl)

theorem x_aload_nN {k : Fin 4} (hd : decode cc pc = .ok (.aload_n k, 1)) (hk : lv.lookup (k : Nat) = some .null) (kk : RRq l D cl tys Ev own cc nL Ts rm ret wd Qf kc ks (pc + 1) lv (.null :: st) u) : RRq l D cl tys Ev own cc nL Ts rm ret wd Qf kc ks pc lv st u := by
  intro p e s m args below meth c A H locs ls hX hP hD hS hl
  exact lv_aload_nN hX.1 hX.2.1 hd rfl (x_has hl hk) (kk p e s m args below meth c A H locs ls hX hP hD hS hl)

theorem x_aloadN {i : Nat} (hd : decode cc pc = .ok (.aload i, 2)) (hk : lv.lookup i = some .null) (kk : RRq l D cl tys Ev own cc nL Ts rm ret wd Qf kc ks (pc + 2) lv (.null :: st) u) : RRq l D cl tys Ev own cc nL Ts rm ret wd Qf kc ks pc lv st u := by
  intro p e s m args below meth c A H locs ls hX hP hD hS hl
  exact lv_aloadN hX.1 hX.2.1 hd (x_has hl hk) (kk p e s m args below meth c A H locs ls hX hP hD hS hl)

theorem x_istore_n {k : Fin 4} {x : Int32} (hd : decode cc pc = .ok (.istore_n k, 1)) (hn : (k : Nat) < nL) (hl' : ((k : Nat), Value.int x) :: lv.filter (fun q => !(q.1 == (k : Nat)) && !(q.1 + 1 == (k : Nat) && q.2.category == 2)) = lv') (kk : RRq l D cl tys Ev own cc nL Ts rm ret wd Qf kc ks (pc + 1) lv' st u) : RRq l D cl tys Ev own cc nL Ts rm ret wd Qf kc ks pc lv (Value.int x :: st) u := by
  intro p e s m args below meth c A H locs ls hX hP hD hS hl
  exact lv_istore_n hX.1 hX.2.1 hd rfl hl hn hl' (fun ls' hl2 => kk p e s m args below meth c A H locs ls' hX hP hD hS hl2)

theorem x_istore {i : Nat} {x : Int32} (hd : decode cc pc = .ok (.istore i, 2)) (hn : i < nL) (hl' : (i, Value.int x) :: lv.filter (fun q => !(q.1 == i) && !(q.1 + 1 == i && q.2.category == 2)) = lv') (kk : RRq l D cl tys Ev own cc nL Ts rm ret wd Qf kc ks (pc + 2) lv' st u) : RRq l D cl tys Ev own cc nL Ts rm ret wd Qf kc ks pc lv (Value.int x :: st) u := by
  intro p e s m args below meth c A H locs ls hX hP hD hS hl
  exact lv_istore hX.1 hX.2.1 hd hl hn hl' (fun ls' hl2 => kk p e s m args below meth c A H locs ls' hX hP hD hS hl2)

theorem x_lstore_n {k : Fin 4} {x : Int64} (hd : decode cc pc = .ok (.lstore_n k, 1)) (hn : (k : Nat) + 1 < nL) (hl' : ((k : Nat), Value.long x) :: lv.filter (fun q => !(q.1 == (k : Nat)) && (!(q.1 == (k : Nat) + 1) && !(q.1 + 1 == (k : Nat) && q.2.category == 2))) = lv') (kk : RRq l D cl tys Ev own cc nL Ts rm ret wd Qf kc ks (pc + 1) lv' st u) : RRq l D cl tys Ev own cc nL Ts rm ret wd Qf kc ks pc lv (Value.long x :: st) u := by
  intro p e s m args below meth c A H locs ls hX hP hD hS hl
  exact lv_lstore_n hX.1 hX.2.1 hd rfl hl hn hl' (fun ls' hl2 => kk p e s m args below meth c A H locs ls' hX hP hD hS hl2)

theorem x_lstore {i : Nat} {x : Int64} (hd : decode cc pc = .ok (.lstore i, 2)) (hn : i + 1 < nL) (hl' : (i, Value.long x) :: lv.filter (fun q => !(q.1 == i) && (!(q.1 == i + 1) && !(q.1 + 1 == i && q.2.category == 2))) = lv') (kk : RRq l D cl tys Ev own cc nL Ts rm ret wd Qf kc ks (pc + 2) lv' st u) : RRq l D cl tys Ev own cc nL Ts rm ret wd Qf kc ks pc lv (Value.long x :: st) u := by
  intro p e s m args below meth c A H locs ls hX hP hD hS hl
  exact lv_lstore hX.1 hX.2.1 hd hl hn hl' (fun ls' hl2 => kk p e s m args below meth c A H locs ls' hX hP hD hS hl2)

theorem x_astore_n {k : Fin 4} {x : Nat} (hd : decode cc pc = .ok (.astore_n k, 1)) (hn : (k : Nat) < nL) (hl' : ((k : Nat), Value.ref x) :: lv.filter (fun q => !(q.1 == (k : Nat)) && !(q.1 + 1 == (k : Nat) && q.2.category == 2)) = lv') (kk : RRq l D cl tys Ev own cc nL Ts rm ret wd Qf kc ks (pc + 1) lv' st u) : RRq l D cl tys Ev own cc nL Ts rm ret wd Qf kc ks pc lv (Value.ref x :: st) u := by
  intro p e s m args below meth c A H locs ls hX hP hD hS hl
  exact lv_astore_n hX.1 hX.2.1 hd rfl hl hn hl' (fun ls' hl2 => kk p e s m args below meth c A H locs ls' hX hP hD hS hl2)

theorem x_astore {i : Nat} {x : Nat} (hd : decode cc pc = .ok (.astore i, 2)) (hn : i < nL) (hl' : (i, Value.ref x) :: lv.filter (fun q => !(q.1 == i) && !(q.1 + 1 == i && q.2.category == 2)) = lv') (kk : RRq l D cl tys Ev own cc nL Ts rm ret wd Qf kc ks (pc + 2) lv' st u) : RRq l D cl tys Ev own cc nL Ts rm ret wd Qf kc ks pc lv (Value.ref x :: st) u := by
  intro p e s m args below meth c A H locs ls hX hP hD hS hl
  exact lv_astore hX.1 hX.2.1 hd hl hn hl' (fun ls' hl2 => kk p e s m args below meth c A H locs ls' hX hP hD hS hl2)

theorem x_astore_nN {k : Fin 4} (hd : decode cc pc = .ok (.astore_n k, 1)) (hn : (k : Nat) < nL) (hl' : ((k : Nat), Value.null) :: lv.filter (fun q => !(q.1 == (k : Nat)) && !(q.1 + 1 == (k : Nat) && q.2.category == 2)) = lv') (kk : RRq l D cl tys Ev own cc nL Ts rm ret wd Qf kc ks (pc + 1) lv' st u) : RRq l D cl tys Ev own cc nL Ts rm ret wd Qf kc ks pc lv (Value.null :: st) u := by
  intro p e s m args below meth c A H locs ls hX hP hD hS hl
  exact lv_astore_nN hX.1 hX.2.1 hd rfl hl hn hl' (fun ls' hl2 => kk p e s m args below meth c A H locs ls' hX hP hD hS hl2)

theorem x_astoreN {i : Nat} (hd : decode cc pc = .ok (.astore i, 2)) (hn : i < nL) (hl' : (i, Value.null) :: lv.filter (fun q => !(q.1 == i) && !(q.1 + 1 == i && q.2.category == 2)) = lv') (kk : RRq l D cl tys Ev own cc nL Ts rm ret wd Qf kc ks (pc + 2) lv' st u) : RRq l D cl tys Ev own cc nL Ts rm ret wd Qf kc ks pc lv (Value.null :: st) u := by
  intro p e s m args below meth c A H locs ls hX hP hD hS hl
  exact lv_astoreN hX.1 hX.2.1 hd hl hn hl' (fun ls' hl2 => kk p e s m args below meth c A H locs ls' hX hP hD hS hl2)

theorem x_iinc {i : Nat} {n : Int} {x v : Int32} (hd : decode cc pc = .ok (.iinc i n, 3)) (hk : lv.lookup i = some (.int x)) (hv : x + Int32.ofInt n = v) (hn : i < nL) (hl' : (i, Value.int v) :: lv.filter (fun q => !(q.1 == i) && !(q.1 + 1 == i && q.2.category == 2)) = lv') (kk : RRq l D cl tys Ev own cc nL Ts rm ret wd Qf kc ks (pc + 3) lv' st u) : RRq l D cl tys Ev own cc nL Ts rm ret wd Qf kc ks pc lv st u := by
  intro p e s m args below meth c A H locs ls hX hP hD hS hl
  obtain ⟨k, hkk⟩ := List.getElem?_of_mem (x_lk hk)
  exact lv_iinc hX.1 hX.2.1 hd hl hkk hv hn hl' (fun ls' hl2 => kk p e s m args below meth c A H locs ls' hX hP hD hS hl2)

theorem x_iadd {x y : Int32} (hd : decode cc pc = .ok (.iadd, 1)) (kk : RRq l D cl tys Ev own cc nL Ts rm ret wd Qf kc ks (pc + 1) lv (.int (x + y) :: st) u) : RRq l D cl tys Ev own cc nL Ts rm ret wd Qf kc ks pc lv (.int y :: .int x :: st) u := by
  intro p e s m args below meth c A H locs ls hX hP hD hS hl
  exact lv_iadd hX.1 hX.2.1 hd (kk p e s m args below meth c A H locs ls hX hP hD hS hl)

theorem x_isub {x y : Int32} (hd : decode cc pc = .ok (.isub, 1)) (kk : RRq l D cl tys Ev own cc nL Ts rm ret wd Qf kc ks (pc + 1) lv (.int (x - y) :: st) u) : RRq l D cl tys Ev own cc nL Ts rm ret wd Qf kc ks pc lv (.int y :: .int x :: st) u := by
  intro p e s m args below meth c A H locs ls hX hP hD hS hl
  exact lv_isub hX.1 hX.2.1 hd (kk p e s m args below meth c A H locs ls hX hP hD hS hl)

theorem x_imul {x y : Int32} (hd : decode cc pc = .ok (.imul, 1)) (kk : RRq l D cl tys Ev own cc nL Ts rm ret wd Qf kc ks (pc + 1) lv (.int (x * y) :: st) u) : RRq l D cl tys Ev own cc nL Ts rm ret wd Qf kc ks pc lv (.int y :: .int x :: st) u := by
  intro p e s m args below meth c A H locs ls hX hP hD hS hl
  exact lv_imul hX.1 hX.2.1 hd (kk p e s m args below meth c A H locs ls hX hP hD hS hl)

theorem x_iand {x y : Int32} (hd : decode cc pc = .ok (.iand, 1)) (kk : RRq l D cl tys Ev own cc nL Ts rm ret wd Qf kc ks (pc + 1) lv (.int (x &&& y) :: st) u) : RRq l D cl tys Ev own cc nL Ts rm ret wd Qf kc ks pc lv (.int y :: .int x :: st) u := by
  intro p e s m args below meth c A H locs ls hX hP hD hS hl
  exact lv_iand hX.1 hX.2.1 hd (kk p e s m args below meth c A H locs ls hX hP hD hS hl)

theorem x_ior {x y : Int32} (hd : decode cc pc = .ok (.ior, 1)) (kk : RRq l D cl tys Ev own cc nL Ts rm ret wd Qf kc ks (pc + 1) lv (.int (x ||| y) :: st) u) : RRq l D cl tys Ev own cc nL Ts rm ret wd Qf kc ks pc lv (.int y :: .int x :: st) u := by
  intro p e s m args below meth c A H locs ls hX hP hD hS hl
  exact lv_ior hX.1 hX.2.1 hd (kk p e s m args below meth c A H locs ls hX hP hD hS hl)

theorem x_ixor {x y : Int32} (hd : decode cc pc = .ok (.ixor, 1)) (kk : RRq l D cl tys Ev own cc nL Ts rm ret wd Qf kc ks (pc + 1) lv (.int (x ^^^ y) :: st) u) : RRq l D cl tys Ev own cc nL Ts rm ret wd Qf kc ks pc lv (.int y :: .int x :: st) u := by
  intro p e s m args below meth c A H locs ls hX hP hD hS hl
  exact lv_ixor hX.1 hX.2.1 hd (kk p e s m args below meth c A H locs ls hX hP hD hS hl)

theorem x_idiv {x y : Int32} (hd : decode cc pc = .ok (.idiv, 1)) (hne : ¬ y = 0) (kk : RRq l D cl tys Ev own cc nL Ts rm ret wd Qf kc ks (pc + 1) lv (.int (x / y) :: st) u) : RRq l D cl tys Ev own cc nL Ts rm ret wd Qf kc ks pc lv (.int y :: .int x :: st) u := by
  intro p e s m args below meth c A H locs ls hX hP hD hS hl
  exact lv_idiv hX.1 hX.2.1 hd hne (kk p e s m args below meth c A H locs ls hX hP hD hS hl)

theorem x_irem {x y : Int32} (hd : decode cc pc = .ok (.irem, 1)) (hne : ¬ y = 0) (kk : RRq l D cl tys Ev own cc nL Ts rm ret wd Qf kc ks (pc + 1) lv (.int (x - x / y * y) :: st) u) : RRq l D cl tys Ev own cc nL Ts rm ret wd Qf kc ks pc lv (.int y :: .int x :: st) u := by
  intro p e s m args below meth c A H locs ls hX hP hD hS hl
  exact lv_irem hX.1 hX.2.1 hd hne (kk p e s m args below meth c A H locs ls hX hP hD hS hl)

theorem x_ladd {x y : Int64} (hd : decode cc pc = .ok (.ladd, 1)) (kk : RRq l D cl tys Ev own cc nL Ts rm ret wd Qf kc ks (pc + 1) lv (.long (x + y) :: st) u) : RRq l D cl tys Ev own cc nL Ts rm ret wd Qf kc ks pc lv (.long y :: .long x :: st) u := by
  intro p e s m args below meth c A H locs ls hX hP hD hS hl
  exact lv_ladd hX.1 hX.2.1 hd (kk p e s m args below meth c A H locs ls hX hP hD hS hl)

theorem x_lor {x y : Int64} (hd : decode cc pc = .ok (.lor, 1)) (kk : RRq l D cl tys Ev own cc nL Ts rm ret wd Qf kc ks (pc + 1) lv (.long (x ||| y) :: st) u) : RRq l D cl tys Ev own cc nL Ts rm ret wd Qf kc ks pc lv (.long y :: .long x :: st) u := by
  intro p e s m args below meth c A H locs ls hX hP hD hS hl
  exact lv_lor hX.1 hX.2.1 hd (kk p e s m args below meth c A H locs ls hX hP hD hS hl)

theorem x_land {x y : Int64} (hd : decode cc pc = .ok (.land, 1)) (kk : RRq l D cl tys Ev own cc nL Ts rm ret wd Qf kc ks (pc + 1) lv (.long (x &&& y) :: st) u) : RRq l D cl tys Ev own cc nL Ts rm ret wd Qf kc ks pc lv (.long y :: .long x :: st) u := by
  intro p e s m args below meth c A H locs ls hX hP hD hS hl
  exact lv_land hX.1 hX.2.1 hd (kk p e s m args below meth c A H locs ls hX hP hD hS hl)

theorem x_i2l {x : Int32} (hd : decode cc pc = .ok (.i2l, 1)) (kk : RRq l D cl tys Ev own cc nL Ts rm ret wd Qf kc ks (pc + 1) lv (.long x.toInt64 :: st) u) : RRq l D cl tys Ev own cc nL Ts rm ret wd Qf kc ks pc lv (.int x :: st) u := by
  intro p e s m args below meth c A H locs ls hX hP hD hS hl
  exact lv_i2l hX.1 hX.2.1 hd rfl (kk p e s m args below meth c A H locs ls hX hP hD hS hl)

theorem x_l2i {x : Int64} (hd : decode cc pc = .ok (.l2i, 1)) (kk : RRq l D cl tys Ev own cc nL Ts rm ret wd Qf kc ks (pc + 1) lv (.int x.toInt32 :: st) u) : RRq l D cl tys Ev own cc nL Ts rm ret wd Qf kc ks pc lv (.long x :: st) u := by
  intro p e s m args below meth c A H locs ls hX hP hD hS hl
  exact lv_l2i hX.1 hX.2.1 hd rfl (kk p e s m args below meth c A H locs ls hX hP hD hS hl)

theorem x_i2c {x : Int32} (hd : decode cc pc = .ok (.i2c, 1)) (kk : RRq l D cl tys Ev own cc nL Ts rm ret wd Qf kc ks (pc + 1) lv (.int (x.toUInt32 % 65536).toInt32 :: st) u) : RRq l D cl tys Ev own cc nL Ts rm ret wd Qf kc ks pc lv (.int x :: st) u := by
  intro p e s m args below meth c A H locs ls hX hP hD hS hl
  exact lv_i2c hX.1 hX.2.1 hd rfl (kk p e s m args below meth c A H locs ls hX hP hD hS hl)

theorem x_lushr {x : Int64} {y : Int32} (hd : decode cc pc = .ok (.lushr, 1)) (kk : RRq l D cl tys Ev own cc nL Ts rm ret wd Qf kc ks (pc + 1) lv (.long (x.toUInt64 >>> (y.toInt64.toUInt64 &&& Int64.toUInt64 63)).toInt64 :: st) u) : RRq l D cl tys Ev own cc nL Ts rm ret wd Qf kc ks pc lv (.int y :: .long x :: st) u := by
  intro p e s m args below meth c A H locs ls hX hP hD hS hl
  exact lv_lushr hX.1 hX.2.1 hd rfl (kk p e s m args below meth c A H locs ls hX hP hD hS hl)

theorem x_lshl {x : Int64} {y : Int32} (hd : decode cc pc = .ok (.lshl, 1)) (kk : RRq l D cl tys Ev own cc nL Ts rm ret wd Qf kc ks (pc + 1) lv (.long (x <<< (y.toInt64 &&& 63)) :: st) u) : RRq l D cl tys Ev own cc nL Ts rm ret wd Qf kc ks pc lv (.int y :: .long x :: st) u := by
  intro p e s m args below meth c A H locs ls hX hP hD hS hl
  exact lv_lshl hX.1 hX.2.1 hd rfl (kk p e s m args below meth c A H locs ls hX hP hD hS hl)

theorem x_lshr {x : Int64} {y : Int32} (hd : decode cc pc = .ok (.lshr, 1)) (kk : RRq l D cl tys Ev own cc nL Ts rm ret wd Qf kc ks (pc + 1) lv (.long (x >>> (y.toInt64 &&& 63)) :: st) u) : RRq l D cl tys Ev own cc nL Ts rm ret wd Qf kc ks pc lv (.int y :: .long x :: st) u := by
  intro p e s m args below meth c A H locs ls hX hP hD hS hl
  exact lv_lshr hX.1 hX.2.1 hd rfl (kk p e s m args below meth c A H locs ls hX hP hD hS hl)

theorem x_ishr {x y : Int32} (hd : decode cc pc = .ok (.ishr, 1)) (kk : RRq l D cl tys Ev own cc nL Ts rm ret wd Qf kc ks (pc + 1) lv (.int (x >>> (y &&& 31)) :: st) u) : RRq l D cl tys Ev own cc nL Ts rm ret wd Qf kc ks pc lv (.int y :: .int x :: st) u := by
  intro p e s m args below meth c A H locs ls hX hP hD hS hl
  exact lv_ishr hX.1 hX.2.1 hd (kk p e s m args below meth c A H locs ls hX hP hD hS hl)

theorem x_dup {a : Value} (hd : decode cc pc = .ok (.dup, 1)) (ha : a.category = 1) (kk : RRq l D cl tys Ev own cc nL Ts rm ret wd Qf kc ks (pc + 1) lv (a :: a :: st) u) : RRq l D cl tys Ev own cc nL Ts rm ret wd Qf kc ks pc lv (a :: st) u := by
  intro p e s m args below meth c A H locs ls hX hP hD hS hl
  exact lv_dup hX.1 hX.2.1 hd ha (kk p e s m args below meth c A H locs ls hX hP hD hS hl)

theorem x_pop {a : Value} (hd : decode cc pc = .ok (.pop, 1)) (ha : a.category = 1) (kk : RRq l D cl tys Ev own cc nL Ts rm ret wd Qf kc ks (pc + 1) lv st u) : RRq l D cl tys Ev own cc nL Ts rm ret wd Qf kc ks pc lv (a :: st) u := by
  intro p e s m args below meth c A H locs ls hX hP hD hS hl
  exact lv_pop hX.1 hX.2.1 hd ha (kk p e s m args below meth c A H locs ls hX hP hD hS hl)

theorem x_dup_x1 {a b : Value} (hd : decode cc pc = .ok (.dup_x1, 1)) (ha : a.category = 1) (hb' : b.category = 1) (kk : RRq l D cl tys Ev own cc nL Ts rm ret wd Qf kc ks (pc + 1) lv (a :: b :: a :: st) u) : RRq l D cl tys Ev own cc nL Ts rm ret wd Qf kc ks pc lv (a :: b :: st) u := by
  intro p e s m args below meth c A H locs ls hX hP hD hS hl
  exact lv_dup_x1 hX.1 hX.2.1 hd ha hb' (kk p e s m args below meth c A H locs ls hX hP hD hS hl)

theorem x_dup2 {a b : Value} (hd : decode cc pc = .ok (.dup2, 1)) (ha : a.category = 1) (hb' : b.category = 1) (kk : RRq l D cl tys Ev own cc nL Ts rm ret wd Qf kc ks (pc + 1) lv (a :: b :: a :: b :: st) u) : RRq l D cl tys Ev own cc nL Ts rm ret wd Qf kc ks pc lv (a :: b :: st) u := by
  intro p e s m args below meth c A H locs ls hX hP hD hS hl
  exact lv_dup2_11 hX.1 hX.2.1 hd ha hb' (kk p e s m args below meth c A H locs ls hX hP hD hS hl)

theorem x_if_eq {x : Int32} {off : Int} {tgt : Nat} (hd : decode cc pc = .ok (.ifCond .eq off, 3)) (ht : (pc : Int) + off = (tgt : Int)) (kt : x = 0 → RRq l D cl tys Ev own cc nL Ts rm ret wd Qf kc ks tgt lv st u) (kf : ¬ x = 0 → RRq l D cl tys Ev own cc nL Ts rm ret wd Qf kc ks (pc + 3) lv st u) : RRq l D cl tys Ev own cc nL Ts rm ret wd Qf kc ks pc lv (.int x :: st) u := by
  intro p e s m args below meth c A H locs ls hX hP hD hS hl
  exact lv_if_eq hX.1 hX.2.1 hd ht (fun h => kt h p e s m args below meth c A H locs ls hX hP hD hS hl) (fun h => kf h p e s m args below meth c A H locs ls hX hP hD hS hl)

theorem x_icmp_eq {x y : Int32} {off : Int} {tgt : Nat} (hd : decode cc pc = .ok (.if_icmp .eq off, 3)) (ht : (pc : Int) + off = (tgt : Int)) (kt : x = y → RRq l D cl tys Ev own cc nL Ts rm ret wd Qf kc ks tgt lv st u) (kf : ¬ x = y → RRq l D cl tys Ev own cc nL Ts rm ret wd Qf kc ks (pc + 3) lv st u) : RRq l D cl tys Ev own cc nL Ts rm ret wd Qf kc ks pc lv (.int y :: .int x :: st) u := by
  intro p e s m args below meth c A H locs ls hX hP hD hS hl
  exact lv_icmp_eq hX.1 hX.2.1 hd ht (fun h => kt h p e s m args below meth c A H locs ls hX hP hD hS hl) (fun h => kf h p e s m args below meth c A H locs ls hX hP hD hS hl)

theorem x_if_ne {x : Int32} {off : Int} {tgt : Nat} (hd : decode cc pc = .ok (.ifCond .ne off, 3)) (ht : (pc : Int) + off = (tgt : Int)) (kt : ¬ x = 0 → RRq l D cl tys Ev own cc nL Ts rm ret wd Qf kc ks tgt lv st u) (kf : x = 0 → RRq l D cl tys Ev own cc nL Ts rm ret wd Qf kc ks (pc + 3) lv st u) : RRq l D cl tys Ev own cc nL Ts rm ret wd Qf kc ks pc lv (.int x :: st) u := by
  intro p e s m args below meth c A H locs ls hX hP hD hS hl
  exact lv_if_ne hX.1 hX.2.1 hd ht (fun h => kt h p e s m args below meth c A H locs ls hX hP hD hS hl) (fun h => kf h p e s m args below meth c A H locs ls hX hP hD hS hl)

theorem x_icmp_ne {x y : Int32} {off : Int} {tgt : Nat} (hd : decode cc pc = .ok (.if_icmp .ne off, 3)) (ht : (pc : Int) + off = (tgt : Int)) (kt : ¬ x = y → RRq l D cl tys Ev own cc nL Ts rm ret wd Qf kc ks tgt lv st u) (kf : x = y → RRq l D cl tys Ev own cc nL Ts rm ret wd Qf kc ks (pc + 3) lv st u) : RRq l D cl tys Ev own cc nL Ts rm ret wd Qf kc ks pc lv (.int y :: .int x :: st) u := by
  intro p e s m args below meth c A H locs ls hX hP hD hS hl
  exact lv_icmp_ne hX.1 hX.2.1 hd ht (fun h => kt h p e s m args below meth c A H locs ls hX hP hD hS hl) (fun h => kf h p e s m args below meth c A H locs ls hX hP hD hS hl)

theorem x_if_lt {x : Int32} {off : Int} {tgt : Nat} (hd : decode cc pc = .ok (.ifCond .lt off, 3)) (ht : (pc : Int) + off = (tgt : Int)) (kt : x < 0 → RRq l D cl tys Ev own cc nL Ts rm ret wd Qf kc ks tgt lv st u) (kf : ¬ x < 0 → RRq l D cl tys Ev own cc nL Ts rm ret wd Qf kc ks (pc + 3) lv st u) : RRq l D cl tys Ev own cc nL Ts rm ret wd Qf kc ks pc lv (.int x :: st) u := by
  intro p e s m args below meth c A H locs ls hX hP hD hS hl
  exact lv_if_lt hX.1 hX.2.1 hd ht (fun h => kt h p e s m args below meth c A H locs ls hX hP hD hS hl) (fun h => kf h p e s m args below meth c A H locs ls hX hP hD hS hl)

theorem x_icmp_lt {x y : Int32} {off : Int} {tgt : Nat} (hd : decode cc pc = .ok (.if_icmp .lt off, 3)) (ht : (pc : Int) + off = (tgt : Int)) (kt : x < y → RRq l D cl tys Ev own cc nL Ts rm ret wd Qf kc ks tgt lv st u) (kf : ¬ x < y → RRq l D cl tys Ev own cc nL Ts rm ret wd Qf kc ks (pc + 3) lv st u) : RRq l D cl tys Ev own cc nL Ts rm ret wd Qf kc ks pc lv (.int y :: .int x :: st) u := by
  intro p e s m args below meth c A H locs ls hX hP hD hS hl
  exact lv_icmp_lt hX.1 hX.2.1 hd ht (fun h => kt h p e s m args below meth c A H locs ls hX hP hD hS hl) (fun h => kf h p e s m args below meth c A H locs ls hX hP hD hS hl)

theorem x_if_ge {x : Int32} {off : Int} {tgt : Nat} (hd : decode cc pc = .ok (.ifCond .ge off, 3)) (ht : (pc : Int) + off = (tgt : Int)) (kt : 0 ≤ x → RRq l D cl tys Ev own cc nL Ts rm ret wd Qf kc ks tgt lv st u) (kf : ¬ 0 ≤ x → RRq l D cl tys Ev own cc nL Ts rm ret wd Qf kc ks (pc + 3) lv st u) : RRq l D cl tys Ev own cc nL Ts rm ret wd Qf kc ks pc lv (.int x :: st) u := by
  intro p e s m args below meth c A H locs ls hX hP hD hS hl
  exact lv_if_ge hX.1 hX.2.1 hd ht (fun h => kt h p e s m args below meth c A H locs ls hX hP hD hS hl) (fun h => kf h p e s m args below meth c A H locs ls hX hP hD hS hl)

theorem x_icmp_ge {x y : Int32} {off : Int} {tgt : Nat} (hd : decode cc pc = .ok (.if_icmp .ge off, 3)) (ht : (pc : Int) + off = (tgt : Int)) (kt : y ≤ x → RRq l D cl tys Ev own cc nL Ts rm ret wd Qf kc ks tgt lv st u) (kf : ¬ y ≤ x → RRq l D cl tys Ev own cc nL Ts rm ret wd Qf kc ks (pc + 3) lv st u) : RRq l D cl tys Ev own cc nL Ts rm ret wd Qf kc ks pc lv (.int y :: .int x :: st) u := by
  intro p e s m args below meth c A H locs ls hX hP hD hS hl
  exact lv_icmp_ge hX.1 hX.2.1 hd ht (fun h => kt h p e s m args below meth c A H locs ls hX hP hD hS hl) (fun h => kf h p e s m args below meth c A H locs ls hX hP hD hS hl)

theorem x_if_gt {x : Int32} {off : Int} {tgt : Nat} (hd : decode cc pc = .ok (.ifCond .gt off, 3)) (ht : (pc : Int) + off = (tgt : Int)) (kt : 0 < x → RRq l D cl tys Ev own cc nL Ts rm ret wd Qf kc ks tgt lv st u) (kf : ¬ 0 < x → RRq l D cl tys Ev own cc nL Ts rm ret wd Qf kc ks (pc + 3) lv st u) : RRq l D cl tys Ev own cc nL Ts rm ret wd Qf kc ks pc lv (.int x :: st) u := by
  intro p e s m args below meth c A H locs ls hX hP hD hS hl
  exact lv_if_gt hX.1 hX.2.1 hd ht (fun h => kt h p e s m args below meth c A H locs ls hX hP hD hS hl) (fun h => kf h p e s m args below meth c A H locs ls hX hP hD hS hl)

theorem x_icmp_gt {x y : Int32} {off : Int} {tgt : Nat} (hd : decode cc pc = .ok (.if_icmp .gt off, 3)) (ht : (pc : Int) + off = (tgt : Int)) (kt : y < x → RRq l D cl tys Ev own cc nL Ts rm ret wd Qf kc ks tgt lv st u) (kf : ¬ y < x → RRq l D cl tys Ev own cc nL Ts rm ret wd Qf kc ks (pc + 3) lv st u) : RRq l D cl tys Ev own cc nL Ts rm ret wd Qf kc ks pc lv (.int y :: .int x :: st) u := by
  intro p e s m args below meth c A H locs ls hX hP hD hS hl
  exact lv_icmp_gt hX.1 hX.2.1 hd ht (fun h => kt h p e s m args below meth c A H locs ls hX hP hD hS hl) (fun h => kf h p e s m args below meth c A H locs ls hX hP hD hS hl)

theorem x_if_le {x : Int32} {off : Int} {tgt : Nat} (hd : decode cc pc = .ok (.ifCond .le off, 3)) (ht : (pc : Int) + off = (tgt : Int)) (kt : x ≤ 0 → RRq l D cl tys Ev own cc nL Ts rm ret wd Qf kc ks tgt lv st u) (kf : ¬ x ≤ 0 → RRq l D cl tys Ev own cc nL Ts rm ret wd Qf kc ks (pc + 3) lv st u) : RRq l D cl tys Ev own cc nL Ts rm ret wd Qf kc ks pc lv (.int x :: st) u := by
  intro p e s m args below meth c A H locs ls hX hP hD hS hl
  exact lv_if_le hX.1 hX.2.1 hd ht (fun h => kt h p e s m args below meth c A H locs ls hX hP hD hS hl) (fun h => kf h p e s m args below meth c A H locs ls hX hP hD hS hl)

theorem x_icmp_le {x y : Int32} {off : Int} {tgt : Nat} (hd : decode cc pc = .ok (.if_icmp .le off, 3)) (ht : (pc : Int) + off = (tgt : Int)) (kt : x ≤ y → RRq l D cl tys Ev own cc nL Ts rm ret wd Qf kc ks tgt lv st u) (kf : ¬ x ≤ y → RRq l D cl tys Ev own cc nL Ts rm ret wd Qf kc ks (pc + 3) lv st u) : RRq l D cl tys Ev own cc nL Ts rm ret wd Qf kc ks pc lv (.int y :: .int x :: st) u := by
  intro p e s m args below meth c A H locs ls hX hP hD hS hl
  exact lv_icmp_le hX.1 hX.2.1 hd ht (fun h => kt h p e s m args below meth c A H locs ls hX hP hD hS hl) (fun h => kf h p e s m args below meth c A H locs ls hX hP hD hS hl)

theorem x_goto {off : Int} {tgt : Nat} (hd : decode cc pc = .ok (.goto off, 3)) (ht : (pc : Int) + off = (tgt : Int)) (kk : RRq l D cl tys Ev own cc nL Ts rm ret wd Qf kc ks tgt lv st u) : RRq l D cl tys Ev own cc nL Ts rm ret wd Qf kc ks pc lv st u := by
  intro p e s m args below meth c A H locs ls hX hP hD hS hl
  exact lv_goto hX.1 hX.2.1 hd ht (kk p e s m args below meth c A H locs ls hX hP hD hS hl)

theorem x_ifnullN {off : Int} {tgt : Nat} (hd : decode cc pc = .ok (.ifnull off, 3)) (ht : (pc : Int) + off = (tgt : Int)) (kk : RRq l D cl tys Ev own cc nL Ts rm ret wd Qf kc ks tgt lv st u) : RRq l D cl tys Ev own cc nL Ts rm ret wd Qf kc ks pc lv (.null :: st) u := by
  intro p e s m args below meth c A H locs ls hX hP hD hS hl
  exact lv_ifnullN hX.1 hX.2.1 hd ht (kk p e s m args below meth c A H locs ls hX hP hD hS hl)

theorem x_ifnull {a : Nat} {off : Int} (hd : decode cc pc = .ok (.ifnull off, 3)) (kk : RRq l D cl tys Ev own cc nL Ts rm ret wd Qf kc ks (pc + 3) lv st u) : RRq l D cl tys Ev own cc nL Ts rm ret wd Qf kc ks pc lv (.ref a :: st) u := by
  intro p e s m args below meth c A H locs ls hX hP hD hS hl
  exact lv_ifnull hX.1 hX.2.1 hd (kk p e s m args below meth c A H locs ls hX hP hD hS hl)

theorem x_ifnonnull {a : Nat} {off : Int} {tgt : Nat} (hd : decode cc pc = .ok (.ifnonnull off, 3)) (ht : (pc : Int) + off = (tgt : Int)) (kk : RRq l D cl tys Ev own cc nL Ts rm ret wd Qf kc ks tgt lv st u) : RRq l D cl tys Ev own cc nL Ts rm ret wd Qf kc ks pc lv (.ref a :: st) u := by
  intro p e s m args below meth c A H locs ls hX hP hD hS hl
  exact lv_ifnonnull hX.1 hX.2.1 hd ht (kk p e s m args below meth c A H locs ls hX hP hD hS hl)

theorem x_ifnonnullN {off : Int} (hd : decode cc pc = .ok (.ifnonnull off, 3)) (kk : RRq l D cl tys Ev own cc nL Ts rm ret wd Qf kc ks (pc + 3) lv st u) : RRq l D cl tys Ev own cc nL Ts rm ret wd Qf kc ks pc lv (.null :: st) u := by
  intro p e s m args below meth c A H locs ls hX hP hD hS hl
  exact lv_ifnonnullN hX.1 hX.2.1 hd (kk p e s m args below meth c A H locs ls hX hP hD hS hl)

theorem x_lcmp {x y : Int64} (hd : decode cc pc = .ok (.lcmp, 1)) (kk : RRq l D cl tys Ev own cc nL Ts rm ret wd Qf kc ks (pc + 1) lv (.int (lg_cmp x y) :: st) u) : RRq l D cl tys Ev own cc nL Ts rm ret wd Qf kc ks pc lv (.long y :: .long x :: st) u := by
  intro p e s m args below meth c A H locs ls hX hP hD hS hl
  exact W.lcmp hX.1 hX.2.1 hd (kk p e s m args below meth c A H locs ls hX hP hD hS hl)

theorem x_tableOut {dflt lo hi : Int} {offs : Array Int} {len : Nat} {x : Int32} {tgt : Nat} (hd : decode cc pc = .ok (.tableswitch dflt lo hi offs, len)) (h : x.toInt < lo ∨ hi < x.toInt) (ht : (pc : Int) + dflt = (tgt : Int)) (kk : RRq l D cl tys Ev own cc nL Ts rm ret wd Qf kc ks tgt lv st u) : RRq l D cl tys Ev own cc nL Ts rm ret wd Qf kc ks pc lv (.int x :: st) u := by
  intro p e s m args below meth c A H locs ls hX hP hD hS hl
  exact lv_tableOut hX.1 hX.2.1 hd h ht (kk p e s m args below meth c A H locs ls hX hP hD hS hl)

theorem x_tableIn {dflt lo hi : Int} {offs : Array Int} {len : Nat} {x : Int32} {off : Int} {tgt : Nat} (hd : decode cc pc = .ok (.tableswitch dflt lo hi offs, len)) (h1 : ¬ x.toInt < lo) (h2 : ¬ hi < x.toInt) (ho : offs[(x.toInt - lo).toNat]? = some off) (ht : (pc : Int) + off = (tgt : Int)) (kk : RRq l D cl tys Ev own cc nL Ts rm ret wd Qf kc ks tgt lv st u) : RRq l D cl tys Ev own cc nL Ts rm ret wd Qf kc ks pc lv (.int x :: st) u := by
  intro p e s m args below meth c A H locs ls hX hP hD hS hl
  exact lv_tableIn hX.1 hX.2.1 hd h1 h2 ho ht (kk p e s m args below meth c A H locs ls hX hP hD hS hl)

theorem x_lookup {dflt : Int} {ps : Array (Int × Int)} {len : Nat} {x : Int32} {off : Int} {tgt : Nat} (hd : decode cc pc = .ok (.lookupswitch dflt ps, len)) (hp : (ps.toList.zip (ps.toList.drop 1)).all (fun (a, next) => a.1 < next.1) = true) (ho : Op.lookupswitch.offset ps.toList dflt x.toInt = off) (ht : (pc : Int) + off = (tgt : Int)) (kk : RRq l D cl tys Ev own cc nL Ts rm ret wd Qf kc ks tgt lv st u) : RRq l D cl tys Ev own cc nL Ts rm ret wd Qf kc ks pc lv (.int x :: st) u := by
  intro p e s m args below meth c A H locs ls hX hP hD hS hl
  exact lv_lookup hX.1 hX.2.1 hd hp ho ht (kk p e s m args below meth c A H locs ls hX hP hD hS hl)

theorem x_sub (js : List Nat) (h : lv_pick lv js = lv') (kk : RRq l D cl tys Ev own cc nL Ts rm ret wd Qf kc ks pc lv' st u) : RRq l D cl tys Ev own cc nL Ts rm ret wd Qf kc ks pc lv st u := by
  intro p e s m args below meth c A H locs ls hX hP hD hS hl
  exact kk p e s m args below meth c A H locs ls hX hP hD hS (lv_sub hl js h)

theorem x_iret {x : Int32} (hd : decode cc pc = .ok (.ireturn, 1)) (kk : post (some (.int x)) u) (hc : kc ≤ mc := by omega) (hs : ks ≤ ms := by omega) : RR l D cl tys Ev own cc nL Ts rm (some .int) wd post mc ms kc ks pc lv [.int x] u := by
  intro p e s m args below meth c A H locs ls hX hP hD hS hl
  obtain ⟨hx, hb, -, -, -, -, -, hk, hr, -⟩ := hX
  refine W.widen (k := mc) (n := ms) hc hs ?_
  exact W.iret hx hb hr (fun t ht hW => ⟨⟨_, u, rfl, kk, by rw [ht]; exact hP, hD⟩, hS.F ht⟩) hS.2.2 hd hk

theorem x_zret {x : Int32} {ty : FieldType} (hn : narrow ty (.int x) = .int x) (hd : decode cc pc = .ok (.ireturn, 1)) (kk : post (some (.int x)) u) (hc : kc ≤ mc := by omega) (hs : ks ≤ ms := by omega) : RR l D cl tys Ev own cc nL Ts rm (some ty) wd post mc ms kc ks pc lv [.int x] u := by
  intro p e s m args below meth c A H locs ls hX hP hD hS hl
  obtain ⟨hx, hb, -, -, -, -, -, hk, hr, -⟩ := hX
  refine W.widen (k := mc) (n := ms) hc hs ?_
  exact W.zret hx hb hr hn (fun t ht hW => ⟨⟨_, u, rfl, kk, by rw [ht]; exact hP, hD⟩, hS.F ht⟩) hS.2.2 hd hk

theorem x_lret {x : Int64} (hd : decode cc pc = .ok (.lreturn, 1)) (kk : post (some (.long x)) u) (hc : kc ≤ mc := by omega) (hs : ks ≤ ms := by omega) : RR l D cl tys Ev own cc nL Ts rm (some .long) wd post mc ms kc ks pc lv [.long x] u := by
  intro p e s m args below meth c A H locs ls hX hP hD hS hl
  obtain ⟨hx, hb, -, -, -, -, -, hk, hr, -⟩ := hX
  refine W.widen (k := mc) (n := ms) hc hs ?_
  exact W.lret hx hb hr (fun t ht hW => ⟨⟨_, u, rfl, kk, by rw [ht]; exact hP, hD⟩, hS.F ht⟩) hS.2.2 hd hk

theorem x_vret (hd : decode cc pc = .ok (.return_, 1)) (kk : post none u) (hc : kc ≤ mc := by omega) (hs : ks ≤ ms := by omega) : RR l D cl tys Ev own cc nL Ts rm none wd post mc ms kc ks pc lv [] u := by
  intro p e s m args below meth c A H locs ls hX hP hD hS hl
  obtain ⟨hx, hb, -, -, -, -, -, hk, hr, -⟩ := hX
  refine W.widen (k := mc) (n := ms) hc hs ?_
  exact W.vret hx hb hr (fun t ht hW => ⟨⟨_, u, rfl, kk, by rw [ht]; exact hP, hD⟩, hS.F ht⟩) hS.2.2 hd hk

theorem x_aret {v : Value} {rt : FieldType} (hrt : (∃ n, rt = .object n) ∨ ∃ t, rt = .array t) (hv : v = .null ∨ ∃ a, v = .ref a) (hd : decode cc pc = .ok (.areturn, 1)) (kk : post (some v) u) (hc : kc ≤ mc := by omega) (hs : ks ≤ ms := by omega) : RR l D cl tys Ev own cc nL Ts rm (some rt) wd post mc ms kc ks pc lv [v] u := by
  intro p e s m args below meth c A H locs ls hX hP hD hS hl
  obtain ⟨hx, hb, -, -, -, -, -, hk, hr, -⟩ := hX
  refine W.widen (k := mc) (n := ms) hc hs ?_
  exact W.aret hx hb hr hrt hv (fun t ht hW => ⟨⟨_, u, rfl, kk, by rw [ht]; exact hP, hD⟩, hS.F ht⟩) hS.2.2 hd hk

/-- what an instruction's field is: field k of the class ci -/
def xF (cl : List vw_C) (Ts : List Cond) (own : String) (index ci k : Nat) : Prop := ∃ (C : String) (T : u_T) (N : Nat) (ref : String), (∀ w ∈ u_ws C T N, w ∈ Ts) ∧ cl[ci]? = some (C, T, N) ∧ k < N ∧ Cond.fieldLink own index ref (T k).2.1 (T k).2.2.1 ∈ Ts ∧ (ref = (T k).1 ∨ Cond.sameField ref (T k).1 (T k).2.1 (T k).2.2.1 ∈ Ts)
/-- a field that may be written: its type -/
def xFw (cl : List vw_C) (ci k : Nat) (ty : FieldType) : Prop := ∃ (C : String) (T : u_T) (N : Nat) (ty0 : Nat → FieldType), cl[ci]? = some (C, T, N) ∧ (∀ k, k < N → parseFieldDescriptor (T k).2.2.1 = some (ty0 k)) ∧ (∀ a, a < N → ∀ b, b < N → a ≠ b → (T a).2.1 ≠ (T b).2.1) ∧ (T k).2.2.2 = false ∧ parseFieldDescriptor (T k).2.2.1 = some ty
theorem x_get {index ci k q0 a : Nat} {fs : List Value} {v : Value} (F : xF cl Ts own index ci k) (he : (wd u)[q0]? = some (a, .inr (ci, fs))) (hv : fs[k]? = some v) (hd : decode cc pc = .ok (.getfield index, 3)) (kk : RRq l D cl tys Ev own cc nL Ts rm ret wd Qf kc ks (pc + 3) lv (v :: st) u) : RRq l D cl tys Ev own cc nL Ts rm ret wd Qf kc ks pc lv (.ref a :: st) u := by
  intro p e s m args below meth c A H locs ls hX hP hD hS hl
  obtain ⟨C, T, N, ref, h1, h2, h3, h4, h5⟩ := F
  obtain ⟨hx, hb, -, hown, hts, hK, -⟩ := id hX
  refine va_get hx hb hts h1 hown hK hP q0 he h2 k h3 (hts _ h4) (fun x9 h9 => ?_) hv hd (kk p e s m args below meth c A H locs ls hX hP hD hS hl)
  rcases h5 with h5 | h5
  · rw [h5]; exact h9
  · exact u_same (hts _ h5) x9 h9
theorem x_put {index ci k q0 a : Nat} {fs : List Value} {v : Value} {ty : FieldType} (F : xF cl Ts own index ci k) (Fw : xFw cl ci k ty) (he : (wd u)[q0]? = some (a, .inr (ci, fs))) (hn : narrow ty v = v) (hfit : fits ty v = true) (hl' : k < fs.length) (hset : (wd u).set q0 (a, .inr (ci, fs.set k v)) = wd u') (hd : decode cc pc = .ok (.putfield index, 3)) (kk : RRq l D cl tys Ev own cc nL Ts rm ret wd Qf kc ks (pc + 3) lv st u') : RRq l D cl tys Ev own cc nL Ts rm ret wd Qf kc ks pc lv (v :: .ref a :: st) u := by
  intro p e s m args below meth c A H locs ls hX hP hD hS hl
  obtain ⟨C, T, N, ref, h1, h2, h3, h4, h5⟩ := F
  obtain ⟨C', T', N', ty0, g2, g3, g4, g5, g6⟩ := Fw
  obtain ⟨rfl, rfl, rfl⟩ : C = C' ∧ T = T' ∧ N = N' := by
    have h := Option.some.inj (h2.symm.trans g2)
    simp only [Prod.mk.injEq] at h
    exact h
  obtain ⟨hx, hb, -, hown, hts, hK, -⟩ := id hX
  refine va_put hx hb hts h1 ty0 g3 g4 hown hK hP hD hS q0 he h2 k h3 (hts _ h4) (fun x9 h9 => ?_) g5 g6 hn hfit hl' hd (fun H1 locs1 hP1 hD1 hS1 => ?_)
  · rcases h5 with h5 | h5
    · rw [h5]; exact h9
    · exact u_same (hts _ h5) x9 h9
  · rw [hset] at hP1 hD1
    exact kk p e s m args below meth c A H1 locs1 ls hX hP1 hD1 hS1 hl

/-- a final field, in a constructor -/
def xFf (cl : List vw_C) (own : String) (ci k : Nat) (ty : FieldType) : Prop := ∃ (C : String) (T : u_T) (N : Nat) (ty0 : Nat → FieldType), cl[ci]? = some (C, T, N) ∧ (∀ k, k < N → parseFieldDescriptor (T k).2.2.1 = some (ty0 k)) ∧ (∀ a, a < N → ∀ b, b < N → a ≠ b → (T a).2.1 ≠ (T b).2.1) ∧ (T k).2.2.2 = true ∧ (T k).1 = own ∧ parseFieldDescriptor (T k).2.2.1 = some ty
theorem x_putF {index ci k q0 a : Nat} {fs : List Value} {v : Value} {ty : FieldType} {y : MethodName} {b : ByteArray} {n : Nat} {r : Option FieldType} (F : xF cl Ts own index ci k) (Fw : xFf cl own ci k ty) (he : (wd u)[q0]? = some (a, .inr (ci, fs))) (hT : Ts.head? = some (Cond.code y b n r)) (hy : y.name = "<init>") (hn : narrow ty v = v) (hfit : fits ty v = true) (hl' : k < fs.length) (hset : (wd u).set q0 (a, .inr (ci, fs.set k v)) = wd u') (hd : decode cc pc = .ok (.putfield index, 3)) (kk : RRq l D cl tys Ev own cc nL Ts rm ret wd Qf kc ks (pc + 3) lv st u') : RRq l D cl tys Ev own cc nL Ts rm ret wd Qf kc ks pc lv (v :: .ref a :: st) u := by
  intro p e s m args below meth c A H locs ls hX hP hD hS hl
  obtain ⟨C, T, N, ref, h1, h2, h3, h4, h5⟩ := F
  obtain ⟨C', T', N', ty0, g2, g3, g4, g5, g7, g6⟩ := Fw
  obtain ⟨rfl, rfl, rfl⟩ : C = C' ∧ T = T' ∧ N = N' := by
    have h := Option.some.inj (h2.symm.trans g2)
    simp only [Prod.mk.injEq] at h
    exact h
  obtain ⟨hx, hb, -, hown, hts, hK, -, -, -, -, hnm⟩ := id hX
  refine va_putF hx hb hts h1 ty0 g3 g4 hown hK hP hD hS q0 he h2 k h3 (hts _ h4) (fun x9 h9 => ?_) g5 ((hnm _ _ _ _ hT).trans hy) g7 g6 hn hfit hl' hd (fun H1 locs1 hP1 hD1 hS1 => ?_)
  · rcases h5 with h5 | h5
    · rw [h5]; exact h9
    · exact u_same (hts _ h5) x9 h9
  · rw [hset] at hP1 hD1
    exact kk p e s m args below meth c A H1 locs1 ls hX hP1 hD1 hS1 hl

theorem x_iald {q0 t0 a n : Nat} {cA : ClassId} {f : Nat → Int32} {i : Int32} (he : (wd u)[q0]? = some (a, .inl (cA, n, .inl f))) (ht : tys[t0]? = some (cA, .int)) (hin : vp_in i n) (hd : decode cc pc = .ok (.iaload, 1)) (kk : RRq l D cl tys Ev own cc nL Ts rm ret wd Qf kc ks (pc + 1) lv (.int (f i.toNatClampNeg) :: st) u) : RRq l D cl tys Ev own cc nL Ts rm ret wd Qf kc ks pc lv (.int i :: .ref a :: st) u := by
  intro p e s m args below meth c A H locs ls hX hP hD hS hl
  exact va_iald hX.1 hX.2.1 hX.2.2.2.2.2.1 hP q0 t0 he ht hin hd (kk p e s m args below meth c A H locs ls hX hP hD hS hl)

theorem x_cald {q0 t0 a n : Nat} {cA : ClassId} {f : Nat → Int32} {i : Int32} (he : (wd u)[q0]? = some (a, .inl (cA, n, .inl f))) (ht : tys[t0]? = some (cA, .char)) (hin : vp_in i n) (hd : decode cc pc = .ok (.caload, 1)) (kk : RRq l D cl tys Ev own cc nL Ts rm ret wd Qf kc ks (pc + 1) lv (.int (f i.toNatClampNeg) :: st) u) : RRq l D cl tys Ev own cc nL Ts rm ret wd Qf kc ks pc lv (.int i :: .ref a :: st) u := by
  intro p e s m args below meth c A H locs ls hX hP hD hS hl
  exact va_cald hX.1 hX.2.1 hX.2.2.2.2.2.1 hP q0 t0 he ht hin hd (kk p e s m args below meth c A H locs ls hX hP hD hS hl)

theorem x_zald {q0 t0 a n : Nat} {cA : ClassId} {f : Nat → Int32} {i : Int32} (he : (wd u)[q0]? = some (a, .inl (cA, n, .inl f))) (ht : tys[t0]? = some (cA, .boolean)) (hin : vp_in i n) (hd : decode cc pc = .ok (.baload, 1)) (kk : RRq l D cl tys Ev own cc nL Ts rm ret wd Qf kc ks (pc + 1) lv (.int (f i.toNatClampNeg) :: st) u) : RRq l D cl tys Ev own cc nL Ts rm ret wd Qf kc ks pc lv (.int i :: .ref a :: st) u := by
  intro p e s m args below meth c A H locs ls hX hP hD hS hl
  exact va_zald hX.1 hX.2.1 hX.2.2.2.2.2.1 hP q0 t0 he ht hin hd (kk p e s m args below meth c A H locs ls hX hP hD hS hl)

theorem x_lald {q0 t0 a n : Nat} {cA : ClassId} {f : Nat → Int64} {i : Int32} (he : (wd u)[q0]? = some (a, .inl (cA, n, .inr (.inl f)))) (ht : tys[t0]? = some (cA, .long)) (hin : vp_in i n) (hd : decode cc pc = .ok (.laload, 1)) (kk : RRq l D cl tys Ev own cc nL Ts rm ret wd Qf kc ks (pc + 1) lv (.long (f i.toNatClampNeg) :: st) u) : RRq l D cl tys Ev own cc nL Ts rm ret wd Qf kc ks pc lv (.int i :: .ref a :: st) u := by
  intro p e s m args below meth c A H locs ls hX hP hD hS hl
  exact va_lald hX.1 hX.2.1 hX.2.2.2.2.2.1 hP q0 t0 he ht hin hd (kk p e s m args below meth c A H locs ls hX hP hD hS hl)
theorem x_aald {q0 t0 a n : Nat} {cA : ClassId} {C : String} {f : Nat → Option Nat} {i : Int32} (he : (wd u)[q0]? = some (a, .inl (cA, n, .inr (.inr (.inr (.inr f)))))) (ht : tys[t0]? = some (cA, .object C)) (hin : vp_in i n) (hd : decode cc pc = .ok (.aaload, 1)) (kk : RRq l D cl tys Ev own cc nL Ts rm ret wd Qf kc ks (pc + 1) lv (va_rf (f i.toNatClampNeg) :: st) u) : RRq l D cl tys Ev own cc nL Ts rm ret wd Qf kc ks pc lv (.int i :: .ref a :: st) u := by
  intro p e s m args below meth c A H locs ls hX hP hD hS hl
  exact va_aldq hX.1 hX.2.1 hX.2.2.2.2.2.1 hP q0 t0 he ht hin hd (kk p e s m args below meth c A H locs ls hX hP hD hS hl)

theorem x_iast {q0 t0 a n : Nat} {cA : ClassId} {f : Nat → Int32} {i x : Int32} (he : (wd u)[q0]? = some (a, .inl (cA, n, .inl f))) (ht : tys[t0]? = some (cA, .int)) (hin : vp_in i n) (hset : (wd u).set q0 (a, .inl (cA, n, .inl (upd f i.toNatClampNeg x))) = wd u') (hd : decode cc pc = .ok (.iastore, 1)) (kk : RRq l D cl tys Ev own cc nL Ts rm ret wd Qf kc ks (pc + 1) lv st u') : RRq l D cl tys Ev own cc nL Ts rm ret wd Qf kc ks pc lv (.int x :: .int i :: .ref a :: st) u := by
  intro p e s m args below meth c A H locs ls hX hP hD hS hl
  refine va_iast hX.1 hX.2.1 hX.2.2.2.2.2.1 hP hD hS q0 t0 he ht hin hd (fun H1 locs1 hP1 hD1 hS1 => ?_)
  rw [hset] at hP1 hD1
  exact kk p e s m args below meth c A H1 locs1 ls hX hP1 hD1 hS1 hl

theorem x_cast {q0 t0 a n : Nat} {cA : ClassId} {f : Nat → Int32} {i x : Int32} (he : (wd u)[q0]? = some (a, .inl (cA, n, .inl f))) (ht : tys[t0]? = some (cA, .char)) (hin : vp_in i n) (hset : (wd u).set q0 (a, .inl (cA, n, .inl (upd f i.toNatClampNeg (vp_nar .char x)))) = wd u') (hd : decode cc pc = .ok (.castore, 1)) (kk : RRq l D cl tys Ev own cc nL Ts rm ret wd Qf kc ks (pc + 1) lv st u') : RRq l D cl tys Ev own cc nL Ts rm ret wd Qf kc ks pc lv (.int x :: .int i :: .ref a :: st) u := by
  intro p e s m args below meth c A H locs ls hX hP hD hS hl
  refine va_cast hX.1 hX.2.1 hX.2.2.2.2.2.1 hP hD hS q0 t0 he ht hin hd (fun H1 locs1 hP1 hD1 hS1 => ?_)
  rw [hset] at hP1 hD1
  exact kk p e s m args below meth c A H1 locs1 ls hX hP1 hD1 hS1 hl

theorem x_zast {q0 t0 a n : Nat} {cA : ClassId} {f : Nat → Int32} {i x : Int32} (he : (wd u)[q0]? = some (a, .inl (cA, n, .inl f))) (ht : tys[t0]? = some (cA, .boolean)) (hin : vp_in i n) (hset : (wd u).set q0 (a, .inl (cA, n, .inl (upd f i.toNatClampNeg (vp_nar .boolean x)))) = wd u') (hd : decode cc pc = .ok (.bastore, 1)) (kk : RRq l D cl tys Ev own cc nL Ts rm ret wd Qf kc ks (pc + 1) lv st u') : RRq l D cl tys Ev own cc nL Ts rm ret wd Qf kc ks pc lv (.int x :: .int i :: .ref a :: st) u := by
  intro p e s m args below meth c A H locs ls hX hP hD hS hl
  refine va_zast hX.1 hX.2.1 hX.2.2.2.2.2.1 hP hD hS q0 t0 he ht hin hd (fun H1 locs1 hP1 hD1 hS1 => ?_)
  rw [hset] at hP1 hD1
  exact kk p e s m args below meth c A H1 locs1 ls hX hP1 hD1 hS1 hl

theorem x_last {q0 t0 a n : Nat} {cA : ClassId} {f : Nat → Int64} {i : Int32} {x : Int64} (he : (wd u)[q0]? = some (a, .inl (cA, n, .inr (.inl f)))) (ht : tys[t0]? = some (cA, .long)) (hin : vp_in i n) (hset : (wd u).set q0 (a, .inl (cA, n, .inr (.inl (vp_updL f i.toNatClampNeg x)))) = wd u') (hd : decode cc pc = .ok (.lastore, 1)) (kk : RRq l D cl tys Ev own cc nL Ts rm ret wd Qf kc ks (pc + 1) lv st u') : RRq l D cl tys Ev own cc nL Ts rm ret wd Qf kc ks pc lv (.long x :: .int i :: .ref a :: st) u := by
  intro p e s m args below meth c A H locs ls hX hP hD hS hl
  refine va_last hX.1 hX.2.1 hX.2.2.2.2.2.1 hP hD hS q0 t0 he ht hin hd (fun H1 locs1 hP1 hD1 hS1 => ?_)
  rw [hset] at hP1 hD1
  exact kk p e s m args below meth c A H1 locs1 ls hX hP1 hD1 hS1 hl

theorem x_objInit {idx a : Nat} (h1 : Cond.methodLink own idx objectInit ∈ Ts) (h2 : Cond.instanceMethod objectInit ∈ Ts) (h3 : Cond.code objectInit ⟨#[0xb1]⟩ 1 none ∈ Ts) (hr : (st.map fun v => v.category).sum ≤ 8) (hf : 1 ≤ rm.frames) (hlo : 20 ≤ rm.locals) (hd : decode cc pc = .ok (.invokespecial idx, 3)) (kk : RRq l D cl tys Ev own cc nL Ts rm ret wd Qf kc ks (pc + 3) lv st u) : RRq l D cl tys Ev own cc nL Ts rm ret wd Qf kc ks pc lv (.ref a :: st) u := by
  intro p e s m args below meth c A H locs ls hX hP hD hS hl
  obtain ⟨hx, hb, hml, hown, hts, -⟩ := id hX
  have h8 := lv_room (m := m) (pc := pc) (ls := ls) (rest := .ref a :: st) hr
  exact W.objInit hx hb hown (hts _ h1) (hts _ h2) (hts _ h3) rfl (by rw [hml]; exact hl.1) rfl hd hf (by omega) (kk p e s m args below meth c A H locs ls hX hP hD hS hl)
theorem x_newA {atype : ArrayType} {ty : FieldType} {t0 N' : Nat} {cA : ClassId} {n : Int32} {a0 : vp_A} (hw : Cond.arrayClass (newarray.typeOf atype) ∈ Ts) (hty : newarray.typeOf atype = ty) (hpr : ∀ C, ty ≠ .object C) (ht : tys[t0]? = some (cA, ty)) (ha : ∀ cA : ClassId, vp_cell cA a0 = arrV cA N' (fun _ => defaultValue ty)) (hn : ¬ n < 0) (hN : n.toNatClampNeg = N') (hbytes : N' * componentBytes ty ≤ 536870912) (hc : kc + 1 ≤ rm.cells) (hs : ks + N' ≤ rm.slots) (hd : decode cc pc = .ok (.newarray atype, 2))
    (kk : ∀ (q : Nat) (u1 : S), wd u1 = wd u ++ [(q, .inl (cA, a0))] → RRq l D cl tys Ev own cc nL Ts rm ret wd Qf (kc + 1) (ks + N') (pc + 2) lv (.ref q :: st) u1) (hmk : ∀ q : Nat, ∃ u1 : S, wd u1 = wd u ++ [(q, .inl (cA, a0))]) : RRq l D cl tys Ev own cc nL Ts rm ret wd Qf kc ks pc lv (.int n :: st) u := by
  intro p e s m args below meth c A H locs ls hX hP hD hS hl
  obtain ⟨hx, hb, hml, hown, hts, hK, -, -, -, hA, -⟩ := id hX
  refine va_newa hx hb (hts _ hw) hty hK hP hD hS hA ha hn hN hbytes hc hs hd (fun q cA1 H1 hK1 hP1 hD1 hS1 => ?_)
  have e1 := (hK1.2 tys.length (cA1, ty) (by simp)).2
  have e2 := (hK.2 t0 (cA, ty) ht).2
  have e3 : cA1 = cA := by
    cases ty with
    | object C => exact absurd rfl (hpr C)
    | _ => exact Option.some.inj (Eq.trans (Eq.symm e1) e2)
  subst e3
  obtain ⟨u1, hu1⟩ := hmk q
  exact kk q u1 hu1 p e s m args below meth c A H1 locs ls hX (by rw [hu1]; exact hP1) (by rw [hu1]; exact hD1) hS1 hl
theorem x_newQ {index t0 N' : Nat} {C : String} {cA : ClassId} {n : Int32} (hw : Cond.classLink own index C ∈ Ts) (hao : ∀ (s : State) (A : Nat → Prop), Ev A s → va_AO C s) (ht : tys[t0]? = some (cA, .object C)) (hn : ¬ n < 0) (hN : n.toNatClampNeg = N') (hbytes : N' * 4 ≤ 536870912) (hc : kc + 1 ≤ rm.cells) (hs : ks + N' ≤ rm.slots) (hd : decode cc pc = .ok (.anewarray index, 3))
    (kk : ∀ (q : Nat) (u1 : S), wd u1 = wd u ++ [(q, .inl (cA, N', .inr (.inr (.inr (.inr (fun _ => none))))))] → RRq l D cl tys Ev own cc nL Ts rm ret wd Qf (kc + 1) (ks + N') (pc + 3) lv (.ref q :: st) u1) (hmk : ∀ q : Nat, ∃ u1 : S, wd u1 = wd u ++ [(q, .inl (cA, N', .inr (.inr (.inr (.inr (fun _ => none))))))]) : RRq l D cl tys Ev own cc nL Ts rm ret wd Qf kc ks pc lv (.int n :: st) u := by
  intro p e s m args below meth c A H locs ls hX hP hD hS hl
  obtain ⟨hx, hb, hml, hown, hts, hK, hE, -, -, hA, -⟩ := id hX
  refine va_newq hx hb hown (hts _ hw) (hao s A hE) hK hP hD hS hA hn hN hbytes hc hs hd (fun q cA1 H1 hK1 hP1 hD1 hS1 => ?_)
  obtain ⟨_, _, _, _, _, e1⟩ := (hK1.2 tys.length (cA1, .object C) (by simp)).2
  obtain ⟨_, _, _, _, _, e2⟩ := (hK.2 t0 (cA, .object C) ht).2
  have e3 : cA1 = cA := Option.some.inj (Eq.trans (Eq.symm e1) e2)
  subst e3
  obtain ⟨u1, hu1⟩ := hmk q
  exact kk q u1 hu1 p e s m args below meth c A H1 locs ls hX (by rw [hu1]; exact hP1) (by rw [hu1]; exact hD1) hS1 hl
theorem x_new {index ci N : Nat} {C : String} {T : u_T} {ty : Nat → FieldType} {fs : List Value} (hin : ∀ w ∈ u_ws C T N, w ∈ Ts) (hty : ∀ k, k < N → parseFieldDescriptor (T k).2.2.1 = some (ty k)) (hcl : Cond.classLink own index C ∈ Ts) (hinst : Cond.instantiable C N ∈ Ts) (hini : Cond.initialized C ∈ Ts) (hcc : cl[ci]? = some (C, T, N)) (hfs : ∀ j, j < N → defaultValue (ty j) = vp_V fs j) (hc : kc + 1 ≤ rm.cells) (hs : ks + N ≤ rm.slots) (hd : decode cc pc = .ok (.new index, 3))
    (kk : ∀ (q : Nat) (u1 : S), wd u1 = wd u ++ [(q, .inr (ci, fs))] → RRq l D cl tys Ev own cc nL Ts rm ret wd Qf (kc + 1) (ks + N) (pc + 3) lv (.ref q :: st) u1) (hmk : ∀ q : Nat, ∃ u1 : S, wd u1 = wd u ++ [(q, .inr (ci, fs))]) : RRq l D cl tys Ev own cc nL Ts rm ret wd Qf kc ks pc lv st u := by
  intro p e s m args below meth c A H locs ls hX hP hD hS hl
  obtain ⟨hx, hb, hml, hown, hts, hK, -, -, -, hA, -⟩ := id hX
  refine va_new hx hb hts hin ty hty hown (hts _ hcl) (hts _ hinst) (hts _ hini) hK hP hD hS hA hcc hfs hc hs hd (fun q H1 hP1 hD1 hS1 => ?_)
  obtain ⟨u1, hu1⟩ := hmk q
  exact kk q u1 hu1 p e s m args below meth c A H1 locs ls hX (by rw [hu1]; exact hP1) (by rw [hu1]; exact hD1) hS1 hl

theorem x_swout {x : Int32} {lo hi : Int} {n : Nat} (hn : hi = lo + n) (h : ∀ k : Nat, k ≤ n → ¬ x.toInt = lo + k) : x.toInt < lo ∨ hi < x.toInt := by
  by_cases h1 : x.toInt < lo
  · exact Or.inl h1
  · by_cases h2 : hi < x.toInt
    · exact Or.inr h2
    · exact absurd (by omega) (h (x.toInt - lo).toNat (by omega))

theorem xC.of {y : MethodName} {ws ws' : List Cond} {av : List Value} (hy : plainName y.cls = true) (hw : ws = Cond.code y cc nL ret :: ws') (hlen : (lg_sl av).length ≤ nL) (h : RR l D cl tys Ev y.cls cc nL ws rm ret wd post mc ms 0 0 0 (lv_args 0 av) [] u) : xC l D cl tys Ev y ws rm wd av u post mc ms := by
  intro sz
  refine Met.ofW (cc := cc) (maxL := nL) (ret := ret) hy hw ?_
  intro p e s m args below meth c s₁ B hml hv
  obtain ⟨rfl, hsz, hP, hK, hD0, hE⟩ := hv
  have hx := B.exec
  have hb := B.bytes
  have hr := B.returns
  have hts := atoms_spec (ws := ws) B.pre
  have hown : s.vm.findClass y.cls = some m.cls := findClass_of_methodNamed B.named
  have hlocks := B.notSynchronized
  subst hsz
  have hD := hD0.self (sz := s.heap.size)
  have hl := lv_entry av (n := nL) hlen
  rw [lg_entry_eq]
  exact h p e s m av.toArray below meth c _ s.heap [] _ ⟨hx, hb, hml, hown, hts, hK, hE, hlocks, hr, fun q h => Or.inr h, fun y' b' n' r' h' => by
    rw [hw] at h'
    simp only [List.head?_cons, Option.some.injEq, Cond.code.injEq] at h'
    rw [← h'.1]
    exact (name_of_methodNamed B.named B.method).1⟩ hP hD va_S.rf hl
end RL
