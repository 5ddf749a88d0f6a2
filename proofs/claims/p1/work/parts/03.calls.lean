section RC
/-- what stays: facts of the tables and of cells that no method here writes -/
def xEok (Ev : (Nat → Prop) → State → Prop) : Prop := (∀ (A A' : Nat → Prop) (s U : State), Ev A s → s.WarmedH U.vm → s.heap.size ≤ U.heap.size → (∀ q : Nat, q < s.heap.size → ¬ A q → U.heap[q]? = s.heap[q]?) → (∀ q, A' q → A q) → Ev A' U) ∧ ∀ (A : Nat → Prop) (U : State) (g : JFrame) (mk : MethodId) (a : Array Value), Ev A U → Ev A (U.calling g mk a)
variable {S Sz : Type} {l : Launch} {D : va_G} {cl : List vw_C} {tys : List (ClassId × FieldType)} {Ev : (Nat → Prop) → State → Prop} {own : String} {cc : ByteArray} {nL : Nat} {Ts : List Cond} {rm : Room} {ret : Option FieldType} {wd : S → va_W} {Qf : List Frame → Array Value → State → (Nat → Prop) → State → Prop} {kc ks : Nat} {pc : Nat} {lv lv' : List (Nat × Value)} {st : List Value} {u u' : S}
theorem xB.blind (hE : xEok Ev) {wd : S → va_W} {u : S} {sz : Nat} {av : List Value} : FrameBlind (va_Pc av (xB D cl tys Ev wd u sz)) := by
  intro a U g mk q
  obtain ⟨q0, q1, qP, qK, qD, qE⟩ := q
  exact ⟨q0, q1, qP, va_K.moved (u := U) (U := U.calling g mk a) (Vm.Alike.refl U.vm) qK, qD, hE.2 _ _ _ _ _ qE⟩
theorem x_pre (hE : xEok Ev) {wdz : Sz → va_W} {uz : Sz} {av : List Value} {p : Program} {s : State} {m : MethodId} {args : Array Value} {meth : Method} {c : Code} {A : Nat → Prop} {H : Heap} {locs : List Loc}
    (hX : xX D cl tys Ev own cc nL Ts ret p s m args meth c A) (hS : va_S A s.heap H locs) (hPz : va_P D cl (wdz uz) H) (hDz : va_D A (wdz uz)) (U : State) (hU : U.heap = H) (hW : s.WarmedH U.vm) : va_Pc av (xB D cl tys Ev wdz uz H.size) av.toArray U := by
  obtain ⟨-, -, -, -, -, hK, hEv, -, -, hA, -⟩ := hX
  refine ⟨rfl, by rw [hU], by rw [hU]; exact hPz, va_K.moved hW.alike hK, hDz.weaken (fun _ _ _ _ => trivial), ?_⟩
  refine hE.1 A _ s U hEv hW (by rw [hU]; exact hS.1) (fun q h1 h2 => by rw [hU]; exact hS.2.1 q h1 h2) (fun q h => ?_)
  rcases h with ⟨k, e, h⟩ | h
  · exact hDz.2 k _ h
  · exact hA q (Nat.le_trans hS.1 h)
/-- behind a call: what came back -/
theorem x_back {p : Program} {e : Env} {s : State} {m : MethodId} {args : Array Value} {below : List Frame} {meth : Method} {c : Code} {A : Nat → Prop} {H : Heap} {locs : List Loc} {ls : Array Slot} {st0 rest : List Value} {a : Array Value} {cz sz : Nat} {Q : State → Prop}
    {wdz : Sz → va_W} {uz : Sz} {pz : Option Value → Sz → Prop}
    (hr : va_Run p l e rm s m args below meth c H locs kc ks cz sz (F0 m pc ls st0) rest (xQ D cl wdz (va_A (wdz uz) H.size) pz a) (va_A (wdz uz) H.size)) (hS : va_S A s.heap H locs) (hF : ∀ q, va_A (wdz uz) H.size q → A q)
    (kk : ∀ (r : Option Value) (u1 : Sz) (H1 : Heap) (locs1 : List Loc), pz r u1 → va_P D cl (wdz u1) H1 → va_D (va_A (wdz uz) H.size) (wdz u1) → H.size ≤ H1.size → (∀ q : Nat, q < H.size → ¬ va_A (wdz uz) H.size q → H1[q]? = H[q]?) → va_S A s.heap H1 locs1 → W p l e rm s m args below meth c H1 locs1 (kc + cz) (ks + sz) Q (F0 m (pc + 3) ls (r.toList ++ rest))) : W p l e rm s m args below meth c H locs kc ks Q (F0 m pc ls st0) := by
  intro T hT X
  obtain ⟨v, st₀, t, T', L, h0, X', hL, e1, e2, ⟨⟨r, u1, hv, hp, hP1, hD1⟩, hz, hk⟩, st⟩ := hr T hT X
  cases hv
  rw [h0] at hz hk
  obtain ⟨t2, a1, b1⟩ := kk v u1 T'.heap (locs ++ L) hp (by rw [e1]; exact hP1) hD1 (by rw [e1]; exact hz) (fun q h1 h2 => by rw [e1]; exact hk q h1 h2)
    ⟨Nat.le_trans hS.1 (by rw [e1]; exact hz), fun q h1 h2 => by rw [e1, hk q (Nat.lt_of_lt_of_le h1 hS.1) (fun z => h2 (hF q z))]; exact hS.2.1 q h1 h2, fun q hq => by
      rcases List.mem_append.mp hq with h | h
      · exact hS.2.2 q h
      · exact hF _ (hL q h)⟩ T' rfl X'
  exact ⟨t2, st t2 a1, b1⟩
theorem x_freeS {A : Nat → Prop} {s : State} {H : Heap} {locs : List Loc} {wz : va_W} (hA : ∀ q, s.heap.size ≤ q → A q) (hS : va_S A s.heap H locs) (hD : va_D A wz) : ∀ q, va_A wz H.size q → A q := by
  intro q h
  rcases h with ⟨k, e, h⟩ | h
  · exact hD.2 k _ h
  · exact hA q (Nat.le_trans hS.1 h)
theorem x_Pi {ws : va_W} {H : Heap} : va_P D cl ws H ↔ ∀ q ∈ ws, va_at D cl q H :=
  ⟨fun h q hq => by
    obtain ⟨i, hi⟩ := List.getElem?_of_mem hq
    exact h i q hi, fun h k q hk => h q (List.mem_of_getElem? hk)⟩
theorem x_Di {A : Nat → Prop} {ws : va_W} : va_D A ws ↔ ws.Pairwise (fun a b => a.1 ≠ b.1) ∧ ∀ q ∈ ws, A q.1 := by
  constructor
  · intro h
    refine ⟨?_, fun q hq => ?_⟩
    · have key : ∀ (w : va_W), (∀ (i j : Nat) (p q : Nat × va_E), w[i]? = some p → w[j]? = some q → p.1 = q.1 → i = j) → w.Pairwise (fun a b => a.1 ≠ b.1) := by
        intro w
        induction w with
        | nil => intro _; exact List.Pairwise.nil
        | cons a w ih =>
          intro hw
          refine List.Pairwise.cons (fun b hb hab => ?_) (ih (fun i j p q hi hj hpq => ?_))
          · obtain ⟨i, hi⟩ := List.getElem?_of_mem hb
            have := hw 0 (i + 1) a b (by simp) (by simpa using hi) hab
            omega
          · have := hw (i + 1) (j + 1) p q (by simpa using hi) (by simpa using hj) hpq
            omega
      exact key ws h.1
    · obtain ⟨i, hi⟩ := List.getElem?_of_mem hq
      exact h.2 i q hi
  · intro ⟨h1, h2⟩
    refine ⟨?_, fun k q hk => h2 q (List.mem_of_getElem? hk)⟩
    have key : ∀ (w : va_W), w.Pairwise (fun a b => a.1 ≠ b.1) → ∀ (i j : Nat) (p q : Nat × va_E), w[i]? = some p → w[j]? = some q → p.1 = q.1 → i = j := by
      intro w
      induction w with
      | nil => intro _ i j p q hi; simp at hi
      | cons a w ih =>
        intro hw i j p q hi hj hpq
        obtain ⟨g1, g2⟩ := List.pairwise_cons.mp hw
        cases i with
        | zero =>
          cases j with
          | zero => rfl
          | succ j =>
            simp at hi hj
            subst hi
            exact absurd hpq (g1 q (List.mem_of_getElem? hj))
        | succ i =>
          cases j with
          | zero =>
            simp at hi hj
            subst hj
            exact absurd hpq.symm (g1 p (List.mem_of_getElem? hi))
          | succ j =>
            simp at hi hj
            rw [ih g2 i j p q hi hj hpq]
    exact key ws h1
theorem x_Pp {ws ws' : va_W} {H : Heap} (h : va_P D cl ws H) (hp : ws.Perm ws') : va_P D cl ws' H := x_Pi.mpr (fun q hq => x_Pi.mp h q (hp.mem_iff.mpr hq))
theorem x_Dp {A : Nat → Prop} {ws ws' : va_W} (h : va_D A ws) (hp : ws.Perm ws') : va_D A ws' := by
  obtain ⟨h1, h2⟩ := x_Di.mp h
  exact x_Di.mpr ⟨(hp.pairwise_iff (fun h => Ne.symm h)).mp h1, fun q hq => h2 q (hp.mem_iff.mpr hq)⟩
/-- the frame: the rest wr stays, the callee's wc becomes w1 -/
theorem x_join {A : Nat → Prop} {wr wc w1 : va_W} {H H1 : Heap} (hP : va_P D cl (wr ++ wc) H) (hD : va_D A (wr ++ wc)) (hk : ∀ q : Nat, q < H.size → ¬ va_A wc H.size q → H1[q]? = H[q]?) (hF : ∀ q, va_A wc H.size q → A q) (hP1 : va_P D cl w1 H1) (hD1 : va_D (va_A wc H.size) w1) : va_P D cl (wr ++ w1) H1 ∧ va_D A (wr ++ w1) := by
  obtain ⟨g1, g2⟩ := x_Di.mp hD
  obtain ⟨p1, p2, p3⟩ := List.pairwise_append.mp g1
  obtain ⟨d1, d2⟩ := x_Di.mp hD1
  have hlt : ∀ q ∈ wr, q.1 < H.size := fun q hq => (x_Pi.mp hP q (List.mem_append_left _ hq)).lt
  have hout : ∀ q ∈ wr, ¬ va_A wc H.size q.1 := by
    intro q hq h
    rcases h with ⟨k, e, h⟩ | h
    · exact p3 q hq (q.1, e) (List.mem_of_getElem? h) rfl
    · have := hlt q hq
      omega
  refine ⟨x_Pi.mpr (fun q hq => ?_), x_Di.mpr ⟨List.pairwise_append.mpr ⟨p1, d1, fun a ha b hb hab => ?_⟩, fun q hq => ?_⟩⟩
  · rcases List.mem_append.mp hq with h | h
    · exact (x_Pi.mp hP q (List.mem_append_left _ h)).kept (hk q.1 (hlt q h) (hout q h))
    · exact x_Pi.mp hP1 q h
  · exact hout a ha (by rw [hab]; exact d2 b hb)
  · rcases List.mem_append.mp hq with h | h
    · exact g2 q (List.mem_append_left _ h)
    · exact hF _ (d2 q h)
/-- how the callee's world stands in the caller's: beside the rest wr; put says the caller's state behind the call -/
def xLens (wd : S → va_W) (u : S) (wdz : Sz → va_W) (uz : Sz) (put : Sz → S) : Prop := ∃ wr : va_W, (wd u).Perm (wr ++ wdz uz) ∧ ∀ u1 : Sz, (wr ++ wdz u1).Perm (wd (put u1))
theorem x_lens {p : Program} {e : Env} {s : State} {m : MethodId} {args : Array Value} {below : List Frame} {meth : Method} {c : Code} {A : Nat → Prop} {H : Heap} {locs : List Loc} {ls : Array Slot} {st0 rest : List Value} {a : Array Value} {cz sz : Nat}
    {wdz : Sz → va_W} {uz : Sz} {put : Sz → S} {pz : Option Value → Sz → Prop} (L : xLens wd u wdz uz put)
    (hX : xX D cl tys Ev own cc nL Ts ret p s m args meth c A) (hP : va_P D cl (wd u) H) (hD : va_D A (wd u)) (hS : va_S A s.heap H locs) (hl : lv_has ls nL lv)
    (hr : va_P D cl (wdz uz) H → va_D A (wdz uz) → va_Run p l e rm s m args below meth c H locs kc ks cz sz (F0 m pc ls st0) rest (xQ D cl wdz (va_A (wdz uz) H.size) pz a) (va_A (wdz uz) H.size))
    (kk : ∀ (r : Option Value) (u1 : Sz), pz r u1 → RRq l D cl tys Ev own cc nL Ts rm ret wd Qf (kc + cz) (ks + sz) (pc + 3) lv (r.toList ++ rest) (put u1)) : W p l e rm s m args below meth c H locs kc ks (Qf below args s A) (F0 m pc ls st0) := by
  obtain ⟨wr, hC, hput⟩ := L
  have hP0 := x_Pp hP hC
  have hD0 := x_Dp hD hC
  have hPz : va_P D cl (wdz uz) H := x_Pi.mpr (fun q hq => x_Pi.mp hP0 q (List.mem_append_right _ hq))
  have hDz : va_D A (wdz uz) := x_Di.mpr ⟨(List.pairwise_append.mp (x_Di.mp hD0).1).2.1, fun q hq => (x_Di.mp hD0).2 q (List.mem_append_right _ hq)⟩
  have hF := x_freeS hX.2.2.2.2.2.2.2.2.2.1 hS hDz
  refine x_back (hr hPz hDz) hS hF (fun r u1 H1 locs1 hp hP1 hD1 hz hk hS1 => ?_)
  obtain ⟨hP2, hD2⟩ := x_join (wr := wr) (w1 := wdz u1) hP0 hD0 hk hF hP1 hD1
  exact kk r u1 hp p e s m args below meth c A H1 locs1 ls hX (x_Pp hP2 (hput u1)) (x_Dp hD2 (hput u1)) hS1 hl
theorem x_id {wd : S → va_W} {u : S} : xLens wd u wd u (fun z => z) := ⟨[], List.Perm.refl _, fun _ => List.Perm.refl _⟩
/-- the callee has no world of its own -/
theorem x_none {wd : S → va_W} {u : S} : xLens wd u (fun _ : Unit => ([] : va_W)) () (fun _ => u) := ⟨wd u, by rw [List.append_nil], fun _ => by rw [List.append_nil]⟩
/-- typed ends -/
def pI (P : Int32 → S → Prop) : Option Value → S → Prop := fun r u => ∃ x, r = some (.int x) ∧ P x u
def pJ (P : Int64 → S → Prop) : Option Value → S → Prop := fun r u => ∃ x, r = some (.long x) ∧ P x u
def pV (P : S → Prop) : Option Value → S → Prop := fun r u => r = none ∧ P u
theorem x_topI {x : Int32} (k : ∀ y : Int32, y = x → RRq l D cl tys Ev own cc nL Ts rm ret wd Qf kc ks pc lv (.int y :: st) u) : RRq l D cl tys Ev own cc nL Ts rm ret wd Qf kc ks pc lv (.int x :: st) u := k x rfl
theorem x_topJ {x : Int64} (k : ∀ y : Int64, y = x → RRq l D cl tys Ev own cc nL Ts rm ret wd Qf kc ks pc lv (.long y :: st) u) : RRq l D cl tys Ev own cc nL Ts rm ret wd Qf kc ks pc lv (.long x :: st) u := k x rfl
theorem x_rI {put : Sz → S} {P : Int32 → Sz → Prop} (kk : ∀ (x : Int32) (u1 : Sz), P x u1 → RRq l D cl tys Ev own cc nL Ts rm ret wd Qf kc ks pc lv (.int x :: st) (put u1)) : ∀ (r : Option Value) (u1 : Sz), pI P r u1 → RRq l D cl tys Ev own cc nL Ts rm ret wd Qf kc ks pc lv (r.toList ++ st) (put u1) := by
  rintro _ u1 ⟨x, rfl, h⟩
  exact kk x u1 h
theorem x_rJ {put : Sz → S} {P : Int64 → Sz → Prop} (kk : ∀ (x : Int64) (u1 : Sz), P x u1 → RRq l D cl tys Ev own cc nL Ts rm ret wd Qf kc ks pc lv (.long x :: st) (put u1)) : ∀ (r : Option Value) (u1 : Sz), pJ P r u1 → RRq l D cl tys Ev own cc nL Ts rm ret wd Qf kc ks pc lv (r.toList ++ st) (put u1) := by
  rintro _ u1 ⟨x, rfl, h⟩
  exact kk x u1 h
theorem x_rV {put : Sz → S} {P : Sz → Prop} (kk : ∀ (u1 : Sz), P u1 → RRq l D cl tys Ev own cc nL Ts rm ret wd Qf kc ks pc lv st (put u1)) : ∀ (r : Option Value) (u1 : Sz), pV P r u1 → RRq l D cl tys Ev own cc nL Ts rm ret wd Qf kc ks pc lv (r.toList ++ st) (put u1) := by
  rintro _ u1 ⟨rfl, h⟩
  exact kk u1 h
/-- the room of a method that makes nothing, with at most d calls in one another -/
def rmD (d : Nat) : Room := { frames := d, cells := 0, slots := 0, locals := 64 * d }
/-- the callee's room in the caller's -/
def xRm (rm rmz : Room) (nz cz sz kc ks : Nat) : Prop := (rmz.cells = cz ∧ rmz.slots = sz) ∧ (rmz.frames + 1 ≤ rm.frames ∧ 8 + (nz + 11) + rmz.locals ≤ rm.locals) ∧ kc + cz ≤ rm.cells ∧ ks + sz ≤ rm.slots
theorem rmD_ok {a b nz : Nat} (h : a + 1 ≤ b) (hn : nz ≤ 45) : xRm (rmD b) (rmD a) nz 0 0 0 0 := by
  refine ⟨⟨rfl, rfl⟩, ⟨h, ?_⟩, Nat.le_refl _, Nat.le_refl _⟩
  show 8 + (nz + 11) + 64 * a ≤ 64 * b
  omega
/-- the callee's words -/
def xkB (Ts : List Cond) (y : MethodName) (bz : ByteArray) (nz : Nat) (rz : Option FieldType) (wz : List Cond) (n : Nat) : Prop := GoodIn Ts wz ∧ (∃ w', wz = Cond.code y bz nz rz :: w') ∧ Cond.initialized y.cls ∈ Ts ∧ (y.cls ≠ "java/lang/invoke/MethodHandle" ∧ y.cls ≠ "java/lang/invoke/VarHandle" ∧ (parseMethodDescriptor y.desc).map (fun d => d.parameters.length) = some n)
def xkS (Ts : List Cond) (own : String) (index : Nat) (y : MethodName) (bz : ByteArray) (nz : Nat) (rz : Option FieldType) (wz : List Cond) (n : Nat) : Prop := xkB Ts y bz nz rz wz n ∧ Cond.methodLink own index y ∈ Ts ∧ Cond.static y ∈ Ts
def xkV (Ts : List Cond) (own : String) (index : Nat) (C : String) (y : MethodName) (bz : ByteArray) (nz : Nat) (rz : Option FieldType) (wz : List Cond) (n : Nat) : Prop := xkB Ts y bz nz rz wz n ∧ Cond.methodLink own index y ∈ Ts ∧ Cond.instanceMethod y ∈ Ts ∧ ∀ (args : Array Value) (s : State), (∀ w ∈ Ts, w.before args s = true) → (Cond.selects C y y).before args s = true
/-- an inherited method: x is what the instruction names, y what is run -/
def xkU (Ts : List Cond) (own : String) (index : Nat) (C owner : String) (x y : MethodName) (bz : ByteArray) (nz : Nat) (rz : Option FieldType) (wz : List Cond) (n : Nat) : Prop := xkB Ts y bz nz rz wz n ∧ Cond.methodLink own index x ∈ Ts ∧ Cond.sameMethod x.cls owner x.name x.desc ∈ Ts ∧ Cond.instanceMethod y ∈ Ts ∧ Cond.selects C x y ∈ Ts ∧ y = ⟨owner, x.name, x.desc⟩
/-- a private method of a class above C: of C's objects the call goes to it -/
theorem x_selP {C : String} {x0 y0 y : MethodName} {args : Array Value} {s : State} (hc : y.cls = y0.cls) (hy : y.cls ≠ "java/lang/invoke/MethodHandle" ∧ y.cls ≠ "java/lang/invoke/VarHandle") (hsel : (Cond.selects C x0 y0).before args s = true) (hpriv : (Cond.privateMethod y).before args s = true) (hinst : (Cond.instanceMethod y).before args s = true) : (Cond.selects C y y).before args s = true := by
  obtain ⟨c2, r2, m2, q1, q2, q3, q4, kP, hkP, hkPi⟩ := Cond.selects_spec hsel
  obtain ⟨mk, methM, hnamed, hmethM, -, -⟩ := Cond.instanceMethod_spec hinst
  have hfound : s.methodFound? y.cls y.name y.desc = some mk := State.methodFound?_of_named hnamed hy
  have h1 := findClass_of_methodNamed hnamed
  have h2 := findClass_of_methodNamed q3
  rw [hc] at h1
  have hcls : m2.cls = mk.cls := Option.some.inj (h2.symm.trans h1)
  have hs : selectMethod {} s.vm c2 mk = .method mk := selectMethod_private hmethM (Cond.privateMethod_at hpriv mk methM hnamed hmethM)
  rw [hcls] at hkP
  simp only [Cond.before, Cond.holds, Cond.value, q1, hfound, hnamed, hs, hkP]
  simp; exact hkPi
def xkI (Ts : List Cond) (own : String) (index : Nat) (y : MethodName) (bz : ByteArray) (nz : Nat) (wz : List Cond) (n : Nat) : Prop := xkB Ts y bz nz none wz n ∧ Cond.methodLink own index y ∈ Ts ∧ y.name = "<init>" ∧ Cond.instanceMethod y ∈ Ts
def xkSN (Ev : (Nat → Prop) → State → Prop) (Ts : List Cond) (own : String) (index : Nat) (y : MethodName) (bz : ByteArray) (nz : Nat) (rz : Option FieldType) (wz : List Cond) (n : Nat) : Prop := xkB Ts y bz nz rz wz n ∧ (∃ host, ∀ A s, Ev A s → va_Nw (.methodLinkNest own index y host) s) ∧ Cond.static y ∈ Ts
def xkIN (Ev : (Nat → Prop) → State → Prop) (Ts : List Cond) (own : String) (index : Nat) (y : MethodName) (bz : ByteArray) (nz : Nat) (wz : List Cond) (n : Nat) : Prop := xkB Ts y bz nz none wz n ∧ (∃ host, ∀ A s, Ev A s → va_Nw (.methodLinkNest own index y host) s) ∧ y.name = "<init>" ∧ Cond.instanceMethod y ∈ Ts
/-- the room of a method that makes k cells of n slots -/
def rmK (d k n : Nat) : Room := { frames := d, cells := k, slots := n, locals := 64 * d }
theorem rmK_ok {a b nz cz sz kc ks k n : Nat} (h : a + 1 ≤ b) (hn : nz ≤ 45) (h1 : kc + cz ≤ k) (h2 : ks + sz ≤ n) : xRm (rmK b k n) (rmK a cz sz) nz cz sz kc ks := by
  refine ⟨⟨rfl, rfl⟩, ⟨h, ?_⟩, h1, h2⟩
  show 8 + (nz + 11) + 64 * a ≤ 64 * b
  omega
section RCC
variable {y : MethodName} {bz : ByteArray} {nz n index cz sz : Nat} {rz : Option FieldType} {wz : List Cond} {wdz : Sz → va_W} {uz : Sz} {put : Sz → S} {pz : Option Value → Sz → Prop} {rmz : Room} {As st0 : List Value} {a : Nat}
theorem x_callS (K : xkS Ts own index y bz nz rz wz n) (L : xLens wd u wdz uz put) (hz : xC l D cl tys Ev y wz rmz wdz As uz pz cz sz) (hE : xEok Ev) (hR : xRm rm rmz nz cz sz kc ks) (hn : As.length = n) (hw : (st.map fun v => v.category).sum ≤ 8) (hst : st0 = As.reverse ++ st) (hd : decode cc pc = .ok (.invokestatic index, 3))
    (kk : ∀ (r : Option Value) (u1 : Sz), pz r u1 → RRq l D cl tys Ev own cc nL Ts rm ret wd Qf (kc + cz) (ks + sz) (pc + 3) lv (r.toList ++ st) (put u1)) : RRq l D cl tys Ev own cc nL Ts rm ret wd Qf kc ks pc lv st0 u := by
  intro p e s m args below meth c A H locs ls hX hP hD hS hl
  obtain ⟨⟨hG, ⟨w', hw'⟩, hini, hdd⟩, hlk, hstt⟩ := K
  obtain ⟨hx, hb, hml, hown, hts, hK, hEv, -⟩ := id hX
  refine x_lens L hX hP hD hS hl (a := As.toArray) (fun hPz hDz => ?_) kk
  exact va_runS (As := As) (rest := st) (bytes := bz) (maxL := nz) (ret := rz) ⟨hx, hb, hml, hown, hts⟩ (hz H.size) ⟨callB_of n hts hG hw' hR.1.1 hR.1.2 (hts _ hini) (hts _ hlk) hdd hR.2.1, hts _ hstt⟩ ⟨xB.blind hE, fun U hU hW => x_pre hE hX hS hPz hDz U hU hW⟩ rfl hn hl.1 hst (lv_room hw) hd hR.2.2
theorem x_callSN (K : xkSN Ev Ts own index y bz nz rz wz n) (L : xLens wd u wdz uz put) (hz : xC l D cl tys Ev y wz rmz wdz As uz pz cz sz) (hE : xEok Ev) (hR : xRm rm rmz nz cz sz kc ks) (hn : As.length = n) (hw : (st.map fun v => v.category).sum ≤ 8) (hst : st0 = As.reverse ++ st) (hd : decode cc pc = .ok (.invokestatic index, 3))
    (kk : ∀ (r : Option Value) (u1 : Sz), pz r u1 → RRq l D cl tys Ev own cc nL Ts rm ret wd Qf (kc + cz) (ks + sz) (pc + 3) lv (r.toList ++ st) (put u1)) : RRq l D cl tys Ev own cc nL Ts rm ret wd Qf kc ks pc lv st0 u := by
  intro p e s m args below meth c A H locs ls hX hP hD hS hl
  obtain ⟨⟨hG, ⟨w', hw'⟩, hini, hdd⟩, ⟨host, hlk⟩, hstt⟩ := K
  obtain ⟨hx, hb, hml, hown, hts, hK, hEv, -⟩ := id hX
  refine x_lens L hX hP hD hS hl (a := As.toArray) (fun hPz hDz => ?_) kk
  exact va_runSN (As := As) (rest := st) (bytes := bz) (maxL := nz) (ret := rz) ⟨hx, hb, hml, hown, hts⟩ (hz H.size) ⟨va_cnB n hts hG hw' hR.1.1 hR.1.2 (hlk A s hEv) (hts _ hini) hdd hR.2.1, hts _ hstt, trivial⟩ ⟨xB.blind hE, fun U hU hW => x_pre hE hX hS hPz hDz U hU hW⟩ rfl hn hl.1 hst (lv_room hw) hd hR.2.2
theorem x_callV {C : String} {q0 ci : Nat} {fs : List Value} {T : u_T} {N : Nat} (K : xkV Ts own index C y bz nz rz wz n) (hc : cl[ci]? = some (C, T, N)) (he : (wd u)[q0]? = some (a, .inr (ci, fs))) (L : xLens wd u wdz uz put) (hz : xC l D cl tys Ev y wz rmz wdz (.ref a :: As) uz pz cz sz) (hE : xEok Ev) (hR : xRm rm rmz nz cz sz kc ks) (hn : As.length = n) (hw : (st.map fun v => v.category).sum ≤ 8) (hst : st0 = As.reverse ++ .ref a :: st) (hd : decode cc pc = .ok (.invokevirtual index, 3))
    (kk : ∀ (r : Option Value) (u1 : Sz), pz r u1 → RRq l D cl tys Ev own cc nL Ts rm ret wd Qf (kc + cz) (ks + sz) (pc + 3) lv (r.toList ++ st) (put u1)) : RRq l D cl tys Ev own cc nL Ts rm ret wd Qf kc ks pc lv st0 u := by
  intro p e s m args below meth c A H locs ls hX hP hD hS hl
  obtain ⟨⟨hG, ⟨w', hw'⟩, hini, hdd⟩, hlk, hin, hsel⟩ := K
  obtain ⟨hx, hb, hml, hown, hts, hK, hEv, -⟩ := id hX
  refine x_lens L hX hP hD hS hl (a := (.ref a :: As).toArray) (fun hPz hDz => ?_) kk
  exact va_runV (As := As) (rest := st) (b := a) (C := C) (bytes := bz) (maxL := nz) (ret := rz) ⟨hx, hb, hml, hown, hts⟩ (hz H.size) ⟨callB_of n hts hG hw' hR.1.1 hR.1.2 (hts _ hini) (hts _ hlk) hdd hR.2.1, hts _ hin, hsel _ _ hts⟩ ⟨xB.blind hE, va_recv hK hP hc he, fun U hU hW => x_pre hE hX hS hPz hDz U hU hW⟩ rfl hn hl.1 hst (lv_room hw) hd hR.2.2
/-- the receiver is no cell of the world, but one that stays -/
theorem x_callVO {C : String} (K : xkV Ts own index C y bz nz rz wz n) (hO : ∀ (A : Nat → Prop) (s : State), Ev A s → va_O C a A s s.heap) (L : xLens wd u wdz uz put) (hz : xC l D cl tys Ev y wz rmz wdz (.ref a :: As) uz pz cz sz) (hE : xEok Ev) (hR : xRm rm rmz nz cz sz kc ks) (hn : As.length = n) (hw : (st.map fun v => v.category).sum ≤ 8) (hst : st0 = As.reverse ++ .ref a :: st) (hd : decode cc pc = .ok (.invokevirtual index, 3))
    (kk : ∀ (r : Option Value) (u1 : Sz), pz r u1 → RRq l D cl tys Ev own cc nL Ts rm ret wd Qf (kc + cz) (ks + sz) (pc + 3) lv (r.toList ++ st) (put u1)) : RRq l D cl tys Ev own cc nL Ts rm ret wd Qf kc ks pc lv st0 u := by
  intro p e s m args below meth c A H locs ls hX hP hD hS hl
  obtain ⟨⟨hG, ⟨w', hw'⟩, hini, hdd⟩, hlk, hin, hsel⟩ := K
  obtain ⟨hx, hb, hml, hown, hts, hK, hEv, -⟩ := id hX
  refine x_lens L hX hP hD hS hl (a := (.ref a :: As).toArray) (fun hPz hDz => ?_) kk
  exact va_runV (As := As) (rest := st) (b := a) (C := C) (bytes := bz) (maxL := nz) (ret := rz) ⟨hx, hb, hml, hown, hts⟩ (hz H.size) ⟨callB_of n hts hG hw' hR.1.1 hR.1.2 (hts _ hini) (hts _ hlk) hdd hR.2.1, hts _ hin, hsel _ _ hts⟩ ⟨xB.blind hE, va_Orecv (hO A s hEv) hS, fun U hU hW => x_pre hE hX hS hPz hDz U hU hW⟩ rfl hn hl.1 hst (lv_room hw) hd hR.2.2
theorem x_callU {C owner : String} {x : MethodName} {q0 ci : Nat} {fs : List Value} {T : u_T} {N : Nat} (K : xkU Ts own index C owner x y bz nz rz wz n) (hc : cl[ci]? = some (C, T, N)) (he : (wd u)[q0]? = some (a, .inr (ci, fs))) (L : xLens wd u wdz uz put) (hz : xC l D cl tys Ev y wz rmz wdz (.ref a :: As) uz pz cz sz) (hE : xEok Ev) (hR : xRm rm rmz nz cz sz kc ks) (hn : As.length = n) (hw : (st.map fun v => v.category).sum ≤ 8) (hst : st0 = As.reverse ++ .ref a :: st) (hd : decode cc pc = .ok (.invokevirtual index, 3))
    (kk : ∀ (r : Option Value) (u1 : Sz), pz r u1 → RRq l D cl tys Ev own cc nL Ts rm ret wd Qf (kc + cz) (ks + sz) (pc + 3) lv (r.toList ++ st) (put u1)) : RRq l D cl tys Ev own cc nL Ts rm ret wd Qf kc ks pc lv st0 u := by
  intro p e s m args below meth c A H locs ls hX hP hD hS hl
  obtain ⟨⟨hG, ⟨w', hw'⟩, hini, hdd⟩, hlk, hsm, hin, hsel, hyx⟩ := K
  obtain ⟨hx, hb, hml, hown, hts, hK, hEv, -⟩ := id hX
  have hcw : Cond.code y bz nz rz ∈ wz := by rw [hw']; exact List.mem_cons_self
  have hlen : ∀ sig, parseMethodDescriptor x.desc = some sig → n = sig.parameters.length := fun sig h => by
    have h2 := hdd.2.2
    rw [hyx] at h2
    rw [show (⟨owner, x.name, x.desc⟩ : MethodName).desc = x.desc from rfl, h] at h2
    exact (Option.some.inj h2).symm
  have hmh : owner ≠ "java/lang/invoke/MethodHandle" ∧ owner ≠ "java/lang/invoke/VarHandle" := by
    have h1 := hdd.1
    have h2 := hdd.2.1
    rw [hyx] at h1 h2
    exact ⟨h1, h2⟩
  refine x_lens L hX hP hD hS hl (a := (.ref a :: As).toArray) (fun hPz hDz => ?_) kk
  exact va_runU (As := As) (rest := st) (b := a) (C := C) (owner := owner) (x := x) (bytes := bz) (maxL := nz) (ret := rz) ⟨hx, hb, hml, hown, hts⟩ (hz H.size) ⟨⟨hR.1.1, hR.1.2, hR.2.1.1, hR.2.1.2, pay_in hts hG, hcw⟩, hts _ (hG _ hcw).1, hts _ hini, hmh, hlen, hts _ hlk, hts _ hsm, by rw [← hyx]; exact va_Decl.of (hts _ hin) (hts _ (hG _ hcw).1), hts _ hsel, hts _ hin⟩ ⟨xB.blind hE, va_recv hK hP hc he, fun U hU hW => x_pre hE hX hS hPz hDz U hU hW⟩ rfl hn hl.1 hst (lv_room hw) hd hR.2.2
theorem x_callI (K : xkI Ts own index y bz nz wz n) (L : xLens wd u wdz uz put) (hz : xC l D cl tys Ev y wz rmz wdz (.ref a :: As) uz pz cz sz) (hE : xEok Ev) (hR : xRm rm rmz nz cz sz kc ks) (hn : As.length = n) (hw : (st.map fun v => v.category).sum ≤ 8) (hst : st0 = As.reverse ++ .ref a :: st) (hd : decode cc pc = .ok (.invokespecial index, 3))
    (kk : ∀ (r : Option Value) (u1 : Sz), pz r u1 → RRq l D cl tys Ev own cc nL Ts rm ret wd Qf (kc + cz) (ks + sz) (pc + 3) lv (r.toList ++ st) (put u1)) : RRq l D cl tys Ev own cc nL Ts rm ret wd Qf kc ks pc lv st0 u := by
  intro p e s m args below meth c A H locs ls hX hP hD hS hl
  obtain ⟨⟨hG, ⟨w', hw'⟩, hini, hdd⟩, hlk, hnm, hin⟩ := K
  obtain ⟨hx, hb, hml, hown, hts, hK, hEv, -⟩ := id hX
  refine x_lens L hX hP hD hS hl (a := (.ref a :: As).toArray) (fun hPz hDz => ?_) kk
  exact va_runI (As := As) (rest := st) (b := a) (bytes := bz) (maxL := nz) ⟨hx, hb, hml, hown, hts⟩ (hz H.size) ⟨callB_of n hts hG hw' hR.1.1 hR.1.2 (hts _ hini) (hts _ hlk) hdd hR.2.1, hnm, hts _ hin⟩ ⟨xB.blind hE, fun U hU hW => x_pre hE hX hS hPz hDz U hU hW⟩ rfl hn hl.1 hst (lv_room hw) hd hR.2.2
theorem x_callIN (K : xkIN Ev Ts own index y bz nz wz n) (L : xLens wd u wdz uz put) (hz : xC l D cl tys Ev y wz rmz wdz (.ref a :: As) uz pz cz sz) (hE : xEok Ev) (hR : xRm rm rmz nz cz sz kc ks) (hn : As.length = n) (hw : (st.map fun v => v.category).sum ≤ 8) (hst : st0 = As.reverse ++ .ref a :: st) (hd : decode cc pc = .ok (.invokespecial index, 3))
    (kk : ∀ (r : Option Value) (u1 : Sz), pz r u1 → RRq l D cl tys Ev own cc nL Ts rm ret wd Qf (kc + cz) (ks + sz) (pc + 3) lv (r.toList ++ st) (put u1)) : RRq l D cl tys Ev own cc nL Ts rm ret wd Qf kc ks pc lv st0 u := by
  intro p e s m args below meth c A H locs ls hX hP hD hS hl
  obtain ⟨⟨hG, ⟨w', hw'⟩, hini, hdd⟩, ⟨host, hlk⟩, hnm, hin⟩ := K
  obtain ⟨hx, hb, hml, hown, hts, hK, hEv, -⟩ := id hX
  refine x_lens L hX hP hD hS hl (a := (.ref a :: As).toArray) (fun hPz hDz => ?_) kk
  exact va_runIN (As := As) (rest := st) (b := a) (bytes := bz) (maxL := nz) ⟨hx, hb, hml, hown, hts⟩ (hz H.size) ⟨va_cnB n hts hG hw' hR.1.1 hR.1.2 (hlk A s hEv) (hts _ hini) hdd hR.2.1, hnm, hts _ hin⟩ ⟨xB.blind hE, fun U hU hW => x_pre hE hX hS hPz hDz U hU hW⟩ rfl hn hl.1 hst (lv_room hw) hd hR.2.2
end RCC
end RC
abbrev wd0 : Unit → va_W := fun _ => []
def isLet (x : Int32) : Int32 := if x < 65 then 0 else if 90 < x then 0 else 1
def isDig (x : Int32) : Int32 := if x < 48 then 0 else if 57 < x then 0 else 1
