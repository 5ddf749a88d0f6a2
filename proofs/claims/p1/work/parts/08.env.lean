abbrev sK : Type := String × Nat × String × List Int32
/-- the class's String constants: whose, which entry, text, bytes -/
def strJ : List sK := [
  ("DeckFront$Card", 29, " =+-*/(),.'", [32, 61, 43, 45, 42, 47, 40, 41, 44, 46, 39]),
  ("DeckFront", 44, "the label field", [116, 104, 101, 32, 108, 97, 98, 101, 108, 32, 102, 105, 101, 108, 100]),
  ("DeckFront", 51, "no place in the deck", [110, 111, 32, 112, 108, 97, 99, 101, 32, 105, 110, 32, 116, 104, 101, 32, 100, 101, 99, 107]),
  ("DeckFront$Statement", 48, "DO", [68, 79]),
  ("DeckFront$Statement", 60, "=", [61]),
  ("DeckFront$Tape", 70, ".", [46]),
  ("DeckFront$Tape", 79, ".OR.", [46, 79, 82, 46]),
  ("DeckFront$Tape", 81, ".AND.", [46, 65, 78, 68, 46]),
  ("DeckFront$Tape", 83, ".NOT.", [46, 78, 79, 84, 46]),
  ("DeckFront$Tape", 85, ".LT.", [46, 76, 84, 46]),
  ("DeckFront$Tape", 87, ".LE.", [46, 76, 69, 46]),
  ("DeckFront$Tape", 89, ".EQ.", [46, 69, 81, 46]),
  ("DeckFront$Tape", 91, ".NE.", [46, 78, 69, 46]),
  ("DeckFront$Tape", 93, ".GT.", [46, 71, 84, 46]),
  ("DeckFront$Tape", 95, ".GE.", [46, 71, 69, 46]),
  ("DeckFront$Tape", 97, ".TRUE.", [46, 84, 82, 85, 69, 46]),
  ("DeckFront$Tape", 99, ".FALSE.", [46, 70, 65, 76, 83, 69, 46]),
  ("DeckFront$Tape", 75, "E+", [69, 43]),
  ("DeckFront$Tape", 77, "E-", [69, 45]),
  ("DeckFront$Statement", 175, ".TRUE.", [46, 84, 82, 85, 69, 46]),
  ("DeckFront$Statement", 177, ".FALSE.", [46, 70, 65, 76, 83, 69, 46]),
  ("DeckFront$Statement", 188, "()", [40, 41]),
  ("DeckFront$Statement", 116, "(", [40]),
  ("DeckFront$Statement", 62, ",", [44]),
  ("DeckFront$Statement", 35, ")", [41]),
  ("DeckFront$Statement", 167, "**", [42, 42]),
  ("DeckFront$Statement", 134, ".NOT.", [46, 78, 79, 84, 46]),
  ("DeckFront$Statement", 140, ".OR.", [46, 79, 82, 46]),
  ("DeckFront$Statement", 142, ".AND.", [46, 65, 78, 68, 46]),
  ("DeckFront$Statement", 144, ".LT.", [46, 76, 84, 46]),
  ("DeckFront$Statement", 146, ".LE.", [46, 76, 69, 46]),
  ("DeckFront$Statement", 148, ".EQ.", [46, 69, 81, 46]),
  ("DeckFront$Statement", 150, ".NE.", [46, 78, 69, 46]),
  ("DeckFront$Statement", 152, ".GT.", [46, 71, 84, 46]),
  ("DeckFront$Statement", 154, ".GE.", [46, 71, 69, 46]),
  ("DeckFront$Statement", 156, "+", [43]),
  ("DeckFront$Statement", 158, "-", [45]),
  ("DeckFront$Statement", 160, "*", [42]),
  ("DeckFront$Statement", 162, "/", [47]),
  ("DeckFront$Statement", 25, "IF(", [73, 70, 40]),
  ("DeckFront$Statement", 68, ")THEN", [41, 84, 72, 69, 78]),
  ("DeckFront$Statement", 70, "ELSEIF(", [69, 76, 83, 69, 73, 70, 40]),
  ("DeckFront$Statement", 72, "ELSE", [69, 76, 83, 69]),
  ("DeckFront$Statement", 74, "ENDIF", [69, 78, 68, 73, 70]),
  ("DeckFront$Statement", 76, "CONTINUE", [67, 79, 78, 84, 73, 78, 85, 69]),
  ("DeckFront$Statement", 78, "GOTO", [71, 79, 84, 79]),
  ("DeckFront$Statement", 80, "CALL", [67, 65, 76, 76]),
  ("DeckFront$Statement", 89, "RETURN", [82, 69, 84, 85, 82, 78]),
  ("DeckFront$Statement", 91, "STOP", [83, 84, 79, 80]),
  ("DeckFront$Statement", 93, "PRINT*,", [80, 82, 73, 78, 84, 42, 44]),
  ("DeckFront$Statement", 98, "END", [69, 78, 68]),
  ("DeckFront$Statement", 100, "INTEGER", [73, 78, 84, 69, 71, 69, 82]),
  ("DeckFront$Statement", 102, "REAL", [82, 69, 65, 76]),
  ("DeckFront$Statement", 104, "LOGICAL", [76, 79, 71, 73, 67, 65, 76]),
  ("DeckFront$Statement", 109, "DIMENSION", [68, 73, 77, 69, 78, 83, 73, 79, 78]),
  ("DeckFront$Statement", 111, "GOTO(", [71, 79, 84, 79, 40])]
def strQ (i : Nat) : sK := strJ.getD i ("", 0, "", [])
def lenS (i : Nat) : Nat := (strQ i).2.2.2.length
def bytS (i k : Nat) : Int32 := (strQ i).2.2.2.getD k 0
def nestQ : List (String × Nat × MethodName × String) := [
  ("DeckFront", 9, ({ cls := "DeckFront$Card", name := "<init>", desc := "()V" } : Jvm.MethodName), "DeckFront"),
  ("DeckFront$Deck", 17, ({ cls := "DeckFront$Statement", name := "<init>", desc := "()V" } : Jvm.MethodName), "DeckFront"),
  ("DeckFront$Statement", 3, ({ cls := "DeckFront$Tape", name := "<init>", desc := "()V" } : Jvm.MethodName), "DeckFront"),
  ("DeckFront", 25, ({ cls := "DeckFront$Structure", name := "<init>", desc := "()V" } : Jvm.MethodName), "DeckFront"),
  ("DeckFront$Card", 23, ({ cls := "DeckFront", name := "isLetter", desc := "(I)Z" } : Jvm.MethodName), "DeckFront"),
  ("DeckFront$Card", 26, ({ cls := "DeckFront", name := "isDigit", desc := "(I)Z" } : Jvm.MethodName), "DeckFront"),
  ("DeckFront$Tape", 63, ({ cls := "DeckFront", name := "isLetter", desc := "(I)Z" } : Jvm.MethodName), "DeckFront"),
  ("DeckFront$Tape", 59, ({ cls := "DeckFront", name := "isDigit", desc := "(I)Z" } : Jvm.MethodName), "DeckFront"),
  ("DeckFront$Deck", 69, ({ cls := "DeckFront", name := "typeByLetter", desc := "(J)I" } : Jvm.MethodName), "DeckFront")]
/-- one String constant, at the cells adK i and adV i, that no method here writes -/
def strE (adK adV : Nat → Nat) (A : Nat → Prop) (U : State) (i : Nat) : Prop := vk_R (strQ i).1 (strQ i).2.1 (strQ i).2.2.1 (adK i) U ∧ va_O "java/lang/String" (adK i) A U U.heap ∧ va_OF "java/lang/String" "coder" "B" (.int 0) (adK i) A U U.heap ∧ va_OF "java/lang/String" "value" "[B" (.ref (adV i)) (adK i) A U U.heap ∧ va_T .byte (adV i) (lenS i) (fun j => .int (bytS i j)) A U U.heap
/-- what stays through the whole run -/
def EvX (adK adV : Nat → Nat) (fm : Option Nat) (A : Nat → Prop) (U : State) : Prop := (va_Z "java/lang/String" "COMPACT_STRINGS" "Z" (.int 1) A U U.heap ∧ va_Z "jdk/internal/util/Preconditions" "SIOOBE_FORMATTER" "Ljava/util/function/BiFunction;" (va_rf fm) A U U.heap) ∧ (∀ i, i < 56 → strE adK adV A U i) ∧ (∀ q ∈ nestQ, va_Nw (.methodLinkNest q.1 q.2.1 q.2.2.1 q.2.2.2) U) ∧ va_AO "DeckFront$Statement" U
theorem strE.step {adK adV : Nat → Nat} {A A' : Nat → Prop} {s U : State} {i : Nat} (h : strE adK adV A s i) (hW : s.WarmedH U.vm) (hq : ∀ q : Nat, q < s.heap.size → ¬ A q → U.heap[q]? = s.heap[q]?) (hA : ∀ q, A' q → A q) : strE adK adV A' U i :=
  ⟨h.1.warm hW, ((h.2.1.moved hW.alike).kept hq).narrow hA, ((h.2.2.1.moved hW.alike).kept hq).narrow hA, ((h.2.2.2.1.moved hW.alike).kept hq).narrow hA, ((h.2.2.2.2.moved hW.alike).kept hq).narrow hA⟩
theorem EvX.ok {adK adV : Nat → Nat} {fm : Option Nat} : xEok (EvX adK adV fm) := by
  refine ⟨fun A A' s U h hW hz hq hA => ⟨⟨((h.1.1.moved hW.alike).kept hq).narrow hA, ((h.1.2.moved hW.alike).kept hq).narrow hA⟩, fun i hi => (h.2.1 i hi).step hW hq hA, fun q hq' => (h.2.2.1 q hq').warmM hW, h.2.2.2.moved hW.alike⟩, fun A U g mk a h => ⟨⟨va_Z.moved (u := U) (U := U.calling g mk a) (Vm.Alike.refl U.vm) h.1.1, va_Z.moved (u := U) (U := U.calling g mk a) (Vm.Alike.refl U.vm) h.1.2⟩, fun i hi => ?_, fun q hq => va_Nw.same (u := U) (U := U.calling g mk a) rfl rfl (h.2.2.1 q hq), va_AO.moved (u := U) (U := U.calling g mk a) (Vm.Alike.refl U.vm) h.2.2.2⟩⟩
  have h1 := h.2.1 i hi
  exact ⟨vk_R.same (u := U) (U := U.calling g mk a) rfl h1.1, va_O.moved (u := U) (U := U.calling g mk a) (Vm.Alike.refl U.vm) h1.2.1, va_OF.moved (u := U) (U := U.calling g mk a) (Vm.Alike.refl U.vm) h1.2.2.1, va_OF.moved (u := U) (U := U.calling g mk a) (Vm.Alike.refl U.vm) h1.2.2.2.1, va_T.moved (u := U) (U := U.calling g mk a) (Vm.Alike.refl U.vm) h1.2.2.2.2⟩
/-- an environment that gives all that -/
def xEv (adK adV : Nat → Nat) (fm : Option Nat) (Ev : (Nat → Prop) → State → Prop) : Prop := ∀ A s, Ev A s → EvX adK adV fm A s
/-- the words of wG hold where those of the tables do -/
theorem wG_ok {args : Array Value} {s : State} (h : ∀ w ∈ lw_tbl, w.before args s = true) : ∀ w ∈ wG, w.before args s = true := by
  intro w hw
  rcases wg_tb hw with h1 | h1
  · rcases List.mem_cons.mp h1 with rfl | h1
    · exact x_selP (x0 := ({ cls := "DeckFront$Statement", name := "take", desc := "(Ljava/lang/String;)Z" } : Jvm.MethodName)) (y0 := ({ cls := "DeckFront$Tape", name := "take", desc := "(Ljava/lang/String;)Z" } : Jvm.MethodName)) rfl ⟨by decide, by decide⟩ (h _ (wt_3 (List.mem_of_getElem? (i := 72) rfl))) (h _ (wt_2 (List.mem_of_getElem? (i := 62) rfl))) (h _ (wt_2 (List.mem_of_getElem? (i := 63) rfl)))
    · rcases List.mem_cons.mp h1 with rfl | h1
      · exact x_selP (x0 := ({ cls := "DeckFront$Statement", name := "take", desc := "(Ljava/lang/String;)Z" } : Jvm.MethodName)) (y0 := ({ cls := "DeckFront$Tape", name := "take", desc := "(Ljava/lang/String;)Z" } : Jvm.MethodName)) rfl ⟨by decide, by decide⟩ (h _ (wt_3 (List.mem_of_getElem? (i := 72) rfl))) (h _ (wt_3 (List.mem_of_getElem? (i := 144) rfl))) (h _ (wt_3 (List.mem_of_getElem? (i := 145) rfl)))
      · rcases List.mem_cons.mp h1 with rfl | h1
        · exact x_selP (x0 := ({ cls := "DeckFront$Statement", name := "take", desc := "(Ljava/lang/String;)Z" } : Jvm.MethodName)) (y0 := ({ cls := "DeckFront$Tape", name := "take", desc := "(Ljava/lang/String;)Z" } : Jvm.MethodName)) rfl ⟨by decide, by decide⟩ (h _ (wt_3 (List.mem_of_getElem? (i := 72) rfl))) (h _ (wt_3 (List.mem_of_getElem? (i := 149) rfl))) (h _ (wt_3 (List.mem_of_getElem? (i := 150) rfl)))
        · cases h1
  · exact h w h1
section RE
variable {S : Type} {l : Launch} {D : va_G} {cl : List vw_C} {tys : List (ClassId × FieldType)} {Ev : (Nat → Prop) → State → Prop} {own : String} {cc : ByteArray} {nL : Nat} {Ts : List Cond} {rm : Room} {ret : Option FieldType} {wd : S → va_W} {post : Option Value → S → Prop} {mc ms kc ks : Nat} {pc : Nat} {lv lv' : List (Nat × Value)} {st : List Value} {u u' : S}
theorem x_ldcS {index q : Nat} {tx : String} (hZ : ∀ (A : Nat → Prop) (s : State), Ev A s → vk_R own index tx q s) (hd : decode cc pc = .ok (.ldc index, 2)) (kk : RR l D cl tys Ev own cc nL Ts rm ret wd post mc ms kc ks (pc + 2) lv (.ref q :: st) u) : RR l D cl tys Ev own cc nL Ts rm ret wd post mc ms kc ks pc lv st u := by
  intro p e s m args below meth c A H locs ls hX hP hD hS hl
  obtain ⟨hx, hb, hml, hown, hts, hK, hEv, -⟩ := id hX
  exact va_ldcS hx hb hown (hZ A s hEv) hd (kk p e s m args below meth c A H locs ls hX hP hD hS hl)
theorem x_gets {C n d : String} {v : Value} {index : Nat} (hZ : ∀ (A : Nat → Prop) (s : State), Ev A s → va_Z C n d v A s s.heap) (hlk : Cond.fieldLink own index C n d ∈ Ts) (hd : decode cc pc = .ok (.getstatic index, 3)) (kk : RR l D cl tys Ev own cc nL Ts rm ret wd post mc ms kc ks (pc + 3) lv (v :: st) u) : RR l D cl tys Ev own cc nL Ts rm ret wd post mc ms kc ks pc lv st u := by
  intro p e s m args below meth c A H locs ls hX hP hD hS hl
  obtain ⟨hx, hb, hml, hown, hts, hK, hEv, -⟩ := id hX
  exact va_gets hx hb (hZ A s hEv) hS hown (hts _ hlk) (fun _ h => h) hd (kk p e s m args below meth c A H locs ls hX hP hD hS hl)
theorem x_getO {o n d : String} {v : Value} {index q : Nat} (hO : ∀ (A : Nat → Prop) (s : State), Ev A s → va_OF o n d v q A s s.heap) (hlk : Cond.fieldLink own index o n d ∈ Ts) (hd : decode cc pc = .ok (.getfield index, 3)) (kk : RR l D cl tys Ev own cc nL Ts rm ret wd post mc ms kc ks (pc + 3) lv (v :: st) u) : RR l D cl tys Ev own cc nL Ts rm ret wd post mc ms kc ks pc lv (.ref q :: st) u := by
  intro p e s m args below meth c A H locs ls hX hP hD hS hl
  obtain ⟨hx, hb, hml, hown, hts, hK, hEv, -⟩ := id hX
  exact vk_getf hx hb (hO A s hEv) hS hown (hts _ hlk) (fun _ h => h) hd (kk p e s m args below meth c A H locs ls hX hP hD hS hl)
theorem x_tb {t N : Nat} {f : Nat → Int32} {i : Int32} (hT : ∀ (A : Nat → Prop) (s : State), Ev A s → va_T .byte t N (fun j => .int (f j)) A s s.heap) (hin : vp_in i N) (hd : decode cc pc = .ok (.baload, 1)) (kk : RR l D cl tys Ev own cc nL Ts rm ret wd post mc ms kc ks (pc + 1) lv (.int (f i.toNatClampNeg) :: st) u) : RR l D cl tys Ev own cc nL Ts rm ret wd post mc ms kc ks pc lv (.int i :: .ref t :: st) u := by
  intro p e s m args below meth c A H locs ls hX hP hD hS hl
  obtain ⟨hx, hb, hml, hown, hts, hK, hEv, -⟩ := id hX
  exact va_tb hx hb (hT A s hEv) hS hin rfl hd (kk p e s m args below meth c A H locs ls hX hP hD hS hl)
theorem x_tlen {t N : Nat} {f : Nat → Int32} (hT : ∀ (A : Nat → Prop) (s : State), Ev A s → va_T .byte t N (fun j => .int (f j)) A s s.heap) (hd : decode cc pc = .ok (.arraylength, 1)) (kk : RR l D cl tys Ev own cc nL Ts rm ret wd post mc ms kc ks (pc + 1) lv (.int (nI N) :: st) u) : RR l D cl tys Ev own cc nL Ts rm ret wd post mc ms kc ks pc lv (.ref t :: st) u := by
  intro p e s m args below meth c A H locs ls hX hP hD hS hl
  obtain ⟨hx, hb, hml, hown, hts, hK, hEv, -⟩ := id hX
  exact va_tlen hx hb (hT A s hEv) hS rfl hd (kk p e s m args below meth c A H locs ls hX hP hD hS hl)
theorem x_i2b {x : Int32} (hd : decode cc pc = .ok (.i2b, 1)) (kk : RR l D cl tys Ev own cc nL Ts rm ret wd post mc ms kc ks (pc + 1) lv (.int x.toInt8.toInt32 :: st) u) : RR l D cl tys Ev own cc nL Ts rm ret wd post mc ms kc ks pc lv (.int x :: st) u := by
  intro p e s m args below meth c A H locs ls hX hP hD hS hl
  exact lv_i2b hX.1 hX.2.1 hd rfl (kk p e s m args below meth c A H locs ls hX hP hD hS hl)
theorem x_mmax {index : Nat} {x y : Int32} (hlk : Cond.methodLink own index Lib.Math.max.name ∈ Ts) (hst : Cond.static Lib.Math.max.name ∈ Ts) (hini : Cond.initialized "java/lang/Math" ∈ Ts) (hcd : Cond.code Lib.Math.max.name Lib.Math.max.code 2 (some .int) ∈ Ts) (hf : 1 ≤ rm.frames) (hlo : (st.map fun v => v.category).sum + 13 ≤ rm.locals) (hc : kc ≤ rm.cells) (hs : ks ≤ rm.slots) (hd : decode cc pc = .ok (.invokestatic index, 3)) (kk : RR l D cl tys Ev own cc nL Ts rm ret wd post mc ms kc ks (pc + 3) lv (.int (if x < y then y else x) :: st) u) : RR l D cl tys Ev own cc nL Ts rm ret wd post mc ms kc ks pc lv (.int y :: .int x :: st) u := by
  intro p e s m args below meth c A H locs ls hX hP hD hS hl
  obtain ⟨hx, hb, hml, hown, hts, hK, hEv, -⟩ := id hX
  exact va_mmax hx hb (by rw [hml]; exact hl.1.symm) hown (hts _ hlk) (hts _ hst) (hts _ hini) (hts _ hcd) hf hlo hc hs hd (kk p e s m args below meth c A H locs ls hX hP hD hS hl)
theorem x_mmin {index : Nat} {x y : Int32} (hlk : Cond.methodLink own index Lib.Math.min.name ∈ Ts) (hst : Cond.static Lib.Math.min.name ∈ Ts) (hini : Cond.initialized "java/lang/Math" ∈ Ts) (hcd : Cond.code Lib.Math.min.name Lib.Math.min.code 2 (some .int) ∈ Ts) (hf : 1 ≤ rm.frames) (hlo : (st.map fun v => v.category).sum + 13 ≤ rm.locals) (hc : kc ≤ rm.cells) (hs : ks ≤ rm.slots) (hd : decode cc pc = .ok (.invokestatic index, 3)) (kk : RR l D cl tys Ev own cc nL Ts rm ret wd post mc ms kc ks (pc + 3) lv (.int (if y < x then y else x) :: st) u) : RR l D cl tys Ev own cc nL Ts rm ret wd post mc ms kc ks pc lv (.int y :: .int x :: st) u := by
  intro p e s m args below meth c A H locs ls hX hP hD hS hl
  obtain ⟨hx, hb, hml, hown, hts, hK, hEv, -⟩ := id hX
  exact va_mmin hx hb (by rw [hml]; exact hl.1.symm) hown (hts _ hlk) (hts _ hst) (hts _ hini) (hts _ hcd) hf hlo hc hs hd (kk p e s m args below meth c A H locs ls hX hP hD hS hl)
end RE
