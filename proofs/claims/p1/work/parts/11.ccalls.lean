def fsC (a : Nat → Nat) (u : MS) : List Value := [.ref (a 0), .int (gI u 1)]
def wdC (o : Nat) (a : Nat → Nat) (cs : Nat → ClassId) (u : MS) : va_W := (o, .inr (0, fsC a u)) :: [(a 0, .inl (cs 1, 72, .inl (gA u 0)))]
section
variable (o : Nat) (a : Nat → Nat) (cs : Nat → ClassId) (u : MS)
theorem eC_o : (wdC o a cs u)[0]? = some (o, .inr (0, fsC a u)) := rfl
theorem eC_0 : (wdC o a cs u)[1]? = some (a 0, .inl (cs 1, 72, .inl (gA u 0))) := rfl
theorem sC_0 (i : Nat) (v : Int32) : (wdC o a cs u).set 1 (a 0, .inl (cs 1, 72, .inl (upd (gA u 0) i v))) = wdC o a cs (sA u 0 i v) := rfl
theorem sC_1 (v : Int32) : (wdC o a cs u).set 0 (o, .inr (0, (fsC a u).set 1 (.int v))) = wdC o a cs (sI u 1 v) := rfl
end
def fsS (a : Nat → Nat) (u : MS) : List Value := [.ref (a 0), .ref (a 1), .ref (a 2), .ref (a 3), .int (gI u 4), .int (gI u 5), .int (gI u 6), .int (gI u 7), .int (gI u 8)]
def wdS (o : Nat) (a : Nat → Nat) (cs : Nat → ClassId) (u : MS) : va_W := (o, .inr (2, fsS a u)) :: [(a 0, .inl (cs 1, 80, .inl (gA u 0))), (a 1, .inl (cs 0, 80, .inl (gA u 1))), (a 2, .inl (cs 0, 80, .inl (gA u 2))), (a 3, .inl (cs 0, 80, .inl (gA u 3)))]
section
variable (o : Nat) (a : Nat → Nat) (cs : Nat → ClassId) (u : MS)
theorem eS_o : (wdS o a cs u)[0]? = some (o, .inr (2, fsS a u)) := rfl
theorem eS_0 : (wdS o a cs u)[1]? = some (a 0, .inl (cs 1, 80, .inl (gA u 0))) := rfl
theorem sS_0 (i : Nat) (v : Int32) : (wdS o a cs u).set 1 (a 0, .inl (cs 1, 80, .inl (upd (gA u 0) i v))) = wdS o a cs (sA u 0 i v) := rfl
theorem eS_1 : (wdS o a cs u)[2]? = some (a 1, .inl (cs 0, 80, .inl (gA u 1))) := rfl
theorem sS_1 (i : Nat) (v : Int32) : (wdS o a cs u).set 2 (a 1, .inl (cs 0, 80, .inl (upd (gA u 1) i v))) = wdS o a cs (sA u 1 i v) := rfl
theorem eS_2 : (wdS o a cs u)[3]? = some (a 2, .inl (cs 0, 80, .inl (gA u 2))) := rfl
theorem sS_2 (i : Nat) (v : Int32) : (wdS o a cs u).set 3 (a 2, .inl (cs 0, 80, .inl (upd (gA u 2) i v))) = wdS o a cs (sA u 2 i v) := rfl
theorem eS_3 : (wdS o a cs u)[4]? = some (a 3, .inl (cs 0, 80, .inl (gA u 3))) := rfl
theorem sS_3 (i : Nat) (v : Int32) : (wdS o a cs u).set 4 (a 3, .inl (cs 0, 80, .inl (upd (gA u 3) i v))) = wdS o a cs (sA u 3 i v) := rfl
theorem sS_4 (v : Int32) : (wdS o a cs u).set 0 (o, .inr (2, (fsS a u).set 4 (.int v))) = wdS o a cs (sI u 4 v) := rfl
theorem sS_5 (v : Int32) : (wdS o a cs u).set 0 (o, .inr (2, (fsS a u).set 5 (.int v))) = wdS o a cs (sI u 5 v) := rfl
theorem sS_6 (v : Int32) : (wdS o a cs u).set 0 (o, .inr (2, (fsS a u).set 6 (.int v))) = wdS o a cs (sI u 6 v) := rfl
theorem sS_7 (v : Int32) : (wdS o a cs u).set 0 (o, .inr (2, (fsS a u).set 7 (.int v))) = wdS o a cs (sI u 7 v) := rfl
theorem sS_8 (v : Int32) : (wdS o a cs u).set 0 (o, .inr (2, (fsS a u).set 8 (.int v))) = wdS o a cs (sI u 8 v) := rfl
end
theorem k_D_97 {a : Cond} : xkS (a :: wG) "DeckFront" 97 y_D_isLetter b_D_isLetter 1 (Option.some Jvm.ClassFile.FieldType.boolean) w_D_isLetter 1 := ⟨⟨gG tw_160, ⟨_, rfl⟩, cG tw_1, by decide, by decide, by decide +kernel⟩, cG tw_289, cG tw_159⟩
theorem k_D_101 {a : Cond} : xkS (a :: wG) "DeckFront" 101 y_D_isDigit b_D_isDigit 1 (Option.some Jvm.ClassFile.FieldType.boolean) w_D_isDigit 1 := ⟨⟨gG tw_163, ⟨_, rfl⟩, cG tw_1, by decide, by decide, by decide +kernel⟩, cG tw_290, cG tw_162⟩
theorem k_C_15 {a : Cond} : xkS (a :: wG) "DeckFront$Card" 15 y_C_isCardSign b_C_isCardSign 1 (Option.some Jvm.ClassFile.FieldType.boolean) w_C_isCardSign 1 := ⟨⟨gG tw_157, ⟨_, rfl⟩, cG tw_2, by decide, by decide, by decide +kernel⟩, cG tw_155, cG tw_156⟩
theorem k_C_23 {Ev : (Nat → Prop) → State → Prop} {adK adV : Nat → Nat} {fm : Option Nat} (X : xEv adK adV fm Ev) {a : Cond} : xkSN Ev (a :: wG) "DeckFront$Card" 23 y_D_isLetter b_D_isLetter 1 (Option.some Jvm.ClassFile.FieldType.boolean) w_D_isLetter 1 := ⟨⟨gG tw_160, ⟨_, rfl⟩, cG tw_1, by decide, by decide, by decide +kernel⟩, ⟨_, fun A s h => (X A s h).2.2.1 _ (List.mem_of_getElem? (i := 4) rfl)⟩, cG tw_159⟩
theorem k_C_26 {Ev : (Nat → Prop) → State → Prop} {adK adV : Nat → Nat} {fm : Option Nat} (X : xEv adK adV fm Ev) {a : Cond} : xkSN Ev (a :: wG) "DeckFront$Card" 26 y_D_isDigit b_D_isDigit 1 (Option.some Jvm.ClassFile.FieldType.boolean) w_D_isDigit 1 := ⟨⟨gG tw_163, ⟨_, rfl⟩, cG tw_1, by decide, by decide, by decide +kernel⟩, ⟨_, fun A s h => (X A s h).2.2.1 _ (List.mem_of_getElem? (i := 5) rfl)⟩, cG tw_162⟩
theorem k_C_31 {a : Cond} : xkV (a :: wG) "DeckFront$Card" 31 "java/lang/String" y_JS_indexOf0 b_JS_indexOf0 2 (Option.some Jvm.ClassFile.FieldType.int) w_JS_indexOf0 1 := ⟨⟨gG tw_168, ⟨_, rfl⟩, cG tw_8, by decide, by decide, by decide +kernel⟩, cG tw_165, cG tw_166, fun _ _ h => h _ (cG tw_167)⟩
theorem k_C_37 {a : Cond} : xkV (a :: wG) "DeckFront$Card" 37 "DeckFront$Card" y_C_isBlankTo b_C_isBlankTo 3 (Option.some Jvm.ClassFile.FieldType.boolean) w_C_isBlankTo 1 := ⟨⟨gG tw_413, ⟨_, rfl⟩, cG tw_2, by decide, by decide, by decide +kernel⟩, cG tw_410, cG tw_411, fun _ _ h => h _ (cG tw_412)⟩
theorem k_C_40 {a : Cond} : xkV (a :: wG) "DeckFront$Card" 40 "DeckFront$Card" y_C_continuesOne b_C_continuesOne 1 (Option.some Jvm.ClassFile.FieldType.boolean) w_C_continuesOne 0 := ⟨⟨gG tw_421, ⟨_, rfl⟩, cG tw_2, by decide, by decide, by decide +kernel⟩, cG tw_418, cG tw_419, fun _ _ h => h _ (cG tw_420)⟩
theorem k_T_42 {a : Cond} : xkV (a :: wG) "DeckFront$Tape" 42 "java/lang/String" y_JS_length b_JS_length 1 (Option.some Jvm.ClassFile.FieldType.int) w_JS_length 0 := ⟨⟨gG tw_182, ⟨_, rfl⟩, cG tw_8, by decide, by decide, by decide +kernel⟩, cG tw_560, cG tw_180, fun _ _ h => h _ (cG tw_181)⟩
theorem k_T_47 {a : Cond} : xkV (a :: wG) "DeckFront$Tape" 47 "java/lang/String" y_JS_charAt b_JS_charAt 2 (Option.some Jvm.ClassFile.FieldType.char) w_JS_charAt 1 := ⟨⟨gG tw_564, ⟨_, rfl⟩, cG tw_8, by decide, by decide, by decide +kernel⟩, cG tw_561, cG tw_562, fun _ _ h => h _ (cG tw_563)⟩
theorem k_T_51 {a : Cond} : xkV (a :: wG) "DeckFront$Tape" 51 "DeckFront$Statement" y_T_stands b_T_stands 4 (Option.some Jvm.ClassFile.FieldType.boolean) w_T_stands 2 := ⟨⟨gG tw_559, ⟨_, rfl⟩, cG tw_4, by decide, by decide, by decide +kernel⟩, cG tw_555, cG tw_556, fun _ _ h => h _ (cG tw_558)⟩
theorem k_T_55 {a : Cond} : xkV (a :: wG) "DeckFront$Tape" 55 "DeckFront$Statement" y_T_isNext b_T_isNext 2 (Option.some Jvm.ClassFile.FieldType.boolean) w_T_isNext 1 := ⟨⟨gG tw_597, ⟨_, rfl⟩, cG tw_4, by decide, by decide, by decide +kernel⟩, cG tw_593, cG tw_594, fun _ _ h => h _ (cG tw_596)⟩
theorem k_T_59 {Ev : (Nat → Prop) → State → Prop} {adK adV : Nat → Nat} {fm : Option Nat} (X : xEv adK adV fm Ev) {a : Cond} : xkSN Ev (a :: wG) "DeckFront$Tape" 59 y_D_isDigit b_D_isDigit 1 (Option.some Jvm.ClassFile.FieldType.boolean) w_D_isDigit 1 := ⟨⟨gG tw_163, ⟨_, rfl⟩, cG tw_1, by decide, by decide, by decide +kernel⟩, ⟨_, fun A s h => (X A s h).2.2.1 _ (List.mem_of_getElem? (i := 7) rfl)⟩, cG tw_162⟩
theorem k_T_63 {Ev : (Nat → Prop) → State → Prop} {adK adV : Nat → Nat} {fm : Option Nat} (X : xEv adK adV fm Ev) {a : Cond} : xkSN Ev (a :: wG) "DeckFront$Tape" 63 y_D_isLetter b_D_isLetter 1 (Option.some Jvm.ClassFile.FieldType.boolean) w_D_isLetter 1 := ⟨⟨gG tw_160, ⟨_, rfl⟩, cG tw_1, by decide, by decide, by decide +kernel⟩, ⟨_, fun A s h => (X A s h).2.2.1 _ (List.mem_of_getElem? (i := 6) rfl)⟩, cG tw_159⟩
theorem k_T_66 {a : Cond} : xkV (a :: wG) "DeckFront$Tape" 66 "DeckFront$Statement" y_T_digitsEnd b_T_digitsEnd 3 (Option.some Jvm.ClassFile.FieldType.int) w_T_digitsEnd 1 := ⟨⟨gG tw_626, ⟨_, rfl⟩, cG tw_4, by decide, by decide, by decide +kernel⟩, cG tw_623, cG tw_625, fun _ _ h => h _ (cG tq_digitsEnd)⟩
theorem k_T_72 {a : Cond} : xkV (a :: wG) "DeckFront$Tape" 72 "DeckFront$Statement" y_T_standsLogicalWord b_T_standsLogicalWord 2 (Option.some Jvm.ClassFile.FieldType.boolean) w_T_standsLogicalWord 1 := ⟨⟨gG tw_631, ⟨_, rfl⟩, cG tw_4, by decide, by decide, by decide +kernel⟩, cG tw_628, cG tw_630, fun _ _ h => h _ (cG tq_standsLogicalWord)⟩
theorem k_T_101 {a : Cond} : xkV (a :: wG) "DeckFront$Tape" 101 "DeckFront$Statement" y_T_nameAt b_T_nameAt 5 (Option.some Jvm.ClassFile.FieldType.long) w_T_nameAt 1 := ⟨⟨gG tw_304, ⟨_, rfl⟩, cG tw_4, by decide, by decide, by decide +kernel⟩, cG tw_301, cG tw_303, fun _ _ h => h _ (cG tq_nameAt)⟩
