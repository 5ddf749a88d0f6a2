def T_C : u_T := fun k => match k with
  | 0 => ("DeckFront$Card", "signs", "[C", true)
  | _ => ("DeckFront$Card", "length", "I", false)
def ty_C : Nat → FieldType := fun k => match k with
  | 0 => (.array .char)
  | _ => .int
theorem nm_C : ∀ a, a < 2 → ∀ b, b < 2 → a ≠ b → (T_C a).2.1 ≠ (T_C b).2.1 := by decide +kernel
theorem tk_C : ∀ k, k < 2 → parseFieldDescriptor (T_C k).2.2.1 = some (ty_C k) := by decide +kernel
theorem uw0_C : ∀ k, k < 2 → u_lay "DeckFront$Card" T_C k ∈ wG := fun k hk => wg_in (by revert hk; revert k; decide +kernel) (by revert hk; revert k; decide +kernel)
theorem uw_C {a : Cond} : ∀ w ∈ u_ws "DeckFront$Card" T_C 2, w ∈ a :: wG := fun w hw => by
  obtain ⟨k, hk, rfl⟩ := List.mem_map.mp hw
  exact cG (uw0_C k (List.mem_range.mp hk))
def T_K : u_T := fun k => match k with
  | 0 => ("DeckFront$Deck", "rows", "[LDeckFront$Statement;", true)
  | _ => ("DeckFront$Deck", "count", "I", false)
def ty_K : Nat → FieldType := fun k => match k with
  | 0 => (.array (.object "DeckFront$Statement"))
  | _ => .int
theorem nm_K : ∀ a, a < 2 → ∀ b, b < 2 → a ≠ b → (T_K a).2.1 ≠ (T_K b).2.1 := by decide +kernel
theorem tk_K : ∀ k, k < 2 → parseFieldDescriptor (T_K k).2.2.1 = some (ty_K k) := by decide +kernel
theorem uw0_K : ∀ k, k < 2 → u_lay "DeckFront$Deck" T_K k ∈ wG := fun k hk => wg_in (by revert hk; revert k; decide +kernel) (by revert hk; revert k; decide +kernel)
theorem uw_K {a : Cond} : ∀ w ∈ u_ws "DeckFront$Deck" T_K 2, w ∈ a :: wG := fun w hw => by
  obtain ⟨k, hk, rfl⟩ := List.mem_map.mp hw
  exact cG (uw0_K k (List.mem_range.mp hk))
def T_S : u_T := fun k => match k with
  | 0 => ("DeckFront$Tape", "text", "[C", true)
  | 1 => ("DeckFront$Tape", "opens", "[I", true)
  | 2 => ("DeckFront$Tape", "closes", "[I", true)
  | 3 => ("DeckFront$Tape", "roles", "[I", true)
  | 4 => ("DeckFront$Tape", "length", "I", false)
  | 5 => ("DeckFront$Tape", "at", "I", false)
  | 6 => ("DeckFront$Tape", "inQuote", "Z", false)
  | 7 => ("DeckFront$Statement", "number", "I", false)
  | _ => ("DeckFront$Statement", "is", "I", false)
def ty_S : Nat → FieldType := fun k => match k with
  | 0 => (.array .char)
  | 1 => (.array .int)
  | 2 => (.array .int)
  | 3 => (.array .int)
  | 4 => .int
  | 5 => .int
  | 6 => .boolean
  | 7 => .int
  | _ => .int
theorem nm_S : ∀ a, a < 9 → ∀ b, b < 9 → a ≠ b → (T_S a).2.1 ≠ (T_S b).2.1 := by decide +kernel
theorem tk_S : ∀ k, k < 9 → parseFieldDescriptor (T_S k).2.2.1 = some (ty_S k) := by decide +kernel
theorem uw0_S : ∀ k, k < 9 → u_lay "DeckFront$Statement" T_S k ∈ wG := fun k hk => wg_in (by revert hk; revert k; decide +kernel) (by revert hk; revert k; decide +kernel)
theorem uw_S {a : Cond} : ∀ w ∈ u_ws "DeckFront$Statement" T_S 9, w ∈ a :: wG := fun w hw => by
  obtain ⟨k, hk, rfl⟩ := List.mem_map.mp hw
  exact cG (uw0_S k (List.mem_range.mp hk))
def T_U : u_T := fun k => match k with
  | 0 => ("DeckFront$Structure", "open", "[I", true)
  | 1 => ("DeckFront$Structure", "depth", "I", false)
  | 2 => ("DeckFront$Structure", "found", "I", false)
  | _ => ("DeckFront$Structure", "place", "I", false)
def ty_U : Nat → FieldType := fun k => match k with
  | 0 => (.array .int)
  | 1 => .int
  | 2 => .int
  | _ => .int
theorem nm_U : ∀ a, a < 4 → ∀ b, b < 4 → a ≠ b → (T_U a).2.1 ≠ (T_U b).2.1 := by decide +kernel
theorem tk_U : ∀ k, k < 4 → parseFieldDescriptor (T_U k).2.2.1 = some (ty_U k) := by decide +kernel
theorem uw0_U : ∀ k, k < 4 → u_lay "DeckFront$Structure" T_U k ∈ wG := fun k hk => wg_in (by revert hk; revert k; decide +kernel) (by revert hk; revert k; decide +kernel)
theorem uw_U {a : Cond} : ∀ w ∈ u_ws "DeckFront$Structure" T_U 4, w ∈ a :: wG := fun w hw => by
  obtain ⟨k, hk, rfl⟩ := List.mem_map.mp hw
  exact cG (uw0_U k (List.mem_range.mp hk))
def T_D : u_T := fun k => match k with
  | 0 => ("DeckFront", "written", "LDeckFront$Card;", true)
  | 1 => ("DeckFront", "deck", "LDeckFront$Deck;", true)
  | _ => ("DeckFront", "structure", "LDeckFront$Structure;", true)
def ty_D : Nat → FieldType := fun k => match k with
  | 0 => (.object "DeckFront$Card")
  | 1 => (.object "DeckFront$Deck")
  | _ => (.object "DeckFront$Structure")
theorem nm_D : ∀ a, a < 3 → ∀ b, b < 3 → a ≠ b → (T_D a).2.1 ≠ (T_D b).2.1 := by decide +kernel
theorem tk_D : ∀ k, k < 3 → parseFieldDescriptor (T_D k).2.2.1 = some (ty_D k) := by decide +kernel
theorem uw0_D : ∀ k, k < 3 → u_lay "DeckFront" T_D k ∈ wG := fun k hk => wg_in (by revert hk; revert k; decide +kernel) (by revert hk; revert k; decide +kernel)
theorem uw_D {a : Cond} : ∀ w ∈ u_ws "DeckFront" T_D 3, w ∈ a :: wG := fun w hw => by
  obtain ⟨k, hk, rfl⟩ := List.mem_map.mp hw
  exact cG (uw0_D k (List.mem_range.mp hk))
def T_M : u_T := fun k => match k with
  | 0 => ("DeckFrontModel", "thrown", "I", false)
  | 1 => ("DeckFrontModel", "typed", "I", false)
  | 2 => ("DeckFrontModel", "card", "[C", true)
  | 3 => ("DeckFrontModel", "statements", "I", false)
  | 4 => ("DeckFrontModel", "labels", "[I", true)
  | 5 => ("DeckFrontModel", "sizes", "[I", true)
  | 6 => ("DeckFrontModel", "texts", "[C", true)
  | 7 => ("DeckFrontModel", "begin", "I", false)
  | 8 => ("DeckFrontModel", "end", "I", false)
  | 9 => ("DeckFrontModel", "p", "I", false)
  | 10 => ("DeckFrontModel", "shown", "I", false)
  | 11 => ("DeckFrontModel", "show", "[C", true)
  | 12 => ("DeckFrontModel", "names", "I", false)
  | 13 => ("DeckFrontModel", "nameOf", "[J", true)
  | 14 => ("DeckFrontModel", "useOf", "[I", true)
  | 15 => ("DeckFrontModel", "typeOf", "[I", true)
  | 16 => ("DeckFrontModel", "aims", "I", false)
  | 17 => ("DeckFrontModel", "aim", "[I", true)
  | 18 => ("DeckFrontModel", "parts", "I", false)
  | 19 => ("DeckFrontModel", "from", "[I", true)
  | 20 => ("DeckFrontModel", "to", "[I", true)
  | 21 => ("DeckFrontModel", "left", "[I", true)
  | 22 => ("DeckFrontModel", "right", "[I", true)
  | 23 => ("DeckFrontModel", "next", "[I", true)
  | 24 => ("DeckFrontModel", "sort", "[I", true)
  | 25 => ("DeckFrontModel", "values", "I", false)
  | 26 => ("DeckFrontModel", "pile", "[I", true)
  | 27 => ("DeckFrontModel", "signs", "I", false)
  | 28 => ("DeckFrontModel", "binds", "[I", true)
  | 29 => ("DeckFrontModel", "signFrom", "[I", true)
  | 30 => ("DeckFrontModel", "signTo", "[I", true)
  | 31 => ("DeckFrontModel", "before", "[Z", true)
  | 32 => ("DeckFrontModel", "writes", "[I", true)
  | 33 => ("DeckFrontModel", "open", "I", false)
  | 34 => ("DeckFrontModel", "opened", "[I", true)
  | _ => ("DeckFrontModel", "hadElse", "[Z", true)
def ty_M : Nat → FieldType := fun k => match k with
  | 0 => .int
  | 1 => .int
  | 2 => (.array .char)
  | 3 => .int
  | 4 => (.array .int)
  | 5 => (.array .int)
  | 6 => (.array .char)
  | 7 => .int
  | 8 => .int
  | 9 => .int
  | 10 => .int
  | 11 => (.array .char)
  | 12 => .int
  | 13 => (.array .long)
  | 14 => (.array .int)
  | 15 => (.array .int)
  | 16 => .int
  | 17 => (.array .int)
  | 18 => .int
  | 19 => (.array .int)
  | 20 => (.array .int)
  | 21 => (.array .int)
  | 22 => (.array .int)
  | 23 => (.array .int)
  | 24 => (.array .int)
  | 25 => .int
  | 26 => (.array .int)
  | 27 => .int
  | 28 => (.array .int)
  | 29 => (.array .int)
  | 30 => (.array .int)
  | 31 => (.array .boolean)
  | 32 => (.array .int)
  | 33 => .int
  | 34 => (.array .int)
  | _ => (.array .boolean)
theorem nm_M : ∀ a, a < 36 → ∀ b, b < 36 → a ≠ b → (T_M a).2.1 ≠ (T_M b).2.1 := by decide +kernel
theorem tk_M : ∀ k, k < 36 → parseFieldDescriptor (T_M k).2.2.1 = some (ty_M k) := by decide +kernel
theorem uw0_M : ∀ k, k < 36 → u_lay "DeckFrontModel" T_M k ∈ wG := fun k hk => wg_in (by revert hk; revert k; decide +kernel) (by revert hk; revert k; decide +kernel)
theorem uw_M {a : Cond} : ∀ w ∈ u_ws "DeckFrontModel" T_M 36, w ∈ a :: wG := fun w hw => by
  obtain ⟨k, hk, rfl⟩ := List.mem_map.mp hw
  exact cG (uw0_M k (List.mem_range.mp hk))
abbrev clX : List vw_C := [("DeckFront$Card", T_C, 2), ("DeckFront$Deck", T_K, 2), ("DeckFront$Statement", T_S, 9), ("DeckFront$Structure", T_U, 4), ("DeckFront", T_D, 3), ("DeckFrontModel", T_M, 36)]
abbrev tysX (cs : Nat → ClassId) : List (ClassId × FieldType) := [(cs 0, .int), (cs 1, .char), (cs 2, .long), (cs 3, .boolean), (cs 4, .object "DeckFront$Statement"), (cs 5, .byte)]
theorem fw_C_1 : xFw clX 0 1 .int := ⟨_, _, _, ty_C, rfl, tk_C, nm_C, rfl, by decide +kernel⟩
theorem fw_K_1 : xFw clX 1 1 .int := ⟨_, _, _, ty_K, rfl, tk_K, nm_K, rfl, by decide +kernel⟩
theorem fw_S_4 : xFw clX 2 4 .int := ⟨_, _, _, ty_S, rfl, tk_S, nm_S, rfl, by decide +kernel⟩
theorem fw_S_5 : xFw clX 2 5 .int := ⟨_, _, _, ty_S, rfl, tk_S, nm_S, rfl, by decide +kernel⟩
theorem fw_S_6 : xFw clX 2 6 .boolean := ⟨_, _, _, ty_S, rfl, tk_S, nm_S, rfl, by decide +kernel⟩
theorem fw_S_7 : xFw clX 2 7 .int := ⟨_, _, _, ty_S, rfl, tk_S, nm_S, rfl, by decide +kernel⟩
theorem fw_S_8 : xFw clX 2 8 .int := ⟨_, _, _, ty_S, rfl, tk_S, nm_S, rfl, by decide +kernel⟩
theorem fw_U_1 : xFw clX 3 1 .int := ⟨_, _, _, ty_U, rfl, tk_U, nm_U, rfl, by decide +kernel⟩
theorem fw_U_2 : xFw clX 3 2 .int := ⟨_, _, _, ty_U, rfl, tk_U, nm_U, rfl, by decide +kernel⟩
theorem fw_U_3 : xFw clX 3 3 .int := ⟨_, _, _, ty_U, rfl, tk_U, nm_U, rfl, by decide +kernel⟩
theorem fw_M_0 : xFw clX 5 0 .int := ⟨_, _, _, ty_M, rfl, tk_M, nm_M, rfl, by decide +kernel⟩
theorem fw_M_1 : xFw clX 5 1 .int := ⟨_, _, _, ty_M, rfl, tk_M, nm_M, rfl, by decide +kernel⟩
theorem fw_M_3 : xFw clX 5 3 .int := ⟨_, _, _, ty_M, rfl, tk_M, nm_M, rfl, by decide +kernel⟩
theorem fw_M_7 : xFw clX 5 7 .int := ⟨_, _, _, ty_M, rfl, tk_M, nm_M, rfl, by decide +kernel⟩
theorem fw_M_8 : xFw clX 5 8 .int := ⟨_, _, _, ty_M, rfl, tk_M, nm_M, rfl, by decide +kernel⟩
theorem fw_M_9 : xFw clX 5 9 .int := ⟨_, _, _, ty_M, rfl, tk_M, nm_M, rfl, by decide +kernel⟩
theorem fw_M_10 : xFw clX 5 10 .int := ⟨_, _, _, ty_M, rfl, tk_M, nm_M, rfl, by decide +kernel⟩
theorem fw_M_12 : xFw clX 5 12 .int := ⟨_, _, _, ty_M, rfl, tk_M, nm_M, rfl, by decide +kernel⟩
theorem fw_M_16 : xFw clX 5 16 .int := ⟨_, _, _, ty_M, rfl, tk_M, nm_M, rfl, by decide +kernel⟩
theorem fw_M_18 : xFw clX 5 18 .int := ⟨_, _, _, ty_M, rfl, tk_M, nm_M, rfl, by decide +kernel⟩
theorem fw_M_25 : xFw clX 5 25 .int := ⟨_, _, _, ty_M, rfl, tk_M, nm_M, rfl, by decide +kernel⟩
theorem fw_M_27 : xFw clX 5 27 .int := ⟨_, _, _, ty_M, rfl, tk_M, nm_M, rfl, by decide +kernel⟩
theorem fw_M_33 : xFw clX 5 33 .int := ⟨_, _, _, ty_M, rfl, tk_M, nm_M, rfl, by decide +kernel⟩
theorem f_C_9 {a : Cond} : xF clX (a :: wG) "DeckFront$Card" 9 0 0 := ⟨_, _, _, "DeckFront$Card", uw_C, rfl, by decide, cG tw_33, Or.inl rfl⟩
theorem f_T_39 {a : Cond} : xF clX (a :: wG) "DeckFront$Tape" 39 0 0 := ⟨_, _, _, "DeckFront$Card", uw_C, rfl, by decide, cG tw_34, Or.inl rfl⟩
theorem f_C_19 {a : Cond} : xF clX (a :: wG) "DeckFront$Card" 19 0 1 := ⟨_, _, _, "DeckFront$Card", uw_C, rfl, by decide, cG tw_35, Or.inl rfl⟩
theorem f_T_36 {a : Cond} : xF clX (a :: wG) "DeckFront$Tape" 36 0 1 := ⟨_, _, _, "DeckFront$Card", uw_C, rfl, by decide, cG tw_36, Or.inl rfl⟩
theorem f_D_38 {a : Cond} : xF clX (a :: wG) "DeckFront" 38 0 1 := ⟨_, _, _, "DeckFront$Card", uw_C, rfl, by decide, cG tw_37, Or.inl rfl⟩
theorem f_U_43 {a : Cond} : xF clX (a :: wG) "DeckFront$Structure" 43 2 7 := ⟨_, _, _, "DeckFront$Statement", uw_S, rfl, by decide, cG tw_60, Or.inl rfl⟩
theorem f_K_45 {a : Cond} : xF clX (a :: wG) "DeckFront$Deck" 45 2 7 := ⟨_, _, _, "DeckFront$Statement", uw_S, rfl, by decide, cG tw_61, Or.inl rfl⟩
theorem f_D_66 {a : Cond} : xF clX (a :: wG) "DeckFront" 66 2 7 := ⟨_, _, _, "DeckFront$Statement", uw_S, rfl, by decide, cG tw_62, Or.inl rfl⟩
theorem f_S_22 {a : Cond} : xF clX (a :: wG) "DeckFront$Statement" 22 2 8 := ⟨_, _, _, "DeckFront$Statement", uw_S, rfl, by decide, cG tw_63, Or.inl rfl⟩
theorem f_U_38 {a : Cond} : xF clX (a :: wG) "DeckFront$Structure" 38 2 8 := ⟨_, _, _, "DeckFront$Statement", uw_S, rfl, by decide, cG tw_64, Or.inl rfl⟩
theorem f_K_63 {a : Cond} : xF clX (a :: wG) "DeckFront$Deck" 63 2 8 := ⟨_, _, _, "DeckFront$Statement", uw_S, rfl, by decide, cG tw_65, Or.inl rfl⟩
theorem f_D_69 {a : Cond} : xF clX (a :: wG) "DeckFront" 69 2 8 := ⟨_, _, _, "DeckFront$Statement", uw_S, rfl, by decide, cG tw_66, Or.inl rfl⟩
theorem f_T_9 {a : Cond} : xF clX (a :: wG) "DeckFront$Tape" 9 2 0 := ⟨_, _, _, "DeckFront$Tape", uw_S, rfl, by decide, cG tw_67, Or.inl rfl⟩
theorem f_S_190 {a : Cond} : xF clX (a :: wG) "DeckFront$Statement" 190 2 0 := ⟨_, _, _, "DeckFront$Statement", uw_S, rfl, by decide, cG tw_68, Or.inr (cG tw_69)⟩
theorem f_T_15 {a : Cond} : xF clX (a :: wG) "DeckFront$Tape" 15 2 1 := ⟨_, _, _, "DeckFront$Tape", uw_S, rfl, by decide, cG tw_70, Or.inl rfl⟩
theorem f_S_130 {a : Cond} : xF clX (a :: wG) "DeckFront$Statement" 130 2 1 := ⟨_, _, _, "DeckFront$Statement", uw_S, rfl, by decide, cG tw_71, Or.inr (cG tw_72)⟩
theorem f_T_19 {a : Cond} : xF clX (a :: wG) "DeckFront$Tape" 19 2 2 := ⟨_, _, _, "DeckFront$Tape", uw_S, rfl, by decide, cG tw_73, Or.inl rfl⟩
theorem f_T_22 {a : Cond} : xF clX (a :: wG) "DeckFront$Tape" 22 2 3 := ⟨_, _, _, "DeckFront$Tape", uw_S, rfl, by decide, cG tw_74, Or.inl rfl⟩
theorem f_U_89 {a : Cond} : xF clX (a :: wG) "DeckFront$Structure" 89 2 3 := ⟨_, _, _, "DeckFront$Statement", uw_S, rfl, by decide, cG tw_75, Or.inr (cG tw_76)⟩
theorem f_S_185 {a : Cond} : xF clX (a :: wG) "DeckFront$Statement" 185 2 3 := ⟨_, _, _, "DeckFront$Statement", uw_S, rfl, by decide, cG tw_77, Or.inr (cG tw_76)⟩
theorem f_T_25 {a : Cond} : xF clX (a :: wG) "DeckFront$Tape" 25 2 4 := ⟨_, _, _, "DeckFront$Tape", uw_S, rfl, by decide, cG tw_78, Or.inl rfl⟩
theorem f_S_9 {a : Cond} : xF clX (a :: wG) "DeckFront$Statement" 9 2 4 := ⟨_, _, _, "DeckFront$Statement", uw_S, rfl, by decide, cG tw_79, Or.inr (cG tw_80)⟩
theorem f_U_86 {a : Cond} : xF clX (a :: wG) "DeckFront$Structure" 86 2 4 := ⟨_, _, _, "DeckFront$Statement", uw_S, rfl, by decide, cG tw_81, Or.inr (cG tw_80)⟩
theorem f_S_15 {a : Cond} : xF clX (a :: wG) "DeckFront$Statement" 15 2 5 := ⟨_, _, _, "DeckFront$Statement", uw_S, rfl, by decide, cG tw_82, Or.inr (cG tw_83)⟩
theorem f_T_29 {a : Cond} : xF clX (a :: wG) "DeckFront$Tape" 29 2 5 := ⟨_, _, _, "DeckFront$Tape", uw_S, rfl, by decide, cG tw_84, Or.inl rfl⟩
theorem f_T_32 {a : Cond} : xF clX (a :: wG) "DeckFront$Tape" 32 2 6 := ⟨_, _, _, "DeckFront$Tape", uw_S, rfl, by decide, cG tw_85, Or.inl rfl⟩
theorem f_K_11 {a : Cond} : xF clX (a :: wG) "DeckFront$Deck" 11 1 0 := ⟨_, _, _, "DeckFront$Deck", uw_K, rfl, by decide, cG tw_106, Or.inl rfl⟩
theorem f_U_34 {a : Cond} : xF clX (a :: wG) "DeckFront$Structure" 34 1 0 := ⟨_, _, _, "DeckFront$Deck", uw_K, rfl, by decide, cG tw_107, Or.inl rfl⟩
theorem f_K_18 {a : Cond} : xF clX (a :: wG) "DeckFront$Deck" 18 1 1 := ⟨_, _, _, "DeckFront$Deck", uw_K, rfl, by decide, cG tw_108, Or.inl rfl⟩
theorem f_U_25 {a : Cond} : xF clX (a :: wG) "DeckFront$Structure" 25 1 1 := ⟨_, _, _, "DeckFront$Deck", uw_K, rfl, by decide, cG tw_109, Or.inl rfl⟩
theorem f_D_63 {a : Cond} : xF clX (a :: wG) "DeckFront" 63 1 1 := ⟨_, _, _, "DeckFront$Deck", uw_K, rfl, by decide, cG tw_110, Or.inl rfl⟩
theorem f_U_9 {a : Cond} : xF clX (a :: wG) "DeckFront$Structure" 9 3 0 := ⟨_, _, _, "DeckFront$Structure", uw_U, rfl, by decide, cG tw_122, Or.inl rfl⟩
theorem f_U_15 {a : Cond} : xF clX (a :: wG) "DeckFront$Structure" 15 3 1 := ⟨_, _, _, "DeckFront$Structure", uw_U, rfl, by decide, cG tw_123, Or.inl rfl⟩
theorem f_U_19 {a : Cond} : xF clX (a :: wG) "DeckFront$Structure" 19 3 2 := ⟨_, _, _, "DeckFront$Structure", uw_U, rfl, by decide, cG tw_124, Or.inl rfl⟩
theorem f_D_91 {a : Cond} : xF clX (a :: wG) "DeckFront" 91 3 2 := ⟨_, _, _, "DeckFront$Structure", uw_U, rfl, by decide, cG tw_125, Or.inl rfl⟩
theorem f_U_22 {a : Cond} : xF clX (a :: wG) "DeckFront$Structure" 22 3 3 := ⟨_, _, _, "DeckFront$Structure", uw_U, rfl, by decide, cG tw_126, Or.inl rfl⟩
theorem f_D_94 {a : Cond} : xF clX (a :: wG) "DeckFront" 94 3 3 := ⟨_, _, _, "DeckFront$Structure", uw_U, rfl, by decide, cG tw_127, Or.inl rfl⟩
theorem f_D_10 {a : Cond} : xF clX (a :: wG) "DeckFront" 10 4 0 := ⟨_, _, _, "DeckFront", uw_D, rfl, by decide, cG tw_137, Or.inl rfl⟩
theorem f_D_19 {a : Cond} : xF clX (a :: wG) "DeckFront" 19 4 1 := ⟨_, _, _, "DeckFront", uw_D, rfl, by decide, cG tw_138, Or.inl rfl⟩
theorem f_D_26 {a : Cond} : xF clX (a :: wG) "DeckFront" 26 4 2 := ⟨_, _, _, "DeckFront", uw_D, rfl, by decide, cG tw_139, Or.inl rfl⟩
theorem f_M_82 {a : Cond} : xF clX (a :: wG) "DeckFrontModel" 82 5 0 := ⟨_, _, _, "DeckFrontModel", uw_M, rfl, by decide, cG tw_749, Or.inl rfl⟩
theorem f_M_96 {a : Cond} : xF clX (a :: wG) "DeckFrontModel" 96 5 1 := ⟨_, _, _, "DeckFrontModel", uw_M, rfl, by decide, cG tw_750, Or.inl rfl⟩
theorem f_M_7 {a : Cond} : xF clX (a :: wG) "DeckFrontModel" 7 5 2 := ⟨_, _, _, "DeckFrontModel", uw_M, rfl, by decide, cG tw_751, Or.inl rfl⟩
theorem f_M_99 {a : Cond} : xF clX (a :: wG) "DeckFrontModel" 99 5 3 := ⟨_, _, _, "DeckFrontModel", uw_M, rfl, by decide, cG tw_752, Or.inl rfl⟩
theorem f_M_13 {a : Cond} : xF clX (a :: wG) "DeckFrontModel" 13 5 4 := ⟨_, _, _, "DeckFrontModel", uw_M, rfl, by decide, cG tw_753, Or.inl rfl⟩
theorem f_M_17 {a : Cond} : xF clX (a :: wG) "DeckFrontModel" 17 5 5 := ⟨_, _, _, "DeckFrontModel", uw_M, rfl, by decide, cG tw_754, Or.inl rfl⟩
theorem f_M_20 {a : Cond} : xF clX (a :: wG) "DeckFrontModel" 20 5 6 := ⟨_, _, _, "DeckFrontModel", uw_M, rfl, by decide, cG tw_755, Or.inl rfl⟩
theorem f_M_319 {a : Cond} : xF clX (a :: wG) "DeckFrontModel" 319 5 7 := ⟨_, _, _, "DeckFrontModel", uw_M, rfl, by decide, cG tw_756, Or.inl rfl⟩
theorem f_M_116 {a : Cond} : xF clX (a :: wG) "DeckFrontModel" 116 5 8 := ⟨_, _, _, "DeckFrontModel", uw_M, rfl, by decide, cG tw_757, Or.inl rfl⟩
theorem f_M_126 {a : Cond} : xF clX (a :: wG) "DeckFrontModel" 126 5 9 := ⟨_, _, _, "DeckFrontModel", uw_M, rfl, by decide, cG tw_758, Or.inl rfl⟩
theorem f_M_119 {a : Cond} : xF clX (a :: wG) "DeckFrontModel" 119 5 10 := ⟨_, _, _, "DeckFrontModel", uw_M, rfl, by decide, cG tw_759, Or.inl rfl⟩
theorem f_M_23 {a : Cond} : xF clX (a :: wG) "DeckFrontModel" 23 5 11 := ⟨_, _, _, "DeckFrontModel", uw_M, rfl, by decide, cG tw_760, Or.inl rfl⟩
theorem f_M_138 {a : Cond} : xF clX (a :: wG) "DeckFrontModel" 138 5 12 := ⟨_, _, _, "DeckFrontModel", uw_M, rfl, by decide, cG tw_761, Or.inl rfl⟩
theorem f_M_26 {a : Cond} : xF clX (a :: wG) "DeckFrontModel" 26 5 13 := ⟨_, _, _, "DeckFrontModel", uw_M, rfl, by decide, cG tw_762, Or.inl rfl⟩
theorem f_M_30 {a : Cond} : xF clX (a :: wG) "DeckFrontModel" 30 5 14 := ⟨_, _, _, "DeckFrontModel", uw_M, rfl, by decide, cG tw_763, Or.inl rfl⟩
theorem f_M_33 {a : Cond} : xF clX (a :: wG) "DeckFrontModel" 33 5 15 := ⟨_, _, _, "DeckFrontModel", uw_M, rfl, by decide, cG tw_764, Or.inl rfl⟩
theorem f_M_244 {a : Cond} : xF clX (a :: wG) "DeckFrontModel" 244 5 16 := ⟨_, _, _, "DeckFrontModel", uw_M, rfl, by decide, cG tw_765, Or.inl rfl⟩
theorem f_M_36 {a : Cond} : xF clX (a :: wG) "DeckFrontModel" 36 5 17 := ⟨_, _, _, "DeckFrontModel", uw_M, rfl, by decide, cG tw_766, Or.inl rfl⟩
theorem f_M_173 {a : Cond} : xF clX (a :: wG) "DeckFrontModel" 173 5 18 := ⟨_, _, _, "DeckFrontModel", uw_M, rfl, by decide, cG tw_767, Or.inl rfl⟩
theorem f_M_39 {a : Cond} : xF clX (a :: wG) "DeckFrontModel" 39 5 19 := ⟨_, _, _, "DeckFrontModel", uw_M, rfl, by decide, cG tw_768, Or.inl rfl⟩
theorem f_M_42 {a : Cond} : xF clX (a :: wG) "DeckFrontModel" 42 5 20 := ⟨_, _, _, "DeckFrontModel", uw_M, rfl, by decide, cG tw_769, Or.inl rfl⟩
theorem f_M_45 {a : Cond} : xF clX (a :: wG) "DeckFrontModel" 45 5 21 := ⟨_, _, _, "DeckFrontModel", uw_M, rfl, by decide, cG tw_770, Or.inl rfl⟩
theorem f_M_48 {a : Cond} : xF clX (a :: wG) "DeckFrontModel" 48 5 22 := ⟨_, _, _, "DeckFrontModel", uw_M, rfl, by decide, cG tw_771, Or.inl rfl⟩
theorem f_M_51 {a : Cond} : xF clX (a :: wG) "DeckFrontModel" 51 5 23 := ⟨_, _, _, "DeckFrontModel", uw_M, rfl, by decide, cG tw_772, Or.inl rfl⟩
theorem f_M_54 {a : Cond} : xF clX (a :: wG) "DeckFrontModel" 54 5 24 := ⟨_, _, _, "DeckFrontModel", uw_M, rfl, by decide, cG tw_773, Or.inl rfl⟩
theorem f_M_176 {a : Cond} : xF clX (a :: wG) "DeckFrontModel" 176 5 25 := ⟨_, _, _, "DeckFrontModel", uw_M, rfl, by decide, cG tw_774, Or.inl rfl⟩
theorem f_M_57 {a : Cond} : xF clX (a :: wG) "DeckFrontModel" 57 5 26 := ⟨_, _, _, "DeckFrontModel", uw_M, rfl, by decide, cG tw_775, Or.inl rfl⟩
theorem f_M_179 {a : Cond} : xF clX (a :: wG) "DeckFrontModel" 179 5 27 := ⟨_, _, _, "DeckFrontModel", uw_M, rfl, by decide, cG tw_776, Or.inl rfl⟩
theorem f_M_60 {a : Cond} : xF clX (a :: wG) "DeckFrontModel" 60 5 28 := ⟨_, _, _, "DeckFrontModel", uw_M, rfl, by decide, cG tw_777, Or.inl rfl⟩
theorem f_M_63 {a : Cond} : xF clX (a :: wG) "DeckFrontModel" 63 5 29 := ⟨_, _, _, "DeckFrontModel", uw_M, rfl, by decide, cG tw_778, Or.inl rfl⟩
theorem f_M_66 {a : Cond} : xF clX (a :: wG) "DeckFrontModel" 66 5 30 := ⟨_, _, _, "DeckFrontModel", uw_M, rfl, by decide, cG tw_779, Or.inl rfl⟩
theorem f_M_69 {a : Cond} : xF clX (a :: wG) "DeckFrontModel" 69 5 31 := ⟨_, _, _, "DeckFrontModel", uw_M, rfl, by decide, cG tw_780, Or.inl rfl⟩
theorem f_M_73 {a : Cond} : xF clX (a :: wG) "DeckFrontModel" 73 5 32 := ⟨_, _, _, "DeckFrontModel", uw_M, rfl, by decide, cG tw_781, Or.inl rfl⟩
theorem f_M_336 {a : Cond} : xF clX (a :: wG) "DeckFrontModel" 336 5 33 := ⟨_, _, _, "DeckFrontModel", uw_M, rfl, by decide, cG tw_782, Or.inl rfl⟩
theorem f_M_76 {a : Cond} : xF clX (a :: wG) "DeckFrontModel" 76 5 34 := ⟨_, _, _, "DeckFrontModel", uw_M, rfl, by decide, cG tw_783, Or.inl rfl⟩
theorem f_M_79 {a : Cond} : xF clX (a :: wG) "DeckFrontModel" 79 5 35 := ⟨_, _, _, "DeckFrontModel", uw_M, rfl, by decide, cG tw_784, Or.inl rfl⟩
/-! the reference's state: whole numbers by their field, arrays by their field and place, the names -/
abbrev MS : Type := (Nat → Int32) × (Nat → Nat → Int32) × (Nat → Int64)
def gI (u : MS) (k : Nat) : Int32 := u.1 k
def gA (u : MS) (k : Nat) : Nat → Int32 := u.2.1 k
def gL (u : MS) : Nat → Int64 := u.2.2
def sI (u : MS) (k : Nat) (v : Int32) : MS := (va_up u.1 k v, u.2)
def sA (u : MS) (k i : Nat) (v : Int32) : MS := (u.1, va_up u.2.1 k (upd (u.2.1 k) i v), u.2.2)
def sL (u : MS) (i : Nat) (v : Int64) : MS := (u.1, u.2.1, vp_updL u.2.2 i v)
def fsM (a : Nat → Nat) (u : MS) : List Value := [.int (gI u 0), .int (gI u 1), .ref (a 2), .int (gI u 3), .ref (a 4), .ref (a 5), .ref (a 6), .int (gI u 7), .int (gI u 8), .int (gI u 9), .int (gI u 10), .ref (a 11), .int (gI u 12), .ref (a 13), .ref (a 14), .ref (a 15), .int (gI u 16), .ref (a 17), .int (gI u 18), .ref (a 19), .ref (a 20), .ref (a 21), .ref (a 22), .ref (a 23), .ref (a 24), .int (gI u 25), .ref (a 26), .int (gI u 27), .ref (a 28), .ref (a 29), .ref (a 30), .ref (a 31), .ref (a 32), .int (gI u 33), .ref (a 34), .ref (a 35)]
def wdM (o : Nat) (a : Nat → Nat) (cs : Nat → ClassId) (u : MS) : va_W := (o, .inr (5, fsM a u)) :: [(a 2, .inl (cs 1, 72, .inl (gA u 2))), (a 4, .inl (cs 0, 24, .inl (gA u 4))), (a 5, .inl (cs 0, 24, .inl (gA u 5))), (a 6, .inl (cs 1, 1920, .inl (gA u 6))), (a 11, .inl (cs 1, 600, .inl (gA u 11))), (a 13, .inl (cs 2, 90, .inr (.inl (gL u)))), (a 14, .inl (cs 0, 90, .inl (gA u 14))), (a 15, .inl (cs 0, 90, .inl (gA u 15))), (a 17, .inl (cs 0, 90, .inl (gA u 17))), (a 19, .inl (cs 0, 100, .inl (gA u 19))), (a 20, .inl (cs 0, 100, .inl (gA u 20))), (a 21, .inl (cs 0, 100, .inl (gA u 21))), (a 22, .inl (cs 0, 100, .inl (gA u 22))), (a 23, .inl (cs 0, 100, .inl (gA u 23))), (a 24, .inl (cs 0, 100, .inl (gA u 24))), (a 26, .inl (cs 0, 100, .inl (gA u 26))), (a 28, .inl (cs 0, 100, .inl (gA u 28))), (a 29, .inl (cs 0, 100, .inl (gA u 29))), (a 30, .inl (cs 0, 100, .inl (gA u 30))), (a 31, .inl (cs 3, 100, .inl (gA u 31))), (a 32, .inl (cs 0, 400, .inl (gA u 32))), (a 34, .inl (cs 0, 24, .inl (gA u 34))), (a 35, .inl (cs 3, 24, .inl (gA u 35)))]
section
variable (o : Nat) (a : Nat → Nat) (cs : Nat → ClassId) (u : MS)
theorem eM_o : (wdM o a cs u)[0]? = some (o, .inr (5, fsM a u)) := rfl
theorem sM_0 (v : Int32) : (wdM o a cs u).set 0 (o, .inr (5, (fsM a u).set 0 (.int v))) = wdM o a cs (sI u 0 v) := rfl
theorem sM_1 (v : Int32) : (wdM o a cs u).set 0 (o, .inr (5, (fsM a u).set 1 (.int v))) = wdM o a cs (sI u 1 v) := rfl
theorem eM_2 : (wdM o a cs u)[1]? = some (a 2, .inl (cs 1, 72, .inl (gA u 2))) := rfl
theorem sM_2 (i : Nat) (v : Int32) : (wdM o a cs u).set 1 (a 2, .inl (cs 1, 72, .inl (upd (gA u 2) i v))) = wdM o a cs (sA u 2 i v) := rfl
theorem sM_3 (v : Int32) : (wdM o a cs u).set 0 (o, .inr (5, (fsM a u).set 3 (.int v))) = wdM o a cs (sI u 3 v) := rfl
theorem eM_4 : (wdM o a cs u)[2]? = some (a 4, .inl (cs 0, 24, .inl (gA u 4))) := rfl
theorem sM_4 (i : Nat) (v : Int32) : (wdM o a cs u).set 2 (a 4, .inl (cs 0, 24, .inl (upd (gA u 4) i v))) = wdM o a cs (sA u 4 i v) := rfl
theorem eM_5 : (wdM o a cs u)[3]? = some (a 5, .inl (cs 0, 24, .inl (gA u 5))) := rfl
theorem sM_5 (i : Nat) (v : Int32) : (wdM o a cs u).set 3 (a 5, .inl (cs 0, 24, .inl (upd (gA u 5) i v))) = wdM o a cs (sA u 5 i v) := rfl
theorem eM_6 : (wdM o a cs u)[4]? = some (a 6, .inl (cs 1, 1920, .inl (gA u 6))) := rfl
theorem sM_6 (i : Nat) (v : Int32) : (wdM o a cs u).set 4 (a 6, .inl (cs 1, 1920, .inl (upd (gA u 6) i v))) = wdM o a cs (sA u 6 i v) := rfl
theorem sM_7 (v : Int32) : (wdM o a cs u).set 0 (o, .inr (5, (fsM a u).set 7 (.int v))) = wdM o a cs (sI u 7 v) := rfl
theorem sM_8 (v : Int32) : (wdM o a cs u).set 0 (o, .inr (5, (fsM a u).set 8 (.int v))) = wdM o a cs (sI u 8 v) := rfl
theorem sM_9 (v : Int32) : (wdM o a cs u).set 0 (o, .inr (5, (fsM a u).set 9 (.int v))) = wdM o a cs (sI u 9 v) := rfl
theorem sM_10 (v : Int32) : (wdM o a cs u).set 0 (o, .inr (5, (fsM a u).set 10 (.int v))) = wdM o a cs (sI u 10 v) := rfl
theorem eM_11 : (wdM o a cs u)[5]? = some (a 11, .inl (cs 1, 600, .inl (gA u 11))) := rfl
theorem sM_11 (i : Nat) (v : Int32) : (wdM o a cs u).set 5 (a 11, .inl (cs 1, 600, .inl (upd (gA u 11) i v))) = wdM o a cs (sA u 11 i v) := rfl
theorem sM_12 (v : Int32) : (wdM o a cs u).set 0 (o, .inr (5, (fsM a u).set 12 (.int v))) = wdM o a cs (sI u 12 v) := rfl
theorem eM_13 : (wdM o a cs u)[6]? = some (a 13, .inl (cs 2, 90, .inr (.inl (gL u)))) := rfl
theorem sM_13 (i : Nat) (v : Int64) : (wdM o a cs u).set 6 (a 13, .inl (cs 2, 90, .inr (.inl (vp_updL (gL u) i v)))) = wdM o a cs (sL u i v) := rfl
theorem eM_14 : (wdM o a cs u)[7]? = some (a 14, .inl (cs 0, 90, .inl (gA u 14))) := rfl
theorem sM_14 (i : Nat) (v : Int32) : (wdM o a cs u).set 7 (a 14, .inl (cs 0, 90, .inl (upd (gA u 14) i v))) = wdM o a cs (sA u 14 i v) := rfl
theorem eM_15 : (wdM o a cs u)[8]? = some (a 15, .inl (cs 0, 90, .inl (gA u 15))) := rfl
theorem sM_15 (i : Nat) (v : Int32) : (wdM o a cs u).set 8 (a 15, .inl (cs 0, 90, .inl (upd (gA u 15) i v))) = wdM o a cs (sA u 15 i v) := rfl
theorem sM_16 (v : Int32) : (wdM o a cs u).set 0 (o, .inr (5, (fsM a u).set 16 (.int v))) = wdM o a cs (sI u 16 v) := rfl
theorem eM_17 : (wdM o a cs u)[9]? = some (a 17, .inl (cs 0, 90, .inl (gA u 17))) := rfl
theorem sM_17 (i : Nat) (v : Int32) : (wdM o a cs u).set 9 (a 17, .inl (cs 0, 90, .inl (upd (gA u 17) i v))) = wdM o a cs (sA u 17 i v) := rfl
theorem sM_18 (v : Int32) : (wdM o a cs u).set 0 (o, .inr (5, (fsM a u).set 18 (.int v))) = wdM o a cs (sI u 18 v) := rfl
theorem eM_19 : (wdM o a cs u)[10]? = some (a 19, .inl (cs 0, 100, .inl (gA u 19))) := rfl
theorem sM_19 (i : Nat) (v : Int32) : (wdM o a cs u).set 10 (a 19, .inl (cs 0, 100, .inl (upd (gA u 19) i v))) = wdM o a cs (sA u 19 i v) := rfl
theorem eM_20 : (wdM o a cs u)[11]? = some (a 20, .inl (cs 0, 100, .inl (gA u 20))) := rfl
theorem sM_20 (i : Nat) (v : Int32) : (wdM o a cs u).set 11 (a 20, .inl (cs 0, 100, .inl (upd (gA u 20) i v))) = wdM o a cs (sA u 20 i v) := rfl
theorem eM_21 : (wdM o a cs u)[12]? = some (a 21, .inl (cs 0, 100, .inl (gA u 21))) := rfl
theorem sM_21 (i : Nat) (v : Int32) : (wdM o a cs u).set 12 (a 21, .inl (cs 0, 100, .inl (upd (gA u 21) i v))) = wdM o a cs (sA u 21 i v) := rfl
theorem eM_22 : (wdM o a cs u)[13]? = some (a 22, .inl (cs 0, 100, .inl (gA u 22))) := rfl
theorem sM_22 (i : Nat) (v : Int32) : (wdM o a cs u).set 13 (a 22, .inl (cs 0, 100, .inl (upd (gA u 22) i v))) = wdM o a cs (sA u 22 i v) := rfl
theorem eM_23 : (wdM o a cs u)[14]? = some (a 23, .inl (cs 0, 100, .inl (gA u 23))) := rfl
theorem sM_23 (i : Nat) (v : Int32) : (wdM o a cs u).set 14 (a 23, .inl (cs 0, 100, .inl (upd (gA u 23) i v))) = wdM o a cs (sA u 23 i v) := rfl
theorem eM_24 : (wdM o a cs u)[15]? = some (a 24, .inl (cs 0, 100, .inl (gA u 24))) := rfl
theorem sM_24 (i : Nat) (v : Int32) : (wdM o a cs u).set 15 (a 24, .inl (cs 0, 100, .inl (upd (gA u 24) i v))) = wdM o a cs (sA u 24 i v) := rfl
theorem sM_25 (v : Int32) : (wdM o a cs u).set 0 (o, .inr (5, (fsM a u).set 25 (.int v))) = wdM o a cs (sI u 25 v) := rfl
theorem eM_26 : (wdM o a cs u)[16]? = some (a 26, .inl (cs 0, 100, .inl (gA u 26))) := rfl
theorem sM_26 (i : Nat) (v : Int32) : (wdM o a cs u).set 16 (a 26, .inl (cs 0, 100, .inl (upd (gA u 26) i v))) = wdM o a cs (sA u 26 i v) := rfl
theorem sM_27 (v : Int32) : (wdM o a cs u).set 0 (o, .inr (5, (fsM a u).set 27 (.int v))) = wdM o a cs (sI u 27 v) := rfl
theorem eM_28 : (wdM o a cs u)[17]? = some (a 28, .inl (cs 0, 100, .inl (gA u 28))) := rfl
theorem sM_28 (i : Nat) (v : Int32) : (wdM o a cs u).set 17 (a 28, .inl (cs 0, 100, .inl (upd (gA u 28) i v))) = wdM o a cs (sA u 28 i v) := rfl
theorem eM_29 : (wdM o a cs u)[18]? = some (a 29, .inl (cs 0, 100, .inl (gA u 29))) := rfl
theorem sM_29 (i : Nat) (v : Int32) : (wdM o a cs u).set 18 (a 29, .inl (cs 0, 100, .inl (upd (gA u 29) i v))) = wdM o a cs (sA u 29 i v) := rfl
theorem eM_30 : (wdM o a cs u)[19]? = some (a 30, .inl (cs 0, 100, .inl (gA u 30))) := rfl
theorem sM_30 (i : Nat) (v : Int32) : (wdM o a cs u).set 19 (a 30, .inl (cs 0, 100, .inl (upd (gA u 30) i v))) = wdM o a cs (sA u 30 i v) := rfl
theorem eM_31 : (wdM o a cs u)[20]? = some (a 31, .inl (cs 3, 100, .inl (gA u 31))) := rfl
theorem sM_31 (i : Nat) (v : Int32) : (wdM o a cs u).set 20 (a 31, .inl (cs 3, 100, .inl (upd (gA u 31) i v))) = wdM o a cs (sA u 31 i v) := rfl
theorem eM_32 : (wdM o a cs u)[21]? = some (a 32, .inl (cs 0, 400, .inl (gA u 32))) := rfl
theorem sM_32 (i : Nat) (v : Int32) : (wdM o a cs u).set 21 (a 32, .inl (cs 0, 400, .inl (upd (gA u 32) i v))) = wdM o a cs (sA u 32 i v) := rfl
theorem sM_33 (v : Int32) : (wdM o a cs u).set 0 (o, .inr (5, (fsM a u).set 33 (.int v))) = wdM o a cs (sI u 33 v) := rfl
theorem eM_34 : (wdM o a cs u)[22]? = some (a 34, .inl (cs 0, 24, .inl (gA u 34))) := rfl
theorem sM_34 (i : Nat) (v : Int32) : (wdM o a cs u).set 22 (a 34, .inl (cs 0, 24, .inl (upd (gA u 34) i v))) = wdM o a cs (sA u 34 i v) := rfl
theorem eM_35 : (wdM o a cs u)[23]? = some (a 35, .inl (cs 3, 24, .inl (gA u 35))) := rfl
theorem sM_35 (i : Nat) (v : Int32) : (wdM o a cs u).set 23 (a 35, .inl (cs 3, 24, .inl (upd (gA u 35) i v))) = wdM o a cs (sA u 35 i v) := rfl
end
