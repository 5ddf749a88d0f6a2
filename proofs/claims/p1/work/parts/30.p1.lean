/-! the first call on fresh objects -/
theorem find_none {post : Option Nat → XS → Prop} {v : Int32} {u : XS} (h0 : gI u.2.1 1 = 0) (h : post none u) : P_K_find post v u := by
  unfold P_K_find
  rw [h0]
  exact ⟨fun _ => h, fun h1 => ⟨fun h2 => absurd h2 h1, fun _ => h⟩⟩
theorem there_not {post : Int32 → MS → Prop} {v : Int32} {u : MS} (h0 : gI u 3 = 0) (h : post 0 u) : P_M_there post v u := by
  unfold P_M_there
  rw [h0]
  refine ⟨fun _ => h, fun h1 => ⟨fun _ => h, fun h2 => ?_⟩⟩
  rw [Int32.lt_iff_toInt_lt] at h1
  rw [Int32.le_iff_toInt_le] at h2
  omega
theorem look_none {post : XS → Prop} {u : XS} (h0 : gI u.2.1 1 = 0) (h : post (u.1, u.2.1, (sI (sI (sI u.2.2.1 1 (0 : Int32)) 2 (0 : Int32)) 3 (-1 : Int32)), u.2.2.2)) : P_U_look post u := by
  refine ⟨1, ?_⟩
  unfold P_U_look_17
  show ((gI u.2.1 1 ≤ 0 → _) ∧ (¬ gI u.2.1 1 ≤ 0 → _))
  rw [h0]
  exact ⟨fun _ => h, fun h1 => absurd (by decide) h1⟩
theorem firstFault_none {post : Int32 → MS → Prop} {u : MS} (h0 : gI u 3 = 0) (h : post 0 (sI u 33 (0 : Int32))) : P_M_firstFault post u := by
  refine ⟨1, ?_⟩
  unfold P_M_firstFault_9
  show ((gI u 3 ≤ 0 → _) ∧ (¬ gI u 3 ≤ 0 → _))
  rw [h0]
  exact ⟨fun _ => h, fun h1 => absurd (by decide) h1⟩
theorem lg_self (x : Int64) : lg_cmp x x = 0 := by
  unfold lg_cmp
  rw [if_neg (fun q => Int64.lt_irrefl q), if_pos rfl]
theorem p1_end (xs : Nat → Int32) (u : ZS) : P_L_law_448 3 xs (fun zx4 zu => P_L_law_23 3 xs 1 zx4 zu) 0 u := by
  unfold P_L_law_448 P_L_law_23
  exact ⟨fun _ => trivial, fun h => absurd (by decide) h⟩
theorem vin (n : Nat) (h : n < 3) : vp_in (nI n) 3 := vp_in_nI h (by decide)
theorem br_e {r4 r2 : Int32} {A : Prop} (he : r2 = r4) (h : A) : (r2 = r4 → A) ∧ (¬ r2 = r4 → False) := ⟨fun _ => h, fun h0 => h0 he⟩
theorem pure_p1 {L : Nat} {xs : Nat → Int32} (hL : L ≤ 3) : ∃ f, P_L_law_23 L xs f 0 ZS0 := by
  by_cases h3 : L = 3
  · subst h3
    refine ⟨2, ?_⟩
    unfold P_L_law_23
    have v0 : vp_in (0 : Int32) 3 := vin 0 (by decide)
    have v1 : vp_in ((0 : Int32) + 1) 3 := vin 1 (by decide)
    have v2 : vp_in ((0 : Int32) + 2) 3 := vin 2 (by decide)
    refine ⟨fun _ => trivial, fun _ => ⟨v0, ?_⟩⟩
    refine ⟨fun _ => ⟨v1, v2, ?_⟩, fun _ => ⟨fun _ => ?_, fun _ => ⟨fun _ => ?_, fun _ => ⟨fun _ => ?_, fun _ => ⟨fun _ => ⟨v1, ?_⟩, fun _ => ⟨fun _ => ⟨v1, ?_⟩, fun _ => ⟨fun _ => ⟨v1, v2, ?_⟩, fun _ => ⟨fun _ => ⟨v1, v2, ?_⟩, fun _ => ⟨fun _ => ⟨v1, v2, ?_⟩, fun _ => ⟨fun _ => ?_, fun _ => ⟨fun _ => ?_, fun _ => p1_end xs _⟩⟩⟩⟩⟩⟩⟩⟩⟩⟩⟩
    · refine dWrite_of (l := 0) rfl (by decide) ⟨v1, v2, ?_⟩
      exact mWrite_of (l := 0) rfl (by decide) (br_e rfl (p1_end xs _))
    · -- card
      unfold P_L_card P_D_card P_K_join P_C_isComment
      refine ⟨fun _ => ?_, fun h => absurd (by decide) h⟩
      unfold P_C_isComment_29 P_C_isBlankTo
      refine ⟨1, ?_⟩
      unfold P_C_isBlankTo_2
      refine ⟨fun _ => ⟨fun h => absurd h (by decide), fun _ => ⟨fun h => absurd h (by decide), fun _ => ?_⟩⟩, fun h => absurd (by decide) h⟩
      refine ⟨fun _ => ⟨fun _ => find_none rfl ⟨fun _ => ?_, fun j hj => by cases hj⟩, fun h => absurd h (by decide)⟩, fun h => absurd h (by decide)⟩
      unfold P_M_card
      intro v e
      unfold P_M_isComment
      refine ⟨1, ?_⟩
      unfold P_M_isComment_4
      refine ⟨fun _ => ⟨fun _ => ⟨fun h => absurd h (by decide), fun _ => ?_⟩, fun h => absurd h (by decide)⟩, fun h => absurd (by decide) h⟩
      unfold P_M_thrown
      refine br_e rfl ⟨fun h => absurd rfl h, fun _ => ⟨vp_in_nI (n := 0) (by decide) (by decide), fun _ => p1_end xs _, fun h => h (lg_self _)⟩⟩
    · exact p1_end xs _
    · exact br_e rfl (p1_end xs _)
    · exact find_none rfl ⟨fun _ => ⟨v1, there_not rfl ⟨fun _ => br_e rfl (p1_end xs _), fun h => absurd rfl h⟩⟩, fun j hj => by cases hj⟩
    · exact find_none rfl ⟨fun _ => ⟨v1, there_not rfl ⟨fun _ => br_e rfl (p1_end xs _), fun h => absurd rfl h⟩⟩, fun j hj => by cases hj⟩
    · exact find_none rfl ⟨fun _ => ⟨v1, v2, there_not rfl ⟨fun _ => br_e rfl (p1_end xs _), fun h => absurd rfl h⟩⟩, fun j hj => by cases hj⟩
    · -- kind
      have km : ∀ (q : Int32 → MS → Prop) (x : Int64), q 0 (sI z0 0 0) → ∃ g, P_M_kind_16 q g x 0 0 (sI z0 0 (0 : Int32)) := fun q x hq => by
        refine ⟨1, ?_⟩
        unfold P_M_kind_16
        exact ⟨fun _ => hq, fun h => absurd (by decide) h⟩
      refine nameOf_of ⟨fun _ => ?_, fun _ => ⟨v1, v2, packed_of (km _ _ (br_e rfl (p1_end xs _)))⟩⟩
      refine ⟨1, ?_⟩
      unfold P_K_kindOf_5
      exact ⟨fun _ => ⟨v1, v2, packed_of (km _ _ (br_e rfl (p1_end xs _)))⟩, fun h => absurd (by decide) h⟩
    · -- type
      refine nameOf_of ⟨fun hn => ?_, fun hn => ⟨v1, v2, packed_of ⟨fun h => absurd hn h, fun _ => br_e rfl (p1_end xs _)⟩⟩⟩
      refine ⟨1, ?_⟩
      unfold P_K_typeOf_2
      refine ⟨fun _ => byLetter_of (nmW_lt _) ⟨v1, v2, packed_of ⟨fun _ => ?_, fun h => absurd h hn⟩⟩, fun h => absurd (by decide) h⟩
      refine ⟨1, ?_⟩
      unfold P_M_type_21
      exact ⟨fun _ => ⟨6, mByLetter_of (nmW_lt _) (br_e rfl (p1_end xs _))⟩, fun h => absurd (by decide) h⟩
    · exact look_none rfl (firstFault_none rfl (br_e rfl (p1_end xs _)))
    · refine look_none rfl (firstFault_none rfl ⟨fun h => absurd rfl h, fun _ => br_e rfl (p1_end xs _)⟩)
  · refine ⟨1, ?_⟩
    unfold P_L_law_23
    refine ⟨fun _ => trivial, fun h => absurd ?_ h⟩
    have : L = 0 ∨ L = 1 ∨ L = 2 := by omega
    rcases this with rfl | rfl | rfl <;> decide
