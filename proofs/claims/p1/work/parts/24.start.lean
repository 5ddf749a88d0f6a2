/-! what the Statement gives at the law's start -/
abbrev gn : Cond := Jvm.Cond.and given_1 narrow_1
def posS (i : Nat) : Nat := [25, 40, 59, 83, 89, 94, 99, 107, 116, 125, 133, 141, 149, 157, 165, 173, 183, 194, 200, 206, 217, 229, 235, 240, 245, 250, 256, 266, 275, 285, 294, 303, 312, 321, 330, 339, 344, 349, 354, 359, 366, 375, 386, 394, 403, 415, 423, 431, 441, 449, 460, 467, 478, 486, 497, 510].getD i 0
theorem sm_ex0 : ∀ i, i < 56 → (flatC gn)[posS i]? = some (Cond.exactly (.string (strQ i).1 (strQ i).2.1) "java/lang/String") := by decide +kernel
theorem sm_co0 : ∀ i, i < 56 → (flatC gn)[posS i + 1]? = some (Cond.eq (.field (.string (strQ i).1 (strQ i).2.1) "java/lang/String" "coder" "B") (.int 0)) := by decide +kernel
theorem sm_ar0 : ∀ i, i < 56 → (flatC gn)[posS i + 2]? = some (Cond.arrayOf (.field (.string (strQ i).1 (strQ i).2.1) "java/lang/String" "value" "[B") .byte) := by decide +kernel
theorem sm_le0 : ∀ i, i < 56 → (flatC gn)[posS i + 3]? = some (Cond.eq (.length (.field (.string (strQ i).1 (strQ i).2.1) "java/lang/String" "value" "[B")) (.int (Int32.ofNat (lenS i)))) := by decide +kernel
theorem sm_el0 : ∀ i, i < 56 → ∀ j, j < lenS i → (flatC gn)[posS i + 4 + j]? = some (Cond.eq (.elem (.field (.string (strQ i).1 (strQ i).2.1) "java/lang/String" "value" "[B") (.int (Int32.ofNat j))) (.int (bytS i j))) := by decide +kernel
theorem sm_ex (i : Nat) (hi : i < 56) : Cond.exactly (.string (strQ i).1 (strQ i).2.1) "java/lang/String" ∈ flatC gn := List.mem_of_getElem? (sm_ex0 i hi)
theorem sm_co (i : Nat) (hi : i < 56) : Cond.eq (.field (.string (strQ i).1 (strQ i).2.1) "java/lang/String" "coder" "B") (.int 0) ∈ flatC gn := List.mem_of_getElem? (sm_co0 i hi)
theorem sm_ar (i : Nat) (hi : i < 56) : Cond.arrayOf (.field (.string (strQ i).1 (strQ i).2.1) "java/lang/String" "value" "[B") .byte ∈ flatC gn := List.mem_of_getElem? (sm_ar0 i hi)
theorem sm_le (i : Nat) (hi : i < 56) : Cond.eq (.length (.field (.string (strQ i).1 (strQ i).2.1) "java/lang/String" "value" "[B")) (.int (Int32.ofNat (lenS i))) ∈ flatC gn := List.mem_of_getElem? (sm_le0 i hi)
theorem sm_el (i : Nat) (hi : i < 56) (j : Nat) (hj : j < lenS i) : Cond.eq (.elem (.field (.string (strQ i).1 (strQ i).2.1) "java/lang/String" "value" "[B") (.int (Int32.ofNat j))) (.int (bytS i j)) ∈ flatC gn := List.mem_of_getElem? (sm_el0 i hi j hj)
def posR (i : Nat) : Nat := [234, 558, 593, 618, 674, 697, 702, 703, 704, 705, 706, 707, 708, 709, 710, 711, 712, 719, 720, 721, 722, 741, 746, 751, 752, 753, 764, 773, 774, 775, 776, 777, 778, 779, 780, 781, 782, 783, 784, 785, 786, 787, 788, 789, 790, 791, 792, 793, 794, 795, 796, 797, 798, 799, 808, 809].getD i 0
theorem sm_rf0 : ∀ i, i < 56 → lw_tbl[posR i]? = some (Cond.stringRef (strQ i).1 (strQ i).2.1 (strQ i).2.2.1) := by decide +kernel
theorem sm_rf (i : Nat) (hi : i < 56) : Cond.stringRef (strQ i).1 (strQ i).2.1 (strQ i).2.2.1 ∈ lw_tbl := List.mem_of_getElem? (sm_rf0 i hi)
theorem sm_ns : ∀ q ∈ nestQ, Cond.methodLinkNest q.1 q.2.1 q.2.2.1 q.2.2.2 ∈ lw_tbl := by
  have h : ∀ i, i < 9 → lw_tbl[[99, 123, 126, 188, 228, 231, 375, 376, 389].getD i 0]? = nestQ[i]?.map (fun q => Cond.methodLinkNest q.1 q.2.1 q.2.2.1 q.2.2.2) := by decide +kernel
  intro q hq
  obtain ⟨i, hi⟩ := List.getElem?_of_mem hq
  have h9 : i < 9 := (List.getElem?_eq_some_iff.mp hi).1
  have h1 := h i h9
  rw [hi] at h1
  exact List.mem_of_getElem? h1
theorem str_start {args : Array Value} {s : State} {A : Nat → Prop} (hs : ∀ c ∈ flatC gn, c.before args s = true) (ht : ∀ w ∈ lw_tbl, w.before args s = true) (hA : ∀ a : Nat, a < s.heap.size → ¬ A a) : ∃ adK adV : Nat → Nat, ∀ i, i < 56 → strE adK adV A s i := by
  have h0 : ∀ i : Nat, ∃ q : Nat × Nat, i < 56 → vk_R (strQ i).1 (strQ i).2.1 (strQ i).2.2.1 q.1 s ∧ va_O "java/lang/String" q.1 A s s.heap ∧ va_OF "java/lang/String" "coder" "B" (.int 0) q.1 A s s.heap ∧ va_OF "java/lang/String" "value" "[B" (.ref q.2) q.1 A s s.heap ∧ va_T .byte q.2 (lenS i) (fun j => .int (bytS i j)) A s s.heap := by
    intro i
    by_cases hi : i < 56
    · obtain ⟨a, c, cA, kA, q1, q2, q3, q4, q5, q6, -⟩ := Cond.exactly_spec (args := args) (first := s) (o := none) (s := s) (idx := []) (t := .string (strQ i).1 (strQ i).2.1) (cls := "java/lang/String") (hs _ (sm_ex i hi))
      obtain ⟨t, hte, hT⟩ := va_Tof (f := fun j => .int (bytS i j)) (A := A) (by have := lenS_lt i; omega) (hs _ (sm_ar i hi)) (va_eqt (hs _ (sm_le i hi))) (fun j hj => va_eqt (hs _ (sm_el i hi j hj))) hA
      exact ⟨(a, t), fun _ => ⟨vk_R.of (A := args) (ht _ (sm_rf i hi)) q1, ⟨cA, q3, q5, by rw [q6]; exact q2, hA a (Array.getElem?_eq_some_iff.mp q3).1⟩, vk_OFof q1 (va_eqt (hs _ (sm_co i hi))) hA, vk_OFof q1 hte hA, hT⟩⟩
    · exact ⟨(0, 0), fun h => absurd h hi⟩
  obtain ⟨ad, had⟩ := Classical.axiomOfChoice h0
  exact ⟨fun i => (ad i).1, fun i => (ad i).2, fun i hi => had i hi⟩
theorem ev_start {args : Array Value} {s : State} {A : Nat → Prop} (hg : gn.before args s = true) (ht : ∀ w ∈ lw_tbl, w.before args s = true) (hA : ∀ a : Nat, a < s.heap.size → ¬ A a) : ∃ (adK adV : Nat → Nat) (fm : Option Nat), EvX adK adV fm A s := by
  have hs := flat_of_before _ hg
  obtain ⟨adK, adV, h1⟩ := str_start hs ht hA
  have hz : va_Z "java/lang/String" "COMPACT_STRINGS" "Z" (.int 1) A s s.heap := va_Zof (ht _ (wt_1 (List.mem_of_getElem? (i := 178) rfl))) (ht _ (wt_1 (List.mem_of_getElem? (i := 8) rfl))) (va_eqi (hs _ (List.mem_of_getElem? (i := 4) (by decide +kernel)))) hA
  have hq : va_Zq "jdk/internal/util/Preconditions" "SIOOBE_FORMATTER" "Ljava/util/function/BiFunction;" A s s.heap := va_Zqof (ht _ (wt_1 (List.mem_of_getElem? (i := 221) rfl))) (ht _ (wt_1 (List.mem_of_getElem? (i := 12) rfl))) (hs _ (List.mem_of_getElem? (i := 5) (by decide +kernel))) hA
  have hn : ∀ q ∈ nestQ, va_Nw (.methodLinkNest q.1 q.2.1 q.2.2.1 q.2.2.2) s := fun q hq => va_Nw.of rfl (ht _ (sm_ns q hq))
  have ho : va_AO "DeckFront$Statement" s := va_AO.of (ht _ (wt_1 (List.mem_of_getElem? (i := 51) rfl)))
  rcases hq with h | ⟨t, h⟩
  · exact ⟨adK, adV, none, ⟨hz, h⟩, h1, hn, ho⟩
  · exact ⟨adK, adV, some t, ⟨hz, h⟩, h1, hn, ho⟩
theorem k_start {args : Array Value} {s : State} (ht : ∀ w ∈ lw_tbl, w.before args s = true) : ∃ (D : va_G) (cs : Nat → ClassId), va_K D clX (tysX cs) s := by
  obtain ⟨c0, i0, h0⟩ := u_known (args := args) (fun w h => wG_ok ht w h) (fun w h => by obtain ⟨k, hk, rfl⟩ := List.mem_map.mp h; exact uw0_C k (List.mem_range.mp hk)) (ht _ (wt_1 (List.mem_of_getElem? (i := 28) rfl)))
  obtain ⟨c1, i1, h1⟩ := u_known (args := args) (fun w h => wG_ok ht w h) (fun w h => by obtain ⟨k, hk, rfl⟩ := List.mem_map.mp h; exact uw0_K k (List.mem_range.mp hk)) (ht _ (wt_1 (List.mem_of_getElem? (i := 45) rfl)))
  obtain ⟨c2, i2, h2⟩ := u_known (args := args) (fun w h => wG_ok ht w h) (fun w h => by obtain ⟨k, hk, rfl⟩ := List.mem_map.mp h; exact uw0_S k (List.mem_range.mp hk)) (ht _ (wt_1 (List.mem_of_getElem? (i := 52) rfl)))
  obtain ⟨c3, i3, h3⟩ := u_known (args := args) (fun w h => wG_ok ht w h) (fun w h => by obtain ⟨k, hk, rfl⟩ := List.mem_map.mp h; exact uw0_U k (List.mem_range.mp hk)) (ht _ (wt_1 (List.mem_of_getElem? (i := 117) rfl)))
  obtain ⟨c4, i4, h4⟩ := u_known (args := args) (fun w h => wG_ok ht w h) (fun w h => by obtain ⟨k, hk, rfl⟩ := List.mem_map.mp h; exact uw0_D k (List.mem_range.mp hk)) (ht _ (wt_1 (List.mem_of_getElem? (i := 20) rfl)))
  obtain ⟨c5, i5, h5⟩ := u_known (args := args) (fun w h => wG_ok ht w h) (fun w h => by obtain ⟨k, hk, rfl⟩ := List.mem_map.mp h; exact uw0_M k (List.mem_range.mp hk)) (ht _ (wt_4 (List.mem_of_getElem? (i := 24) rfl)))
  obtain ⟨a0, ka0, cm0, b1, b2, b3⟩ := Cond.arrayClass_spec (ht _ (wt_1 (List.mem_of_getElem? (i := 105) rfl)))
  have t0 : ArrOfT s a0 .int ∧ va_RA s a0 .int := ⟨fun n z => ⟨fun k h => (by cases h), ka0, b2, cm0, b3⟩, b1⟩
  obtain ⟨a1, ka1, cm1, b1, b2, b3⟩ := Cond.arrayClass_spec (ht _ (wt_1 (List.mem_of_getElem? (i := 43) rfl)))
  have t1 : ArrOfT s a1 .char ∧ va_RA s a1 .char := ⟨fun n z => ⟨fun k h => (by cases h), ka1, b2, cm1, b3⟩, b1⟩
  obtain ⟨a2, ka2, cm2, b1, b2, b3⟩ := Cond.arrayClass_spec (ht _ (wt_4 (List.mem_of_getElem? (i := 138) rfl)))
  have t2 : ArrOfT s a2 .long ∧ va_RA s a2 .long := ⟨fun n z => ⟨fun k h => (by cases h), ka2, b2, cm2, b3⟩, b1⟩
  obtain ⟨a3, ka3, cm3, b1, b2, b3⟩ := Cond.arrayClass_spec (ht _ (wt_4 (List.mem_of_getElem? (i := 139) rfl)))
  have t3 : ArrOfT s a3 .boolean ∧ va_RA s a3 .boolean := ⟨fun n z => ⟨fun k h => (by cases h), ka3, b2, cm3, b3⟩, b1⟩
  obtain ⟨cm4, a4, ka4, b1, -, b2, b3, b4⟩ := Cond.arrayOver_spec (ht _ (wt_1 (List.mem_of_getElem? (i := 51) rfl)))
  have t4 : ArrOfT s a4 (.object "DeckFront$Statement") ∧ va_RA s a4 (.object "DeckFront$Statement") := ⟨fun n z => ⟨fun k h => (by cases h), ka4, b2, cm4, b3⟩, ka4, cm4, b2, b3, b1, b4⟩
  obtain ⟨a5, ka5, cm5, b1, b2, b3⟩ := Cond.arrayClass_spec (ht _ (wt_2 (List.mem_of_getElem? (i := 11) rfl)))
  have t5 : ArrOfT s a5 .byte ∧ va_RA s a5 .byte := ⟨fun n z => ⟨fun k h => (by cases h), ka5, b2, cm5, b3⟩, b1⟩
  refine ⟨(fun c => [c0, c1, c2, c3, c4, c5].getD c 0, fun c => [i0, i1, i2, i3, i4, i5].getD c (fun _ => 0)), fun k => [a0, a1, a2, a3, a4, a5].getD k 0, fun c q hq => ?_, fun k q hq => ?_⟩
  · match c, hq with
    | 0, hq => cases hq; exact h0
    | 1, hq => cases hq; exact h1
    | 2, hq => cases hq; exact h2
    | 3, hq => cases hq; exact h3
    | 4, hq => cases hq; exact h4
    | 5, hq => cases hq; exact h5
    | c + 6, hq => exact absurd hq (by simp)
  · match k, hq with
    | 0, hq => cases hq; exact t0
    | 1, hq => cases hq; exact t1
    | 2, hq => cases hq; exact t2
    | 3, hq => cases hq; exact t3
    | 4, hq => cases hq; exact t4
    | 5, hq => cases hq; exact t5
    | k + 6, hq => exact absurd hq (by simp)
