section MNU
variable {c : Nat → Nat} {n b : Nat} {u : MS}
theorem st_app : ∀ (x y : List Nat) (k : Nat), st c k (x ++ y) = (st c k x && st c (k + x.length) y) := by
  intro x
  induction x with
  | nil => intro y k; rfl
  | cons t x ih =>
    intro y k
    simp only [List.cons_append, st, ih, List.length_cons, Bool.and_assoc, show k + 1 + x.length = k + (x.length + 1) by omega]
theorem lts_st : ∀ (w : List Nat) (f a : Nat) (r : List Nat), (∀ x ∈ w, lr x = true) → w.length < f → st c a (w ++ [46]) = true → lts c f a r = w.reverse ++ r := by
  intro w
  induction w with
  | nil =>
    intro f a r _ hf hs
    have h1 : c a = 46 := by simpa [st] using hs
    obtain ⟨f, rfl⟩ : ∃ q, f = q + 1 := ⟨f - 1, by simp at hf; omega⟩
    unfold lts
    rw [h1, if_neg (by decide)]
    rfl
  | cons x w ih =>
    intro f a r hw hf hs
    obtain ⟨f, rfl⟩ : ∃ q, f = q + 1 := ⟨f - 1, by simp at hf; omega⟩
    simp only [List.cons_append, st, Bool.and_eq_true, decide_eq_true_eq] at hs
    unfold lts
    rw [hs.1, if_pos (hw x List.mem_cons_self), ih f (a + 1) (x :: r) (fun z hz => hw z (List.mem_cons_of_mem _ hz)) (by simp at hf; omega) hs.2]
    simp
theorem lts_run : ∀ (f a : Nat) (r : List Nat), ∃ w, lts c f a r = w.reverse ++ r ∧ st c a w = true := by
  intro f
  induction f with
  | zero => intro a r; exact ⟨[], rfl, rfl⟩
  | succ f ih =>
    intro a r
    unfold lts
    split
    · obtain ⟨w, h1, h2⟩ := ih (a + 1) (c a :: r)
      refine ⟨c a :: w, by rw [h1]; simp, ?_⟩
      simp [st, h2]
    · exact ⟨[], rfl, rfl⟩
theorem dtW_ok : ∀ q ∈ dtW, (∀ x ∈ q.1, lr x = true) ∧ q.1.length < 6 ∧ dtF dtW q.1 = q.2 ∧ q.2 ≠ 0 := by decide +kernel
theorem dtF_in : ∀ (r : List (List Nat × Nat)) (l : List Nat), dtF r l ≠ 0 → ∃ q ∈ r, q.1 = l ∧ q.2 = dtF r l := by
  intro r
  induction r with
  | nil => intro l h; exact absurd rfl h
  | cons q r ih =>
    intro l h
    unfold dtF at h ⊢
    by_cases e : l = q.1
    · rw [if_pos e] at h ⊢
      exact ⟨q, List.mem_cons_self, e.symm, rfl⟩
    · rw [if_neg e] at h ⊢
      obtain ⟨q', h1, h2⟩ := ih l h
      exact ⟨q', List.mem_cons_of_mem _ h1, h2⟩
theorem dt_iff {k v : Nat} (hv : v ≠ 0) : dtC c k = v ↔ ∃ q ∈ dtW, q.2 = v ∧ st c k (46 :: (q.1.reverse ++ [46])) = true := by
  constructor
  · intro h
    unfold dtC at h
    split at h
    · split at h
      · rename_i h1 h2
        obtain ⟨q, hq, e1, e2⟩ := dtF_in dtW _ (by rw [h]; exact hv)
        refine ⟨q, hq, e2.trans h, ?_⟩
        obtain ⟨w, hw1, hw2⟩ := lts_run (c := c) 6 (k + 1) []
        rw [List.append_nil] at hw1
        have e3 : q.1.reverse = w := by rw [e1, hw1, List.reverse_reverse]
        have e4 : (lts c 6 (k + 1) []).length = w.length := by rw [hw1, List.length_reverse]
        rw [e4] at h2
        rw [e3]
        simp only [st, st_app, hw2, h1, h2]
        rfl
      · exact absurd h.symm hv
    · exact absurd h.symm hv
  · rintro ⟨q, hq, e, hs⟩
    obtain ⟨q1, q2, q3, q4⟩ := dtW_ok q hq
    simp only [st, Bool.and_eq_true, decide_eq_true_eq] at hs
    have h1 := lts_st q.1.reverse 6 (k + 1) [] (fun x hx => q1 x (List.mem_reverse.mp hx)) (by rw [List.length_reverse]; exact q2) hs.2
    rw [List.reverse_reverse, List.append_nil] at h1
    have h2 := hs.2
    rw [st_app, List.length_reverse] at h2
    simp only [st, Bool.and_eq_true, decide_eq_true_eq, Bool.and_true] at h2
    unfold dtC
    rw [if_pos hs.1, h1, if_pos h2.2, q3, e]
theorem dt1 {k : Nat} : dtC c k = 1 ↔ st c k (wS 27) = true := by
  rw [dt_iff (by decide)]
  constructor
  · rintro ⟨q, hq, e, hs⟩
    simp only [dtW, List.mem_cons, List.not_mem_nil, or_false] at hq
    rcases hq with rfl | rfl | rfl | rfl | rfl | rfl | rfl | rfl | rfl | rfl | rfl <;> first | exact absurd e (by decide) | exact hs
  · intro h
    exact ⟨([82, 79], 1), by decide, rfl, h⟩
theorem dt2 {k : Nat} : dtC c k = 2 ↔ st c k (wS 28) = true := by
  rw [dt_iff (by decide)]
  constructor
  · rintro ⟨q, hq, e, hs⟩
    simp only [dtW, List.mem_cons, List.not_mem_nil, or_false] at hq
    rcases hq with rfl | rfl | rfl | rfl | rfl | rfl | rfl | rfl | rfl | rfl | rfl <;> first | exact absurd e (by decide) | exact hs
  · intro h
    exact ⟨([68, 78, 65], 2), by decide, rfl, h⟩
theorem dt3 {k : Nat} : dtC c k = 3 ↔ st c k (wS 26) = true := by
  rw [dt_iff (by decide)]
  constructor
  · rintro ⟨q, hq, e, hs⟩
    simp only [dtW, List.mem_cons, List.not_mem_nil, or_false] at hq
    rcases hq with rfl | rfl | rfl | rfl | rfl | rfl | rfl | rfl | rfl | rfl | rfl <;> first | exact absurd e (by decide) | exact hs
  · intro h
    exact ⟨([84, 79, 78], 3), by decide, rfl, h⟩
theorem dt20 {k : Nat} : dtC c k = 20 ↔ st c k (wS 19) = true ∨ st c k (wS 20) = true := by
  rw [dt_iff (by decide)]
  constructor
  · rintro ⟨q, hq, e, hs⟩
    simp only [dtW, List.mem_cons, List.not_mem_nil, or_false] at hq
    rcases hq with rfl | rfl | rfl | rfl | rfl | rfl | rfl | rfl | rfl | rfl | rfl <;> first | exact absurd e (by decide) | exact Or.inl hs | exact Or.inr hs
  · rintro (h | h)
    · exact ⟨([69, 85, 82, 84], 20), by decide, rfl, h⟩
    · exact ⟨([69, 83, 76, 65, 70], 20), by decide, rfl, h⟩
theorem dt4 {k : Nat} : dtC c k = 4 ↔ st c k (wS 29) = true ∨ st c k (wS 30) = true ∨ st c k (wS 31) = true ∨ st c k (wS 32) = true ∨ st c k (wS 33) = true ∨ st c k (wS 34) = true := by
  rw [dt_iff (by decide)]
  constructor
  · rintro ⟨q, hq, e, hs⟩
    simp only [dtW, List.mem_cons, List.not_mem_nil, or_false] at hq
    rcases hq with rfl | rfl | rfl | rfl | rfl | rfl | rfl | rfl | rfl | rfl | rfl <;> first | exact absurd e (by decide) | exact Or.inl hs | exact Or.inr (Or.inl hs) | exact Or.inr (Or.inr (Or.inl hs)) | exact Or.inr (Or.inr (Or.inr (Or.inl hs))) | exact Or.inr (Or.inr (Or.inr (Or.inr (Or.inl hs)))) | exact Or.inr (Or.inr (Or.inr (Or.inr (Or.inr hs))))
  · rintro (h | h | h | h | h | h)
    · exact ⟨([84, 76], 4), by decide, rfl, h⟩
    · exact ⟨([69, 76], 4), by decide, rfl, h⟩
    · exact ⟨([81, 69], 4), by decide, rfl, h⟩
    · exact ⟨([69, 78], 4), by decide, rfl, h⟩
    · exact ⟨([84, 71], 4), by decide, rfl, h⟩
    · exact ⟨([69, 71], 4), by decide, rfl, h⟩
theorem dt_lgw {k : Nat} : lgw c k = true ↔ dtC c k ≠ 0 := by
  constructor
  · intro h
    have key : ∀ q ∈ dtW, st c k (46 :: (q.1.reverse ++ [46])) = true → dtC c k ≠ 0 := fun q hq hs => by
      have h4 := (dtW_ok q hq).2.2.2
      rw [(dt_iff (k := k) h4).mpr ⟨q, hq, rfl, hs⟩]
      exact h4
    unfold lgw at h
    simp only [Bool.or_eq_true] at h
    rcases h with h | h | h | h | h | h | h | h | h | h | h
    · exact key ([82, 79], 1) (by decide) h
    · exact key ([68, 78, 65], 2) (by decide) h
    · exact key ([84, 79, 78], 3) (by decide) h
    · exact key ([84, 76], 4) (by decide) h
    · exact key ([69, 76], 4) (by decide) h
    · exact key ([81, 69], 4) (by decide) h
    · exact key ([69, 78], 4) (by decide) h
    · exact key ([84, 71], 4) (by decide) h
    · exact key ([69, 71], 4) (by decide) h
    · exact key ([69, 85, 82, 84], 20) (by decide) h
    · exact key ([69, 83, 76, 65, 70], 20) (by decide) h
  · intro h
    obtain ⟨q, hq, e, hs⟩ := (dt_iff (k := k) h).mp rfl
    unfold lgw
    simp only [Bool.or_eq_true]
    simp only [dtW, List.mem_cons, List.not_mem_nil, or_false] at hq
    rcases hq with rfl | rfl | rfl | rfl | rfl | rfl | rfl | rfl | rfl | rfl | rfl
    · exact Or.inl hs
    · exact Or.inr (Or.inl hs)
    · exact Or.inr (Or.inr (Or.inl hs))
    · exact Or.inr (Or.inr (Or.inr (Or.inr (Or.inr (Or.inr (Or.inr (Or.inr (Or.inr (Or.inl hs)))))))))
    · exact Or.inr (Or.inr (Or.inr (Or.inr (Or.inr (Or.inr (Or.inr (Or.inr (Or.inr (Or.inr hs)))))))))
    · exact Or.inr (Or.inr (Or.inr (Or.inl hs)))
    · exact Or.inr (Or.inr (Or.inr (Or.inr (Or.inl hs))))
    · exact Or.inr (Or.inr (Or.inr (Or.inr (Or.inr (Or.inl hs)))))
    · exact Or.inr (Or.inr (Or.inr (Or.inr (Or.inr (Or.inr (Or.inl hs))))))
    · exact Or.inr (Or.inr (Or.inr (Or.inr (Or.inr (Or.inr (Or.inr (Or.inl hs)))))))
    · exact Or.inr (Or.inr (Or.inr (Or.inr (Or.inr (Or.inr (Or.inr (Or.inr (Or.inl hs))))))))
theorem dotted_loop {post : Int32 → MS → Prop} (t : MT c n b u) : ∀ (w : List Nat) (a : Nat), a + w.length ≤ 500 → (∀ x ∈ w, x ≠ 46) → st c a (w ++ [46]) = true → post (nI (b + (a + w.length + 1))) u → P_M_dotted_4 post (w.length + 1) (nI (b + a)) u := by
  have d46 : ∀ i, (nI (c i) = 46 ↔ c i = 46) := fun i => nI_eq (b := 46) (by have := t.lt i; omega) (by decide)
  intro w
  induction w with
  | nil =>
    intro a ha hw hs h
    have h1 : c a = 46 := by simpa [st] using hs
    simp only [List.length_nil] at ha h
    refine ⟨t.q (by omega), fun _ => ?_, fun h0 => absurd (by rw [t.v (by omega), d46]; exact h1) h0⟩
    rw [nI_1]
    exact h
  | cons x w ih =>
    intro a ha hw hs h
    simp only [List.length_cons] at ha h
    simp only [List.cons_append, st, Bool.and_eq_true, decide_eq_true_eq] at hs
    refine ⟨t.q (by omega), fun h0 => absurd h0 (by rw [t.v (by omega), d46, hs.1]; exact hw x List.mem_cons_self), fun _ => ?_⟩
    rw [nI_1, show b + a + 1 = b + (a + 1) by omega]
    refine ih (a + 1) (by omega) (fun z hz => hw z (List.mem_cons_of_mem _ hz)) hs.2 ?_
    rw [show a + 1 + w.length + 1 = a + (w.length + 1) + 1 by omega]
    exact h
theorem dotted_of {post : Int32 → MS → Prop} {k : Nat} {w : List Nat} (t : MT c n b u) (hk : k + w.length ≤ 400) (hw : ∀ x ∈ w, x ≠ 46) (hs : st c k (46 :: (w ++ [46])) = true) (h : post (nI (b + (k + (46 :: (w ++ [46])).length))) u) : P_M_dotted post (nI (b + k)) u := by
  intro v1 e1
  rw [nI_1, show b + k + 1 = b + (k + 1) by omega] at e1
  subst e1
  simp only [st, Bool.and_eq_true, decide_eq_true_eq] at hs
  refine ⟨w.length + 1, dotted_loop t w (k + 1) (by omega) hw hs.2 ?_⟩
  rw [show k + 1 + w.length + 1 = k + (46 :: (w ++ [46])).length by simp; omega]
  exact h
/-- the end of the word in dots at k -/
theorem dotted_dt {post : Int32 → MS → Prop} {k : Nat} (t : MT c n b u) (hk : k ≤ 200) (hd : dtC c k ≠ 0) (h : ∀ q ∈ dtW, q.2 = dtC c k → st c k (46 :: (q.1.reverse ++ [46])) = true → post (nI (b + (k + (46 :: (q.1.reverse ++ [46])).length))) u) : P_M_dotted post (nI (b + k)) u := by
  obtain ⟨q, hq, e, hs⟩ := (dt_iff (k := k) hd).mp rfl
  have hq2 := dtW_ok q hq
  refine dotted_of t (by rw [List.length_reverse]; omega) (fun x hx e => ?_) hs (h q hq e hs)
  have := hq2.1 x (List.mem_reverse.mp hx)
  rw [e] at this
  exact absurd this (by decide)
/-! numbers -/
theorem ne157 {post : Int32 → MS → Prop} {j d : Nat} (t : MT c n b u) (hj : j ≤ 100) (hd : d ≤ 100) : ∀ (f k : Nat), d ≤ k → k ≤ 200 → n ≤ k + f → post (nI (b + (if d < dgN c f k then dgN c f k else j))) u → P_M_numberEnd_157 post (f + 1) (nI (b + j)) (nI (b + d)) (nI (b + k)) u := by
  have h19 := t.2.1
  intro f
  induction f with
  | zero =>
    intro k hk hk2 hf h
    refine ⟨t.q (by omega), ?_⟩
    rw [t.v (by omega), isDig_0 _ (t.lt _), t.2.2.2.2.2 k (by omega), nI_leI (by omega) (by omega)]
    have e : dgN c 0 k = k := rfl
    rw [e] at h
    refine ⟨fun _ => ⟨fun h0 => by rw [if_neg (by omega)] at h; exact h, fun h0 => by rw [if_pos (by omega)] at h; exact h⟩, fun h0 => absurd (by decide) h0⟩
  | succ f ih =>
    intro k hk hk2 hf h
    refine ⟨t.q (by omega), ?_⟩
    rw [t.v (by omega), isDig_0 _ (t.lt _), Classical.not_not, nI_leI (by omega) (by omega)]
    unfold dgN at h
    refine ⟨fun h9 => ?_, fun h9 => ?_⟩
    · rw [if_neg h9] at h
      exact ⟨fun h0 => by rw [if_neg (by omega)] at h; exact h, fun h0 => by rw [if_pos (by omega)] at h; exact h⟩
    · rw [if_pos h9] at h
      have hn : k < n := t.in (by have := dg_b h9; omega)
      have h80 := t.1
      rw [nI_1, show b + k + 1 = b + (k + 1) by omega]
      exact ih (k + 1) (by omega) (by omega) (by omega) h
theorem ne98 {post : Int32 → MS → Prop} {a j : Nat} (t : MT c n b u) (ha : a ≤ n) (hj : j ≤ n) (h : post (nI (b + (if j = a then a else expE c j))) u) : P_M_numberEnd_98 post (nI (b + a)) (nI (b + j)) u := by
  have h19 := t.2.1
  have h80 := t.1
  unfold P_M_numberEnd_98
  rw [nI_eq (by omega) (by omega)]
  refine ⟨fun h0 v1 e1 => ?_, fun h0 => ?_⟩
  · rw [if_neg (by omega)] at h
    rw [nI_1, show b + j + 1 = b + (j + 1) by omega] at e1
    subst e1
    have cq : ∀ (i x : Nat), x < 256 → (nI (c i) = nI x ↔ c i = x) := fun i x hx => nI_eq (by have := t.lt i; omega) (by omega)
    rw [t.v (by omega), t.v (by omega), show (69 : Int32) = nI 69 from rfl, show (43 : Int32) = nI 43 from rfl, show (45 : Int32) = nI 45 from rfl, cq _ _ (by decide), cq _ _ (by decide), cq _ _ (by decide)]
    refine ⟨t.q (by omega), fun h1 => ?_, fun h1 => ⟨t.q (by omega), ?_⟩⟩
    · unfold expE at h
      rw [if_neg h1] at h
      exact h
    · unfold expE at h
      rw [if_pos h1] at h
      have e17 : st c j (wS 17) = decide (c (j + 1) = 43) := by
        show (decide (c j = 69) && (decide (c (j + 1) = 43) && true)) = _
        simp [h1]
      have e18 : st c j (wS 18) = decide (c (j + 1) = 45) := by
        show (decide (c j = 69) && (decide (c (j + 1) = 45) && true)) = _
        simp [h1]
      have two : (c (j + 1) = 43 ∨ c (j + 1) = 45) → P_M_numberEnd_142 post (nI (b + j)) (nI (b + (j + 1))) u := by
        intro hq
        have e : exD c j = j + 2 := by
          unfold exD
          rw [e17, e18, if_pos (by simpa using hq)]
        rw [e] at h
        unfold P_M_numberEnd_142 P_M_numberEnd_151
        rw [nI_1, show b + (j + 1) + 1 = b + (j + 2) by omega]
        exact ⟨82, ne157 t (by omega) (by omega) 81 (j + 2) (Nat.le_refl _) (by omega) (by omega) h⟩
      refine ⟨fun h2 => two (Or.inl h2), fun h2 => ⟨t.q (by omega), fun h3 => ?_, fun h3 => two (Or.inr h3)⟩⟩
      have e : exD c j = j + 1 := by
        unfold exD
        rw [e17, e18, if_neg (by simp [h2, h3])]
      rw [e] at h
      exact ⟨82, ne157 t (by omega) (by omega) 81 (j + 1) (Nat.le_refl _) (by omega) (by omega) h⟩
  · rw [if_pos (by omega)] at h
    exact h
theorem ne81 {post : Int32 → MS → Prop} {a : Nat} (t : MT c n b u) : ∀ (f k : Nat), k ≤ n → n ≤ k + f → P_M_numberEnd_98 post (nI (b + a)) (nI (b + dgN c f k)) u → P_M_numberEnd_81 post (f + 1) (nI (b + a)) (nI (b + k)) u := by
  have h80 := t.1
  intro f
  induction f with
  | zero =>
    intro k hk hf h
    refine ⟨t.q (by omega), ?_⟩
    rw [t.v (by omega), isDig_0 _ (t.lt _), t.2.2.2.2.2 k (by omega)]
    exact ⟨fun _ => h, fun h0 => absurd (by decide) h0⟩
  | succ f ih =>
    intro k hk hf h
    refine ⟨t.q (by omega), ?_⟩
    rw [t.v (by omega), isDig_0 _ (t.lt _), Classical.not_not]
    unfold dgN at h
    refine ⟨fun h9 => by rw [if_neg h9] at h; exact h, fun h9 => ?_⟩
    rw [if_pos h9] at h
    have hn : k < n := t.in (by have := dg_b h9; omega)
    rw [nI_1, show b + k + 1 = b + (k + 1) by omega]
    exact ih (k + 1) (by omega) (by omega) h
theorem ne2 {post : Int32 → MS → Prop} {a : Nat} (t : MT c n b u) (ha : a ≤ n) : ∀ (f k : Nat), a ≤ k → k ≤ n → n ≤ k + f → (∀ e, e = dgN c f k → P_M_numberEnd_29 post (nI (b + a)) (nI (b + e)) (if a < e then 1 else 0) u) → P_M_numberEnd_2 post (f + 1) (nI (b + a)) (nI (b + k)) u := by
  have h80 := t.1
  have h19 := t.2.1
  intro f
  induction f with
  | zero =>
    intro k hak hk hf h
    refine ⟨t.q (by omega), ?_⟩
    rw [t.v (by omega), isDig_0 _ (t.lt _), t.2.2.2.2.2 k (by omega), nI_leI (by omega) (by omega)]
    have h1 := h k rfl
    exact ⟨fun _ => ⟨fun h0 => by rw [if_neg (by omega)] at h1; exact h1, fun h0 => by rw [if_pos (by omega)] at h1; exact h1⟩, fun h0 => absurd (by decide) h0⟩
  | succ f ih =>
    intro k hak hk hf h
    refine ⟨t.q (by omega), ?_⟩
    rw [t.v (by omega), isDig_0 _ (t.lt _), Classical.not_not, nI_leI (by omega) (by omega)]
    unfold dgN at h
    refine ⟨fun h9 => ?_, fun h9 => ?_⟩
    · rw [if_neg h9] at h
      have h1 := h k rfl
      exact ⟨fun h0 => by rw [if_neg (by omega)] at h1; exact h1, fun h0 => by rw [if_pos (by omega)] at h1; exact h1⟩
    · rw [if_pos h9] at h
      have hn : k < n := t.in (by have := dg_b h9; omega)
      rw [nI_1, show b + k + 1 = b + (k + 1) by omega]
      exact ih (k + 1) (by omega) (by omega) (by omega) h
theorem numberEnd_of {post : Int32 → MS → Prop} {a : Nat} (t : MT c n b u) (ha : a ≤ n) (h : post (nI (b + numE c a)) u) : P_M_numberEnd post (nI (b + a)) u := by
  have h80 := t.1
  have h19 := t.2.1
  refine ⟨82, ne2 t ha 81 a (Nat.le_refl _) ha (by omega) (fun e he => ?_)⟩
  have he' : e = dgE c a := he
  have hae := dgN_le (c := c) 81 a
  have hen := dgN_n (c := c) t.2.2.2.2.2 81 a ha
  rw [← he] at hae hen
  have fin : ∀ j, j ≤ n → a ≤ j → numD c a = j → P_M_numberEnd_98 post (nI (b + a)) (nI (b + j)) u := by
    intro j hj haj hq
    refine ne98 t ha hj ?_
    unfold numE at h
    rw [hq] at h
    by_cases e1 : j = a
    · rw [if_neg (by omega)] at h
      rw [if_pos e1]
      exact h
    · rw [if_pos (by omega)] at h
      rw [if_neg e1]
      exact h
  have e5 : st c e (wS 5) = decide (c e = 46) := by
    show (decide (c e = 46) && true) = _
    simp
  have d46 : ∀ i, (nI (c i) = 46 ↔ c i = 46) := fun i => nI_eq (b := 46) (by have := t.lt i; omega) (by decide)
  have hnD : numD c a = if (st c e (wS 5) && !lgw c e) = true then (if e = a ∧ dgE c (e + 1) = e + 1 then a else dgE c (e + 1)) else e := by
    unfold numD
    rw [← he']
  have fr : ∀ hc : c e = 46, lgw c e = false → ¬ (e = a ∧ dgE c (e + 1) = e + 1) → P_M_numberEnd_78 post (nI (b + a)) (nI (b + e)) u := by
    intro hc hw hq
    have hn : e < n := t.in (by omega)
    unfold P_M_numberEnd_78
    rw [nI_1, show b + e + 1 = b + (e + 1) by omega]
    have h2 := dgN_le (c := c) 81 (e + 1)
    have h3 := dgN_n (c := c) t.2.2.2.2.2 81 (e + 1) hn
    refine ⟨82, ne81 t 81 (e + 1) hn (by omega) (fin _ h3 (by omega) ?_)⟩
    rw [hnD, if_pos (by rw [e5, hw]; simp [hc]), if_neg hq]
    rfl
  have no46 : ¬ c e = 46 → P_M_numberEnd_98 post (nI (b + a)) (nI (b + e)) u := fun hc => fin e hen hae (by rw [hnD, if_neg (by rw [e5]; simp [hc])])
  unfold P_M_numberEnd_29
  rw [nI_1, show b + e + 1 = b + (e + 1) by omega, t.v (by omega), t.v (by omega), d46]
  by_cases hw : a < e
  · rw [if_pos hw]
    refine ⟨fun h0 => absurd h0 (by decide), fun _ => ⟨t.q (by omega), no46, fun hc => ?_⟩⟩
    refine dots_of t (by omega) ?_
    have hd : nI (dtC c e) = 0 ↔ dtC c e = 0 := by
      have : dtC c e < 100 := by
        by_cases h0 : dtC c e = 0
        · omega
        · obtain ⟨q, hq, e2, _⟩ := (dt_iff (k := e) h0).mp rfl
          have : ∀ q ∈ dtW, q.2 < 100 := by decide
          have := this q hq
          omega
      exact nI_eq (b := 0) (by omega) (by decide)
    rw [hd]
    refine ⟨fun h1 => fin e hen hae ?_, fun h1 => fr hc ?_ (fun q => by omega)⟩
    · rw [hnD, if_neg (by rw [dt_lgw.mpr h1]; simp)]
    · have : ¬ lgw c e = true := fun q => dt_lgw.mp q h1
      simpa using this
  · rw [if_neg hw]
    have ea : e = a := by omega
    refine ⟨fun _ => ⟨t.q (by omega), no46, fun hc => ⟨t.q (by omega), ?_⟩⟩, fun h0 => absurd rfl h0⟩
    rw [isDig_0 _ (t.lt _), Classical.not_not]
    have hlw : dg (c (e + 1)) = true → lgw c e = false := by
      intro hg
      have : ¬ lgw c e = true := by
        intro q
        obtain ⟨q, hq, e2, hs⟩ := (dt_iff (k := e) (dt_lgw.mp q)).mp rfl
        simp only [st, Bool.and_eq_true, decide_eq_true_eq] at hs
        have h9 := lts_st q.1.reverse 6 (e + 1) [] (fun x hx => (dtW_ok q hq).1 x (List.mem_reverse.mp hx)) (by rw [List.length_reverse]; exact (dtW_ok q hq).2.1) hs.2
        have hne : lr (c (e + 1)) = true := by
          by_cases hl : lr (c (e + 1)) = true
          · exact hl
          · rw [lts, if_neg hl] at h9
            have : q.1 = [] := by simpa using h9.symm
            exact absurd this ((by decide : ∀ q ∈ dtW, q.1 ≠ []) q hq)
        have h7 := dg_b hg
        unfold lr at hne
        have := of_decide_eq_true (Bool.and_eq_true_iff.mp hne).1
        omega
      simpa using this
    refine ⟨fun h1 => fin e hen hae ?_, fun h1 => fr hc (hlw h1) (fun q => ?_)⟩
    · have e8 : dgE c (e + 1) = e + 1 := by
        show dgN c (80 + 1) (e + 1) = _
        unfold dgN
        rw [if_neg h1]
      rw [hnD]
      split
      · rw [if_pos ⟨ea, e8⟩]; omega
      · rfl
    · have q2 : dgN c (80 + 1) (e + 1) = e + 1 := q.2
      unfold dgN at q2
      rw [if_pos h1] at q2
      have h3 := dgN_le (c := c) 80 (e + 1 + 1)
      rw [show dgN c 80 (e + 1 + 1) = e + 1 from q2] at h3
      omega
end MNU
