section CR3
variable {N k : Nat} {cd : Nat → Nat} {cs : Nat → Nat → Nat} {ns lb : Nat → Nat} {x : XS} {m : MS}
theorem Tx.fs {c : Nat → Nat} {n : Nat} {u w : MS} (t : Tx c n u) (f : Fs u w) : Tx c n w := ⟨t.1, (f.1 4 (by decide) (by decide)).trans t.2.1, fun i hi => ⟨(f.2 i).trans (t.2.2.1 i hi).1, (t.2.2.1 i hi).2⟩, t.2.2.2⟩
theorem Rz.fa {n : Nat} {r w : MS} {q : Nat × List Tz} (h : Rz n r q) (f : Fa r w) : Rz n w q := ⟨(f.1 8 (by decide) (by decide)).trans h.1, h.2.1, fun j t hj => by
  obtain ⟨a1, a2, a3⟩ := h.2.2 j t hj
  exact ⟨(f.2 1 (by decide) j).trans a1, (f.2 3 (by decide) j).trans a2, (f.2 2 (by decide) j).trans a3⟩⟩
theorem fnd_nI {s : Nat} (hN : N ≤ 24) (hs : s < N) : fnd N (nI s) = some s := by
  unfold fnd
  rw [if_neg (nI_pos (by omega)), if_pos ((nI_ltI (by omega) (by omega)).mpr hs), nI_clamp (by omega)]
theorem DkI.keep {x' : XS} {m' : MS} (h : DkI N cs ns lb x m) (hx1 : gI x'.2.1 1 = gI x.2.1 1) (hm3 : gI m' 3 = gI m 3) (hrows : ∀ s, s < N → x'.2.2.2 s = x.2.2.2 s) (ha : ∀ s, s < N → gA m' 4 s = gA m 4 s ∧ gA m' 5 s = gA m 5 s) (ht : ∀ i, i < 80 * N → gA m' 6 i = gA m 6 i) : DkI N cs ns lb x' m' := by
  refine ⟨h.1, hx1.trans h.2.1, hm3.trans h.2.2.1, fun s hs => ?_⟩
  obtain ⟨h1, h2, h3, h4, h5⟩ := h.2.2.2 s hs
  have h80 := h2.1.1
  refine ⟨h1, by rw [hrows s hs]; exact h2, (ha s hs).1.trans h3, (ha s hs).2.trans h4, fun i hi => (ht _ ?_).trans (h5 i hi)⟩
  omega
theorem DkI.put {x' : XS} {m' : MS} {N' p : Nat} (h : DkI N cs ns lb x m) (hN' : N' ≤ 24) (hle : ∀ s, s < N' → s ≠ p → s < N) (hx1 : gI x'.2.1 1 = nI N') (hm3 : gI m' 3 = nI N') (hrows : ∀ s, s ≠ p → x'.2.2.2 s = x.2.2.2 s) (ha : ∀ s, s ≠ p → gA m' 4 s = gA m 4 s ∧ gA m' 5 s = gA m 5 s) (ht : ∀ i, (i < 80 * p ∨ 80 * p + 80 ≤ i) → gA m' 6 i = gA m 6 i) {c : Nat → Nat} {n l : Nat} (hl : l < 100000) (hr : RowI c n l (x'.2.2.2 p)) (hm : MdI m' p c n l) : ∃ cs ns lb, DkI N' cs ns lb x' m' := by
  refine ⟨fun s => if s = p then c else cs s, fun s => if s = p then n else ns s, fun s => if s = p then l else lb s, hN', hx1, hm3, fun s hs => ?_⟩
  by_cases e : s = p
  · subst e
    simp only [if_pos]
    exact ⟨hl, hr, hm⟩
  · simp only [if_neg e]
    obtain ⟨h1, h2, h3, h4, h5⟩ := h.2.2.2 s (hle s hs e)
    have h80 := h2.1.1
    refine ⟨h1, by rw [hrows s e]; exact h2, (ha s e).1.trans h3, (ha s e).2.trans h4, fun i hi => (ht _ ?_).trans (h5 i hi)⟩
    omega
abbrev m0 (m : MS) : MS := sI (sI m 0 (0 : Int32)) 1 (0 : Int32)
theorem m0_3 (m : MS) : gI (m0 m) 3 = gI m 3 := rfl
theorem m0_1 (m : MS) : gI (m0 m) 1 = 0 := rfl
theorem m0_0 (m : MS) : gI (m0 m) 0 = 0 := rfl
theorem card_m {post : Int32 → MS → Prop} (hc : CdI k cd x m) (hd : DkI N cs ns lb x m)
    (h1 : cmC k cd = true → post (-1) (m0 m))
    (hW : cmC k cd = false → wlC k cd = false → post 0 (sI (m0 m) 0 (1 : Int32)))
    (hP : cmC k cd = false → wlC k cd = true → ((coC k cd = true ∧ N = 0) ∨ (coC k cd = false ∧ N = 24)) → post 0 (sI (m0 m) 0 (2 : Int32)))
    (hC : cmC k cd = false → wlC k cd = true → coC k cd = true → 0 < N → ∀ w, Wr (m0 m) w (80 * (N - 1) + ns (N - 1)) (80 * (N - 1) + 80) → (∀ j, j < (apF cd (k - 6) 6 (ns (N - 1), iqN (cs (N - 1)) (ns (N - 1)), cs (N - 1))).1 → j < 80 → gA w 6 (80 * (N - 1) + j) = nI ((apF cd (k - 6) 6 (ns (N - 1), iqN (cs (N - 1)) (ns (N - 1)), cs (N - 1))).2.2 j)) → (80 < (apF cd (k - 6) 6 (ns (N - 1), iqN (cs (N - 1)) (ns (N - 1)), cs (N - 1))).1 → post 0 (sI w 0 (2 : Int32))) ∧ ((apF cd (k - 6) 6 (ns (N - 1), iqN (cs (N - 1)) (ns (N - 1)), cs (N - 1))).1 ≤ 80 → post (nI (N - 1)) (sI (sA (sA w 5 (N - 1) (nI (apF cd (k - 6) 6 (ns (N - 1), iqN (cs (N - 1)) (ns (N - 1)), cs (N - 1))).1)) 4 (N - 1) (gA w 4 (N - 1))) 3 (gI w 3))))
    (hB : cmC k cd = false → wlC k cd = true → coC k cd = false → N < 24 → ∀ w, Wr (m0 m) w (80 * N) (80 * N + 80) → (∀ j, j < (t00 cd k).1 → j < 80 → gA w 6 (80 * N + j) = nI ((t00 cd k).2.2 j)) → (80 < (t00 cd k).1 → post 0 (sI w 0 (2 : Int32))) ∧ ((t00 cd k).1 ≤ 80 → post (nI N) (sI (sA (sA w 5 N (nI (t00 cd k).1)) 4 N (nI (nuN cd (min k 5)))) 3 (gI w 3 + 1)))) : P_M_card post m := by
  intro v1 e1
  have e1 : v1 = nI k := e1.trans hc.2.2.1
  subst e1
  have mc : Mc k cd (sI m 0 (0 : Int32)) := ⟨hc.1, fun i hi => ⟨(hc.2.2.2 i hi).2.1, (hc.2.2.2 i hi).2.2⟩⟩
  have mc' : Mc k cd (m0 m) := ⟨hc.1, fun i hi => ⟨(hc.2.2.2 i hi).2.1, (hc.2.2.2 i hi).2.2⟩⟩
  refine comment_m mc hc.2.2.1 ?_
  cases hcm : cmC k cd
  · refine ⟨fun _ => ?_, fun q => absurd rfl q⟩
    by_cases h0 : N = 0
    · exact joined_m (N := N) (n := 0) (lb := 0) (c := c00) mc' hd.1 hd.2.2.1 (by decide) (fun q => absurd q (by omega)) (hW hcm) (hP hcm) (fun _ _ q => absurd q (by omega)) (hB hcm)
    · obtain ⟨g1, g2, g3⟩ := hd.2.2.2 (N - 1) (by omega)
      exact joined_m (N := N) (n := ns (N - 1)) (lb := lb (N - 1)) (c := cs (N - 1)) mc' hd.1 hd.2.2.1 g2.1.1 (fun _ => ⟨g3, fun i _ => g2.1.lt i⟩) (hW hcm) (hP hcm) (hC hcm) (hB hcm)
  · exact ⟨fun q => absurd q (by decide), fun _ => h1 hcm⟩
abbrev x0 (x : XS) : XS := ((sI x.1 1 (0 : Int32)), x.2.1, x.2.2.1, x.2.2.2)
theorem CdI.z {x' : XS} {m' : MS} (h1 : gI x'.1 1 = 0) (h2 : gI m' 1 = 0) : ∃ k cd, CdI k cd x' m' := ⟨0, c00, by decide, h1, h2, fun i hi => absurd hi (by omega)⟩
end CR3
