/-! trees, by what is printed of them -/
def PrS (c : Nat → Nat) (n b : Nat) (u : MS) (lo hi k : Nat) (L : List Nat) (cost : Nat) : Prop := ∀ (w : MS), MT c n b w → Ag u w lo hi k → ∀ (nn f : Nat) (post : MS → Prop) (sw : List Nat), nn + 3 * (hi - lo) + 1 ≤ 400 → gI w 10 = nI sw.length → Sh w sw → sw.length + L.length ≤ 600 → gA w 32 nn = nI k → (∀ v, KP w v nn → gI v 10 = nI (sw ++ L).length → Sh v (sw ++ L) → P_M_print_9 post f (nI nn) v) → P_M_print_9 post (f + cost) (nI (nn + 1)) w
def Pr0 (c : Nat → Nat) (n b : Nat) (u : MS) (lo hi k s : Nat) (Z : List Tz) : Prop := lo ≤ k ∧ k < hi ∧ hi ≤ 100 ∧ hi - lo ≤ Z.length ∧ Z ≠ [] ∧ gA u 23 k = -1 ∧ (shZ c s Z).length ≤ 3 * Z.length ∧ ∃ cost, PrS c n b u lo hi k (shZ c s Z) cost
def ChS (c : Nat → Nat) (n b : Nat) (u : MS) (lo hi first last : Nat) (T : List Nat) (k0 k1 : Nat) : Prop := ∀ (w : MS), MT c n b w → Ag u w lo hi last → ∀ (nn f : Nat) (post : MS → Prop) (sw : List Nat), nn + 3 * (hi - lo) + 3 ≤ 400 → gI w 10 = nI sw.length → Sh w sw → sw.length + T.length + 1 ≤ 600 → gA w 32 nn = (-2000 : Int32) - nI first → (gA w 23 last < 0 → (∀ v, KP w v nn → gI v 10 = nI (sw ++ T).length → Sh v (sw ++ T) → P_M_print_9 post f (nI nn) v) → P_M_print_9 post (f + k0) (nI (nn + 1)) w) ∧ (∀ y, y < 100 → gA w 23 last = nI y → (∀ v, KP w v nn → gA v 32 nn = (-2000 : Int32) - nI y → gI v 10 = nI (sw ++ T ++ [44]).length → Sh v (sw ++ T ++ [44]) → P_M_print_9 post f (nI (nn + 1)) v) → P_M_print_9 post (f + k1) (nI (nn + 1)) w)
/-- a list's node, its name m long -/
def Nd (n b : Nat) (u : MS) (lo s m : Nat) : Prop := lo < 100 ∧ s + m ≤ n ∧ gA u 24 lo = 3 ∧ gA u 19 lo = nI (b + s) ∧ gA u 20 lo = nI (b + (s + m)) ∧ gA u 23 lo = -1
/-- a list in which T is -/
def PrJ (c : Nat → Nat) (n b : Nat) (u : MS) (lo hi : Nat) (T : List Nat) : Prop := ∃ first last k0 k1, gA u 21 lo = nI first ∧ first < 100 ∧ gA u 22 lo = nI last ∧ lo + 1 ≤ last ∧ last < hi ∧ gA u 23 last = -1 ∧ ChS c n b u (lo + 1) hi first last T k0 k1
def PrL (c : Nat → Nat) (n b : Nat) (u : MS) (lo hi s : Nat) (X : List Tz) : Prop := ∃ m, Nd n b u lo s m ∧ lo < hi ∧ hi ≤ 100 ∧ hi - lo ≤ X.length ∧ (shZ c s X).length ≤ 3 * X.length ∧ ((hi = lo + 1 ∧ gA u 21 lo = -1 ∧ shZ c s X = sgN c m s ++ [40]) ∨ ∃ T, PrJ c n b u lo hi T ∧ shZ c s X = sgN c m s ++ ([40] ++ (T ++ [44])))
theorem shZ_wo (c : Nat → Nat) {s : Nat} {X : List Tz} (h : X ≠ []) : shZ c s (wo X) = 40 :: shZ c s X := by
  obtain ⟨t, X, rfl⟩ := List.exists_cons_of_ne_nil h
  simp [wo, shZ, List.replicate_succ]
theorem shZ_wc (c : Nat → Nat) (j : Nat) : ∀ (X : List Tz) (s : Nat), X ≠ [] → shZ c s (wc j X) = shZ c s X ++ List.replicate j 41
  | [], _, h => absurd rfl h
  | [(o, r, k)], s, _ => by
    simp [wc, shZ, List.append_assoc, ← List.replicate_append_replicate]
  | t :: t' :: X, s, _ => by
    rw [wc_cons j t (by simp)]
    have ih := shZ_wc c j (t' :: X) (s + 1) (by simp)
    have e1 : ∀ Y, shZ c s (t :: Y) = List.replicate t.1 40 ++ ((if t.2.1 = 5 then [] else [c s]) ++ (List.replicate t.2.2 41 ++ shZ c (s + 1) Y)) := fun _ => rfl
    rw [e1, e1, ih]
    simp only [List.append_assoc]
theorem shZ_br (c : Nat → Nat) {s : Nat} {X : List Tz} (h : X ≠ []) : shZ c s (wc 1 (wo X)) = 40 :: (shZ c s X ++ [41]) := by
  rw [shZ_wc c 1 _ s (wo_ne h), shZ_wo c h]
  rfl
theorem nmsZ_wo (ty : Nat) {s : Nat} {X : List Tz} : nmsZ ty s (wo X) = nmsZ ty s X := by
  cases X with
  | nil => rfl
  | cons t X => rfl
theorem nmsZ_wc (ty j : Nat) : ∀ (X : List Tz) (s : Nat), nmsZ ty s (wc j X) = nmsZ ty s X
  | [], _ => rfl
  | [(o, r, k)], s => rfl
  | t :: t' :: X, s => by
    rw [wc_cons j t (by simp)]
    have ih := nmsZ_wc ty j (t' :: X) (s + 1)
    have e1 : ∀ Y, nmsZ ty s (t :: Y) = (if 1 ≤ t.2.1 ∧ t.2.1 ≤ 4 then [(s, t.2.1, ty)] else []) ++ nmsZ ty (s + 1) Y := fun _ => rfl
    rw [e1, e1, ih]
section MTR
variable {c : Nat → Nat} {n b : Nat}
theorem Ag.sub {u w : MS} {lo hi k lo' hi' k' : Nat} (h : Ag u w lo hi k) (h1 : lo ≤ lo') (h2 : hi' ≤ hi) (h3 : k < lo' ∨ hi' ≤ k ∨ k = k') : Ag u w lo' hi' k' := fun f q1 q2 i q3 q4 q5 => h f q1 q2 i (by omega) (by omega) (fun e => by have := q5 e; omega)
theorem Ag.left {u u' w : MS} {lo hi k : Nat} (h : Ag u' w lo hi k) (e : ∀ f, 19 ≤ f → f ≤ 24 → ∀ i, lo ≤ i → i < hi → (f = 23 → i ≠ k) → gA u' f i = gA u f i) : Ag u w lo hi k := fun f q1 q2 i q3 q4 q5 => (h f q1 q2 i q3 q4 q5).trans (e f q1 q2 i q3 q4 q5)
def Eq6 (u u' : MS) (lo hi : Nat) : Prop := ∀ f, 19 ≤ f → f ≤ 24 → ∀ i, lo ≤ i → i < hi → gA u' f i = gA u f i
theorem Pr0.fr {u u' : MS} {lo hi k s : Nat} {Z : List Tz} (h : Pr0 c n b u lo hi k s Z) (e : Eq6 u u' lo hi) : Pr0 c n b u' lo hi k s Z := by
  obtain ⟨h1, h2, h3, h4, h5, h6, h7, cost, h8⟩ := h
  refine ⟨h1, h2, h3, h4, h5, (e 23 (by decide) (by decide) k h1 h2).trans h6, h7, cost, fun w t ag => h8 w t (ag.left (fun f q1 q2 i q3 q4 _ => e f q1 q2 i q3 q4))⟩
theorem PrJ.fr {u u' : MS} {lo hi : Nat} {T : List Nat} (h : PrJ c n b u lo hi T) (e : Eq6 u u' lo hi) : PrJ c n b u' lo hi T := by
  obtain ⟨first, last, k0, k1, h1, hf, h2, h3, h4, h5, h6⟩ := h
  have hlo : lo < hi := by omega
  refine ⟨first, last, k0, k1, (e 21 (by decide) (by decide) lo (Nat.le_refl _) hlo).trans h1, hf, (e 22 (by decide) (by decide) lo (Nat.le_refl _) hlo).trans h2, h3, h4, (e 23 (by decide) (by decide) last (by omega) h4).trans h5, fun w t ag => h6 w t (ag.left (fun f q1 q2 i q3 q4 _ => e f q1 q2 i (by omega) q4))⟩
theorem Nd.fr {u u' : MS} {lo s m : Nat} (h : Nd n b u lo s m) (e : Eq6 u u' lo (lo + 1)) : Nd n b u' lo s m := by
  have q := fun f h1 h2 => e f h1 h2 lo (Nat.le_refl _) (by omega)
  exact ⟨h.1, h.2.1, (q 24 (by decide) (by decide)).trans h.2.2.1, (q 19 (by decide) (by decide)).trans h.2.2.2.1, (q 20 (by decide) (by decide)).trans h.2.2.2.2.1, (q 23 (by decide) (by decide)).trans h.2.2.2.2.2⟩
theorem PrL.fr {u u' : MS} {lo hi s : Nat} {X : List Tz} (h : PrL c n b u lo hi s X) (e : Eq6 u u' lo hi) : PrL c n b u' lo hi s X := by
  obtain ⟨m, h1, h2, h3, h4, h5, h6⟩ := h
  refine ⟨m, h1.fr (fun f q1 q2 i q3 q4 => e f q1 q2 i q3 (by omega)), h2, h3, h4, h5, ?_⟩
  rcases h6 with ⟨p1, p2, p3⟩ | ⟨T, p1, p2⟩
  · exact Or.inl ⟨p1, (e 21 (by decide) (by decide) lo (Nat.le_refl _) h2).trans p2, p3⟩
  · exact Or.inr ⟨T, p1.fr e, p2⟩
theorem Pr0.leaf {u : MS} {k s m : Nat} {Z : List Tz} (hk : k < 100) (hm : s + m ≤ n) (hZ : Z.length = m) (hp : 0 < m) (hs : shZ c s Z = sgN c m s) (h24 : gA u 24 k = 0) (h19 : gA u 19 k = nI (b + s)) (h20 : gA u 20 k = nI (b + (s + m))) (h23 : gA u 23 k = -1) : Pr0 c n b u k (k + 1) k s Z := by
  refine ⟨Nat.le_refl _, by omega, by omega, by omega, fun e => by rw [e] at hZ; simp at hZ; omega, h23, by rw [hs, sgN_len]; omega, 1, fun w t ag nn f post sw hn hl h0 hsz hv h => ?_⟩
  rw [hs] at h hsz
  rw [sgN_len] at hsz
  have q := fun f h1 h2 h3 => ag f h1 h2 k (Nat.le_refl _) (by omega) (fun e => absurd e h3)
  exact pr_leaf t (by omega) hk hv ((q 24 (by decide) (by decide) (by decide)).trans h24) ((q 19 (by decide) (by decide) (by decide)).trans h19) ((q 20 (by decide) (by decide) (by decide)).trans h20) hm hl hsz h0 h
theorem Pr0.none {u : MS} {k s m : Nat} {Z : List Tz} (nd : Nd n b u k s m) (h21 : gA u 21 k = -1) (hZ : Z.length = m + 2) (hs : shZ c s Z = sgN c m s ++ [40] ++ [41]) : Pr0 c n b u k (k + 1) k s Z := by
  obtain ⟨hk, hm, h24, h19, h20, h23⟩ := nd
  refine ⟨Nat.le_refl _, by omega, by omega, by omega, fun e => by rw [e] at hZ; simp at hZ, h23, by rw [hs]; simp [sgN_len]; omega, 2, fun w t ag nn f post sw hn hl h0 hsz hv h => ?_⟩
  rw [hs] at h hsz
  simp only [List.length_append, sgN_len, List.length_singleton] at hsz
  have q := fun f h1 h2 h3 => ag f h1 h2 k (Nat.le_refl _) (by omega) (fun e => absurd e h3)
  have h21w : gA w 21 k = -1 := (q 21 (by decide) (by decide) (by decide)).trans h21
  refine pr_list (f := f + 1) t (by omega) hk hv ((q 24 (by decide) (by decide) (by decide)).trans h24) ((q 19 (by decide) (by decide) (by decide)).trans h19) ((q 20 (by decide) (by decide) (by decide)).trans h20) hm hl (by omega) h0 (fun _ v kv g1 g2 g3 => ?_) (fun h9 => absurd (by rw [h21w]; decide) h9)
  refine pr_chr (t.of kv.km) (by omega) (Or.inl rfl) g1 g2 (by simp [sgN_len]; omega) g3 (fun v2 kv2 r1 r2 => h v2 (kv.tr kv2 (Nat.le_refl _)) ?_ ?_)
  · simpa [List.append_assoc] using r1
  · simpa [List.append_assoc] using r2
theorem Pr0.unary {u : MS} {lo hi k s m : Nat} {Z : List Tz} (h : Pr0 c n b u lo hi k (s + m) Z) (hh : hi < 100) (hm : s + m ≤ n) (hp : 0 < m) (h24 : gA u 24 hi = 2) (h19 : gA u 19 hi = nI (b + s)) (h20 : gA u 20 hi = nI (b + (s + m))) (h21 : gA u 21 hi = nI k) (h23 : gA u 23 hi = -1) : Pr0 c n b u lo (hi + 1) hi s (wc 1 (wo (zn m ++ Z))) := by
  obtain ⟨h1, h2, h3, h4, h5, h6, h7, cost, h8⟩ := h
  have hne : zn m ++ Z ≠ [] := fun e => h5 (List.append_eq_nil_iff.mp e).2
  have hs : shZ c s (wc 1 (wo (zn m ++ Z))) = [40] ++ (sgN c m s ++ (shZ c (s + m) Z ++ [41])) := by
    rw [shZ_br c hne, shZ_app, shZ_zn, zn_len]
    simp
  have hlen : (wc 1 (wo (zn m ++ Z))).length = m + Z.length := by rw [wc_len, wo_len, List.length_append, zn_len]
  refine ⟨by omega, by omega, by omega, by omega, wc_ne (wo_ne hne), h23, ?_, cost + 2, fun w t ag nn f post sw hn hl h0 hsz hv hK => ?_⟩
  · rw [hs, hlen]
    simp only [List.length_append, List.length_singleton, sgN_len]
    omega
  · rw [hs] at hK hsz
    simp only [List.length_append, List.length_singleton, sgN_len] at hsz
    have q := fun f h1' h2' h3' => ag f h1' h2' hi (by omega) (by omega) (fun e => absurd e h3')
    rw [show f + (cost + 2) = (f + 1 + cost) + 1 by omega]
    refine pr_un t (by omega) hh hv ((q 24 (by decide) (by decide) (by decide)).trans h24) ((q 19 (by decide) (by decide) (by decide)).trans h19) ((q 20 (by decide) (by decide) (by decide)).trans h20) hm hl (by omega) h0 (fun v kv g1 g2 g3 g4 => ?_)
    have e21 : gA w 21 hi = nI k := (q 21 (by decide) (by decide) (by decide)).trans h21
    refine h8 v (t.of kv.km) ((ag.kp kv).sub (by omega) (by omega) (by omega)) (nn + 1) (f + 1) post _ (by omega) g3 g4 (by simp [sgN_len]; omega) (g2.trans e21) (fun v2 kv2 r1 r2 => ?_)
    have c41 : gA v2 32 nn = nI 0 - 1 - nI 41 := (kv2.2.2.1 nn (by omega)).trans g1
    refine pr_chr (t.of (kv.km.tr kv2.km)) (by omega) (Or.inl rfl) c41 r1 (by simp [sgN_len]; omega) r2 (fun v3 kv3 t1 t2 => hK v3 ((kv.tr kv2 (by omega)).tr kv3 (Nat.le_refl _)) ?_ ?_)
    · simpa [List.append_assoc] using t1
    · simpa [List.append_assoc] using t2
theorem Pr0.binary {u : MS} {lo mid hi k1 k2 s m : Nat} {X Z : List Tz} (h : Pr0 c n b u lo mid k1 s X) (h' : Pr0 c n b u mid hi k2 (s + X.length + m) Z) (hh : hi < 100) (hm : s + X.length + m ≤ n) (hp : 0 < m) (h24 : gA u 24 hi = 1) (h19 : gA u 19 hi = nI (b + (s + X.length))) (h20 : gA u 20 hi = nI (b + (s + X.length + m))) (h21 : gA u 21 hi = nI k1) (h22 : gA u 22 hi = nI k2) (h23 : gA u 23 hi = -1) : Pr0 c n b u lo (hi + 1) hi s (wc 1 (wo ((X ++ zn m) ++ Z))) := by
  obtain ⟨a1, a2, a3, a4, a5, a6, a7, ca, a8⟩ := h
  obtain ⟨b1, b2, b3, b4, b5, b6, b7, cb, b8⟩ := h'
  have hne : (X ++ zn m) ++ Z ≠ [] := fun e => b5 (List.append_eq_nil_iff.mp e).2
  have hs : shZ c s (wc 1 (wo ((X ++ zn m) ++ Z))) = [40] ++ (shZ c s X ++ (sgN c m (s + X.length) ++ (shZ c (s + X.length + m) Z ++ [41]))) := by
    rw [shZ_br c hne, shZ_app, shZ_app, shZ_zn, List.length_append, zn_len, Nat.add_assoc]
    simp
  have hlen : (wc 1 (wo ((X ++ zn m) ++ Z))).length = X.length + m + Z.length := by rw [wc_len, wo_len, List.length_append, List.length_append, zn_len]
  refine ⟨by omega, by omega, by omega, by omega, wc_ne (wo_ne hne), h23, ?_, ca + cb + 3, fun w t ag nn f post sw hn hl h0 hsz hv hK => ?_⟩
  · rw [hs, hlen]
    simp only [List.length_append, List.length_singleton, sgN_len]
    omega
  · rw [hs] at hK hsz
    simp only [List.length_append, List.length_singleton, sgN_len] at hsz
    have q := fun f h1' h2' h3' => ag f h1' h2' hi (by omega) (by omega) (fun e => absurd e h3')
    rw [show f + (ca + cb + 3) = (f + 1 + cb + 1 + ca) + 1 by omega]
    refine pr_bin (by omega) hh hv ((q 24 (by decide) (by decide) (by decide)).trans h24) hl (by omega) h0 (fun v kv g1 g2 g3 g4 g5 g6 => ?_)
    have e21 : gA w 21 hi = nI k1 := (q 21 (by decide) (by decide) (by decide)).trans h21
    have e22 : gA w 22 hi = nI k2 := (q 22 (by decide) (by decide) (by decide)).trans h22
    refine a8 v (t.of kv.km) ((ag.kp kv).sub (by omega) (by omega) (by omega)) (nn + 3) _ post _ (by omega) g5 g6 (by simp; omega) (g4.trans e21) (fun v2 kv2 r1 r2 => ?_)
    have k12 : KP w v2 nn := kv.tr kv2 (by omega)
    have o1 : gA v2 32 (nn + 2) = (-1000 : Int32) - nI hi := (kv2.2.2.1 _ (by omega)).trans g3
    have o2 : gA v2 19 hi = nI (b + (s + X.length)) := (k12.2.1 19 (by decide) (by decide) hi).trans ((q 19 (by decide) (by decide) (by decide)).trans h19)
    have o3 : gA v2 20 hi = nI (b + (s + X.length + m)) := (k12.2.1 20 (by decide) (by decide) hi).trans ((q 20 (by decide) (by decide) (by decide)).trans h20)
    refine pr_op (t.of k12.km) (by omega) hh o1 o2 o3 hm r1 (by simp; omega) r2 (fun v3 kv3 s1 s2 => ?_)
    have k13 : KP w v3 nn := k12.tr kv3 (by omega)
    have o4 : gA v3 32 (nn + 1) = nI k2 := ((kv3.2.2.1 _ (by omega)).trans ((kv2.2.2.1 _ (by omega)).trans g2)).trans e22
    refine b8 v3 (t.of k13.km) ((ag.kp k13).sub (by omega) (by omega) (by omega)) (nn + 1) (f + 1) post _ (by omega) s1 s2 (by simp [sgN_len]; omega) o4 (fun v4 kv4 t1 t2 => ?_)
    have k14 : KP w v4 nn := k13.tr kv4 (by omega)
    have o5 : gA v4 32 nn = nI 0 - 1 - nI 41 := (kv4.2.2.1 _ (by omega)).trans ((kv3.2.2.1 _ (by omega)).trans ((kv2.2.2.1 _ (by omega)).trans g1))
    refine pr_chr (t.of k14.km) (by omega) (Or.inl rfl) o5 t1 (by simp [sgN_len]; omega) t2 (fun v5 kv5 t3 t4 => hK v5 (k14.tr kv5 (Nat.le_refl _)) ?_ ?_)
    · simpa [List.append_assoc] using t3
    · simpa [List.append_assoc] using t4
theorem Pr0.group {u : MS} {lo hi k s : Nat} {Z : List Tz} (h : Pr0 c n b u lo hi k (s + 1) Z) : Pr0 c n b u lo hi k s ((0, 5, 0) :: (Z ++ [(0, 5, 0)])) := by
  obtain ⟨h1, h2, h3, h4, h5, h6, h7, h8⟩ := h
  have e : shZ c s ((0, 5, 0) :: (Z ++ [(0, 5, 0)])) = shZ c (s + 1) Z := by
    show List.replicate 0 40 ++ ((if (5 : Nat) = 5 then [] else [c s]) ++ (List.replicate 0 41 ++ shZ c (s + 1) (Z ++ [(0, 5, 0)]))) = _
    rw [shZ_app]
    simp [shZ]
  refine ⟨h1, h2, h3, by simp; omega, by simp, h6, by rw [e]; simp; omega, ?_⟩
  rw [e]
  exact h8
theorem ChS.one {u : MS} {lo hi k s : Nat} {Z : List Tz} (h : Pr0 c n b u lo hi k s Z) : ∃ k0 k1, ChS c n b u lo hi k k (shZ c s Z) k0 k1 := by
  obtain ⟨h1, h2, h3, h4, h5, h6, h7, cost, h8⟩ := h
  refine ⟨cost + 1, cost + 2, fun w t ag nn f post sw hn hl h0 hsz hv => ⟨fun h23 hK => ?_, fun y hy h23 hK => ?_⟩⟩
  · refine pr_ch0 (f := f + cost) (by omega) (by omega) hv h23 ?_
    have kw := KP.w w (i := nn) (nI k) (Nat.le_refl nn)
    refine h8 _ (t.of kw.km) (ag.kp kw) nn f post sw (by omega) (by rw [gI_sA]; exact hl) (h0.w _ _) (by omega) (by rw [gA_sA, if_pos ⟨rfl, rfl⟩]) (fun v kv r1 r2 => hK v (kw.tr kv (Nat.le_refl _)) r1 r2)
  · rw [show f + (cost + 2) = (f + 1 + cost) + 1 by omega]
    refine pr_ch1 (by omega) (by omega) hy hv h23 ?_
    have kw : KP w (sA (sA (sA w 32 nn ((-2000 : Int32) - nI y)) 32 (nn + 1) (nI 0 - 1 - nI 44)) 32 (nn + 2) (nI k)) nn := ((KP.w w _ (Nat.le_refl nn)).tr (KP.w _ _ (by omega)) (Nat.le_refl _)).tr (KP.w _ _ (by omega)) (Nat.le_refl _)
    refine h8 _ (t.of kw.km) (ag.kp kw) (nn + 2) (f + 1) post sw (by omega) (by rw [gI_sA, gI_sA, gI_sA]; exact hl) (((h0.w _ _).w _ _).w _ _) (by omega) (by rw [gA_sA, if_pos ⟨rfl, rfl⟩]) (fun v kv r1 r2 => ?_)
    have o1 : gA v 32 (nn + 1) = nI 0 - 1 - nI 44 := by
      rw [kv.2.2.1 _ (by omega), gA_sA, if_neg (fun q => by omega), gA_sA, if_pos ⟨rfl, rfl⟩]
    refine pr_chr (t.of (kw.km.tr kv.km)) (by omega) (Or.inr rfl) o1 r1 (by simp; omega) r2 (fun v2 kv2 s1 s2 => hK v2 ((kw.tr kv (by omega)).tr kv2 (by omega)) ?_ s1 s2)
    rw [kv2.2.2.1 _ (by omega), kv.2.2.1 _ (by omega), gA_sA, if_neg (fun q => by omega), gA_sA, if_neg (fun q => by omega), gA_sA, if_pos ⟨rfl, rfl⟩]
theorem ChS.snoc {u : MS} {lo mid hi first last k0 k1 y s : Nat} {T : List Nat} {Z : List Tz} (h : ChS c n b u lo mid first last T k0 k1) (hl1 : lo ≤ last) (hl2 : last < mid) (h' : Pr0 c n b u mid hi y s Z) (h23 : gA u 23 last = nI y) : ∃ q0 q1, ChS c n b u lo hi first y (T ++ ([44] ++ shZ c s Z)) q0 q1 := by
  have hy := h'.2.1
  have hy0 := h'.1
  have hh := h'.2.2.1
  obtain ⟨p0, p1, hp⟩ := ChS.one h'
  refine ⟨p0 + k1, p1 + k1, fun w t ag nn f post sw hn hl h0 hsz hv => ?_⟩
  simp only [List.length_append, List.length_singleton] at hsz
  have e23 : gA w 23 last = nI y := (ag 23 (by decide) (by decide) last hl1 (by omega) (fun _ => by omega)).trans h23
  have ag1 : Ag u w lo mid last := ag.sub (Nat.le_refl _) (by omega) (by omega)
  have two := fun (f : Nat) => (h w t ag1 nn f post sw (by omega) hl h0 (by omega) hv).2 y (by omega) e23
  refine ⟨fun hx hK => ?_, fun z hz hx hK => ?_⟩
  · rw [← Nat.add_assoc]
    refine two _ (fun v kv r0 r1 r2 => ?_)
    have agv := (ag.kp kv).sub (lo' := mid) (hi' := hi) (k' := y) (by omega) (Nat.le_refl _) (by omega)
    have one := hp v (t.of kv.km) agv nn f post _ (by omega) r1 r2 (by simp; omega) r0
    refine one.1 (by rw [kv.2.1 23 (by decide) (by decide)]; exact hx) (fun v2 kv2 s1 s2 => hK v2 (kv.tr kv2 (Nat.le_refl _)) ?_ ?_)
    · simpa [List.append_assoc] using s1
    · simpa [List.append_assoc] using s2
  · rw [← Nat.add_assoc]
    refine two _ (fun v kv r0 r1 r2 => ?_)
    have agv := (ag.kp kv).sub (lo' := mid) (hi' := hi) (k' := y) (by omega) (Nat.le_refl _) (by omega)
    have one := hp v (t.of kv.km) agv nn f post _ (by omega) r1 r2 (by simp; omega) r0
    refine one.2 z hz (by rw [kv.2.1 23 (by decide) (by decide)]; exact hx) (fun v2 kv2 s0 s1 s2 => hK v2 (kv.tr kv2 (Nat.le_refl _)) s0 ?_ ?_)
    · simpa [List.append_assoc] using s1
    · simpa [List.append_assoc] using s2
/-- a closed list -/
theorem PrJ.close {u : MS} {lo hi s m : Nat} {T : List Nat} {Y : List Tz} (nd : Nd n b u lo s m) (h : PrJ c n b u lo hi T) (hh : hi ≤ 100) (hY : hi - lo ≤ Y.length) (hne : Y ≠ []) (h7 : (shZ c s Y).length ≤ 3 * Y.length) (hs : shZ c s Y = sgN c m s ++ ([40] ++ (T ++ [41]))) : Pr0 c n b u lo hi lo s Y := by
  obtain ⟨hk, hm, h24, h19, h20, h23⟩ := nd
  obtain ⟨first, last, k0, k1, g1, gf, g2, g3, g4, g5, g6⟩ := h
  refine ⟨Nat.le_refl _, by omega, hh, hY, hne, h23, h7, k0 + 2, fun w t ag nn f post sw hn hl h0 hsz hv hK => ?_⟩
  rw [hs] at hK hsz
  simp only [List.length_append, List.length_singleton, sgN_len] at hsz
  have q := fun f h1' h2' h3' => ag f h1' h2' lo (Nat.le_refl _) (by omega) (fun e => absurd e h3')
  have e21 : gA w 21 lo = nI first := (q 21 (by decide) (by decide) (by decide)).trans g1
  rw [show f + (k0 + 2) = (f + 1 + k0) + 1 by omega]
  refine pr_list t (by omega) hk hv ((q 24 (by decide) (by decide) (by decide)).trans h24) ((q 19 (by decide) (by decide) (by decide)).trans h19) ((q 20 (by decide) (by decide) (by decide)).trans h20) hm hl (by omega) h0 (fun h9 => absurd h9 (by rw [e21]; exact nI_pos (by omega))) (fun _ v kv o1 o2 o3 o4 => ?_)
  have agv : Ag u v (lo + 1) hi last := (ag.kp kv).sub (by omega) (Nat.le_refl _) (by omega)
  have e23 : gA v 23 last = -1 := ((ag.kp kv) 23 (by decide) (by decide) last (by omega) g4 (fun _ => by omega)).trans g5
  rw [e21] at o2
  have one := g6 v (t.of kv.km) agv (nn + 1) (f + 1) post _ (by omega) o3 o4 (by simp [sgN_len]; omega) o2
  refine one.1 (by rw [e23]; decide) (fun v2 kv2 s1 s2 => ?_)
  have o5 : gA v2 32 nn = nI 0 - 1 - nI 41 := (kv2.2.2.1 _ (by omega)).trans o1
  refine pr_chr (t.of (kv.km.tr kv2.km)) (by omega) (Or.inl rfl) o5 s1 (by simp [sgN_len]; omega) s2 (fun v3 kv3 t1 t2 => hK v3 ((kv.tr kv2 (by omega)).tr kv3 (Nat.le_refl _)) ?_ ?_)
  · simpa [List.append_assoc] using t1
  · simpa [List.append_assoc] using t2
end MTR
