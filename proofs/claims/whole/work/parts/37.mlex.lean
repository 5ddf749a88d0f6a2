/-! the reference's text and what it puts out -/
def MT (c : Nat → Nat) (n b : Nat) (u : MS) : Prop := n ≤ 80 ∧ b + n ≤ 1920 ∧ gI u 7 = nI b ∧ gI u 8 = nI (b + n) ∧ (∀ i, i < n → gA u 6 (b + i) = nI (c i) ∧ 0 < c i ∧ c i < 256) ∧ ∀ i, n ≤ i → c i = 0
def kI (k : Nat) : Bool := !(k == 9 || k == 10 || k == 12 || k == 18 || k == 25 || k == 27)
def kA (k : Nat) : Bool := !(k == 11 || k == 14 || k == 15 || (decide (19 ≤ k) && decide (k ≤ 24)) || k == 26 || (decide (28 ≤ k) && decide (k ≤ 32)))
/-- what reading leaves as it was -/
def KM (u v : MS) : Prop := (∀ k, kI k = true → gI v k = gI u k) ∧ ∀ k, kA k = true → ∀ i, gA v k i = gA u k i
theorem KM.refl (u : MS) : KM u u := ⟨fun _ _ => rfl, fun _ _ _ => rfl⟩
theorem KM.tr {u v w : MS} (h : KM u v) (h' : KM v w) : KM u w := ⟨fun k hk => (h'.1 k hk).trans (h.1 k hk), fun k hk i => (h'.2 k hk i).trans (h.2 k hk i)⟩
theorem KM.i {u v : MS} (h : KM u v) {j : Nat} (x : Int32) (hj : kI j = false) : KM u (sI v j x) := by
  refine h.tr ⟨fun k hk => ?_, fun k hk i => rfl⟩
  rw [gI_sI, if_neg (fun e => by rw [e, hj] at hk; exact absurd hk (by decide))]
theorem KM.a {u v : MS} (h : KM u v) {j : Nat} (q : Nat) (x : Int32) (hj : kA j = false) : KM u (sA v j q x) := by
  refine h.tr ⟨fun k hk => rfl, fun k hk i => ?_⟩
  rw [gA_sA, if_neg (fun e => by rw [e.1, hj] at hk; exact absurd hk (by decide))]
theorem KM.l {u v : MS} (h : KM u v) (q : Nat) (x : Int64) : KM u (sL v q x) := h.tr ⟨fun _ _ => rfl, fun _ _ _ => rfl⟩
def Sh (u : MS) (sh : List Nat) : Prop := ∀ j x, sh[j]? = some x → gA u 11 j = nI x
abbrev Nx : Type := Nat × Nat × Nat
/-- so many signs' name -/
def pkC (c : Nat → Nat) : Nat → Nat → Nat → Nat
  | 0, _, x => x
  | m + 1, a, x => pkC c m (a + 1) (x * 256 + c a)
abbrev pkN (c : Nat → Nat) (a : Nat) : Nat := pkC c (alN c 6 a - a) a 0
def Nm (c : Nat → Nat) (u : MS) (nm : List Nx) : Prop := ∀ j q, nm[j]? = some q → gL u j = lN (pkN c q.1) ∧ gA u 14 j = nI q.2.1 ∧ gA u 15 j = nI q.2.2
def Os (c : Nat → Nat) (n b : Nat) (u : MS) (p : Nat) (sh : List Nat) (nm : List Nx) : Prop := MT c n b u ∧ p ≤ n ∧ gI u 9 = nI (b + p) ∧ (gI u 10 = nI sh.length ∧ sh.length ≤ 3 * p ∧ Sh u sh) ∧ gI u 12 = nI nm.length ∧ nm.length ≤ p ∧ Nm c u nm
/-- what stands before is kept -/
def Of (c : Nat → Nat) (u v : MS) (sh : List Nat) (nm : List Nx) : Prop := KM u v ∧ Sh v sh ∧ Nm c v nm
def shZ (c : Nat → Nat) : Nat → List Tz → List Nat
  | _, [] => []
  | a, t :: Z => List.replicate t.1 40 ++ ((if t.2.1 = 5 then [] else [c a]) ++ (List.replicate t.2.2 41 ++ shZ c (a + 1) Z))
def nmsZ (ty : Nat) : Nat → List Tz → List Nx
  | _, [] => []
  | a, t :: Z => (if 1 ≤ t.2.1 ∧ t.2.1 ≤ 4 then [(a, t.2.1, ty)] else []) ++ nmsZ ty (a + 1) Z
def sgN (c : Nat → Nat) : Nat → Nat → List Nat
  | 0, _ => []
  | m + 1, a => c a :: sgN c m (a + 1)
theorem sgN_len (c : Nat → Nat) : ∀ m a, (sgN c m a).length = m := by
  intro m
  induction m with
  | zero => intro a; rfl
  | succ m ih => intro a; simp [sgN, ih]
theorem shZ_app (c : Nat → Nat) : ∀ (X Y : List Tz) (a : Nat), shZ c a (X ++ Y) = shZ c a X ++ shZ c (a + X.length) Y := by
  intro X
  induction X with
  | nil => intro Y a; rfl
  | cons t X ih =>
    intro Y a
    simp only [List.cons_append, shZ, ih, List.length_cons, List.append_assoc, show a + 1 + X.length = a + (X.length + 1) by omega]
theorem nmsZ_app (ty : Nat) : ∀ (X Y : List Tz) (a : Nat), nmsZ ty a (X ++ Y) = nmsZ ty a X ++ nmsZ ty (a + X.length) Y := by
  intro X
  induction X with
  | nil => intro Y a; rfl
  | cons t X ih =>
    intro Y a
    simp only [List.cons_append, nmsZ, ih, List.length_cons, List.append_assoc, show a + 1 + X.length = a + (X.length + 1) by omega]
theorem shZ_zn (c : Nat → Nat) : ∀ m a, shZ c a (zn m) = sgN c m a := by
  intro m
  induction m with
  | zero => intro a; rfl
  | succ m ih =>
    intro a
    show shZ c a (zz :: zn m) = _
    simp [shZ, sgN, ih]
theorem nmsZ_zn (ty : Nat) : ∀ m a, nmsZ ty a (zn m) = [] := by
  intro m
  induction m with
  | zero => intro a; rfl
  | succ m ih =>
    intro a
    show nmsZ ty a (zz :: zn m) = _
    simp [nmsZ, ih]
theorem chr_nar : ∀ x, x < 256 → vp_nar .char (((nI x).toUInt32 % 65536).toInt32) = nI x := by decide +kernel
section MLX
variable {c : Nat → Nat} {n b : Nat} {u : MS}
theorem MT.of {v : MS} (t : MT c n b u) (h : KM u v) : MT c n b v := by
  refine ⟨t.1, t.2.1, (h.1 7 rfl).trans t.2.2.1, (h.1 8 rfl).trans t.2.2.2.1, fun i hi => ?_, t.2.2.2.2.2⟩
  rw [h.2 6 rfl]
  exact t.2.2.2.2.1 i hi
theorem MT.lt (t : MT c n b u) (i : Nat) : c i < 256 := by
  by_cases h : i < n
  · exact (t.2.2.2.2.1 i h).2.2
  · rw [t.2.2.2.2.2 i (by omega)]; decide
theorem MT.in (t : MT c n b u) {i : Nat} (h : 0 < c i) : i < n := by
  by_cases h1 : i < n
  · exact h1
  · rw [t.2.2.2.2.2 i (by omega)] at h; omega
theorem MT.v (t : MT c n b u) {k : Nat} (hk : k ≤ 1000) : vAt u (nI (b + k)) = nI (c k) := by
  have h80 := t.1
  have h19 := t.2.1
  unfold vAt
  rw [t.2.2.2.1, nI_clamp (by omega)]
  by_cases h : k < n
  · rw [if_neg (nI_ge (by omega) (by omega))]
    exact (t.2.2.2.2.1 k h).1
  · rw [if_pos (nI_le (by omega) (by omega)), t.2.2.2.2.2 k (by omega)]
    rfl
theorem MT.q (t : MT c n b u) {k : Nat} (hk : k ≤ 1000) : qAt u (nI (b + k)) := by
  have h80 := t.1
  have h19 := t.2.1
  intro h
  rw [t.2.2.2.1, nI_leI (by omega) (by omega)] at h
  exact vp_in_nI (by omega) (by decide)
/-- a sign put out -/
theorem Sh.put {sh : List Nat} {x : Nat} (h : Sh u sh) (hl : gI u 10 = nI sh.length) (hs : sh.length < 600) (hx : x < 256) : Sh (mPut u (nI x)) (sh ++ [x]) ∧ gI (mPut u (nI x)) 10 = nI (sh ++ [x]).length := by
  refine ⟨fun j y hj => ?_, ?_⟩
  · show gA (sI (sA u 11 _ _) 10 _) 11 j = _
    rw [gA_sI, gA_sA, hl, nI_clamp (by omega), chr_nar x hx]
    by_cases e : j = sh.length
    · subst e
      rw [List.getElem?_append_right (Nat.le_refl _), Nat.sub_self] at hj
      cases hj
      rw [if_pos ⟨rfl, rfl⟩]
    · rw [if_neg (fun q => e q.2)]
      have hlt := (List.getElem?_eq_some_iff.mp hj).1
      rw [List.length_append, List.length_singleton] at hlt
      rw [List.getElem?_append_left (by omega)] at hj
      exact h j y hj
  · show gI (sI (sA u 11 _ _) 10 (gI u 10 + 1)) 10 = _
    rw [gI_sI, if_pos rfl, hl, nI_1, List.length_append, List.length_singleton]
theorem mPut_km {v : MS} (h : KM u v) (x : Int32) : KM u (mPut v x) := (h.a _ _ rfl).i _ rfl
/-- only what is shown changes -/
def KS (u v : MS) : Prop := (∀ k, k ≠ 10 → gI v k = gI u k) ∧ (∀ k, k ≠ 11 → ∀ i, gA v k i = gA u k i) ∧ ∀ i, gL v i = gL u i
theorem KS.refl (u : MS) : KS u u := ⟨fun _ _ => rfl, fun _ _ _ => rfl, fun _ => rfl⟩
theorem KS.tr {u v w : MS} (h : KS u v) (h' : KS v w) : KS u w := ⟨fun k hk => (h'.1 k hk).trans (h.1 k hk), fun k hk i => (h'.2.1 k hk i).trans (h.2.1 k hk i), fun i => (h'.2.2 i).trans (h.2.2 i)⟩
theorem KS.put (u : MS) (x : Int32) : KS u (mPut u x) := by
  refine ⟨fun k hk => ?_, fun k hk i => ?_, fun i => rfl⟩
  · show gI (sI (sA u 11 _ _) 10 _) k = _
    rw [gI_sI, if_neg hk]; rfl
  · show gA (sI (sA u 11 _ _) 10 _) k i = _
    rw [gA_sI, gA_sA, if_neg (fun q => hk q.1)]
theorem KS.km {v : MS} (h : KS u v) : KM u v := ⟨fun k hk => h.1 k (fun e => by subst e; exact absurd hk (by decide)), fun k hk => h.2.1 k (fun e => by subst e; exact absurd hk (by decide))⟩
theorem KS.nm {v : MS} {nm : List Nx} (h : KS u v) (hn : Nm c u nm) : Nm c v nm := fun j q hj => by
  have := hn j q hj
  exact ⟨(h.2.2 j).trans this.1, (h.2.1 14 (by decide) j).trans this.2.1, (h.2.1 15 (by decide) j).trans this.2.2⟩
theorem part_loop {post : MS → Prop} {e : Nat} (he : e ≤ n) : ∀ (m a : Nat) (v : MS) (sh : List Nat), MT c n b v → a + m = e → gI v 10 = nI sh.length → sh.length + m ≤ 600 → Sh v sh → (∀ w, KS v w → gI w 10 = nI (sh ++ sgN c m a).length → Sh w (sh ++ sgN c m a) → post w) → P_M_putPart_2 post (m + 1) (nI (b + e)) (nI (b + a)) v := by
  intro m
  induction m with
  | zero =>
    intro a v sh t ha hl hs h0 h
    have h19 := t.2.1
    refine ⟨fun _ => h v (KS.refl v) (by simpa [sgN] using hl) (by simpa [sgN] using h0), fun h9 => absurd (nI_le (by omega) (by omega)) h9⟩
  | succ m ih =>
    intro a v sh t ha hl hs h0 h
    have h19 := t.2.1
    have hc := t.2.2.2.2.1 a (by omega)
    refine ⟨fun h9 => absurd h9 (nI_ge (by omega) (by omega)), fun _ => ⟨vp_in_nI (by omega) (by decide), by rw [hl]; exact vp_in_nI (by omega) (by decide), ?_⟩⟩
    rw [nI_clamp (by omega), hc.1, nI_1]
    obtain ⟨p1, p2⟩ := h0.put hl (by omega) hc.2.2
    have k1 := KS.put v (nI (c a))
    refine ih (a + 1) _ (sh ++ [c a]) (t.of k1.km) (by omega) p2 (by rw [List.length_append, List.length_singleton]; omega) p1 (fun w kw hw1 hw2 => h w (k1.tr kw) ?_ ?_)
    · rw [List.append_assoc] at hw1
      exact hw1
    · rw [List.append_assoc] at hw2
      exact hw2
theorem putPart_of {post : MS → Prop} {a e : Nat} {sh : List Nat} (t : MT c n b u) (ha : a ≤ e) (he : e ≤ n) (hl : gI u 10 = nI sh.length) (hs : sh.length + (e - a) ≤ 600) (h0 : Sh u sh) (h : ∀ w, KS u w → gI w 10 = nI (sh ++ sgN c (e - a) a).length → Sh w (sh ++ sgN c (e - a) a) → post w) : P_M_putPart post (nI (b + a)) (nI (b + e)) u := ⟨e - a + 1, part_loop he (e - a) a u sh t (by omega) hl hs h0 h⟩
theorem Os.step {p m : Nat} {sh s2 : List Nat} {nm : List Nx} {v : MS} (o : Os c n b u p sh nm) (k : KM u v) (hp : p + m ≤ n) (h9 : gI v 9 = nI (b + (p + m))) (hl : gI v 10 = nI (sh ++ s2).length) (h2 : s2.length ≤ 3 * m) (h0 : Sh v (sh ++ s2)) (h12 : gI v 12 = gI u 12) (hn : Nm c v nm) : Os c n b v (p + m) (sh ++ s2) nm :=
  ⟨o.1.of k, hp, h9, ⟨hl, by rw [List.length_append]; have := o.2.2.2.1.2.1; omega, h0⟩, h12.trans o.2.2.2.2.1, by have := o.2.2.2.2.2.1; omega, hn⟩
theorem KS.s9 {v : MS} (h : KS u v) (x : Int32) : KM u (sI v 9 x) := h.km.i x rfl
end MLX
