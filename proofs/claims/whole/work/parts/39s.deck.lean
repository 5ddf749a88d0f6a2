/-! the class's deck and the reference's -/
def iqN (c : Nat → Nat) : Nat → Bool
  | 0 => false
  | m + 1 => if c m = 39 then !iqN c m else iqN c m
def RowI (c : Nat → Nat) (n lb : Nat) (row : MS) : Prop := Tx c n row ∧ Rz n row (RC c n) ∧ gI row 6 = (if iqN c n = true then 1 else 0) ∧ gI row 7 = nI lb
def MdI (m : MS) (s : Nat) (c : Nat → Nat) (n lb : Nat) : Prop := gA m 4 s = nI lb ∧ gA m 5 s = nI n ∧ ∀ i, i < n → gA m 6 (80 * s + i) = nI (c i)
def DkI (N : Nat) (cs : Nat → Nat → Nat) (ns lb : Nat → Nat) (x : XS) (m : MS) : Prop := N ≤ 24 ∧ gI x.2.1 1 = nI N ∧ gI m 3 = nI N ∧ ∀ s, s < N → lb s < 100000 ∧ RowI (cs s) (ns s) (lb s) (x.2.2.2 s) ∧ MdI m s (cs s) (ns s) (lb s)
def CdI (k : Nat) (cd : Nat → Nat) (x : XS) (m : MS) : Prop := k ≤ 72 ∧ gI x.1 1 = nI k ∧ gI m 1 = nI k ∧ ∀ i, i < k → gA x.1 0 i = nI (cd i) ∧ gA m 2 i = nI (cd i) ∧ 0 < cd i ∧ cd i < 256
def Inv (x : XS) (m : MS) : Prop := (∃ k cd, CdI k cd x m) ∧ ∃ N cs ns lb, DkI N cs ns lb x m
/-- what reading keeps -/
def Kd (m w : MS) : Prop := gI w 1 = gI m 1 ∧ gI w 3 = gI m 3 ∧ gI w 33 = gI m 33 ∧ ∀ k, (k = 2 ∨ k = 4 ∨ k = 5 ∨ k = 6 ∨ k = 34 ∨ k = 35) → ∀ i, gA w k i = gA m k i
theorem Kd.refl (m : MS) : Kd m m := ⟨rfl, rfl, rfl, fun _ _ _ => rfl⟩
theorem Kd.tr {m w z : MS} (h : Kd m w) (h' : Kd w z) : Kd m z := ⟨h'.1.trans h.1, h'.2.1.trans h.2.1, h'.2.2.1.trans h.2.2.1, fun k hk i => (h'.2.2.2 k hk i).trans (h.2.2.2 k hk i)⟩
theorem Kd.s0 (m : MS) (x : Int32) : Kd m (sI m 0 x) := ⟨rfl, rfl, rfl, fun _ _ _ => rfl⟩
theorem DkI.kd {N : Nat} {cs : Nat → Nat → Nat} {ns lb : Nat → Nat} {x : XS} {m w : MS} (h : DkI N cs ns lb x m) (k : Kd m w) : DkI N cs ns lb x w := by
  refine ⟨h.1, h.2.1, k.2.1.trans h.2.2.1, fun s hs => ?_⟩
  obtain ⟨h1, h2, h3, h4, h5⟩ := h.2.2.2 s hs
  exact ⟨h1, h2, (k.2.2.2 4 (by omega) s).trans h3, (k.2.2.2 5 (by omega) s).trans h4, fun i hi => (k.2.2.2 6 (by omega) _).trans (h5 i hi)⟩
theorem CdI.kd {k : Nat} {cd : Nat → Nat} {x : XS} {m w : MS} (h : CdI k cd x m) (q : Kd m w) : CdI k cd x w := ⟨h.1, h.2.1, q.1.trans h.2.2.1, fun i hi => ⟨(h.2.2.2 i hi).1, (q.2.2.2 2 (by omega) i).trans (h.2.2.2 i hi).2.1, (h.2.2.2 i hi).2.2⟩⟩
theorem Inv.kd {x : XS} {m w : MS} (h : Inv x m) (k : Kd m w) : Inv x w := by
  obtain ⟨⟨a, b, h1⟩, N, cs, ns, lb, h2⟩ := h
  exact ⟨⟨a, b, h1.kd k⟩, N, cs, ns, lb, h2.kd k⟩
theorem xs_same (u : XS) (i : Nat) : ((u.1, u.2.1, u.2.2.1, (va_up u.2.2.2 i (u.2.2.2 i))) : XS) = u := by
  have : va_up u.2.2.2 i (u.2.2.2 i) = u.2.2.2 := by
    funext j
    unfold va_up
    split
    · rename_i h; rw [h]
    · rfl
  rw [this]
section DKQ
variable {N : Nat} {cs : Nat → Nat → Nat} {ns lb : Nat → Nat} {x : XS} {m : MS}
abbrev tk (cs : Nat → Nat → Nat) (ns : Nat → Nat) (s : Nat) : Nat := if (RC (cs s) (ns s)).1 = 15 then tyK (cs s) 0 else 0
theorem rd_of (h : DkI N cs ns lb x m) {s : Nat} (hs : s < N) {post : Int32 → MS → Prop} (hp : ∀ w, Kd m w → Rd (cs s) (ns s) (80 * s) w → post (nI (RC (cs s) (ns s)).1) w) : P_M_read post (nI s) m := by
  obtain ⟨h1, h2, h3, h4, h5⟩ := h.2.2.2 s hs
  have hN := h.1
  have t := h2.1
  have h80 := t.1
  refine read_of (c := cs s) (n := ns s) (by omega) ⟨t.1, by omega, rfl, rfl, fun i hi => ⟨h5 i hi, (t.2.2.1 i hi).2⟩, t.2.2.2⟩ h4 (fun w kw hr => hp w ⟨(kw.1 1 rfl (by decide)).trans rfl, (kw.1 3 rfl (by decide)).trans rfl, (kw.1 33 rfl (by decide)).trans rfl, fun k hk i => ?_⟩ hr)
  have : kA k = true ∧ k ≠ 17 := by
    rcases hk with rfl | rfl | rfl | rfl | rfl | rfl <;> exact ⟨by decide, by decide⟩
  exact kw.2 k this.1 this.2 i
def fnd (N : Nat) (a : Int32) : Option Nat := if a < 0 then none else if a < nI N then some a.toNatClampNeg else none
theorem fnd_some {a : Int32} {s : Nat} (hN : N ≤ 24) (h : fnd N a = some s) : s < N ∧ a = nI s := by
  unfold fnd at h
  split at h
  · exact absurd h (by simp)
  · rename_i h0
    split at h
    · rename_i h1
      obtain ⟨k, hk, e⟩ := nI_of h0
      subst e
      rw [nI_ltI hk (by omega)] at h1
      rw [nI_clamp hk] at h
      cases h
      exact ⟨h1, rfl⟩
    · exact absurd h (by simp)
theorem find_of (hN : N ≤ 24) (hc : gI x.2.1 1 = nI N) {post : Option Nat → XS → Prop} {a : Int32} (h : post (fnd N a) x) : P_K_find post a x := by
  unfold fnd at h
  refine ⟨fun h0 => by rw [if_pos h0] at h; exact h, fun h0 => ?_⟩
  rw [if_neg h0] at h
  rw [hc]
  refine ⟨fun h1 => ?_, fun h1 => by rw [if_neg h1] at h; exact h⟩
  rw [if_pos h1] at h
  obtain ⟨k, hk, e⟩ := nI_of h0
  subst e
  rw [nI_ltI hk (by omega)] at h1
  exact ⟨vp_in_nI (by omega) (by decide), h⟩
theorem there_of (hN : N ≤ 24) (hc : gI m 3 = nI N) {post : Int32 → MS → Prop} {a : Int32} (h1 : fnd N a = none → post 0 m) (h2 : ∀ s, fnd N a = some s → post 1 m) : P_M_there post a m := by
  unfold fnd at h1 h2
  refine ⟨fun h0 => h1 (by rw [if_pos h0]), fun h0 => ?_⟩
  rw [if_neg h0] at h1 h2
  rw [hc]
  obtain ⟨k, hk, e⟩ := nI_of h0
  subst e
  rw [nI_leI (by omega) hk]
  have hlt : nI k < nI N ↔ k < N := nI_ltI hk (by omega)
  exact ⟨fun q => h1 (by rw [if_neg (fun r => by have := hlt.mp r; omega)]), fun q => h2 _ (by rw [if_pos (hlt.mpr (by omega))])⟩
def labV (N : Nat) (lb : Nat → Nat) (a : Int32) : Int32 := match fnd N a with
  | none => -1
  | some s => nI (lb s)
theorem label_c (h : DkI N cs ns lb x m) {post : Int32 → XS → Prop} {a : Int32} (hp : post (labV N lb a) x) : P_D_label post a x := by
  refine find_of h.1 h.2.1 ⟨fun e => ?_, fun s e => ?_⟩
  · unfold labV at hp; rw [e] at hp; exact hp
  · have hs := fnd_some h.1 e
    unfold labV at hp
    rw [e] at hp
    have hN := h.1
    refine ⟨by omega, ?_⟩
    rw [(h.2.2.2 s hs.1).2.1.2.2.2]
    exact hp
theorem label_m (h : DkI N cs ns lb x m) {post : Int32 → MS → Prop} {a : Int32} (hp : post (labV N lb a) (sI m 0 0)) : P_M_label post a m := by
  have h' := h.kd (Kd.s0 m 0)
  refine there_of h'.1 h'.2.2.1 (fun e => ⟨fun _ => ?_, fun q => absurd rfl q⟩) (fun s e => ⟨fun q => absurd q (by decide), fun _ => ?_⟩)
  · unfold labV at hp; rw [e] at hp; exact hp
  · have hs := fnd_some h.1 e
    unfold labV at hp
    rw [e] at hp
    have hN := h.1
    rw [hs.2]
    refine ⟨vp_in_nI (by omega) (by decide), ?_⟩
    rw [nI_clamp (by omega), (h'.2.2.2 s hs.1).2.2.1]
    exact hp
def whatV (N : Nat) (cs : Nat → Nat → Nat) (ns : Nat → Nat) (a : Int32) : Int32 := match fnd N a with
  | none => -1
  | some s => nI (RC (cs s) (ns s)).1
theorem what_c (h : DkI N cs ns lb x m) {post : Int32 → XS → Prop} {a : Int32} (hp : post (whatV N cs ns a) x) : P_D_what post a x := by
  refine find_of h.1 h.2.1 ⟨fun e => ?_, fun s e => ?_⟩
  · unfold whatV at hp; rw [e] at hp; exact hp
  · have hs := fnd_some h.1 e
    unfold whatV at hp
    rw [e] at hp
    have hN := h.1
    refine ⟨by omega, ?_⟩
    rw [(h.2.2.2 s hs.1).2.1.2.1.1]
    exact hp
theorem what_m (h : DkI N cs ns lb x m) {post : Int32 → MS → Prop} {a : Int32} (hp : ∀ w, Kd m w → post (whatV N cs ns a) w) : P_M_what post a m := by
  have h' := h.kd (Kd.s0 m 0)
  refine there_of h'.1 h'.2.2.1 (fun e => ⟨fun _ => ?_, fun q => absurd rfl q⟩) (fun s e => ⟨fun q => absurd q (by decide), fun _ => ?_⟩)
  · unfold whatV at hp; rw [e] at hp; exact hp _ (Kd.s0 m 0)
  · have hs := fnd_some h.1 e
    unfold whatV at hp
    rw [e] at hp
    rw [hs.2]
    exact rd_of h' hs.1 (fun w kw _ => hp w ((Kd.s0 m 0).tr kw))
def shV (N : Nat) (cs : Nat → Nat → Nat) (ns : Nat → Nat) (a k : Int32) : Int32 := match fnd N a with
  | none => -1
  | some s => if k < 0 then -1 else sgv (shZ (cs s) 0 (RC (cs s) (ns s)).2) k.toNatClampNeg
theorem shown_c (h : DkI N cs ns lb x m) {post : Int32 → XS → Prop} {a k : Int32} (hp : post (shV N cs ns a k) x) : P_D_shown post a k x := by
  refine find_of h.1 h.2.1 ⟨fun e => ?_, fun s e => ?_⟩
  · unfold shV at hp; rw [e] at hp; exact hp
  · have hs := fnd_some h.1 e
    unfold shV at hp
    rw [e] at hp
    have hN := h.1
    have hr := (h.2.2.2 s hs.1).2.1
    have hb := RC_bd (cs s) (ns s)
    have h80 := hr.1.1
    simp only at hp
    refine ⟨by omega, shown_of hr.1 hr.2.1 (by omega) (RC_rb _ _) (fun hk => ?_) (fun j ej hj => ?_)⟩
    · rw [if_pos hk] at hp
      rw [xs_same]
      exact hp
    · subst ej
      rw [if_neg (nI_pos hj), nI_clamp hj] at hp
      rw [xs_same]
      exact hp
theorem shown_m (h : DkI N cs ns lb x m) {post : Int32 → MS → Prop} {a k : Int32} (hp : ∀ w, Kd m w → post (shV N cs ns a k) w) : P_M_shown post a k m := by
  have h' := h.kd (Kd.s0 m 0)
  refine there_of h'.1 h'.2.2.1 (fun e => ⟨fun _ => ?_, fun q => absurd rfl q⟩) (fun s e => ⟨fun q => absurd q (by decide), fun _ => ?_⟩)
  · unfold shV at hp; rw [e] at hp; exact hp _ (Kd.s0 m 0)
  · have hs := fnd_some h.1 e
    unfold shV at hp
    rw [e] at hp
    simp only at hp
    rw [hs.2]
    refine ⟨fun hk => rd_of h' hs.1 (fun w kw hr => ?_), fun hk => ?_⟩
    · have hk' : ¬ k < 0 := Int32.not_lt.mpr hk
      have h9 := hp w ((Kd.s0 m 0).tr kw)
      rw [if_neg hk'] at h9
      obtain ⟨j, hj, ej⟩ := nI_of hk'
      subst ej
      rw [nI_clamp hj] at h9 ⊢
      have hl := hr.2.1.2.1
      rw [hr.2.1.1, nI_leI (by omega) hj]
      unfold sgv at h9
      refine ⟨fun q => ?_, fun q => ⟨vp_in_nI (by omega) (by decide), ?_⟩⟩
      · rw [List.getElem?_eq_none q] at h9
        exact h9
      · have hlt : j < (shZ (cs s) 0 (RC (cs s) (ns s)).2).length := by omega
        rw [List.getElem?_eq_getElem hlt] at h9
        rw [hr.2.1.2.2 j _ (List.getElem?_eq_getElem hlt)]
        exact h9
    · have hk' : k < 0 := by
        by_cases q : k < 0
        · exact q
        · exact absurd (Int32.not_lt.mp q) hk
      have h9 := hp _ (Kd.s0 m 0)
      rw [if_pos hk'] at h9
      exact h9
/-! kinds -/
def kdF (cs : Nat → Nat → Nat) (ns : Nat → Nat) (X : Nat) : Nat → Nat → Nat → Nat
  | 0, _, k => k
  | f + 1, s, k => kdF cs ns X f (s + 1) ((nmsZ (tk cs ns s) 0 (RC (cs s) (ns s)).2).foldl (kst (cs s) X) k)
def cmb (k h : Nat) : Nat := if h = 0 then k else if k = 0 ∨ h < k then h else k
theorem kst_cmb (c : Nat → Nat) (X : Nat) : ∀ (L : List Nx) (k : Nat), (∀ q ∈ L, 1 ≤ q.2.1) → L.foldl (kst c X) k = cmb k (L.foldl (kst c X) 0) := by
  have mono : ∀ (L : List Nx) (k : Nat), 1 ≤ k → (∀ q ∈ L, 1 ≤ q.2.1) → 1 ≤ L.foldl (kst c X) k ∧ L.foldl (kst c X) k ≤ k := by
    intro L
    induction L with
    | nil => intro k hk _; exact ⟨hk, Nat.le_refl _⟩
    | cons q L ih =>
      intro k hk hL
      have hq := hL q List.mem_cons_self
      have h1 : 1 ≤ kst c X k q ∧ kst c X k q ≤ k := by
        unfold kst
        split
        · rename_i h; omega
        · omega
      have := ih (kst c X k q) h1.1 (fun r hr => hL r (List.mem_cons_of_mem _ hr))
      simp only [List.foldl_cons]
      omega
  intro L
  induction L with
  | nil => intro k _; rfl
  | cons q L ih =>
    intro k hL
    have hq := hL q List.mem_cons_self
    have hL' : ∀ r ∈ L, 1 ≤ r.2.1 := fun r hr => hL r (List.mem_cons_of_mem _ hr)
    show L.foldl (kst c X) (kst c X k q) = cmb k (L.foldl (kst c X) (kst c X 0 q))
    by_cases hp : pkN c q.1 = X
    · have e0 : kst c X 0 q = q.2.1 := by unfold kst; rw [if_pos ⟨hp, Or.inl rfl⟩]
      have m1 := mono L q.2.1 hq hL'
      rw [e0]
      by_cases hk : k = 0 ∨ q.2.1 < k
      · have e1 : kst c X k q = q.2.1 := by unfold kst; rw [if_pos ⟨hp, hk⟩]
        rw [e1]
        unfold cmb
        rw [if_neg (by omega), if_pos (by omega)]
      · have e1 : kst c X k q = k := by unfold kst; rw [if_neg (fun r => hk r.2)]
        rw [e1]
        have i1 := ih k hL'
        have i2 := ih q.2.1 hL'
        rw [i1, i2]
        generalize L.foldl (kst c X) 0 = h0
        unfold cmb
        by_cases z : h0 = 0
        · rw [if_pos z, if_pos z, if_neg (by omega)]
          split <;> omega
        · rw [if_neg z, if_neg z]
          by_cases z1 : k = 0 ∨ h0 < k
          · have z2 : q.2.1 = 0 ∨ h0 < q.2.1 := Or.inr (by omega)
            rw [if_pos z2, if_neg z, if_pos z1]
          · rw [if_neg z1]
            by_cases z2 : q.2.1 = 0 ∨ h0 < q.2.1
            · rw [if_pos z2, if_neg z, if_neg z1]
            · rw [if_neg z2, if_neg (by omega), if_neg hk]
    · have e0 : ∀ j, kst c X j q = j := fun j => by unfold kst; rw [if_neg (fun r => hp r.1)]
      rw [e0, e0]
      exact ih k hL'
theorem nms_1 (ty : Nat) : ∀ (Z : List Tz) (a : Nat), ∀ q ∈ nmsZ ty a Z, 1 ≤ q.2.1 ∧ q.2.1 ≤ 4 ∧ q.2.2 = ty := by
  intro Z
  induction Z with
  | nil => intro a q h; exact absurd h (by simp [nmsZ])
  | cons t Z ih =>
    intro a q h
    simp only [nmsZ] at h
    rcases List.mem_append.mp h with h | h
    · split at h
      · rename_i h1
        have := List.mem_singleton.mp h
        subst this
        exact ⟨h1.1, h1.2, rfl⟩
      · exact absurd h (by simp)
    · exact ih _ _ h
theorem kst_le (c : Nat → Nat) (X : Nat) : ∀ (L : List Nx) (k : Nat), (∀ q ∈ L, q.2.1 ≤ 4) → k ≤ 4 → L.foldl (kst c X) k ≤ 4 := by
  intro L
  induction L with
  | nil => intro k _ h; exact h
  | cons q L ih =>
    intro k hL hk
    simp only [List.foldl_cons]
    refine ih _ (fun r hr => hL r (List.mem_cons_of_mem _ hr)) ?_
    unfold kst
    split
    · exact hL q List.mem_cons_self
    · exact hk
theorem kc_loop (h : DkI N cs ns lb x m) {post : Int32 → XS → Prop} {X : Nat} (hX : X < 2 ^ 48) : ∀ (f s k : Nat), s + f = N → k ≤ 4 → post (nI (kdF cs ns X f s k)) x → P_K_kindOf_5 post (f + 1) (lN X) (nI k) (nI s) x := by
  have hN := h.1
  intro f
  induction f with
  | zero =>
    intro s k hs hk hp
    exact ⟨fun _ => hp, fun h0 => absurd (by rw [h.2.1]; exact nI_le (by omega) (by omega)) h0⟩
  | succ f ih =>
    intro s k hs hk hp
    have hr := (h.2.2.2 s (by omega)).2.1
    refine ⟨fun h0 => absurd h0 (by rw [h.2.1]; exact nI_ge (by omega) (by omega)), fun _ => ⟨vp_in_nI (by omega) (by decide), ?_⟩⟩
    rw [nI_clamp (by omega)]
    refine ⟨by omega, kindHere_of (ty := tk cs ns s) hr.1 hr.2.1 (RC_rb _ _) hX ?_⟩
    rw [xs_same]
    have hle := kst_le (cs s) X (nmsZ (tk cs ns s) 0 (RC (cs s) (ns s)).2) 0 (fun q hq => (nms_1 _ _ _ q hq).2.1) (by decide)
    have hcm := kst_cmb (cs s) X (nmsZ (tk cs ns s) 0 (RC (cs s) (ns s)).2) k (fun q hq => (nms_1 _ _ _ q hq).1)
    unfold kdF at hp
    rw [hcm] at hp
    unfold cmb at hp
    unfold P_K_kindOf_42 P_K_kindOf_45
    rw [nI_1]
    generalize List.foldl (kst (cs s) X) 0 (nmsZ (tk cs ns s) 0 (RC (cs s) (ns s)).2) = hh at *
    have z0 : (nI hh = 0) ↔ hh = 0 := nI_eq (b := 0) (by omega) (by decide)
    have k0 : (nI k = 0) ↔ k = 0 := nI_eq (b := 0) (by omega) (by decide)
    rw [z0, k0, nI_leI (by omega) (by omega)]
    refine ⟨fun e => ?_, fun e => ⟨fun e2 => ?_, fun e2 => ⟨fun e3 => ?_, fun e3 => ?_⟩⟩⟩
    · rw [if_pos e] at hp; exact ih (s + 1) k (by omega) hk hp
    · rw [if_neg e, if_pos (Or.inl e2)] at hp; exact ih (s + 1) hh (by omega) hle hp
    · rw [if_neg e, if_neg (by omega)] at hp; exact ih (s + 1) k (by omega) hk hp
    · rw [if_neg e, if_pos (Or.inr (by omega))] at hp; exact ih (s + 1) hh (by omega) hle hp
def kdV (N : Nat) (cs : Nat → Nat → Nat) (ns : Nat → Nat) (w : Int64) : Int32 := if nmW w = 0 then 0 else nI (kdF cs ns (nmW w) N 0 0)
theorem kind_c (h : DkI N cs ns lb x m) {post : Int32 → XS → Prop} {w : Int64} (hp : post (kdV N cs ns w) x) : P_D_kind post w x := by
  have h48 : (2 : Nat) ^ 48 < 2 ^ 62 := by decide
  have hX := nmW_lt w
  refine nameOf_of ?_
  rw [show (0 : Int64) = lN 0 from rfl, lgc0 (by omega) (by decide)]
  unfold kdV at hp
  refine ⟨fun e => ?_, fun e => by rw [if_pos e] at hp; exact hp⟩
  rw [if_neg e] at hp
  exact ⟨N + 1, kc_loop h hX N 0 0 (by omega) (by decide) hp⟩
theorem km_inner {s : Nat} {post : Int32 → MS → Prop} {K16 : Int64 → Int32 → Int32 → MS → Prop} {X : Nat} {w : MS} {c : Nat → Nat} {L : List Nx} (hc : ∀ i, c i < 256) (hX : X < 2 ^ 48) (h12 : gI w 12 = nI L.length) (hl : L.length ≤ 80) (hn : Nm c w L) (hL : ∀ q ∈ L, q.2.1 ≤ 4) : ∀ (f i k : Nat), i + f = L.length → k ≤ 4 → K16 (lN X) (nI ((L.drop i).foldl (kst c X) k)) (nI s + 1) w → P_M_kind_42 post K16 (f + 1) (lN X) (nI k) (nI s) (nI i) w := by
  have h48 : (2 : Nat) ^ 48 < 2 ^ 62 := by decide
  intro f
  induction f with
  | zero =>
    intro i k hi hk hp
    rw [List.drop_eq_nil_of_le (by omega)] at hp
    exact ⟨fun _ => hp, fun h0 => absurd (by rw [h12]; exact nI_le (by omega) (by omega)) h0⟩
  | succ f ih =>
    intro i k hi hk hp
    have hlt : i < L.length := by omega
    rw [List.drop_eq_getElem_cons hlt] at hp
    have hq := hn i _ (List.getElem?_eq_getElem hlt)
    have hq4 := hL _ (List.getElem_mem hlt)
    generalize L[i] = q at hp hq hq4
    simp only [List.foldl_cons] at hp
    refine ⟨fun h0 => absurd h0 (by rw [h12]; exact nI_ge (by omega) (by omega)), fun _ => ⟨vp_in_nI (by omega) (by decide), ?_⟩⟩
    rw [nI_clamp (by omega), hq.1, lgc0 (by have := pkN_lt hc q.1; omega) (by omega), hq.2.1]
    have k84 : kst c X k q = k → P_M_kind_84 post K16 (fun zx3 zx5 zx6 zx8 zu => P_M_kind_42 post K16 (f + 1) zx3 zx5 zx6 zx8 zu) (lN X) (nI k) (nI s) (nI i) w := by
      intro e
      rw [e] at hp
      unfold P_M_kind_84 P_M_kind_85 P_M_kind_104
      rw [nI_1]
      exact ⟨fun _ => ih (i + 1) k (by omega) hk hp, fun q => absurd rfl q⟩
    have k80 : kst c X k q = q.2.1 → P_M_kind_80 post K16 (fun zx3 zx5 zx6 zx8 zu => P_M_kind_42 post K16 (f + 1) zx3 zx5 zx6 zx8 zu) (lN X) (nI k) (nI s) (nI i) w := by
      intro e
      rw [e] at hp
      unfold P_M_kind_80 P_M_kind_85 P_M_kind_104
      rw [nI_1, nI_clamp (by omega), hq.2.1]
      exact ⟨fun q => absurd q (by decide), fun _ => ⟨vp_in_nI (by omega) (by decide), ih (i + 1) q.2.1 (by omega) hq4 hp⟩⟩
    have k0 : (nI k = 0) ↔ k = 0 := nI_eq (b := 0) (by omega) (by decide)
    rw [k0, nI_leI (by omega) (by omega)]
    refine ⟨fun hx => k84 (by unfold kst; rw [if_neg (fun r => hx r.1)]), fun hx => ⟨fun h0 => k80 (by unfold kst; rw [if_pos ⟨hx, Or.inl h0⟩]), fun h0 => ⟨vp_in_nI (by omega) (by decide), fun h1 => k84 (by unfold kst; rw [if_neg (by omega)]), fun h1 => k80 (by unfold kst; rw [if_pos ⟨hx, Or.inr (by omega)⟩])⟩⟩⟩
theorem km_loop (h : DkI N cs ns lb x m) {post : Int32 → MS → Prop} {X : Nat} (hX : X < 2 ^ 48) (hX0 : X ≠ 0) : ∀ (f s k : Nat) (w : MS), s + f = N → k ≤ 4 → Kd m w → (∀ z, Kd m z → post (nI (kdF cs ns X f s k)) z) → P_M_kind_16 post (f + 1) (lN X) (nI k) (nI s) w := by
  have hN := h.1
  have h48 : (2 : Nat) ^ 48 < 2 ^ 62 := by decide
  intro f
  induction f with
  | zero =>
    intro s k w hs hk kw hp
    exact ⟨fun _ => hp w kw, fun h0 => absurd (by rw [(h.kd kw).2.2.1]; exact nI_le (by omega) (by omega)) h0⟩
  | succ f ih =>
    intro s k w hs hk kw hp
    have h' := h.kd kw
    have hr := (h.2.2.2 s (by omega)).2.1
    refine ⟨fun h0 => absurd h0 (by rw [h'.2.2.1]; exact nI_ge (by omega) (by omega)), fun _ => ?_⟩
    rw [show (0 : Int64) = lN 0 from rfl, lgc0 (by omega) (by decide)]
    refine ⟨fun e => absurd e hX0, fun _ => rd_of h' (by omega) (fun z kz hrd => ⟨_, km_inner (s := s) hr.1.lt hX hrd.2.2.1.1 hrd.2.2.1.2.1 hrd.2.2.1.2.2 (fun q hq => (nms_1 _ _ _ q hq).2.1) _ 0 k (Nat.zero_add _) hk ?_⟩)⟩
    rw [List.drop_zero, nI_1]
    exact ih (s + 1) _ z (by omega) (kst_le _ _ _ _ (fun q hq => (nms_1 _ _ _ q hq).2.1) hk) (kw.tr kz) hp
theorem kind_m (h : DkI N cs ns lb x m) {post : Int32 → MS → Prop} {w : Int64} (hp : ∀ z, Kd m z → post (kdV N cs ns w) z) : P_M_kind post w m := by
  have h48 : (2 : Nat) ^ 48 < 2 ^ 62 := by decide
  have hX := nmW_lt w
  have h' := h.kd (Kd.s0 m 0)
  have hN := h.1
  refine packed_of ?_
  unfold kdV at hp
  by_cases e : nmW w = 0
  · rw [e]
    rw [if_pos e] at hp
    refine ⟨1, fun _ => hp _ (Kd.s0 m 0), fun _ => ⟨fun _ => hp _ (Kd.s0 m 0), fun q => absurd ((lgc0 (b := 0) (by decide) (by decide)).mpr rfl) q⟩⟩
  · rw [if_neg e] at hp
    exact ⟨N + 1, km_loop h' hX e N 0 0 _ (by omega) (by decide) (Kd.refl _) (fun z kz => hp z ((Kd.s0 m 0).tr kz))⟩
/-! types -/
def hasX (c : Nat → Nat) (X : Nat) (L : List Nx) : Bool := L.any (fun q => decide (pkN c q.1 = X))
def tyF (cs : Nat → Nat → Nat) (ns : Nat → Nat) (X : Nat) : Nat → Nat → Int32
  | 0, _ => tyN X
  | f + 1, s => if (RC (cs s) (ns s)).1 = 15 ∧ hasX (cs s) X (nmsZ (tk cs ns s) 0 (RC (cs s) (ns s)).2) = true then nI (tyK (cs s) 0) else tyF cs ns X f (s + 1)
theorem kst_has (c : Nat → Nat) (X : Nat) : ∀ (L : List Nx), (∀ q ∈ L, 1 ≤ q.2.1) → (L.foldl (kst c X) 0 = 0 ↔ ¬ hasX c X L = true) := by
  intro L
  induction L with
  | nil => intro _; simp [hasX]
  | cons q L ih =>
    intro hL
    have hq := hL q List.mem_cons_self
    have hL' : ∀ r ∈ L, 1 ≤ r.2.1 := fun r hr => hL r (List.mem_cons_of_mem _ hr)
    have i1 := ih hL'
    simp only [List.foldl_cons]
    by_cases hp : pkN c q.1 = X
    · have e0 : kst c X 0 q = q.2.1 := by unfold kst; rw [if_pos ⟨hp, Or.inl rfl⟩]
      have ht : hasX c X (q :: L) = true := by simp [hasX, hp]
      rw [e0, ht, kst_cmb c X L q.2.1 hL']
      refine ⟨fun h => ?_, fun h => absurd rfl h⟩
      exfalso
      unfold cmb at h
      split at h
      · omega
      · split at h <;> omega
    · have e0 : kst c X 0 q = 0 := by unfold kst; rw [if_neg (fun r => hp r.1)]
      have ht : hasX c X (q :: L) = hasX c X L := by
        unfold hasX
        rw [List.any_cons]
        simp [hp]
      rw [e0, ht]
      exact i1
theorem tc_loop (h : DkI N cs ns lb x m) {post : Int32 → XS → Prop} {X : Nat} (hX : X < 2 ^ 48) : ∀ (f s : Nat), s + f = N → post (tyF cs ns X f s) x → P_K_typeOf_2 post (f + 1) (lN X) (nI s) x := by
  have hN := h.1
  intro f
  induction f with
  | zero =>
    intro s hs hp
    exact ⟨fun _ => byLetter_of hX hp, fun h0 => absurd (by rw [h.2.1]; exact nI_le (by omega) (by omega)) h0⟩
  | succ f ih =>
    intro s hs hp
    have hr := (h.2.2.2 s (by omega)).2.1
    have hk17 := (RC_bd (cs s) (ns s)).2.2
    unfold tyF at hp
    refine ⟨fun h0 => absurd h0 (by rw [h.2.1]; exact nI_ge (by omega) (by omega)), fun _ => ⟨vp_in_nI (by omega) (by decide), ?_⟩⟩
    rw [nI_clamp (by omega), hr.2.1.1]
    have e15 : (nI (RC (cs s) (ns s)).1 = 15) ↔ (RC (cs s) (ns s)).1 = 15 := nI_eq (b := 15) (by omega) (by decide)
    rw [e15]
    refine ⟨by omega, fun h15 => ?_, fun h15 => ⟨vp_in_nI (by omega) (by decide), by omega, kindHere_of (ty := tk cs ns s) hr.1 hr.2.1 (RC_rb _ _) hX ?_⟩⟩
    · rw [if_neg (fun q => h15 q.1)] at hp
      unfold P_K_typeOf_47
      rw [nI_1]
      exact ih (s + 1) (by omega) hp
    · rw [xs_same]
      have hle := kst_le (cs s) X (nmsZ (tk cs ns s) 0 (RC (cs s) (ns s)).2) 0 (fun q hq => (nms_1 _ _ _ q hq).2.1) (by decide)
      have hh := kst_has (cs s) X (nmsZ (tk cs ns s) 0 (RC (cs s) (ns s)).2) (fun q hq => (nms_1 _ _ _ q hq).1)
      rw [show (nI (List.foldl (kst (cs s) X) 0 (nmsZ (tk cs ns s) 0 (RC (cs s) (ns s)).2)) = 0) ↔ List.foldl (kst (cs s) X) 0 (nmsZ (tk cs ns s) 0 (RC (cs s) (ns s)).2) = 0 from nI_eq (b := 0) (by omega) (by decide), hh]
      refine ⟨fun q => ?_, fun q => ⟨vp_in_nI (by omega) (by decide), by omega, ?_⟩⟩
      · rw [if_neg (fun r => q r.2)] at hp
        unfold P_K_typeOf_47
        rw [nI_1]
        exact ih (s + 1) (by omega) hp
      · rw [if_pos ⟨h15, Classical.not_not.mp q⟩] at hp
        have e1 : va_up x.2.2.2 s (x.2.2.2 s) = x.2.2.2 := by
          have := xs_same x s
          exact (Prod.mk.inj (Prod.mk.inj (Prod.mk.inj this).2).2).2
        rw [e1]
        refine typeTold_of hr.1 h15 ?_
        rw [xs_same]
        exact hp
def tyV (N : Nat) (cs : Nat → Nat → Nat) (ns : Nat → Nat) (w : Int64) : Int32 := if nmW w = 0 then 0 else tyF cs ns (nmW w) N 0
theorem type_c (h : DkI N cs ns lb x m) {post : Int32 → XS → Prop} {w : Int64} (hp : post (tyV N cs ns w) x) : P_D_type post w x := by
  have h48 : (2 : Nat) ^ 48 < 2 ^ 62 := by decide
  have hX := nmW_lt w
  refine nameOf_of ?_
  rw [show (0 : Int64) = lN 0 from rfl, lgc0 (by omega) (by decide)]
  unfold tyV at hp
  refine ⟨fun e => ?_, fun e => by rw [if_pos e] at hp; exact hp⟩
  rw [if_neg e] at hp
  exact ⟨N + 1, tc_loop h hX N 0 (by omega) hp⟩
theorem tm_inner {s ty : Nat} {post : Int32 → MS → Prop} {K21 : Int64 → Int32 → MS → Prop} {X : Nat} {w : MS} {c : Nat → Nat} {L : List Nx} (hc : ∀ i, c i < 256) (hX : X < 2 ^ 48) (h12 : gI w 12 = nI L.length) (hl : L.length ≤ 80) (hn : Nm c w L) (hty : ty ≤ 3) (hL : ∀ q ∈ L, q.2.2 = ty) : ∀ (f i : Nat), i + f = L.length → (¬ (0 < ty ∧ hasX c X (L.drop i) = true) → K21 (lN X) (nI s + 1) w) → (0 < ty ∧ hasX c X (L.drop i) = true → post (nI ty) w) → P_M_type_41 post K21 (f + 1) (lN X) (nI s) (nI i) w := by
  have h48 : (2 : Nat) ^ 48 < 2 ^ 62 := by decide
  intro f
  induction f with
  | zero =>
    intro i hi hp hq
    refine ⟨fun _ => hp ?_, fun h0 => absurd (by rw [h12]; exact nI_le (by omega) (by omega)) h0⟩
    rw [List.drop_eq_nil_of_le (by omega)]
    simp [hasX]
  | succ f ih =>
    intro i hi hp hq
    have hlt : i < L.length := by omega
    rw [List.drop_eq_getElem_cons hlt] at hp hq
    have hqq := hn i _ (List.getElem?_eq_getElem hlt)
    have hq2 := hL _ (List.getElem_mem hlt)
    generalize L[i] = q at hp hq hqq hq2
    refine ⟨fun h0 => absurd h0 (by rw [h12]; exact nI_ge (by omega) (by omega)), fun _ => ⟨vp_in_nI (by omega) (by decide), ?_⟩⟩
    rw [nI_clamp (by omega), hqq.1, lgc0 (by have := pkN_lt hc q.1; omega) (by omega), hqq.2.2, hq2]
    have hcons : hasX c X (q :: List.drop (i + 1) L) = (decide (pkN c q.1 = X) || hasX c X (List.drop (i + 1) L)) := by unfold hasX; rw [List.any_cons]
    rw [hcons] at hp hq
    have t0 : (nI ty ≤ 0) ↔ ty ≤ 0 := nI_leI (b := 0) (by omega) (by decide)
    rw [t0]
    have nxt : (¬ pkN c q.1 = X ∨ ty = 0) → P_M_type_80 post K21 (fun zx3 zx5 zx7 zu => P_M_type_41 post K21 (f + 1) zx3 zx5 zx7 zu) (lN X) (nI s) (nI i) w := by
      intro hor
      unfold P_M_type_80
      rw [nI_1]
      refine ih (i + 1) (by omega) (fun g => hp (fun r => g ?_)) (fun g => hq ⟨g.1, by rw [g.2, Bool.or_true]⟩)
      rcases hor with e | e
      · refine ⟨r.1, ?_⟩
        simpa [e] using r.2
      · omega
    refine ⟨fun hx => nxt (Or.inl hx), fun hx => ⟨vp_in_nI (by omega) (by decide), fun h0 => nxt (Or.inr (by omega)), fun h0 => ⟨vp_in_nI (by omega) (by decide), hq ⟨by omega, by simp [hx]⟩⟩⟩⟩
theorem tm_loop (h : DkI N cs ns lb x m) {post : Int32 → MS → Prop} {X : Nat} (hX : X < 2 ^ 48) : ∀ (f s : Nat) (w : MS), s + f = N → Kd m w → (∀ z, Kd m z → post (tyF cs ns X f s) z) → P_M_type_21 post (f + 1) (lN X) (nI s) w := by
  have hN := h.1
  intro f
  induction f with
  | zero =>
    intro s w hs kw hp
    exact ⟨fun _ => ⟨6, mByLetter_of hX (hp w kw)⟩, fun h0 => absurd (by rw [(h.kd kw).2.2.1]; exact nI_le (by omega) (by omega)) h0⟩
  | succ f ih =>
    intro s w hs kw hp
    have h' := h.kd kw
    have hr := (h.2.2.2 s (by omega)).2.1
    unfold tyF at hp
    have htk3 : tk cs ns s ≤ 3 := by
      unfold tk tyK
      split
      · split
        · omega
        · split
          · omega
          · split <;> omega
      · omega
    refine ⟨fun h0 => absurd h0 (by rw [h'.2.2.1]; exact nI_ge (by omega) (by omega)), fun _ => rd_of h' (by omega) (fun z kz hrd => ⟨_, tm_inner (s := s) (ty := tk cs ns s) hr.1.lt hX hrd.2.2.1.1 hrd.2.2.1.2.1 hrd.2.2.1.2.2 htk3 (fun q hq => (nms_1 _ _ _ q hq).2.2) _ 0 (Nat.zero_add _) (fun g => ?_) (fun g => ?_)⟩)⟩
    · rw [List.drop_zero] at g
      rw [nI_1]
      refine ih (s + 1) z (by omega) (kw.tr kz) (fun y ky => ?_)
      have h9 := hp y ky
      rw [if_neg (fun q => g ⟨?_, q.2⟩)] at h9
      · exact h9
      · have := tyK_15 q.1
        unfold tk
        rw [if_pos q.1]
        omega
    · rw [List.drop_zero] at g
      have h15 : (RC (cs s) (ns s)).1 = 15 := by
        by_cases e : (RC (cs s) (ns s)).1 = 15
        · exact e
        · have : tk cs ns s = 0 := by unfold tk; rw [if_neg e]
          omega
      have h9 := hp z (kw.tr kz)
      rw [if_pos ⟨h15, g.2⟩] at h9
      have e : tk cs ns s = tyK (cs s) 0 := by unfold tk; rw [if_pos h15]
      rw [e]
      exact h9
theorem type_m (h : DkI N cs ns lb x m) {post : Int32 → MS → Prop} {w : Int64} (hp : ∀ z, Kd m z → post (tyV N cs ns w) z) : P_M_type post w m := by
  have h48 : (2 : Nat) ^ 48 < 2 ^ 62 := by decide
  have hX := nmW_lt w
  have h' := h.kd (Kd.s0 m 0)
  have hN := h.1
  refine packed_of ?_
  unfold tyV at hp
  rw [show (0 : Int64) = lN 0 from rfl, lgc0 (by omega) (by decide)]
  refine ⟨fun e => ?_, fun e => by rw [if_pos e] at hp; exact hp _ (Kd.s0 m 0)⟩
  rw [if_neg e] at hp
  exact ⟨N + 1, tm_loop h' hX N 0 _ (by omega) (Kd.refl _) (fun z kz => hp z ((Kd.s0 m 0).tr kz))⟩
end DKQ
