/-! words, signs, digits and names of the reference -/
def TieM (c : Nat → Nat) (n b ty : Nat) (F : Ps) (P : (Int32 → MS → Prop) → MS → Prop) : Prop := ∀ (post : Int32 → MS → Prop) (u : MS) (a : Nat) (sh : List Nat) (nm : List Nx), Os c n b u a sh nm → (∀ Z v, F a = some Z → KM u v → Os c n b v (a + Z.length) (sh ++ shZ c a Z) (nm ++ nmsZ ty a Z) → post 1 v) → (∀ v, F a = none → Of c u v sh nm → post 0 v) → P post u
def lwP (c : Nat → Nat) (L : List Nat) : Ps := fun a => if st c a L = true then some (zn L.length) else none
theorem wd_lw (c : Nat → Nat) (i : Nat) : wdP c i = lwP c (wS i) := rfl
def wOk (w : Int64) (L : List Nat) : Prop := L.length ≤ 8 ∧ (∀ k, k < L.length → ¬ lg_cmp (w >>> (((8 : Int32) * nI k).toInt64 &&& 63)) 0 = 0) ∧ (L.length = 8 ∨ lg_cmp (w >>> (((8 : Int32) * nI L.length).toInt64 &&& 63)) 0 = 0) ∧ ∀ k, k < L.length → (((w >>> (((8 : Int32) * ((nI L.length - (1 : Int32)) - nI k)).toInt64 &&& 63)) &&& (255 : Int64)).toInt32) = nI (L.getD k 0) ∧ 0 < L.getD k 0 ∧ L.getD k 0 < 256
section ML2
variable {c : Nat → Nat} {n b : Nat} {u : MS}
theorem Os.of {p : Nat} {sh : List Nat} {nm : List Nx} (o : Os c n b u p sh nm) : Of c u u sh nm := ⟨KM.refl u, o.2.2.2.1.2.2, o.2.2.2.2.2.2⟩
theorem st_drop {L : List Nat} {k a : Nat} (hk : k < L.length) : st c a (L.drop k) = (decide (c a = L.getD k 0) && st c (a + 1) (L.drop (k + 1))) := by
  rw [List.drop_eq_getElem_cons hk]
  have e9 : L.getD k 0 = L[k] := by simp [List.getD, hk]
  rw [e9]
  rfl
theorem word2 {post : Int32 → MS → Prop} {w : Int64} {L : List Nat} {a : Nat} {sh : List Nat} {nm : List Nx} (ok : wOk w L) (o : Os c n b u a sh nm) (hin : ∀ k, k ≤ L.length → st c a L = true → a + k ≤ n) (h1 : st c a L = true → ∀ v, KM u v → Os c n b v (a + L.length) (sh ++ shZ c a (zn L.length)) nm → post 1 v) (h2 : ¬ st c a L = true → post 0 u) : ∀ (m k : Nat), k + m = L.length → (st c a L = true ↔ st c (a + k) (L.drop k) = true) → P_M_word_28 post (m + 1) w (nI L.length) (nI k) u := by
  have t := o.1
  have h80 := t.1
  have h19 := t.2.1
  have han := o.2.1
  have hl8 := ok.1
  intro m
  induction m with
  | zero =>
    intro k hk hs
    have hst : st c a L = true := hs.mpr (by rw [List.drop_eq_nil_of_le (by omega)]; rfl)
    have hn := hin L.length (Nat.le_refl _) hst
    refine ⟨fun _ => ?_, fun h9 => absurd (nI_le (by omega) (by omega)) h9⟩
    rw [o.2.2.1, nI_add]
    have e : b + a + L.length = b + (a + L.length) := by omega
    rw [e]
    have hsl := o.2.2.2.1.2.1
    refine putPart_of t (by omega) hn o.2.2.2.1.1 (by omega) o.2.2.2.1.2.2 (fun w kw hw1 hw2 => ?_)
    rw [show a + L.length - a = L.length by omega] at hw1 hw2
    have e9 : gI w 9 = nI (b + a) := (kw.1 9 (by decide)).trans o.2.2.1
    rw [e9, nI_add, e]
    refine h1 hst _ (kw.s9 _) ?_
    rw [shZ_zn]
    exact o.step (kw.s9 _) hn rfl hw1 (by rw [sgN_len]; omega) hw2 (kw.1 12 (by decide)) (kw.nm o.2.2.2.2.2.2)
  | succ m ih =>
    intro k hk hs
    refine ⟨fun h9 => absurd h9 (nI_ge (by omega) (by omega)), fun _ => ?_⟩
    have e : nI (b + a) + nI k = nI (b + (a + k)) := by rw [nI_add]; congr 1; omega
    rw [o.2.2.1, e, t.v (by omega)]
    have hk2 := ok.2.2.2 k (by omega)
    rw [hk2.1, nI_eq (by have := t.lt (a + k); omega) (by omega)]
    rw [st_drop (by omega)] at hs
    refine ⟨t.q (by omega), fun h9 => ?_, fun h9 => h2 (fun h8 => ?_)⟩
    · have h7 := ih (k + 1) (by omega) (by rw [hs, h9]; simp [Nat.add_assoc])
      rw [nI_succ] at h7
      exact h7
    · have h7 := (Bool.and_eq_true_iff.mp (hs.mp h8)).1
      exact h9 (of_decide_eq_true h7)
theorem word_loop {post : Int32 → MS → Prop} {w : Int64} {L : List Nat} (ok : wOk w L) (h : P_M_word_25 post w (nI L.length) u) : ∀ (m k : Nat), k + m = L.length → P_M_word_2 post (m + 1) w (nI k) u := by
  have hl8 := ok.1
  intro m
  induction m with
  | zero =>
    intro k hk
    have e : k = L.length := by omega
    subst e
    refine ⟨fun _ => h, fun h9 => ⟨fun _ => h, fun h0 => ?_⟩⟩
    rcases ok.2.2.1 with h8 | h8
    · exact absurd (nI_le (a := 8) (by omega) (by omega)) h9
    · exact absurd h8 h0
  | succ m ih =>
    intro k hk
    refine ⟨fun h9 => absurd h9 (nI_ge (b := 8) (by omega) (by omega)), fun _ => ⟨fun h0 => absurd h0 (ok.2.1 k (by omega)), fun _ => ?_⟩⟩
    have := ih (k + 1) (by omega)
    rw [nI_succ] at this
    exact this
theorem word_tie {w : Int64} {L : List Nat} (ok : wOk w L) (hL : L ≠ []) : TieM c n b 0 (lwP c L) (fun post u => P_M_word post w u) := by
  intro post u a sh nm o h1 h2
  have hpos : ∀ x ∈ L, 0 < x ∧ x < 256 := by
    intro x hx
    obtain ⟨k, hk, rfl⟩ := List.getElem_of_mem hx
    have := (ok.2.2.2 k hk).2
    simpa [List.getD, hk] using this
  refine ⟨L.length + 1, word_loop ok ⟨L.length + 1, word2 ok o (fun k hk hs => ?_) (fun hs v k ov => h1 _ v (by unfold lwP; rw [if_pos hs]) k ?_) (fun hs => h2 u (by unfold lwP; rw [if_neg hs]) o.of) L.length 0 (by omega) (by simp)⟩ L.length 0 (by omega)⟩
  · have := st_in o.1.2.2.2.2.2 L a hL hpos hs
    omega
  · rw [nmsZ_zn, List.append_nil, zn_len]
    exact ov
theorem sign_tie {x : Nat} (hx : 0 < x) (hx2 : x < 256) : TieM c n b 0 (lwP c [x]) (fun post u => P_M_sign post (nI x) u) := by
  intro post u a sh nm o h1 h2
  have t := o.1
  have h80 := t.1
  have han := o.2.1
  have hsl := o.2.2.2.1.2.1
  unfold P_M_sign
  rw [o.2.2.1, t.v (by omega), nI_eq (by have := t.lt a; omega) (by omega)]
  refine ⟨t.q (by omega), fun h => ?_, fun h => h2 u (by unfold lwP; simp [st, h]) o.of⟩
  have hn := t.in (i := a) (by omega)
  refine ⟨by rw [o.2.2.2.1.1]; exact vp_in_nI (by omega) (by decide), ?_⟩
  obtain ⟨p1, p2⟩ := o.2.2.2.1.2.2.put o.2.2.2.1.1 (by omega) hx2
  have kp := KS.put u (nI x)
  rw [show gI (mPut u (nI x)) 9 = nI (b + a) from (kp.1 9 (by decide)).trans o.2.2.1, nI_1]
  refine h1 _ _ (by unfold lwP; simp [st, h]; rfl) (kp.s9 _) ?_
  rw [nmsZ_zn, List.append_nil, zn_len, shZ_zn]
  have e : sgN c 1 a = [x] := by simp [sgN, h]
  show Os c n b _ (a + 1) (sh ++ sgN c 1 a) nm
  rw [e]
  exact o.step (kp.s9 _) hn rfl p2 (by simp) p1 (kp.1 12 (by decide)) (kp.nm o.2.2.2.2.2.2)
theorem comma_of {post : MS → Prop} {a : Nat} {sh : List Nat} {nm : List Nx} (o : Os c n b u a sh nm) (h : ∀ Z v, idP c a = some Z → KM u v → Os c n b v (a + Z.length) (sh ++ shZ c a Z) (nm ++ nmsZ 0 a Z) → post v) : P_M_comma post u := by
  have t := o.1
  have h80 := t.1
  have han := o.2.1
  unfold P_M_comma
  have h44 : (nI (c a) = 44) ↔ c a = 44 := nI_eq (b := 44) (by have := t.lt a; omega) (by decide)
  rw [o.2.2.1, t.v (by omega), h44]
  refine ⟨t.q (by omega), fun h0 => ?_, fun h0 => ?_⟩
  · refine h [] _ (by unfold idP; rw [if_neg h0]) ((KM.refl u).i _ rfl) ?_
    rw [shZ, nmsZ, List.append_nil, List.append_nil]
    exact ⟨o.1, o.2.1, rfl, o.2.2.2⟩
  · have hn := t.in (i := a) (by omega)
    rw [nI_1]
    refine h [(0, 5, 0)] _ (by unfold idP; rw [if_pos h0]) ((KM.refl u).i _ rfl) ?_
    have e1 : shZ c a [(0, 5, 0)] = [] := rfl
    have e2 : nmsZ 0 a [(0, 5, 0)] = [] := rfl
    rw [e1, e2, List.append_nil, List.append_nil]
    have h3 := o.2.2.2.1
    have h4 := o.2.2.2.2
    exact ⟨o.1, hn, rfl, ⟨h3.1, by have := h3.2.1; simp; omega, h3.2.2⟩, h4.1, by have := h4.2.1; simp; omega, h4.2.2⟩
/-- the value of digits -/
def vlN (c : Nat → Nat) : Nat → Nat → Nat → Nat
  | 0, _, x => x
  | m + 1, a, x => vlN c m (a + 1) (10 * x + (c a - 48))
def dall : Nat → Nat → List Nat
  | 0, _ => []
  | k + 1, N => (48 + N / 10 ^ k % 10) :: dall k N
def dpr : Nat → Nat → List Nat
  | 0, _ => []
  | k + 1, N => (if 10 ^ k ≤ N ∨ k = 0 then [48 + N / 10 ^ k % 10] else []) ++ dpr k N
def Dgs (c : Nat → Nat) (m a : Nat) : Prop := ∀ i, i < m → dg (c (a + i)) = true
theorem Dgs.tl {m a : Nat} (h : Dgs c (m + 1) a) : Dgs c m (a + 1) := fun i hi => by
  have := h (i + 1) (by omega)
  rw [show a + 1 + i = a + (i + 1) by omega]
  exact this
theorem dg_b {x : Nat} (h : dg x = true) : 48 ≤ x ∧ x ≤ 57 := by simpa [dg] using h
theorem vl_all : ∀ (m a x : Nat), Dgs c m a → vlN c m a x / 10 ^ m = x ∧ dall m (vlN c m a x) = sgN c m a := by
  intro m
  induction m with
  | zero => intro a x _; exact ⟨by simp [vlN], rfl⟩
  | succ m ih =>
    intro a x h
    have h0 := dg_b (h 0 (by omega))
    rw [Nat.add_zero] at h0
    obtain ⟨i1, i2⟩ := ih (a + 1) (10 * x + (c a - 48)) h.tl
    refine ⟨?_, ?_⟩
    · show vlN c m (a + 1) (10 * x + (c a - 48)) / 10 ^ (m + 1) = x
      rw [Nat.pow_succ, ← Nat.div_div_eq_div_mul, i1]
      omega
    · show (48 + vlN c m (a + 1) (10 * x + (c a - 48)) / 10 ^ m % 10) :: dall m (vlN c m (a + 1) (10 * x + (c a - 48))) = c a :: sgN c m (a + 1)
      rw [i1, i2]
      congr 1
      omega
theorem vl_lt {m a : Nat} (h : Dgs c m a) : vlN c m a 0 < 10 ^ m := by
  have h1 := (vl_all m a 0 h).1
  have h2 : 0 < 10 ^ m := Nat.pow_pos (by decide)
  rcases Nat.lt_or_ge (vlN c m a 0) (10 ^ m) with h3 | h3
  · exact h3
  · have := Nat.div_le_div_right (c := 10 ^ m) h3
    rw [Nat.div_self h2] at this
    omega
theorem dpr_big {N : Nat} : ∀ k, 10 ^ k ≤ N → dpr k N = dall k N := by
  intro k
  induction k with
  | zero => intro _; rfl
  | succ k ih =>
    intro h
    have h1 : 10 ^ k ≤ N := Nat.le_trans (Nat.pow_le_pow_right (by decide) (by omega)) h
    simp only [dpr, dall, ih h1, if_pos (Or.inl h1 : 10 ^ k ≤ N ∨ k = 0), List.cons_append, List.nil_append]
theorem dpr_small {N k : Nat} (h : N < 10 ^ k) (hk : 0 < k) : dpr (k + 1) N = dpr k N := by
  simp only [dpr]
  rw [if_neg (by omega), List.nil_append]
theorem dpr_dz {role : Nat} (hr : role ≠ 5) : ∀ (m a : Nat), Dgs c (m + 1) a → dpr (m + 1) (vlN c (m + 1) a 0) = shZ c a (dz c role (m + 1) a) := by
  intro m
  induction m with
  | zero =>
    intro a h
    have h0 := dg_b (h 0 (by omega))
    rw [Nat.add_zero] at h0
    have e : vlN c 1 a 0 = c a - 48 := by simp [vlN]
    rw [e]
    have : 48 + (c a - 48) % 10 = c a := by omega
    simp [dpr, dz, shZ, hr, this]
  | succ m ih =>
    intro a h
    have h0 := dg_b (h 0 (by omega))
    rw [Nat.add_zero] at h0
    unfold dz
    by_cases hc : c a = 48
    · rw [if_pos hc]
      have e : vlN c (m + 1 + 1) a 0 = vlN c (m + 1) (a + 1) 0 := by
        show vlN c (m + 1) (a + 1) (10 * 0 + (c a - 48)) = _
        rw [hc]
      rw [e, dpr_small (vl_lt h.tl) (by omega), ih (a + 1) h.tl]
      simp [shZ]
    · rw [if_neg hc]
      have h2 := vl_all (c := c) (m + 1 + 1) a 0 h
      have h3 : 10 ^ (m + 1) ≤ vlN c (m + 1 + 1) a 0 := by
        have h4 := (vl_all (c := c) (m + 1) (a + 1) (10 * 0 + (c a - 48)) h.tl).1
        have h5 : vlN c (m + 1 + 1) a 0 = vlN c (m + 1) (a + 1) (10 * 0 + (c a - 48)) := rfl
        rw [← h5] at h4
        rcases Nat.lt_or_ge (vlN c (m + 1 + 1) a 0) (10 ^ (m + 1)) with h6 | h6
        · rw [Nat.div_eq_of_lt h6] at h4
          omega
        · exact h6
      have e : dpr (m + 1 + 1) (vlN c (m + 1 + 1) a 0) = dall (m + 1 + 1) (vlN c (m + 1 + 1) a 0) := by
        simp only [dpr, dall]
        rw [if_pos (Or.inl h3)]
        have := dpr_big (m + 1) h3
        simp only [dpr, dall] at this
        rw [this]
        rfl
      rw [e, h2.2]
      show c a :: sgN c (m + 1) (a + 1) = _
      simp [shZ, hr, shZ_zn]
theorem dpr_up {N m : Nat} (h : N < 10 ^ m) (hm : 0 < m) : ∀ k, dpr (m + k) N = dpr m N := by
  intro k
  induction k with
  | zero => rfl
  | succ k ih =>
    have h1 : 10 ^ m ≤ 10 ^ (m + k) := Nat.pow_le_pow_right (by decide) (by omega)
    rw [show m + (k + 1) = (m + k) + 1 by omega, dpr_small (by omega) (by omega), ih]
def tn : Nat → Nat
  | 0 => 0
  | k + 1 => 10 ^ k
theorem tn_div (k : Nat) : 10 ^ k / 10 = tn k := by
  cases k with
  | zero => rfl
  | succ k => show 10 ^ (k + 1) / 10 = 10 ^ k; rw [Nat.pow_succ]; omega
theorem dpr_len (N : Nat) : ∀ k, (dpr k N).length ≤ k := by
  intro k
  induction k with
  | zero => simp [dpr]
  | succ k ih =>
    simp only [dpr, List.length_append]
    split
    · simp; omega
    · simp; omega
theorem ten_loop {post : Int32 → MS → Prop} {N : Nat} (hN : N < 100000) : ∀ (k : Nat) (v : MS) (sh : List Nat), k ≤ 5 → gI v 10 = nI sh.length → sh.length + k ≤ 600 → Sh v sh → (∀ w, KS v w → gI w 10 = nI (sh ++ dpr k N).length → Sh w (sh ++ dpr k N) → post (nI N) w) → P_M_digits_67 post (k + 1) (nI N) (nI (tn k)) v := by
  intro k
  induction k with
  | zero =>
    intro v sh hk hl hs h0 h
    exact ⟨fun _ => h v (KS.refl v) (by simpa [dpr] using hl) (by simpa [dpr] using h0), fun h9 => absurd (by decide) h9⟩
  | succ k ih =>
    intro v sh hk hl hs h0 h
    have hp : 0 < 10 ^ k := Nat.pow_pos (by decide)
    have hp2 : 10 ^ k ≤ 10 ^ 4 := Nat.pow_le_pow_right (by decide) (by omega)
    have hp3 : (10 : Nat) ^ 4 = 10000 := by decide
    have e1 : tn (k + 1) = 10 ^ k := rfl
    rw [e1]
    have ed : nI (10 ^ k) / (10 : Int32) = nI (tn k) := by
      rw [show (10 : Int32) = nI 10 from rfl, pk_div (by omega) (by decide) (by decide), tn_div]
    have go : ∀ (w : MS) (s : List Nat), KS v w → gI w 10 = nI s.length → s.length + k ≤ 600 → Sh w s → s ++ dpr k N = sh ++ dpr (k + 1) N → P_M_digits_98 post (fun zx2 zx4 zu => P_M_digits_67 post (k + 1) zx2 zx4 zu) (nI N) (nI (10 ^ k)) w := by
      intro w s kw g1 g2 g3 g4 v1 e
      rw [ed] at e
      subst e
      refine ih w s (by omega) g1 g2 g3 (fun w2 kw2 q1 q2 => h w2 (kw.tr kw2) ?_ ?_)
      · rw [← g4]; exact q1
      · rw [← g4]; exact q2
    have pt : (10 ^ k ≤ N ∨ k = 0) → P_M_digits_84 post (fun zx2 zx4 zu => P_M_digits_67 post (k + 1) zx2 zx4 zu) (nI N) (nI (10 ^ k)) v := by
      intro hq
      refine ⟨nI_ne0 hp (by omega), by rw [hl]; exact vp_in_nI (by omega) (by decide), ?_⟩
      have e2 : (48 : Int32) + (nI N / nI (10 ^ k) - nI N / nI (10 ^ k) / 10 * 10) = nI (48 + N / 10 ^ k % 10) := by
        have hd : N / 10 ^ k ≤ N := Nat.div_le_self _ _
        rw [pk_div (by omega) hp (by omega), show (10 : Int32) = nI 10 from rfl, pk_rem (by omega) (by decide) (by decide)]
        exact nI_add 48 _
      rw [e2]
      obtain ⟨p1, p2⟩ := h0.put hl (by omega) (x := 48 + N / 10 ^ k % 10) (by omega)
      refine go _ (sh ++ [48 + N / 10 ^ k % 10]) (KS.put v _) p2 (by simp; omega) p1 ?_
      simp only [dpr]
      rw [if_pos hq, List.append_assoc]
    refine ⟨fun h9 => absurd h9 (nI_nle hp (by omega)), fun _ => ?_⟩
    rw [nI_leI (by omega) (by omega), show (nI (10 ^ k) = 1) ↔ 10 ^ k = 1 from nI_eq (b := 1) (by omega) (by decide)]
    refine ⟨fun h9 => pt (Or.inl h9), fun h9 => ⟨fun h8 => go v sh (KS.refl v) hl (by omega) h0 ?_, fun h8 => pt (Or.inr ?_)⟩⟩
    · have hk0 : k ≠ 0 := fun e => h8 (by rw [e])
      simp only [dpr]
      rw [if_neg (by omega), List.nil_append]
    · cases k with
      | zero => rfl
      | succ k => rw [Nat.pow_succ] at h8; omega
theorem dgN_dgs : ∀ (f a : Nat), Dgs c (dgN c f a - a) a := by
  intro f
  induction f with
  | zero => intro a i hi; simp [dgN] at hi
  | succ f ih =>
    intro a i hi
    unfold dgN at hi
    split at hi
    · rename_i h
      cases i with
      | zero => exact h
      | succ i =>
        have h1 := ih (a + 1) i (by omega)
        rw [show a + (i + 1) = a + 1 + i by omega]
        exact h1
    · omega
theorem vlN_snoc : ∀ (m a x : Nat), vlN c (m + 1) a x = 10 * vlN c m a x + (c (a + m) - 48) := by
  intro m
  induction m with
  | zero => intro a x; rfl
  | succ m ih =>
    intro a x
    show vlN c (m + 1) (a + 1) (10 * x + (c a - 48)) = _
    rw [ih (a + 1)]
    rw [show a + 1 + m = a + (m + 1) by omega]
    rfl
theorem nms_dz {role ty : Nat} (hr : ¬ (1 ≤ role ∧ role ≤ 4)) : ∀ m a, nmsZ ty a (dz c role m a) = [] := by
  intro m
  induction m with
  | zero => intro a; rfl
  | succ m ih =>
    intro a
    cases m with
    | zero => simp [dz, nmsZ, hr]
    | succ m =>
      unfold dz
      split
      · simp [nmsZ, ih]
      · simp [nmsZ, hr, nmsZ_zn]
theorem dg_read {post : Int32 → MS → Prop} {most a : Nat} (hm : most ≤ 5) (t : MT c n b u) (ha : a ≤ n) : ∀ (f k : Nat) (v : MS), k + f = most → KM u v → (∀ j, j ≠ 9 → gI v j = gI u j) → (∀ j i, gA v j i = gA u j i) → (∀ i, gL v i = gL u i) → gI v 9 = nI (b + (a + k)) → Dgs c k a → a + k ≤ n → (∀ w m, m = dgN c f (a + k) - a → KM u w → (∀ j, j ≠ 9 → gI w j = gI u j) → (∀ j i, gA w j i = gA u j i) → (∀ i, gL w i = gL u i) → gI w 9 = nI (b + (a + m)) → Dgs c m a → a + m ≤ n → P_M_digits_56 post (nI (vlN c m a 0)) (nI m) w) → P_M_digits_4 post (f + 1) (nI most) (nI (vlN c k a 0)) (nI k) v := by
  have h80 := t.1
  have h19 := t.2.1
  intro f
  induction f with
  | zero =>
    intro k v hk kv g1 g2 g3 g9 gd gn h
    exact ⟨fun _ => h v k (by show k = a + k - a; omega) kv g1 g2 g3 g9 gd gn, fun h0 => absurd (nI_le (by omega) (by omega)) h0⟩
  | succ f ih =>
    intro k v hk kv g1 g2 g3 g9 gd gn h
    have tv := t.of kv
    unfold dgN at h
    refine ⟨fun h0 => absurd h0 (nI_ge (by omega) (by omega)), fun _ => ?_⟩
    rw [g9, tv.v (by omega), isDig_0 _ (t.lt _), Classical.not_not]
    refine ⟨tv.q (by omega), fun h0 => h v k ?_ kv g1 g2 g3 g9 gd gn, fun h0 => ⟨tv.q (by omega), fun v2 e2 => ?_⟩⟩
    · rw [if_neg h0]; omega
    · have hb := dg_b h0
      have hn := t.in (i := a + k) (by omega)
      rw [if_pos h0] at h
      have e3 : v2 = nI (vlN c (k + 1) a 0) := by
        rw [e2, show (10 : Int32) = nI 10 from rfl, show (48 : Int32) = nI 48 from rfl, pk_mul, nI_add, pk_sub (by omega), vlN_snoc]
        congr 1
        omega
      subst e3
      rw [nI_1 k, nI_1 (b + (a + k))]
      refine ih (k + 1) _ (by omega) (kv.i _ rfl) (fun j hj => by rw [gI_sI, if_neg hj]; exact g1 j hj) g2 g3 (by rw [gI_sI, if_pos rfl]; congr 1) (fun i hi => ?_) (by omega) h
      by_cases e : i = k
      · rw [e]; exact h0
      · exact gd i (by omega)
theorem digits_of {post : Int32 → MS → Prop} {most role a : Nat} {sh : List Nat} {nm : List Nx} (hm : most ≤ 5) (hr : role ≠ 5) (hr2 : ¬ (1 ≤ role ∧ role ≤ 4)) (o : Os c n b u a sh nm) (h1 : ∀ Z v, dgP c most role a = some Z → KM u v → Os c n b v (a + Z.length) (sh ++ shZ c a Z) (nm ++ nmsZ 0 a Z) → post (nI (vlN c (dgN c most a - a) a 0)) v) (h2 : ∀ v, dgP c most role a = none → KM u v → Os c n b v a sh nm → post (-1) v) : P_M_digits post (nI most) u := by
  have t := o.1
  have h80 := t.1
  have h19 := t.2.1
  have hsl := o.2.2.2.1.2.1
  refine ⟨most + 1, dg_read (a := a) hm t o.2.1 most 0 u (by omega) (KM.refl u) (fun _ _ => rfl) (fun _ _ => rfl) (fun _ => rfl) o.2.2.1 (fun i hi => by omega) o.2.1 (fun w m em kw g1 g2 g3 g9 gd gn => ?_)⟩
  rw [Nat.add_zero] at em
  have hle := dgN_le (c := c) most a
  have shw : Sh w sh := fun j x hj => (g2 11 j).trans (o.2.2.2.1.2.2 j x hj)
  have nmw : Nm c w nm := fun j q hj => by
    have := o.2.2.2.2.2.2 j q hj
    exact ⟨(g3 j).trans this.1, (g2 14 j).trans this.2.1, (g2 15 j).trans this.2.2⟩
  have l10 : gI w 10 = nI sh.length := (g1 10 (by decide)).trans o.2.2.2.1.1
  have l12 : gI w 12 = nI nm.length := (g1 12 (by decide)).trans o.2.2.2.2.1
  have hm5 : m ≤ 5 := by
    have : ∀ f a, dgN c f a ≤ a + f := by
      intro f
      induction f with
      | zero => intro a; exact Nat.le_refl _
      | succ f ih =>
        intro a
        unfold dgN
        split
        · have := ih (a + 1); omega
        · omega
    have := this most a
    omega
  refine ⟨fun h0 => ?_, fun h0 => ?_⟩
  · have hm0 : m ≠ 0 := fun e => h0 (by rw [e]; rfl)
    obtain ⟨m', rfl⟩ : ∃ q, m = q + 1 := ⟨m - 1, by omega⟩
    have hlt := vl_lt gd
    have hp : (10 : Nat) ^ (m' + 1) ≤ 10 ^ 5 := Nat.pow_le_pow_right (by decide) hm5
    have hp2 : (10 : Nat) ^ 5 = 100000 := by decide
    refine ⟨6, ten_loop (by omega) 5 w sh (by omega) l10 (by omega) shw (fun w2 kw2 q1 q2 => ?_)⟩
    have eZ : dgP c most role a = some (dz c role (m' + 1) a) := by unfold dgP; rw [if_neg (by omega), ← em]
    have e5 : dpr 5 (vlN c (m' + 1) a 0) = shZ c a (dz c role (m' + 1) a) := by
      rw [← dpr_dz hr m' a gd]
      have := dpr_up hlt (by omega) (5 - (m' + 1))
      rw [show m' + 1 + (5 - (m' + 1)) = 5 by omega] at this
      exact this
    have e6 := dpr_len (vlN c (m' + 1) a 0) (m' + 1)
    rw [dpr_dz hr m' a gd] at e6
    rw [e5] at q1 q2
    have hfin := h1 _ w2 eZ (kw.tr kw2.km) ?_
    · rw [← em] at hfin
      exact hfin
    · rw [dz_len, nms_dz hr2, List.append_nil]
      exact o.step (kw.tr kw2.km) gn ((kw2.1 9 (by decide)).trans g9) q1 (by omega) q2 ((kw2.1 12 (by decide)).trans (g1 12 (by decide))) (kw2.nm nmw)
  · have hm0 : m = 0 := (nI_eq (b := 0) (by omega) (by decide)).mp h0
    refine h2 w (by unfold dgP; rw [if_pos (by omega)]) kw ⟨t.of kw, o.2.1, ?_, ⟨l10, hsl, shw⟩, l12, o.2.2.2.2.2.1, nmw⟩
    rw [g9, hm0]; rfl
end ML2
