/-! how the reference prints a tree -/
theorem pv_k : ∀ k, k < 100 → (-2000) < nI k ∧ (-1000) < nI k ∧ 0 ≤ nI k := by decide +kernel
theorem pv_o : ∀ k, k < 100 → (-2000) < (-1000 : Int32) - nI k ∧ ¬ (-1000) < (-1000 : Int32) - nI k ∧ (-1000 : Int32) - ((-1000 : Int32) - nI k) = nI k := by decide +kernel
theorem pv_c : ∀ k, k < 100 → ¬ (-2000) < (-2000 : Int32) - nI k ∧ (-2000 : Int32) - ((-2000 : Int32) - nI k) = nI k := by decide +kernel
def KP (w v : MS) (nn : Nat) : Prop := (∀ k, k ≠ 10 → gI v k = gI w k) ∧ (∀ k, k ≠ 11 → k ≠ 32 → ∀ i, gA v k i = gA w k i) ∧ (∀ i, i < nn → gA v 32 i = gA w 32 i) ∧ ∀ i, gL v i = gL w i
theorem KP.refl (w : MS) (nn : Nat) : KP w w nn := ⟨fun _ _ => rfl, fun _ _ _ _ => rfl, fun _ _ => rfl, fun _ => rfl⟩
theorem KP.tr {w v x : MS} {m nn : Nat} (h : KP w v nn) (h' : KP v x m) (hm : nn ≤ m) : KP w x nn := ⟨fun k hk => (h'.1 k hk).trans (h.1 k hk), fun k h1 h2 i => (h'.2.1 k h1 h2 i).trans (h.2.1 k h1 h2 i), fun i hi => (h'.2.2.1 i (by omega)).trans (h.2.2.1 i hi), fun i => (h'.2.2.2 i).trans (h.2.2.2 i)⟩
theorem KS.kp {w v : MS} (h : KS w v) (nn : Nat) : KP w v nn := ⟨h.1, fun k h1 _ => h.2.1 k h1, fun i _ => h.2.1 32 (by decide) i, h.2.2⟩
theorem KP.w (w : MS) {i nn : Nat} (x : Int32) (h : nn ≤ i) : KP w (sA w 32 i x) nn := ⟨fun _ _ => rfl, fun k h1 h2 j => by rw [gA_sA, if_neg (fun q => h2 q.1)], fun j hj => by rw [gA_sA, if_neg (fun q => by omega)], fun _ => rfl⟩
theorem KP.km {w v : MS} {nn : Nat} (h : KP w v nn) : KM w v := ⟨fun k hk => h.1 k (fun e => by subst e; exact absurd hk (by decide)), fun k hk => h.2.1 k (fun e => by subst e; exact absurd hk (by decide)) (fun e => by subst e; exact absurd hk (by decide))⟩
theorem Sh.w {w : MS} {s : List Nat} (h : Sh w s) (i : Nat) (x : Int32) : Sh (sA w 32 i x) s := fun j y hj => by
  rw [gA_sA, if_neg (fun q => absurd q.1 (by decide))]
  exact h j y hj
def Ag (u w : MS) (lo hi k : Nat) : Prop := ∀ f, 19 ≤ f → f ≤ 24 → ∀ i, lo ≤ i → i < hi → (f = 23 → i ≠ k) → gA w f i = gA u f i
theorem Ag.kp {u w v : MS} {lo hi k nn : Nat} (h : Ag u w lo hi k) (h' : KP w v nn) : Ag u v lo hi k := fun f h1 h2 i h3 h4 h5 => (h'.2.1 f (by omega) (by omega) i).trans (h f h1 h2 i h3 h4 h5)
section MPR
variable {c : Nat → Nat} {n b : Nat}
theorem pr_chr {post : MS → Prop} {w : MS} {nn f x : Nat} {s : List Nat} (t : MT c n b w) (hn : nn < 400) (hx : x = 41 ∨ x = 44) (hv : gA w 32 nn = nI 0 - 1 - nI x) (hl : gI w 10 = nI s.length) (hs : s.length < 600) (h0 : Sh w s) (h : ∀ v, KP w v nn → gI v 10 = nI (s ++ [x]).length → Sh v (s ++ [x]) → P_M_print_9 post f (nI nn) v) : P_M_print_9 post (f + 1) (nI (nn + 1)) w := by
  refine ⟨fun h9 => absurd h9 (nI_nle (by omega) (by omega)), fun _ => ?_⟩
  rw [nI_m1, nI_clamp (by omega)]
  refine ⟨vp_in_nI hn (by decide), fun v1 e1 => ?_⟩
  rw [hv] at e1
  have e2 : (-2000) < v1 ∧ (-1000) < v1 ∧ ¬ 0 ≤ v1 ∧ (-1 : Int32) - v1 = nI x := by
    rcases hx with rfl | rfl <;> subst e1 <;> decide
  obtain ⟨p1, p2⟩ := h0.put hl hs (x := x) (by omega)
  refine ⟨fun _ => ⟨fun _ => ⟨fun h9 => absurd h9 e2.2.2.1, fun _ => ⟨by rw [hl]; exact vp_in_nI hs (by decide), ?_⟩⟩, fun h9 => absurd e2.2.1 h9⟩, fun h9 => absurd e2.1 h9⟩
  rw [e2.2.2.2]
  exact h _ ((KS.put w _).kp nn) p2 p1
theorem pr_op {post : MS → Prop} {w : MS} {nn f k s m : Nat} {sw : List Nat} (t : MT c n b w) (hn : nn < 400) (hk : k < 100) (hv : gA w 32 nn = (-1000 : Int32) - nI k) (h19 : gA w 19 k = nI (b + s)) (h20 : gA w 20 k = nI (b + (s + m))) (hm : s + m ≤ n) (hl : gI w 10 = nI sw.length) (hs : sw.length + m ≤ 600) (h0 : Sh w sw) (h : ∀ v, KP w v nn → gI v 10 = nI (sw ++ sgN c m s).length → Sh v (sw ++ sgN c m s) → P_M_print_9 post f (nI nn) v) : P_M_print_9 post (f + 1) (nI (nn + 1)) w := by
  refine ⟨fun h9 => absurd h9 (nI_nle (by omega) (by omega)), fun _ => ?_⟩
  rw [nI_m1, nI_clamp (by omega)]
  refine ⟨vp_in_nI hn (by decide), fun v1 e1 => ?_⟩
  rw [hv] at e1
  subst e1
  obtain ⟨q1, q2, q3⟩ := pv_o k hk
  refine ⟨fun _ => ⟨fun h9 => absurd h9 q2, fun _ => ?_⟩, fun h9 => absurd q1 h9⟩
  rw [q3, nI_clamp (by omega), h19, h20]
  refine ⟨vp_in_nI hk (by decide), vp_in_nI hk (by decide), putPart_of t (by omega) hm hl (by omega) h0 (fun v kv r1 r2 => ?_)⟩
  rw [show s + m - s = m by omega] at r1 r2
  exact h v (kv.kp nn) r1 r2
theorem pr_leaf {post : MS → Prop} {w : MS} {nn f k s m : Nat} {sw : List Nat} (t : MT c n b w) (hn : nn < 400) (hk : k < 100) (hv : gA w 32 nn = nI k) (h24 : gA w 24 k = 0) (h19 : gA w 19 k = nI (b + s)) (h20 : gA w 20 k = nI (b + (s + m))) (hm : s + m ≤ n) (hl : gI w 10 = nI sw.length) (hs : sw.length + m ≤ 600) (h0 : Sh w sw) (h : ∀ v, KP w v nn → gI v 10 = nI (sw ++ sgN c m s).length → Sh v (sw ++ sgN c m s) → P_M_print_9 post f (nI nn) v) : P_M_print_9 post (f + 1) (nI (nn + 1)) w := by
  refine ⟨fun h9 => absurd h9 (nI_nle (by omega) (by omega)), fun _ => ?_⟩
  rw [nI_m1, nI_clamp (by omega)]
  refine ⟨vp_in_nI hn (by decide), fun v1 e1 => ?_⟩
  rw [hv] at e1
  subst e1
  obtain ⟨q1, q2, q3⟩ := pv_k k hk
  refine ⟨fun _ => ⟨fun _ => ⟨fun _ => ?_, fun h9 => absurd q3 h9⟩, fun h9 => absurd q2 h9⟩, fun h9 => absurd q1 h9⟩
  rw [nI_clamp (by omega), h24, h19, h20]
  refine ⟨vp_in_nI hk (by decide), fun h9 => absurd rfl h9, fun _ => ⟨vp_in_nI hk (by decide), vp_in_nI hk (by decide), putPart_of t (by omega) hm hl (by omega) h0 (fun v kv r1 r2 => ?_)⟩⟩
  rw [show s + m - s = m by omega] at r1 r2
  exact h v (kv.kp nn) r1 r2
theorem m42 : (-42 : Int32) = nI 0 - 1 - nI 41 := by decide
theorem m45 : (-45 : Int32) = nI 0 - 1 - nI 44 := by decide
/-- a list's node: its name, the bracket, then what is in it, then the bracket -/
theorem pr_list {post : MS → Prop} {w : MS} {nn f k s m : Nat} {sw : List Nat} (t : MT c n b w) (hn : nn + 1 < 400) (hk : k < 100) (hv : gA w 32 nn = nI k) (h24 : gA w 24 k = 3) (h19 : gA w 19 k = nI (b + s)) (h20 : gA w 20 k = nI (b + (s + m))) (hm : s + m ≤ n) (hl : gI w 10 = nI sw.length) (hs : sw.length + m + 1 ≤ 600) (h0 : Sh w sw) (hA : gA w 21 k < 0 → ∀ v, KP w v nn → gA v 32 nn = nI 0 - 1 - nI 41 → gI v 10 = nI (sw ++ sgN c m s ++ [40]).length → Sh v (sw ++ sgN c m s ++ [40]) → P_M_print_9 post f (nI (nn + 1)) v) (hB : ¬ gA w 21 k < 0 → ∀ v, KP w v nn → gA v 32 nn = nI 0 - 1 - nI 41 → gA v 32 (nn + 1) = (-2000 : Int32) - gA w 21 k → gI v 10 = nI (sw ++ sgN c m s ++ [40]).length → Sh v (sw ++ sgN c m s ++ [40]) → P_M_print_9 post f (nI (nn + 2)) v) : P_M_print_9 post (f + 1) (nI (nn + 1)) w := by
  refine ⟨fun h9 => absurd h9 (nI_nle (by omega) (by omega)), fun _ => ?_⟩
  rw [nI_m1, nI_clamp (by omega)]
  refine ⟨vp_in_nI (by omega) (by decide), fun v1 e1 => ?_⟩
  rw [hv] at e1
  subst e1
  obtain ⟨q1, q2, q3⟩ := pv_k k hk
  refine ⟨fun _ => ⟨fun _ => ⟨fun _ => ?_, fun h9 => absurd q3 h9⟩, fun h9 => absurd q2 h9⟩, fun h9 => absurd q1 h9⟩
  rw [nI_clamp (by omega), h24, h19, h20]
  refine ⟨vp_in_nI hk (by decide), fun _ => ⟨vp_in_nI hk (by decide), fun h9 => absurd rfl h9, fun _ => ⟨vp_in_nI hk (by decide), vp_in_nI hk (by decide), putPart_of t (by omega) hm hl (by omega) h0 (fun v kv r1 r2 => ?_)⟩⟩, fun h9 => absurd h9 (by decide)⟩
  rw [show s + m - s = m by omega] at r1 r2
  have hlen : (sw ++ sgN c m s).length = sw.length + m := by rw [List.length_append, sgN_len]
  obtain ⟨p1, p2⟩ := r2.put r1 (by omega) (x := 40) (by decide)
  have kp : KS w (mPut v (nI 40)) := kv.tr (KS.put v _)
  have e21 : gA (sA (mPut v (40 : Int32)) 32 nn (-42 : Int32)) 21 k = gA w 21 k := by
    rw [gA_sA, if_neg (fun q => absurd q.1 (by decide))]
    exact kp.2.1 21 (by decide) k
  refine ⟨by rw [r1]; exact vp_in_nI (by omega) (by decide), vp_in_nI (by omega) (by decide), vp_in_nI hk (by decide), ?_⟩
  unfold P_M_print_342
  rw [e21, nI_1, nI_1, nI_clamp (by omega)]
  have k1 : KP w (sA (mPut v (40 : Int32)) 32 nn (-42 : Int32)) nn := (kp.kp nn).tr (KP.w _ _ (Nat.le_refl _)) (Nat.le_refl _)
  have c1 : gA (sA (mPut v (40 : Int32)) 32 nn (-42 : Int32)) 32 nn = nI 0 - 1 - nI 41 := by
    rw [gA_sA, if_pos ⟨rfl, rfl⟩]; exact m42
  have p1' : Sh (sA (mPut v (40 : Int32)) 32 nn (-42 : Int32)) (sw ++ sgN c m s ++ [40]) := p1.w _ _
  have p2' : gI (sA (mPut v (40 : Int32)) 32 nn (-42 : Int32)) 10 = nI (sw ++ sgN c m s ++ [40]).length := p2
  clear p1 p2
  generalize sA (mPut v (40 : Int32)) 32 nn (-42 : Int32) = W at *
  refine ⟨fun h9 => hA h9 W k1 c1 p2' p1', fun h9 => ⟨vp_in_nI hk (by decide), vp_in_nI (by omega) (by decide), ?_⟩⟩
  have g1 : gA (sA W 32 (nn + 1) ((-2000 : Int32) - gA w 21 k)) 32 nn = nI 0 - 1 - nI 41 := by
    rw [gA_sA, if_neg (fun q => by omega)]; exact c1
  have g2 : gA (sA W 32 (nn + 1) ((-2000 : Int32) - gA w 21 k)) 32 (nn + 1) = (-2000 : Int32) - gA w 21 k := by
    rw [gA_sA, if_pos ⟨rfl, rfl⟩]
  have g3 : KP w (sA W 32 (nn + 1) ((-2000 : Int32) - gA w 21 k)) nn := k1.tr (KP.w _ _ (by omega)) (Nat.le_refl _)
  have g5 : gI (sA W 32 (nn + 1) ((-2000 : Int32) - gA w 21 k)) 10 = nI (sw ++ sgN c m s ++ [40]).length := by rw [gI_sA]; exact p2'
  have g4 := hB h9 _ g3 g1 g2 g5 (p1'.w _ _)
  exact g4
theorem pr_un {post : MS → Prop} {w : MS} {nn f k s m : Nat} {sw : List Nat} (t : MT c n b w) (hn : nn + 1 < 400) (hk : k < 100) (hv : gA w 32 nn = nI k) (h24 : gA w 24 k = 2) (h19 : gA w 19 k = nI (b + s)) (h20 : gA w 20 k = nI (b + (s + m))) (hm : s + m ≤ n) (hl : gI w 10 = nI sw.length) (hs : sw.length + m + 1 ≤ 600) (h0 : Sh w sw) (h : ∀ v, KP w v nn → gA v 32 nn = nI 0 - 1 - nI 41 → gA v 32 (nn + 1) = gA w 21 k → gI v 10 = nI (sw ++ [40] ++ sgN c m s).length → Sh v (sw ++ [40] ++ sgN c m s) → P_M_print_9 post f (nI (nn + 2)) v) : P_M_print_9 post (f + 1) (nI (nn + 1)) w := by
  refine ⟨fun h9 => absurd h9 (nI_nle (by omega) (by omega)), fun _ => ?_⟩
  rw [nI_m1, nI_clamp (by omega)]
  refine ⟨vp_in_nI (by omega) (by decide), fun v1 e1 => ?_⟩
  rw [hv] at e1
  subst e1
  obtain ⟨q1, q2, q3⟩ := pv_k k hk
  refine ⟨fun _ => ⟨fun _ => ⟨fun _ => ?_, fun h9 => absurd q3 h9⟩, fun h9 => absurd q2 h9⟩, fun h9 => absurd q1 h9⟩
  obtain ⟨p1, p2⟩ := h0.put hl (by omega) (x := 40) (by decide)
  have kp := KS.put w (nI 40)
  have ea : ∀ f, f ≠ 11 → f ≠ 32 → gA (sA (mPut w (40 : Int32)) 32 nn (-42 : Int32)) f k = gA w f k := fun f h1 h2 => by
    rw [gA_sA, if_neg (fun q => h2 q.1)]
    exact kp.2.1 f h1 k
  have k1 : KP w (sA (mPut w (40 : Int32)) 32 nn (-42 : Int32)) nn := (kp.kp nn).tr (KP.w _ _ (Nat.le_refl _)) (Nat.le_refl _)
  rw [nI_clamp (by omega), h24, ea 24 (by decide) (by decide), ea 19 (by decide) (by decide), ea 20 (by decide) (by decide), h24, h19, h20]
  refine ⟨vp_in_nI hk (by decide), fun _ => ⟨vp_in_nI hk (by decide), fun _ => ⟨by rw [hl]; exact vp_in_nI (by omega) (by decide), vp_in_nI (by omega) (by decide), vp_in_nI hk (by decide), fun _ => ⟨vp_in_nI hk (by decide), vp_in_nI hk (by decide), ?_⟩, fun h9 => absurd h9 (by decide)⟩, fun h9 => absurd h9 (by decide)⟩, fun h9 => absurd h9 (by decide)⟩
  have hlen : (sw ++ [40]).length = sw.length + 1 := by simp
  refine putPart_of (t.of k1.km) (by omega) hm p2 (by omega) (p1.w _ _) (fun v kv r1 r2 => ?_)
  rw [show s + m - s = m by omega] at r1 r2
  rw [nI_1, nI_clamp (by omega)]
  refine ⟨vp_in_nI hk (by decide), vp_in_nI (by omega) (by decide), ?_⟩
  unfold P_M_print_339 P_M_print_342
  rw [nI_1]
  have e21 : gA v 21 k = gA w 21 k := (kv.2.1 21 (by decide) k).trans (ea 21 (by decide) (by decide))
  rw [e21]
  have k2 : KP w v nn := k1.tr (kv.kp nn) (Nat.le_refl _)
  refine h _ (k2.tr (KP.w _ _ (by omega)) (Nat.le_refl _)) ?_ ?_ r1 (r2.w _ _)
  · rw [gA_sA, if_neg (fun q => by omega), kv.2.1 32 (by decide), gA_sA, if_pos ⟨rfl, rfl⟩]; exact m42
  · rw [gA_sA, if_pos ⟨rfl, rfl⟩]
theorem pr_bin {post : MS → Prop} {w : MS} {nn f k : Nat} {sw : List Nat} (hn : nn + 3 < 400) (hk : k < 100) (hv : gA w 32 nn = nI k) (h24 : gA w 24 k = 1) (hl : gI w 10 = nI sw.length) (hs : sw.length + 1 ≤ 600) (h0 : Sh w sw) (h : ∀ v, KP w v nn → gA v 32 nn = nI 0 - 1 - nI 41 → gA v 32 (nn + 1) = gA w 22 k → gA v 32 (nn + 2) = (-1000 : Int32) - nI k → gA v 32 (nn + 3) = gA w 21 k → gI v 10 = nI (sw ++ [40]).length → Sh v (sw ++ [40]) → P_M_print_9 post f (nI (nn + 4)) v) : P_M_print_9 post (f + 1) (nI (nn + 1)) w := by
  refine ⟨fun h9 => absurd h9 (nI_nle (by omega) (by omega)), fun _ => ?_⟩
  rw [nI_m1, nI_clamp (by omega)]
  refine ⟨vp_in_nI (by omega) (by decide), fun v1 e1 => ?_⟩
  rw [hv] at e1
  subst e1
  obtain ⟨q1, q2, q3⟩ := pv_k k hk
  refine ⟨fun _ => ⟨fun _ => ⟨fun _ => ?_, fun h9 => absurd q3 h9⟩, fun h9 => absurd q2 h9⟩, fun h9 => absurd q1 h9⟩
  obtain ⟨p1, p2⟩ := h0.put hl (by omega) (x := 40) (by decide)
  have kp := KS.put w (nI 40)
  have ea : ∀ f, f ≠ 11 → f ≠ 32 → gA (sA (mPut w (40 : Int32)) 32 nn (-42 : Int32)) f k = gA w f k := fun f h1 h2 => by
    rw [gA_sA, if_neg (fun q => h2 q.1)]
    exact kp.2.1 f h1 k
  have k1 : KP w (sA (mPut w (40 : Int32)) 32 nn (-42 : Int32)) nn := (kp.kp nn).tr (KP.w _ _ (Nat.le_refl _)) (Nat.le_refl _)
  rw [nI_clamp (by omega), h24, ea 24 (by decide) (by decide), h24]
  refine ⟨vp_in_nI hk (by decide), fun _ => ⟨vp_in_nI hk (by decide), fun _ => ⟨by rw [hl]; exact vp_in_nI (by omega) (by decide), vp_in_nI (by omega) (by decide), vp_in_nI hk (by decide), fun h9 => absurd rfl h9, fun _ => ⟨vp_in_nI hk (by decide), ?_⟩⟩, fun h9 => absurd h9 (by decide)⟩, fun h9 => absurd h9 (by decide)⟩
  rw [nI_1, nI_1, nI_2, nI_clamp (by omega), nI_clamp (by omega), nI_clamp (by omega), ea 22 (by decide) (by decide)]
  refine ⟨vp_in_nI (by omega) (by decide), vp_in_nI (by omega) (by decide), vp_in_nI hk (by decide), vp_in_nI (by omega) (by decide), ?_⟩
  unfold P_M_print_339 P_M_print_342
  rw [nI_1]
  have e21 : ∀ x y, gA (sA (sA (sA (mPut w (40 : Int32)) 32 nn (-42 : Int32)) 32 (nn + 1) x) 32 (nn + 1 + 1) y) 21 k = gA w 21 k := fun x y => by
    rw [gA_sA, if_neg (fun q => absurd q.1 (by decide)), gA_sA, if_neg (fun q => absurd q.1 (by decide))]
    exact ea 21 (by decide) (by decide)
  rw [e21]
  refine h _ (((k1.tr (KP.w _ _ (by omega)) (Nat.le_refl _)).tr (KP.w _ _ (by omega)) (Nat.le_refl _)).tr (KP.w _ _ (by omega)) (Nat.le_refl _)) ?_ ?_ ?_ ?_ p2 ((((p1.w _ _).w _ _).w _ _).w _ _)
  · rw [gA_sA, if_neg (fun q => by omega), gA_sA, if_neg (fun q => by omega), gA_sA, if_neg (fun q => by omega), gA_sA, if_pos ⟨rfl, rfl⟩]; exact m42
  · rw [gA_sA, if_neg (fun q => by omega), gA_sA, if_neg (fun q => by omega), gA_sA, if_pos ⟨rfl, rfl⟩]
  · rw [gA_sA, if_neg (fun q => by omega), gA_sA, if_pos ⟨rfl, rfl⟩]
  · rw [gA_sA, if_pos ⟨rfl, rfl⟩]
/-- an entry of a list: the last one, and one before another -/
theorem pr_ch0 {post : MS → Prop} {w : MS} {nn f j : Nat} (hn : nn < 400) (hj : j < 100) (hv : gA w 32 nn = (-2000 : Int32) - nI j) (h23 : gA w 23 j < 0) (h : P_M_print_9 post f (nI (nn + 1)) (sA w 32 nn (nI j))) : P_M_print_9 post (f + 1) (nI (nn + 1)) w := by
  refine ⟨fun h9 => absurd h9 (nI_nle (by omega) (by omega)), fun _ => ?_⟩
  rw [nI_m1, nI_clamp (by omega)]
  refine ⟨vp_in_nI (by omega) (by decide), fun v1 e1 => ?_⟩
  rw [hv] at e1
  subst e1
  obtain ⟨q1, q2⟩ := pv_c j hj
  refine ⟨fun h9 => absurd h9 q1, fun _ v6 e6 => ?_⟩
  rw [q2] at e6
  subst e6
  rw [nI_clamp (by omega)]
  refine ⟨vp_in_nI hj (by decide), fun _ => ?_, fun h9 => absurd h23 h9⟩
  unfold P_M_print_77 P_M_print_342
  rw [nI_1, nI_clamp (by omega)]
  exact ⟨vp_in_nI hn (by decide), h⟩
theorem pr_ch1 {post : MS → Prop} {w : MS} {nn f j y : Nat} (hn : nn + 2 < 400) (hj : j < 100) (hy : y < 100) (hv : gA w 32 nn = (-2000 : Int32) - nI j) (h23 : gA w 23 j = nI y) (h : P_M_print_9 post f (nI (nn + 3)) (sA (sA (sA w 32 nn ((-2000 : Int32) - nI y)) 32 (nn + 1) (nI 0 - 1 - nI 44)) 32 (nn + 2) (nI j))) : P_M_print_9 post (f + 1) (nI (nn + 1)) w := by
  refine ⟨fun h9 => absurd h9 (nI_nle (by omega) (by omega)), fun _ => ?_⟩
  rw [nI_m1, nI_clamp (by omega)]
  refine ⟨vp_in_nI (by omega) (by decide), fun v1 e1 => ?_⟩
  rw [hv] at e1
  subst e1
  obtain ⟨q1, q2⟩ := pv_c j hj
  refine ⟨fun h9 => absurd h9 q1, fun _ v6 e6 => ?_⟩
  rw [q2] at e6
  subst e6
  rw [nI_clamp (by omega), h23]
  refine ⟨vp_in_nI hj (by decide), fun h9 => absurd h9 (nI_pos (by omega)), fun _ => ⟨vp_in_nI hj (by decide), vp_in_nI (by omega) (by decide), ?_⟩⟩
  unfold P_M_print_77 P_M_print_342
  rw [nI_1, nI_2, nI_1, nI_clamp (by omega), nI_clamp (by omega)]
  refine ⟨vp_in_nI (by omega) (by decide), vp_in_nI (by omega) (by decide), ?_⟩
  rw [m45]
  exact h
end MPR
