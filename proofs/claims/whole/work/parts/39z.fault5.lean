section FL5
variable {N : Nat} {cs : Nat → Nat → Nat} {ns lb : Nat → Nat} {x : XS} {m : MS}
theorem StR.push {w : MS} {y : Op} {S : List Op} (h : StR w S) (hl : S.length < 24) (hy : y.1 < 100000) (hy2 : y.2 = false) : StR (sI (sA (sA w 34 S.length (nI y.1)) 35 S.length (0 : Int32)) 33 (nI (S.length + 1))) (y :: S) := by
  refine ⟨by rw [List.length_cons]; omega, fun z hz => ?_, by rw [gI_sI, if_pos rfl]; rfl, fun j z hj => ?_⟩
  · rcases List.mem_cons.mp hz with e | e
    · rw [e]; exact hy
    · exact h.2.1 z e
  · rw [gA_sI, gA_sA, if_neg (fun q => absurd q.1 (by decide)), gA_sA, gA_sI, gA_sA]
    rw [List.reverse_cons] at hj
    by_cases e : j = S.length
    · rw [if_pos ⟨rfl, e⟩, if_pos ⟨rfl, e⟩]
      rw [e, List.getElem?_append_right (by rw [List.length_reverse]; exact Nat.le_refl _), List.length_reverse, Nat.sub_self] at hj
      cases hj
      exact ⟨rfl, fun _ => by rw [hy2]; rfl⟩
    · rw [if_neg (fun q => e q.2), if_neg (fun q => e q.2), gA_sA, if_neg (fun q => absurd q.1 (by decide))]
      have hlt := (List.getElem?_eq_some_iff.mp hj).1
      rw [List.length_append, List.length_reverse, List.length_singleton] at hlt
      rw [List.getElem?_append_left (by rw [List.length_reverse]; omega)] at hj
      exact h.2.2.2 j z hj
theorem s1_nx (lb : Nat → Nat) (s k : Nat) (A : List Nat) (S : List Op) : nxS lb s k A S = if k = 1 then (A.headD 0, false) :: s1S lb s k S else if k = 3 then (0, false) :: s1S lb s k S else s1S lb s k S := by
  unfold nxS s1S
  by_cases h1 : k = 1
  · rw [if_pos h1, if_pos h1, if_neg (by omega)]
  · rw [if_neg h1, if_neg h1]
    by_cases h3 : k = 3
    · rw [if_pos h3, if_pos h3, if_neg (by omega)]
    · rw [if_neg h3, if_neg h3]
theorem s1_len (lb : Nat → Nat) (s k : Nat) {S : List Op} (hO : OkS S) : (s1S lb s k S).length ≤ S.length := by
  have hp := popL_ok (l := lb s) hO
  have ha : (afS lb s k S).length ≤ S.length := by
    unfold afS
    split
    · rw [List.length_tail]; omega
    · omega
  unfold s1S
  split
  · cases hS : afS lb s k S with
    | nil => simp [setE]
    | cons z T => rw [hS] at ha; simp only [setE, List.length_cons] at ha ⊢; omega
  · exact ha
theorem Kf.kd {w v : MS} (k : Kf w v) : gI v 1 = gI w 1 ∧ gI v 3 = gI w 3 ∧ ∀ f, (f = 2 ∨ f = 4 ∨ f = 5 ∨ f = 6) → ∀ i, gA v f i = gA w f i := ⟨k.1 1 (by decide), k.1 3 (by decide), fun f hf i => k.2 f (by omega) (by omega) i⟩
/-- what a look for faults keeps -/
def Kg (w v : MS) : Prop := gI v 1 = gI w 1 ∧ gI v 3 = gI w 3 ∧ ∀ f, (f = 2 ∨ f = 4 ∨ f = 5 ∨ f = 6) → ∀ i, gA v f i = gA w f i
theorem Kg.tr {w v z : MS} (h : Kg w v) (h' : Kg v z) : Kg w z := ⟨h'.1.trans h.1, h'.2.1.trans h.2.1, fun f hf i => (h'.2.2 f hf i).trans (h.2.2 f hf i)⟩
theorem Kd.kg {w v : MS} (h : Kd w v) : Kg w v := ⟨h.1, h.2.1, fun f hf i => h.2.2.2 f (by omega) i⟩
theorem DkI.kg {w v : MS} (h : DkI N cs ns lb x w) (k : Kg w v) : DkI N cs ns lb x v := by
  refine ⟨h.1, h.2.1, k.2.1.trans h.2.2.1, fun s hs => ?_⟩
  obtain ⟨h1, h2, h3, h4, h5⟩ := h.2.2.2 s hs
  exact ⟨h1, h2, (k.2.2 4 (by omega) s).trans h3, (k.2.2 5 (by omega) s).trans h4, fun i hi => (k.2.2 6 (by omega) _).trans (h5 i hi)⟩
theorem Inv.kg {w v : MS} (h : Inv x w) (k : Kg w v) : Inv x v := by
  obtain ⟨⟨a, b, h1⟩, N, cs, ns, lb, h2⟩ := h
  exact ⟨⟨a, b, h1.1, h1.2.1, k.1.trans h1.2.2.1, fun i hi => ⟨(h1.2.2.2 i hi).1, (k.2.2 2 (by omega) i).trans (h1.2.2.2 i hi).2.1, (h1.2.2.2 i hi).2.2⟩⟩, N, cs, ns, lb, h2.kg k⟩
theorem StR.kd {w v : MS} {S : List Op} (h : StR w S) (k : Kd w v) : StR v S := ⟨h.1, h.2.1, k.2.2.1.trans h.2.2.1, fun j y hj => ⟨(k.2.2.2 34 (by omega) j).trans (h.2.2.2 j y hj).1, fun q => (k.2.2.2 35 (by omega) j).trans ((h.2.2.2 j y hj).2 q)⟩⟩
def fvV (q : Nat × Nat) : Int32 := if q.1 = 0 then 0 else nI (32 * q.1 + q.2)
theorem ff_loop {post : Int32 → MS → Prop} : ∀ (f s : Nat) (S : List Op) (w : MS), DkI N cs ns lb x w → s + f = N → StR w S → S.length ≤ s → (∀ v, Kg w v → post (fvV (flF N cs ns lb f s S)) v) → P_M_firstFault_9 post (f + 1) (b2i (lt0 cs ns s)) (nI s) w := by
  intro f
  induction f with
  | zero =>
    intro s S w h hs hst hl hp
    have hN := h.1
    refine ⟨fun _ => ?_, fun q => absurd (by rw [h.2.2.1]; exact nI_le (by omega) (by omega)) q⟩
    exact hp w (Kd.refl w).kg
  | succ f ih =>
    intro s S w h hs hst hl hp
    have hN := h.1
    have hk17 : wk cs ns s ≤ 17 := (RC_bd (cs s) (ns s)).2.2
    have hAl := amZ_lt (cs s) (RC (cs s) (ns s)).2 0
    obtain ⟨_, hrow, _⟩ := h.2.2.2 s (by omega)
    have h80 := hrow.1.1
    have hAlen : (aq cs ns s).length ≤ 80 := by
      have := (RC_bd (cs s) (ns s)).2.1
      have := hAl.2
      show (amZ (cs s) 0 (RC (cs s) (ns s)).2).length ≤ 80
      omega
    have hAv : ∀ v ∈ aq cs ns s, v < 100000 := hAl.1
    refine ⟨fun q => absurd q (by rw [h.2.2.1]; exact nI_ge (by omega) (by omega)), fun _ => rd_of h (by omega) (fun w1 k1 hr => ?_)⟩
    have hd1 := h.kd k1
    have st1 := hst.kd k1
    have hfl := fl_er N lb s (wk cs ns s) (lt0 cs ns s) (aq cs ns s) S
    have h8 := flS_le N lb s (wk cs ns s) (lt0 cs ns s) (aq cs ns s) S
    unfold flF at hp
    have bad : ∀ (k : Nat) (v : MS), fk N cs ns lb s S = k → k ≠ 0 → Kg w v → ∀ x1 x3 : Int32, P_M_firstFault_48 post (fun zx1 zx2 zu => P_M_firstFault_9 post (f + 1) zx1 zx2 zu) x1 (nI s) x3 (nI k) v := by
      intro k v hk hk0 kv x1 x3
      have hk8 : k ≤ 8 := by rw [← hk]; exact h8
      rw [if_neg (by rw [hk]; exact hk0)] at hp
      refine ⟨fun q => absurd q (nI_nle (by omega) (by omega)), fun _ => ?_⟩
      have e1 : (32 : Int32) * nI k + nI s = nI (32 * k + s) := by
        rw [show (32 : Int32) = nI 32 from rfl, pk_mul, nI_add]
      rw [e1]
      have := hp v kv
      unfold fvV at this
      simp only at this
      rw [if_neg (by rw [hk]; exact hk0), hk] at this
      exact this
    refine early_m (k := wk cs ns s) (S := S) hd1 (by omega) hk17 st1 (fun hE v kv => ⟨fun _ => ?_, fun q => ?_⟩) (fun hE v kv sv => ⟨fun q => absurd rfl q, fun _ => ?_⟩)
    · refine bad _ v ?_ hE (k1.kg.tr kv.kd) _ _
      show flS N lb s (wk cs ns s) (lt0 cs ns s) (aq cs ns s) S = _
      rw [hfl, if_neg hE]
    · have hle : erS lb s (wk cs ns s) (lt0 cs ns s) S ≤ 8 := by
        unfold erS
        repeat (first | omega | split)
      exact absurd ((nI_eq (b := 0) (by omega) (by decide)).mp q) hE
    · rw [if_pos hE] at hfl
      have hdv := hd1.kf kv
      have amv := kv.am hr.2.2.2
      refine later_m (k := wk cs ns s) (S := S) hdv (by omega) hk17 amv hAlen hAv sv (fun h14 => by unfold s1S; rw [if_neg (by omega)]) ?_
      by_cases hL : laS N lb s (wk cs ns s) (aq cs ns s) S = 0
      · have h0 : fk N cs ns lb s S = 0 := by
          show flS N lb s (wk cs ns s) (lt0 cs ns s) (aq cs ns s) S = 0
          rw [hfl, hL]
        rw [if_pos h0] at hp
        rw [hL]
        refine ⟨fun _ => ?_, fun q => absurd (by decide) q⟩
        have hsl := s1_len lb s (wk cs ns s) hst.2.1
        have kwv : Kg w v := k1.kg.tr kv.kd
        -- the next statement
        have nx : ∀ z, Kg w z → StR z (nxS lb s (wk cs ns s) (aq cs ns s) S) → P_M_firstFault_9 post (f + 1) (b2i (lt0 cs ns (s + 1))) (nI (s + 1)) z := fun z kz sz => ih (s + 1) _ z (h.kg kz) (by omega) sz (nxS_l lb s _ _ hst.2.1 hl) (fun y ky => hp y (kz.tr ky))
        have lt1 : lt0 cs ns (s + 1) = !dcl (wk cs ns s) := by
          show (decide (0 < s + 1) && !dcl (wk cs ns (s + 1 - 1))) = _
          rw [Nat.add_sub_cancel]
          simp
        have c84 : ∀ s0 : Int32, s0 = b2i (lt0 cs ns (s + 1)) → P_M_firstFault_84 post (fun zx1 zx2 zu => P_M_firstFault_9 post (f + 1) zx1 zx2 zu) (nI s) (nI (wk cs ns s)) s0 v := by
          intro s0 hs0
          have e1k : (nI (wk cs ns s) = 1) ↔ wk cs ns s = 1 := nI_eq (b := 1) (by omega) (by decide)
          have e3k : (nI (wk cs ns s) = 3) ↔ wk cs ns s = 3 := nI_eq (b := 3) (by omega) (by decide)
          have hnx := s1_nx lb s (wk cs ns s) (aq cs ns s) S
          have c118 : ∀ d : Nat, d < 100000 → nxS lb s (wk cs ns s) (aq cs ns s) S = (d, false) :: s1S lb s (wk cs ns s) S → P_M_firstFault_118 post (fun zx1 zx2 zu => P_M_firstFault_9 post (f + 1) zx1 zx2 zu) s0 (nI s) (nI d) (gI v 33) v := by
            intro d hd hn
            unfold P_M_firstFault_118 P_M_firstFault_139
            rw [sv.2.2.1, nI_clamp (by omega), nI_1, nI_1, show vp_nar .boolean (0 : Int32) = 0 by decide, hs0]
            refine ⟨vp_in_nI (by omega) (by decide), vp_in_nI (by omega) (by decide), nx _ ⟨?_, ?_, fun f' hf' i => ?_⟩ ?_⟩
            · rw [gI_sI, if_neg (by decide), gI_sA, gI_sA]; exact kwv.1
            · rw [gI_sI, if_neg (by decide), gI_sA, gI_sA]; exact kwv.2.1
            · rw [gA_sI, gA_sA, if_neg (by omega), gA_sA, if_neg (by omega)]; exact kwv.2.2 f' hf' i
            · rw [hn]
              exact sv.push (y := (d, false)) (by omega) hd rfl
          unfold P_M_firstFault_84 P_M_firstFault_95
          rw [e1k, e3k]
          refine ⟨fun q => ⟨fun r => absurd q r, fun _ => ⟨vp_in_nI (n := 0) (by decide) (by decide), ?_⟩⟩, fun q => ⟨fun q3 => ?_, fun q3 => ⟨fun _ => c118 0 (by decide) (by rw [hnx, if_neg q, if_pos q3]), fun r => absurd r q⟩⟩⟩
          · obtain ⟨v0, hv0, hv5⟩ := RC_1 hrow.1.2.2.2 q
            have ea : aq cs ns s = [v0] := hv0
            have e17 : gA v 17 (0 : Int32).toNatClampNeg = nI v0 := amv.2 0 v0 (by rw [hv0]; rfl)
            rw [e17]
            refine c118 v0 hv5 ?_
            rw [hnx, if_pos q, ea]
            rfl
          · unfold P_M_firstFault_139
            rw [nI_1, hs0]
            rw [if_neg q, if_neg q3] at hnx
            exact nx v kwv (by rw [hnx]; exact sv)
        have hdc : dcl (wk cs ns s) = true ↔ (wk cs ns s = 15 ∨ wk cs ns s = 16) := by simp [dcl]
        unfold P_M_firstFault_79 P_M_firstFault_83
        rw [b2i_0, show (nI (wk cs ns s) = 15) ↔ wk cs ns s = 15 from nI_eq (b := 15) (by omega) (by decide), show (nI (wk cs ns s) = 16) ↔ wk cs ns s = 16 from nI_eq (b := 16) (by omega) (by decide)]
        refine ⟨fun q => c84 1 ?_, fun q => ⟨fun q15 => c84 0 ?_, fun q15 => ⟨fun q16 => c84 0 ?_, fun q16 => c84 1 ?_⟩⟩⟩
        · rw [lt1]
          have hlt : lt0 cs ns s = true := by simpa using q
          have hnd : dcl (wk cs ns s) = false := by
            cases hdd : dcl (wk cs ns s)
            · rfl
            · exfalso
              have hd2 := hdc.mp hdd
              have : erS lb s (wk cs ns s) (lt0 cs ns s) S ≠ 0 := by
                unfold erS
                rw [if_neg (by omega)]
                split
                · omega
                · rw [if_pos ⟨hd2, hlt⟩]; omega
              exact this hE
          rw [hnd]; rfl
        · rw [lt1, hdc.mpr (Or.inl q15)]; rfl
        · rw [lt1, hdc.mpr (Or.inr q16)]; rfl
        · have hnd : dcl (wk cs ns s) = false := by
            cases hdd : dcl (wk cs ns s)
            · rfl
            · have := hdc.mp hdd
              omega
          rw [lt1, hnd]; rfl
      · refine bad _ v ?_ hL (k1.kg.tr kv.kd) _ _
        show flS N lb s (wk cs ns s) (lt0 cs ns s) (aq cs ns s) S = _
        exact hfl
theorem flF_b (N : Nat) (cs : Nat → Nat → Nat) (ns lb : Nat → Nat) : ∀ (f s : Nat) (S : List Op), s + f ≤ 24 → (flF N cs ns lb f s S).1 ≤ 8 ∧ (flF N cs ns lb f s S).2 < 32 := by
  intro f
  induction f with
  | zero => intro s S _; exact ⟨Nat.zero_le _, by show 0 < 32; decide⟩
  | succ f ih =>
    intro s S hs
    unfold flF
    split
    · exact ih _ _ (by omega)
    · exact ⟨flS_le _ _ _ _ _ _ _, by simp only; omega⟩
theorem first_m {post : Int32 → MS → Prop} (h : DkI N cs ns lb x m) (hp : ∀ v, Kg m v → post (fvV (flF N cs ns lb N 0 [])) v) : P_M_firstFault post m := by
  have k0 : Kg m (sI m 33 (0 : Int32)) := ⟨by rw [gI_sI, if_neg (by decide)], by rw [gI_sI, if_neg (by decide)], fun _ _ _ => rfl⟩
  refine ⟨N + 1, ?_⟩
  have hl : lt0 cs ns 0 = false := rfl
  have := ff_loop (post := post) N 0 [] (sI m 33 (0 : Int32)) (h.kg k0) (by omega) ⟨by decide, fun y hy => absurd hy (by simp), by rw [gI_sI, if_pos rfl]; rfl, fun j y hj => absurd hj (by simp)⟩ (Nat.zero_le _) (fun v kv => hp v (k0.tr kv))
  rw [hl] at this
  exact this
def faV (q : Nat × Nat) : Int32 := if q.1 = 0 then -1 else nI q.2
theorem fault_c (h : DkI N cs ns lb x m) {post : Int32 → XS → Prop} (hp : ∀ U', post (nI (flF N cs ns lb N 0 []).1) (upU x U')) : P_D_fault post x := look_c h (fun U' h2 _ => by
  show post (gI U' 2) (upU x U')
  rw [h2]
  exact hp U')
theorem faultAt_c (h : DkI N cs ns lb x m) {post : Int32 → XS → Prop} (hp : ∀ U', post (faV (flF N cs ns lb N 0 [])) (upU x U')) : P_D_faultAt post x := look_c h (fun U' _ h3 => by
  show post (gI U' 3) (upU x U')
  rw [h3]
  exact hp U')
theorem fault_m (h : DkI N cs ns lb x m) {post : Int32 → MS → Prop} (hp : ∀ v, Kg m v → post (nI (flF N cs ns lb N 0 []).1) v) : P_M_fault post m := by
  have hb := flF_b N cs ns lb N 0 [] (by have := h.1; omega)
  refine first_m (h.kd (Kd.s0 m 0)) (fun v kv => ?_)
  have h9 := hp v ((Kd.s0 m 0).kg.tr kv)
  have e : fvV (flF N cs ns lb N 0 []) / 32 = nI (flF N cs ns lb N 0 []).1 := by
    unfold fvV
    by_cases h0 : (flF N cs ns lb N 0 []).1 = 0
    · rw [if_pos h0, h0]; decide
    · rw [if_neg h0, show (32 : Int32) = nI 32 from rfl, pk_div (by omega) (by decide) (by decide)]
      congr 1
      omega
  rw [e]
  exact h9
theorem faultAt_m (h : DkI N cs ns lb x m) {post : Int32 → MS → Prop} (hp : ∀ v, Kg m v → post (faV (flF N cs ns lb N 0 [])) v) : P_M_faultAt post m := by
  have hb := flF_b N cs ns lb N 0 [] (by have := h.1; omega)
  refine first_m (h.kd (Kd.s0 m 0)) (fun v kv => ?_)
  have h9 := hp v ((Kd.s0 m 0).kg.tr kv)
  unfold faV at h9
  unfold fvV
  by_cases h0 : (flF N cs ns lb N 0 []).1 = 0
  · rw [if_pos h0] at h9 ⊢
    exact ⟨fun q => absurd rfl q, fun _ => h9⟩
  · rw [if_neg h0] at h9 ⊢
    refine ⟨fun _ => ?_, fun q => absurd ((nI_eq (b := 0) (by omega) (by decide)).mp q) (by omega)⟩
    rw [show (32 : Int32) = nI 32 from rfl, pk_rem (by omega) (by decide) (by decide), show (32 * (flF N cs ns lb N 0 []).1 + (flF N cs ns lb N 0 []).2) % 32 = (flF N cs ns lb N 0 []).2 by omega]
    exact h9
end FL5
