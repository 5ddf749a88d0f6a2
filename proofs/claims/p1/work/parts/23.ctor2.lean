section RA
variable {S : Type} {l : Launch} {D : va_G} {cl : List vw_C} {tys : List (ClassId × FieldType)} {Ev : (Nat → Prop) → State → Prop} {own : String} {cc : ByteArray} {nL : Nat} {Ts : List Cond} {rm : Room} {ret : Option FieldType} {wd : S → va_W} {post : Option Value → S → Prop} {mc ms kc ks : Nat} {pc : Nat} {lv lv' : List (Nat × Value)} {st : List Value} {u u' : S}
theorem x_aast {q0 t0 a n v ci qk : Nat} {cA : ClassId} {r : vw_C} {vs : List Value} {f : Nat → Option Nat} {i : Int32} (he : (wd u)[q0]? = some (a, .inl (cA, n, .inr (.inr (.inr (.inr f)))))) (ht : tys[t0]? = some (cA, .object r.1)) (hv : (wd u)[qk]? = some (v, .inr (ci, vs))) (hc : cl[ci]? = some r) (hin : vp_in i n) (hset : (wd u).set q0 (a, .inl (cA, n, .inr (.inr (.inr (.inr (va_up f i.toNatClampNeg (some v))))))) = wd u') (hd : decode cc pc = .ok (.aastore, 1)) (kk : RR l D cl tys Ev own cc nL Ts rm ret wd post mc ms kc ks (pc + 1) lv st u') : RR l D cl tys Ev own cc nL Ts rm ret wd post mc ms kc ks pc lv (.ref v :: .int i :: .ref a :: st) u := by
  intro p e s m args below meth c A H locs ls hX hP hD hS hl
  refine va_astq hX.1 hX.2.1 hX.2.2.2.2.2.1 hP hD hS q0 t0 qk ci he ht hv hc hin hd (fun H1 locs1 hP1 hD1 hS1 => ?_)
  rw [hset] at hP1 hD1
  exact kk p e s m args below meth c A H1 locs1 ls hX hP1 hD1 hS1 hl
theorem x_conv (hP : ∀ H, va_P D cl (wd u) H → va_P D cl (wd u') H) (hD : ∀ A, va_D A (wd u) → va_D A (wd u')) (kk : RR l D cl tys Ev own cc nL Ts rm ret wd post mc ms kc ks pc lv st u') : RR l D cl tys Ev own cc nL Ts rm ret wd post mc ms kc ks pc lv st u := by
  intro p e s m args below meth c A H locs ls hX hP1 hD1 hS hl
  exact kk p e s m args below meth c A H locs ls hX (hP H hP1) (hD A hD1) hS hl
end RA
theorem x_wr (wr uz : va_W) : xLens (fun w : va_W => w) (wr ++ uz) (fun w : va_W => w) uz (fun w1 => wr ++ w1) := ⟨wr, List.Perm.refl _, fun _ => List.Perm.refl _⟩
/-- the deck while its rows are made: k of them stand -/
def wdB (h0 r : Nat) (to : Nat → Nat) (ta : Nat → Nat → Nat) (cs : Nat → ClassId) (k : Nat) : va_W := (h0, .inr (1, [.ref r, .int 0])) :: (r, .inl (cs 4, 24, .inr (.inr (.inr (.inr (fun i => if i < k then some (to i) else none)))))) :: (List.range k).flatMap (fun i => wdS (to i) (ta i) cs z0)
theorem wdB_next (h0 r : Nat) (to : Nat → Nat) (ta : Nat → Nat → Nat) (cs : Nat → ClassId) (k q : Nat) (a : Nat → Nat) : (wdB h0 r to ta cs k ++ wdS q a cs z0).set 1 (r, .inl (cs 4, 24, .inr (.inr (.inr (.inr (va_up (fun i => if i < k then some (to i) else none) k (some q))))))) = wdB h0 r (va_up to k q) (va_up ta k a) cs (k + 1) := by
  have e1 : va_up (fun i => if i < k then some (to i) else none) k (some q) = fun i => if i < k + 1 then some (va_up to k q i) else none := by
    funext i
    unfold va_up
    by_cases h : i = k
    · subst h
      simp
    · by_cases h2 : i < k
      · simp [h, h2, Nat.lt_succ_of_lt h2]
      · have h3 : ¬ i < k + 1 := by omega
        simp [h, h2, h3]
  have e2 : (List.range (k + 1)).flatMap (fun i => wdS (va_up to k q i) (va_up ta k a i) cs z0) = (List.range k).flatMap (fun i => wdS (to i) (ta i) cs z0) ++ wdS q a cs z0 := by
    rw [List.range_succ, List.flatMap_append]
    congr 1
    · rw [List.flatMap_def, List.flatMap_def, List.map_congr_left]
      intro i hi
      have hn : i ≠ k := Nat.ne_of_lt (List.mem_range.mp hi)
      simp [va_up, hn]
    · simp [va_up]
  unfold wdB
  rw [e2, ← e1]
  rfl
theorem wdB_end (D : va_G) (h0 r : Nat) (to : Nat → Nat) (ta : Nat → Nat → Nat) (cs : Nat → ClassId) (H : Heap) (h : va_P D clX (wdB h0 r to ta cs 24) H) : va_P D clX ([(h0, .inr (1, [.ref r, .int 0])), (r, .inl (cs 4, 24, .inr (.inr (.inr (.inr (fun i => some (to i)))))))] ++ wdTs to ta cs (fun _ => z0)) H := by
  rw [x_Pi] at h ⊢
  intro q hq
  rcases List.mem_cons.mp hq with h1 | h1
  · exact h q (by rw [h1]; exact List.mem_cons_self)
  · rcases List.mem_cons.mp h1 with h2 | h2
    · have h3 := h (r, .inl (cs 4, 24, .inr (.inr (.inr (.inr (fun i => if i < 24 then some (to i) else none)))))) (List.mem_cons_of_mem _ List.mem_cons_self)
      rw [h2]
      show H[r]? = some (vp_cell _ _)
      have h4 : H[r]? = some (vp_cell _ _) := h3
      rw [h4, vp_cell_q, vp_cell_q]
      unfold arrV
      congr 3
      funext j
      show va_rf (if (j : Nat) < 24 then some (to j) else none) = va_rf (some (to j))
      rw [if_pos j.isLt]
    · exact h q (List.mem_cons_of_mem _ (List.mem_cons_of_mem _ h2))
theorem wdB_endD (A : Nat → Prop) (h0 r : Nat) (to : Nat → Nat) (ta : Nat → Nat → Nat) (cs : Nat → ClassId) (h : va_D A (wdB h0 r to ta cs 24)) : va_D A ([(h0, .inr (1, [.ref r, .int 0])), (r, .inl (cs 4, 24, .inr (.inr (.inr (.inr (fun i => some (to i)))))))] ++ wdTs to ta cs (fun _ => z0)) := by
  rw [x_Di] at h ⊢
  obtain ⟨h1, h2⟩ := h
  obtain ⟨a1, a2⟩ := List.pairwise_cons.mp h1
  obtain ⟨b1, b2⟩ := List.pairwise_cons.mp a2
  refine ⟨List.pairwise_cons.mpr ⟨fun q hq => ?_, List.pairwise_cons.mpr ⟨fun q hq => b1 q hq, b2⟩⟩, fun q hq => ?_⟩
  · rcases List.mem_cons.mp hq with h3 | h3
    · rw [h3]
      exact a1 (r, .inl (cs 4, 24, .inr (.inr (.inr (.inr (fun i => if i < 24 then some (to i) else none)))))) List.mem_cons_self
    · exact a1 q (List.mem_cons_of_mem _ h3)
  · rcases List.mem_cons.mp hq with h3 | h3
    · exact h2 q (by rw [h3]; exact List.mem_cons_self)
    · rcases List.mem_cons.mp h3 with h4 | h4
      · rw [h4]
        exact h2 (r, .inl (cs 4, 24, .inr (.inr (.inr (.inr (fun i => if i < 24 then some (to i) else none)))))) (List.mem_cons_of_mem _ List.mem_cons_self)
      · exact h2 q (List.mem_cons_of_mem _ (List.mem_cons_of_mem _ h4))
def pK (h0 : Nat) (cs : Nat → ClassId) : va_W → Prop := fun w => ∃ (r : Nat) (to : Nat → Nat) (ta : Nat → Nat → Nat), w = [(h0, .inr (1, [.ref r, .int 0])), (r, .inl (cs 4, 24, .inr (.inr (.inr (.inr (fun i => some (to i)))))))] ++ wdTs to ta cs (fun _ => z0)
set_option maxHeartbeats 600000 in
set_option maxRecDepth 100000 in
theorem wl_K_init (l : Launch) (D : va_G) (cs : Nat → ClassId) (Ev : (Nat → Prop) → State → Prop) (hE : xEok Ev) (adK adV : Nat → Nat) (fm : Option Nat) (X : xEv adK adV fm Ev) (d : Nat) (h0 r : Nat) : ∀ (n k : Nat), k + n = 24 → ∀ (to : Nat → Nat) (ta : Nat → Nat → Nat), RR l D clX (tysX cs) Ev "DeckFront$Deck" b_K_init 2 w_K_init (rmK (d + 3) 121 7920) none (fun w : va_W => w) (pV (pK h0 cs)) 121 7920 (1 + 5 * k) (24 + 329 * k) 15 [(1, .int (nI k)), (0, .ref h0)] [] (wdB h0 r to ta cs k) := by
  intro n
  induction n with
  | zero =>
    intro k hk to ta
    obtain rfl : k = 24 := by omega
    refine x_iload_n (x := nI 24) d_K_init_15 rfl ?_
    refine x_bipush (v := 24) d_K_init_16 (by decide) ?_
    refine x_icmp_ge (tgt := 40) d_K_init_18 rfl (fun hc => ?_) (fun hc => absurd (by decide) hc)
    refine x_conv (u' := [(h0, .inr (1, [.ref r, .int 0])), (r, .inl (cs 4, 24, .inr (.inr (.inr (.inr (fun i => some (to i)))))))] ++ wdTs to ta cs (fun _ => z0)) (fun H h => wdB_end D h0 r to ta cs H h) (fun A h => wdB_endD A h0 r to ta cs h) ?_
    exact x_vret d_K_init_40 ⟨rfl, r, to, ta, rfl⟩ (by omega) (by omega)
  | succ n ih =>
    intro k hk to ta
    have hk24 : k < 24 := by omega
    refine x_iload_n (x := nI k) d_K_init_15 rfl ?_
    refine x_bipush (v := 24) d_K_init_16 (by decide) ?_
    refine x_icmp_ge (tgt := 40) d_K_init_18 rfl (fun hc => absurd hc (nI_ge (b := 24) hk24 (by decide))) (fun hc => ?_)
    refine x_aload_n (x := h0) d_K_init_21 rfl ?_
    refine x_get (v := .ref r) (q0 := 0) (fs := [.ref r, .int 0]) f_K_11 rfl rfl d_K_init_22 ?_
    refine x_iload_n (x := nI k) d_K_init_25 rfl ?_
    refine x_new (ci := 2) (ty := ty_S) (fs := [.null, .null, .null, .null, .int 0, .int 0, .int 0, .int 0, .int 0]) uw_S tk_S (cG tw_50) (cG tw_52) (cG tw_5) rfl (by decide +kernel) (by show 1 + 5 * k + 1 ≤ 121; omega) (by show 24 + 329 * k + 9 ≤ 7920; omega) d_K_init_26 (fun q u1 hu1 => ?_) (fun q => ⟨_, rfl⟩)
    obtain rfl : u1 = wdB h0 r to ta cs k ++ [(q, .inr (2, [.null, .null, .null, .null, .int 0, .int 0, .int 0, .int 0, .int 0]))] := hu1
    refine x_dup d_K_init_29 rfl ?_
    refine x_callIN (st := [.ref q, .int (nI k), .ref r]) (k_K_17 X) (x_wr (wdB h0 r to ta cs k) [(q, .inr (2, [.null, .null, .null, .null, .int 0, .int 0, .int 0, .int 0, .int 0]))]) (c_S_init l D cs Ev hE adK adV fm X d q) hE (rmK_ok (by omega) (by decide) (by omega) (by omega)) rfl (Nat.le_of_ble_eq_true rfl) rfl d_K_init_30 (x_rV (fun u1 h9 => ?_))
    obtain ⟨a, rfl⟩ := h9
    obtain ⟨q9, e9⟩ := mem_ix (ws := wdB h0 r to ta cs k ++ wdS q a cs z0) (q := (q, .inr (2, fsS a z0))) (List.mem_append_right _ List.mem_cons_self)
    have hin : vp_in (nI k) 24 := vp_in_nI hk24 (by decide)
    have hcl : (nI k).toNatClampNeg = k := nI_clamp (by omega)
    refine x_aast (q0 := 1) (t0 := 4) (r := ("DeckFront$Statement", T_S, 9)) (f := fun i => if i < k then some (to i) else none) (u' := wdB h0 r (va_up to k q) (va_up ta k a) cs (k + 1)) rfl rfl e9 rfl hin (by rw [hcl]; exact wdB_next h0 r to ta cs k q a) d_K_init_33 ?_
    refine x_iinc (v := nI (k + 1)) (lv' := [(1, .int (nI (k + 1))), (0, .ref h0)]) d_K_init_34 rfl (by rw [nI_succ]; rfl) (by decide) rfl ?_
    refine x_goto (tgt := 15) d_K_init_37 rfl ?_
    have h2 := ih (k + 1) (by omega) (va_up to k q) (va_up ta k a)
    rw [show 1 + 5 * (k + 1) = 1 + 5 * k + 1 + 4 by omega, show 24 + 329 * (k + 1) = 24 + 329 * k + 9 + 320 by omega] at h2
    exact h2
set_option maxHeartbeats 600000 in
set_option maxRecDepth 100000 in
theorem c_K_init (l : Launch) (D : va_G) (cs : Nat → ClassId) (Ev : (Nat → Prop) → State → Prop) (hE : xEok Ev) (adK adV : Nat → Nat) (fm : Option Nat) (X : xEv adK adV fm Ev) (d : Nat) (h0 : Nat) : xC l D clX (tysX cs) Ev y_K_init w_K_init (rmK (d + 3) 121 7920) (fun w : va_W => w) [.ref h0] [(h0, .inr (1, [.null, .int 0]))] (pV (pK h0 cs)) 121 7920 := by
  refine xC.of (cc := b_K_init) (nL := 2) (ret := none) (by decide) rfl (Nat.le_of_ble_eq_true rfl) ?_
  show RR l D clX (tysX cs) Ev "DeckFront$Deck" b_K_init 2 w_K_init (rmK (d + 3) 121 7920) none (fun w : va_W => w) (pV (pK h0 cs)) 121 7920 0 0 0 [(0, .ref h0)] [] [(h0, .inr (1, [.null, .int 0]))]
  refine x_aload_n (x := h0) d_K_init_0 rfl ?_
  refine x_objInit (cG tw_49) (cG tw_25) (cG tw_26) (Nat.le_of_ble_eq_true rfl) (by show 1 ≤ d + 3; omega) (by show 20 ≤ 64 * (d + 3); omega) d_K_init_1 ?_
  refine x_aload_n (x := h0) d_K_init_4 rfl ?_
  refine x_bipush (v := 24) d_K_init_5 (by decide) ?_
  refine x_newQ (t0 := 4) (cA := cs 4) (N' := 24) (cG tw_50) (fun s A h => (X A s h).2.2.2) rfl (by decide) rfl (by decide) (Nat.le_of_ble_eq_true rfl) (Nat.le_of_ble_eq_true rfl) d_K_init_7 (fun r u1 hu1 => ?_) (fun q => ⟨_, rfl⟩)
  obtain rfl : u1 = [(h0, .inr (1, [.null, .int 0])), (r, .inl (cs 4, 24, .inr (.inr (.inr (.inr (fun _ => none))))))] := hu1
  refine x_putF (q0 := 0) (u' := wdB h0 r (fun _ => 0) (fun _ _ => 0) cs 0) f_K_11 ff_K_0 rfl rfl rfl rfl rfl (Nat.le_of_ble_eq_true rfl) rfl d_K_init_10 ?_
  refine x_iconst (v := 0) d_K_init_13 (by decide) ?_
  refine x_istore_n (lv' := [(1, .int 0), (0, .ref h0)]) d_K_init_14 (by decide) rfl ?_
  exact wl_K_init l D cs Ev hE adK adV fm X d h0 r 24 0 rfl (fun _ => 0) (fun _ _ => 0)
def pD (h0 : Nat) (cs : Nat → ClassId) : va_W → Prop := fun w => ∃ (ad to : Nat → Nat) (ta : Nat → Nat → Nat), ad 0 = h0 ∧ w.Perm (wdX ad to ta cs (z0, z0, z0, fun _ => z0))
set_option maxHeartbeats 600000 in
set_option maxRecDepth 100000 in
theorem c_D_init (l : Launch) (D : va_G) (cs : Nat → ClassId) (Ev : (Nat → Prop) → State → Prop) (hE : xEok Ev) (adK adV : Nat → Nat) (fm : Option Nat) (X : xEv adK adV fm Ev) (d : Nat) (h0 : Nat) : xC l D clX (tysX cs) Ev y_D_init w_D_init (rmK (d + 4) 126 8024) (fun w : va_W => w) [.ref h0] [(h0, .inr (4, [.null, .null, .null]))] (pV (pD h0 cs)) 126 8024 := by
  refine xC.of (cc := b_D_init) (nL := 1) (ret := none) (by decide) rfl (Nat.le_of_ble_eq_true rfl) ?_
  show RR l D clX (tysX cs) Ev "DeckFront" b_D_init 1 w_D_init (rmK (d + 4) 126 8024) none (fun w : va_W => w) (pV (pD h0 cs)) 126 8024 0 0 0 [(0, .ref h0)] [] [(h0, .inr (4, [.null, .null, .null]))]
  refine x_aload_n (x := h0) d_D_init_0 rfl ?_
  refine x_objInit (cG tw_24) (cG tw_25) (cG tw_26) (Nat.le_of_ble_eq_true rfl) (by show 1 ≤ d + 4; omega) (by show 20 ≤ 64 * (d + 4); omega) d_D_init_1 ?_
  refine x_aload_n (x := h0) d_D_init_4 rfl ?_
  refine x_new (ci := 0) (ty := ty_C) (fs := [.null, .int 0]) uw_C tk_C (cG tw_27) (cG tw_28) (cG tw_2) rfl (by decide +kernel) (Nat.le_of_ble_eq_true rfl) (Nat.le_of_ble_eq_true rfl) d_D_init_5 (fun q5 u1 hu1 => ?_) (fun q => ⟨_, rfl⟩)
  obtain rfl : u1 = [(h0, .inr (4, [.null, .null, .null]))] ++ [(q5, .inr (0, [.null, .int 0]))] := hu1
  refine x_dup d_D_init_8 rfl ?_
  refine x_callIN (st := [.ref q5, .ref h0]) (k_D_9 X) (x_wr [(h0, .inr (4, [.null, .null, .null]))] [(q5, .inr (0, [.null, .int 0]))]) (c_C_init l D cs Ev hE adK adV fm X d q5) hE (rmK_ok (by omega) (by decide) (by omega) (by omega)) rfl (Nat.le_of_ble_eq_true rfl) rfl d_D_init_9 (x_rV (fun u1 h9 => ?_))
  obtain ⟨sg, rfl⟩ := h9
  refine x_putF (q0 := 0) (u' := (h0, .inr (4, [.ref q5, .null, .null])) :: wdC q5 (fun _ => sg) cs z0) f_D_10 ff_D_0 rfl rfl rfl rfl rfl (Nat.le_of_ble_eq_true rfl) rfl d_D_init_12 ?_
  refine x_aload_n (x := h0) d_D_init_15 rfl ?_
  refine x_new (ci := 1) (ty := ty_K) (fs := [.null, .int 0]) uw_K tk_K (cG tw_44) (cG tw_45) (cG tw_3) rfl (by decide +kernel) (Nat.le_of_ble_eq_true rfl) (Nat.le_of_ble_eq_true rfl) d_D_init_16 (fun q16 u1 hu1 => ?_) (fun q => ⟨_, rfl⟩)
  obtain rfl : u1 = ((h0, .inr (4, [.ref q5, .null, .null])) :: wdC q5 (fun _ => sg) cs z0) ++ [(q16, .inr (1, [.null, .int 0]))] := hu1
  refine x_dup d_D_init_19 rfl ?_
  refine x_callI (st := [.ref q16, .ref h0]) k_D_18 (x_wr ((h0, .inr (4, [.ref q5, .null, .null])) :: wdC q5 (fun _ => sg) cs z0) [(q16, .inr (1, [.null, .int 0]))]) (c_K_init l D cs Ev hE adK adV fm X d q16) hE (rmK_ok (by omega) (by decide) (by omega) (by omega)) rfl (Nat.le_of_ble_eq_true rfl) rfl d_D_init_20 (x_rV (fun u1 h9 => ?_))
  obtain ⟨r, to, ta, rfl⟩ := h9
  refine x_putF (q0 := 0) (u' := (h0, .inr (4, [.ref q5, .ref q16, .null])) :: (wdC q5 (fun _ => sg) cs z0 ++ ([(q16, (.inr (1, [.ref r, .int 0]) : va_E)), (r, .inl (cs 4, 24, .inr (.inr (.inr (.inr (fun i => some (to i)))))))] ++ wdTs to ta cs (fun _ => z0)))) f_D_19 ff_D_1 rfl rfl rfl rfl rfl (Nat.le_of_ble_eq_true rfl) rfl d_D_init_23 ?_
  refine x_aload_n (x := h0) d_D_init_26 rfl ?_
  refine x_new (ci := 3) (ty := ty_U) (fs := [.null, .int 0, .int 0, .int 0]) uw_U tk_U (cG tw_116) (cG tw_117) (cG tw_6) rfl (by decide +kernel) (Nat.le_of_ble_eq_true rfl) (Nat.le_of_ble_eq_true rfl) d_D_init_27 (fun q27 u1 hu1 => ?_) (fun q => ⟨_, rfl⟩)
  obtain rfl : u1 = ((h0, .inr (4, [.ref q5, .ref q16, .null])) :: (wdC q5 (fun _ => sg) cs z0 ++ ([(q16, (.inr (1, [.ref r, .int 0]) : va_E)), (r, .inl (cs 4, 24, .inr (.inr (.inr (.inr (fun i => some (to i)))))))] ++ wdTs to ta cs (fun _ => z0)))) ++ [(q27, .inr (3, [.null, .int 0, .int 0, .int 0]))] := hu1
  refine x_dup d_D_init_30 rfl ?_
  refine x_callIN (st := [.ref q27, .ref h0]) (k_D_25 X) (x_wr ((h0, .inr (4, [.ref q5, .ref q16, .null])) :: (wdC q5 (fun _ => sg) cs z0 ++ ([(q16, (.inr (1, [.ref r, .int 0]) : va_E)), (r, .inl (cs 4, 24, .inr (.inr (.inr (.inr (fun i => some (to i)))))))] ++ wdTs to ta cs (fun _ => z0)))) [(q27, .inr (3, [.null, .int 0, .int 0, .int 0]))]) (c_U_init l D cs Ev hE adK adV fm X d q27) hE (rmK_ok (by omega) (by decide) (by omega) (by omega)) rfl (Nat.le_of_ble_eq_true rfl) rfl d_D_init_31 (x_rV (fun u1 h9 => ?_))
  obtain ⟨op, rfl⟩ := h9
  refine x_putF (q0 := 0) (u' := (h0, .inr (4, [.ref q5, .ref q16, .ref q27])) :: (wdC q5 (fun _ => sg) cs z0 ++ ([(q16, (.inr (1, [.ref r, .int 0]) : va_E)), (r, .inl (cs 4, 24, .inr (.inr (.inr (.inr (fun i => some (to i)))))))] ++ wdTs to ta cs (fun _ => z0)) ++ wdU q27 (fun _ => op) cs z0)) f_D_26 ff_D_2 rfl rfl rfl rfl rfl (Nat.le_of_ble_eq_true rfl) rfl d_D_init_34 ?_
  refine x_vret d_D_init_37 ⟨rfl, ?_⟩ (Nat.le_of_ble_eq_true rfl) (Nat.le_of_ble_eq_true rfl)
  refine ⟨fun k => [h0, q5, sg, q16, r, q27, op].getD k 0, to, ta, rfl, ?_⟩
  have key : ∀ (a b t : va_W), (a ++ t ++ b).Perm (a ++ b ++ t) := fun a b t => by
    rw [List.append_assoc, List.append_assoc]
    exact List.Perm.append_left a List.perm_append_comm
  exact key ((h0, .inr (4, [.ref q5, .ref q16, .ref q27])) :: (wdC q5 (fun _ => sg) cs z0 ++ [(q16, .inr (1, [.ref r, .int 0])), (r, .inl (cs 4, 24, .inr (.inr (.inr (.inr (fun i => some (to i)))))))])) (wdU q27 (fun _ => op) cs z0) (wdTs to ta cs (fun _ => z0))
