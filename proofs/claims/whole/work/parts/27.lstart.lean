/-! from the law's entry to its loop -/
section
variable {S Sz : Type} {l : Launch} {D : va_G} {cl : List vw_C} {tys : List (ClassId × FieldType)} {Ev : (Nat → Prop) → State → Prop} {own : String} {cc : ByteArray} {nL : Nat} {Ts : List Cond} {rm : Room} {rr : Option FieldType} {wd : S → va_W} {wdz : Sz → va_W} {Qf : List Frame → Array Value → State → (Nat → Prop) → State → Prop} {kc ks : Nat} {pc : Nat} {lv : List (Nat × Value)} {st : List Value} {u : S} {z : Sz}
theorem x_world (hp : (wd u).Perm (wdz z)) (kk : RRq l D cl tys Ev own cc nL Ts rm rr wdz Qf kc ks pc lv st z) : RRq l D cl tys Ev own cc nL Ts rm rr wd Qf kc ks pc lv st u := by
  intro p e s m args below meth c A H locs ls hX hP hD hS hl
  exact kk p e s m args below meth c A H locs ls hX (x_Pp hP hp) (x_Dp hD hp) hS hl
end
theorem evt_start {args : Array Value} {s : State} {A : Nat → Prop} (hg : gn.before args s = true) (ht : ∀ w ∈ lw_tbl, w.before args s = true) (hA : ∀ a : Nat, a < s.heap.size → ¬ A a) : EvT A s := by
  have hs := flat_of_before _ hg
  refine ⟨fun w hw args' => ?_, va_LS.of (ht _ (wt_2 (List.mem_of_getElem? (i := 235) rfl))) (hs _ (List.mem_of_getElem? (i := 9) (by decide +kernel))) hA, va_LS.of (ht _ (wt_2 (List.mem_of_getElem? (i := 237) rfl))) (hs _ (List.mem_of_getElem? (i := 10) (by decide +kernel))) hA, va_Nc.of (hs _ (List.mem_of_getElem? (i := 17) (by decide +kernel)))⟩
  have h1 : w.before args s = true := by
    simp only [thW, List.mem_cons, List.not_mem_nil, or_false] at hw
    rcases hw with rfl | rfl | rfl | rfl | rfl
    · exact ht _ (wt_2 (List.mem_of_getElem? (i := 212) rfl))
    · exact ht _ (wt_2 (List.mem_of_getElem? (i := 214) rfl))
    · exact ht _ (wt_2 (List.mem_of_getElem? (i := 216) rfl))
    · exact ht _ (wt_2 (List.mem_of_getElem? (i := 210) rfl))
    · exact ht _ (wt_3 (List.mem_of_getElem? (i := 36) rfl))
  have h2 : w.onTables = true := by
    simp only [thW, List.mem_cons, List.not_mem_nil, or_false] at hw
    rcases hw with rfl | rfl | rfl | rfl | rfl <;> rfl
  have h3 := Cond.onTables_vm (A := args') (A' := args) (U := s) (U' := s) s.vm w h2
  rw [State.setVm_self] at h3
  rw [h3]
  exact h1
def EvL (b L : Nat) (xs : Nat → Int32) (adK adV : Nat → Nat) (fm : Option Nat) (A : Nat → Prop) (U : State) : Prop := (EvX adK adV fm A U ∧ EvT A U) ∧ (va_X b L xs U U.heap ∧ b < U.heap.size ∧ ¬ A b)
theorem EvL.ok {b L : Nat} {xs : Nat → Int32} {adK adV : Nat → Nat} {fm : Option Nat} : xEok (EvL b L xs adK adV fm) := by
  refine ⟨fun A A' s U h hW hz hq hA => ⟨⟨EvX.ok.1 A A' s U h.1.1 hW hz hq hA, EvT.ok.1 A A' s U h.1.2 hW hz hq hA⟩, va_X.kept (va_X.moved hW.alike h.2.1) (hq b h.2.2.1 h.2.2.2), Nat.lt_of_lt_of_le h.2.2.1 hz, fun h9 => h.2.2.2 (hA b h9)⟩, fun A U g mk a h => ⟨⟨EvX.ok.2 A U g mk a h.1.1, EvT.ok.2 A U g mk a h.1.2⟩, va_X.moved (u := U) (U := U.calling g mk a) (Vm.Alike.refl U.vm) h.2.1, h.2.2.1, h.2.2.2⟩⟩
theorem EvL.x {b L : Nat} {xs : Nat → Int32} {adK adV : Nat → Nat} {fm : Option Nat} : xEv adK adV fm (EvL b L xs adK adV fm) := fun _ _ h => h.1.1
abbrev ZS0 : ZS := ((z0, z0, z0, fun _ => z0), z0, fun _ => 0)
set_option maxHeartbeats 600000 in
set_option maxRecDepth 100000 in
theorem law_start {p : Program} {e : Env} {s : State} {m : MethodId} {below : List Frame} {meth : Method} {c : Code} (l : Launch) (hfl : l.stackTraces = false) {b L : Nat} {xs : Nat → Int32} (hPure : ∃ f, f ≤ 600 ∧ P_L_law_23 L xs f 0 ZS0) (C0 : lw_At p s m meth c b L xs) : W p l e room_1 s m #[Value.ref b] below meth c s.heap [] 0 0 (lw_Z below #[Value.ref b] s) (entryFrame m ([Value.ref b] : List Value).toArray 7) := by
  obtain ⟨hx, hb, hr, hml, hown, hts, hX, hbl, hlocks, hgv⟩ := C0
  obtain ⟨D, cs, hK⟩ := k_start hts
  obtain ⟨adK, adV, fm, hEv⟩ := ev_start (A := fun q => s.heap.size ≤ q) hgv hts (fun a h1 h2 => Nat.not_le.mpr h1 h2)
  have hEt := evt_start (A := fun q => s.heap.size ≤ q) hgv hts (fun a h1 h2 => Nat.not_le.mpr h1 h2)
  have hE : xEok (EvL b L xs adK adV fm) := EvL.ok
  have X : xEv adK adV fm (EvL b L xs adK adV fm) := EvL.x
  have B : ∀ (A : Nat → Prop) (s : State), EvL b L xs adK adV fm A s → va_X b L xs s s.heap ∧ b < s.heap.size ∧ ¬ A b := fun _ _ h => h.2
  have main : RRq l D clX (tysX cs) (EvL b L xs adK adV fm) "DeckFrontLaw" code 7 wLaw room_1 ret (fun w : va_W => w) (qLaw b) 0 0 0 [(0, .ref b)] [] [] := by
    refine x_new (ci := 4) (ty := ty_D) (fs := [.null, .null, .null]) uw_D tk_D (cG tw_19) (cG tw_20) (cG tw_1) rfl (by decide +kernel) (Nat.le_of_ble_eq_true rfl) (Nat.le_of_ble_eq_true rfl) d_L_law_0 (fun q0 u1 hu1 => ?_) (fun q => ⟨_, rfl⟩)
    obtain rfl : u1 = [(q0, .inr (4, [.null, .null, .null]))] := hu1
    refine x_dup d_L_law_3 rfl ?_
    refine x_callI (st := [.ref q0]) k_L_17 (x_wr [] [(q0, .inr (4, [.null, .null, .null]))]) (c_D_init l D cs (EvL b L xs adK adV fm) hE adK adV fm X 0 q0) hE ⟨⟨rfl, rfl⟩, ⟨by decide, by decide⟩, by decide, by decide⟩ rfl (Nat.le_of_ble_eq_true rfl) rfl d_L_law_4 (x_rV (fun u1 h9 => ?_))
    obtain ⟨ad, to, ta, rfl, hp1⟩ := h9
    refine x_astore_n (lv' := [(1, .ref (ad 0)), (0, .ref b)]) d_L_law_7 (by decide) rfl ?_
    refine x_new (ci := 5) (ty := ty_M) (fs := [.int 0, .int 0, .null, .int 0, .null, .null, .null, .int 0, .int 0, .int 0, .int 0, .null, .int 0, .null, .null, .null, .int 0, .null, .int 0, .null, .null, .null, .null, .null, .null, .int 0, .null, .int 0, .null, .null, .null, .null, .null, .int 0, .null, .null]) uw_M tk_M (cG tw_743) (cG tw_744) (cG tw_7) rfl (by decide +kernel) (Nat.le_of_ble_eq_true rfl) (Nat.le_of_ble_eq_true rfl) d_L_law_8 (fun o u2 hu2 => ?_) (fun q => ⟨_, rfl⟩)
    obtain rfl : u2 = u1 ++ [(o, .inr (5, [.int 0, .int 0, .null, .int 0, .null, .null, .null, .int 0, .int 0, .int 0, .int 0, .null, .int 0, .null, .null, .null, .int 0, .null, .int 0, .null, .null, .null, .null, .null, .null, .int 0, .null, .int 0, .null, .null, .null, .null, .null, .int 0, .null, .null]))] := hu2
    refine x_dup d_L_law_11 rfl ?_
    refine x_callI (st := [.ref o]) k_L_20 (x_wr u1 [(o, .inr (5, [.int 0, .int 0, .null, .int 0, .null, .null, .null, .int 0, .int 0, .int 0, .int 0, .null, .int 0, .null, .null, .null, .int 0, .null, .int 0, .null, .null, .null, .null, .null, .null, .int 0, .null, .int 0, .null, .null, .null, .null, .null, .int 0, .null, .null]))]) (c_M_init l D cs (EvL b L xs adK adV fm) hE adK adV fm X 0 o) hE ⟨⟨rfl, rfl⟩, ⟨by decide, by decide⟩, by decide, by decide⟩ rfl (Nat.le_of_ble_eq_true rfl) rfl d_L_law_12 (x_rV (fun u2 h9 => ?_))
    obtain ⟨a, rfl⟩ := h9
    refine x_astore_n (lv' := [(2, .ref o), (1, .ref (ad 0)), (0, .ref b)]) d_L_law_15 (by decide) rfl ?_
    refine x_iconst (v := 1) d_L_law_16 (by decide) ?_
    refine x_newA (atype := .long) (t0 := 2) (a0 := (1, .inr (.inl (fun _ => 0)))) (cG tw_858) rfl (fun C h => by cases h) rfl (fun _ => rfl) (by decide) rfl (by decide) (Nat.le_of_ble_eq_true rfl) (Nat.le_of_ble_eq_true rfl) d_L_law_17 (fun oa u3 hu3 => ?_) (fun q => ⟨_, rfl⟩)
    obtain rfl : u3 = (u1 ++ wdM o a cs z0) ++ [(oa, .inl (cs 2, 1, .inr (.inl (fun _ => 0))))] := hu3
    refine x_astore_n (lv' := [(3, .ref oa), (2, .ref o), (1, .ref (ad 0)), (0, .ref b)]) d_L_law_19 (by decide) rfl ?_
    refine x_iconst (v := 0) d_L_law_20 (by decide) ?_
    refine x_istore (lv' := [(4, .int 0), (3, .ref oa), (2, .ref o), (1, .ref (ad 0)), (0, .ref b)]) d_L_law_21 (by decide) rfl ?_
    refine x_sub [4, 3, 2, 1, 0] rfl ?_
    refine x_world (wdz := wdL ad to ta o a oa cs) (z := ZS0) ?_ ?_
    · show ((u1 ++ wdM o a cs z0) ++ wdO oa cs (fun _ => 0)).Perm (wdM o a cs z0 ++ (wdO oa cs (fun _ => 0) ++ wdX ad to ta cs (z0, z0, z0, fun _ => z0)))
      rw [List.append_assoc]
      refine List.perm_append_comm.trans ?_
      rw [List.append_assoc]
      exact List.Perm.append_left _ (List.Perm.append_left _ hp1)
    · obtain ⟨f, hf, h⟩ := hPure
      exact x_wide (by show 152 ≤ 752 - f; omega) (by show 12612 ≤ 16212 - 6 * f; omega) (w_L_law_23 l hfl D cs (EvL b L xs adK adV fm) hE adK adV fm X (fun A s h => h.1.2) b L xs B ad to ta o a oa f hf 0 ZS0 h)
  have hl := lv_entry [Value.ref b] (n := 7) (Nat.le_of_ble_eq_true rfl)
  rw [lg_entry_eq]
  have hw : ∀ w ∈ wLaw, w.before #[Value.ref b] s = true := fun w h => by
    rcases List.mem_cons.mp h with h1 | h1
    · rw [h1]
      exact hts _ (wt_1 (List.mem_of_getElem? (i := 0) rfl))
    · exact wG_ok hts w h1
  have h2 := main p e s m #[Value.ref b] below meth c (fun q => s.heap.size ≤ q) s.heap [] _ ⟨hx, hb, hml, hown, hw, hK, ⟨⟨hEv, hEt⟩, hX, hbl, Nat.not_le.mpr hbl⟩, hlocks, hr, fun q h => h, fun y' b' n' r' h' => by simp at h'⟩ (fun k q h => by simp at h) ⟨fun i j p q h => by simp at h, fun k q h => by simp at h⟩ va_S.rf hl
  intro T hT Z
  obtain ⟨t, a1, b1⟩ := h2 T hT Z
  exact ⟨t, a1, b1 rfl (fun q h => h)⟩
