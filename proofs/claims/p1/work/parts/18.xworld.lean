def fsU (a : Nat → Nat) (u : MS) : List Value := [.ref (a 0), .int (gI u 1), .int (gI u 2), .int (gI u 3)]
def wdU (o : Nat) (a : Nat → Nat) (cs : Nat → ClassId) (u : MS) : va_W := (o, .inr (3, fsU a u)) :: [(a 0, .inl (cs 0, 24, .inl (gA u 0)))]
section
variable (o : Nat) (a : Nat → Nat) (cs : Nat → ClassId) (u : MS)
theorem eU_o : (wdU o a cs u)[0]? = some (o, .inr (3, fsU a u)) := rfl
theorem eU_0 : (wdU o a cs u)[1]? = some (a 0, .inl (cs 0, 24, .inl (gA u 0))) := rfl
theorem sU_0 (i : Nat) (v : Int32) : (wdU o a cs u).set 1 (a 0, .inl (cs 0, 24, .inl (upd (gA u 0) i v))) = wdU o a cs (sA u 0 i v) := rfl
theorem sU_1 (v : Int32) : (wdU o a cs u).set 0 (o, .inr (3, (fsU a u).set 1 (.int v))) = wdU o a cs (sI u 1 v) := rfl
theorem sU_2 (v : Int32) : (wdU o a cs u).set 0 (o, .inr (3, (fsU a u).set 2 (.int v))) = wdU o a cs (sI u 2 v) := rfl
theorem sU_3 (v : Int32) : (wdU o a cs u).set 0 (o, .inr (3, (fsU a u).set 3 (.int v))) = wdU o a cs (sI u 3 v) := rfl
end
/-! the class's whole state: card, deck, structure, and the 24 rows -/
abbrev XS : Type := MS × MS × MS × (Nat → MS)
def fsK (ad : Nat → Nat) (u : MS) : List Value := [.ref (ad 4), .int (gI u 1)]
/-- the cells that are not a row's: the front, card, its signs, deck, its rows' list, structure, its pile -/
def wdA (ad to : Nat → Nat) (cs : Nat → ClassId) (c d s : MS) : va_W := [(ad 0, .inr (4, [.ref (ad 1), .ref (ad 3), .ref (ad 5)])), (ad 1, .inr (0, fsC (fun _ => ad 2) c)), (ad 2, .inl (cs 1, 72, .inl (gA c 0))), (ad 3, .inr (1, fsK ad d)), (ad 4, .inl (cs 4, 24, .inr (.inr (.inr (.inr (fun i => some (to i))))))), (ad 5, .inr (3, fsU (fun _ => ad 6) s)), (ad 6, .inl (cs 0, 24, .inl (gA s 0)))]
def wdTs (to : Nat → Nat) (ta : Nat → Nat → Nat) (cs : Nat → ClassId) (t : Nat → MS) : va_W := (List.range 24).flatMap (fun i => wdS (to i) (ta i) cs (t i))
def wdX (ad to : Nat → Nat) (ta : Nat → Nat → Nat) (cs : Nat → ClassId) (u : XS) : va_W := wdA ad to cs u.1 u.2.1 u.2.2.1 ++ wdTs to ta cs u.2.2.2
def tsR (to : Nat → Nat) (ta : Nat → Nat → Nat) (cs : Nat → ClassId) (t : Nat → MS) (j : Nat) : va_W := ((List.range 24).erase j).flatMap (fun i => wdS (to i) (ta i) cs (t i))
section XL
variable (ad to : Nat → Nat) (ta : Nat → Nat → Nat) (cs : Nat → ClassId) (c d s : MS) (t : Nat → MS)
theorem ts_split {j : Nat} (hj : j < 24) : (wdTs to ta cs t).Perm (tsR to ta cs t j ++ wdS (to j) (ta j) cs (t j)) := by
  unfold wdTs tsR
  have h1 : (List.range 24).Perm (j :: (List.range 24).erase j) := List.perm_cons_erase (List.mem_range.mpr hj)
  refine (h1.flatMap_right _).trans ?_
  rw [List.flatMap_cons]
  exact List.perm_append_comm
theorem tsR_up (j : Nat) (z : MS) : tsR to ta cs (va_up t j z) j = tsR to ta cs t j := by
  unfold tsR
  rw [List.flatMap_def, List.flatMap_def, List.map_congr_left]
  intro i hi
  have hn : j ∉ (List.range 24).erase j := List.Nodup.not_mem_erase List.nodup_range
  have hij : i ≠ j := fun h => by subst h; exact hn hi
  show wdS (to i) (ta i) cs (va_up t j z i) = wdS (to i) (ta i) cs (t i)
  rw [show va_up t j z i = t i from if_neg hij]
theorem va_up_at {α : Type} (f : Nat → α) (k : Nat) (v : α) : va_up f k v k = v := by simp [va_up]
/-- a row -/
theorem lensT (j : Nat) (hj : j < 24) : xLens (wdX ad to ta cs) (c, d, s, t) (wdS (to j) (ta j) cs) (t j) (fun z => (c, d, s, va_up t j z)) := by
  refine ⟨wdA ad to cs c d s ++ tsR to ta cs t j, ?_, fun z => ?_⟩
  · rw [List.append_assoc]
    exact (ts_split to ta cs t hj).append_left _
  · rw [List.append_assoc]
    refine (List.Perm.append_left _ ?_).trans (List.Perm.refl (wdX ad to ta cs (c, d, s, va_up t j z)))
    have h1 := ts_split to ta cs (va_up t j z) hj
    rw [tsR_up, va_up_at] at h1
    exact h1.symm
/-- the card -/
theorem lensC : xLens (wdX ad to ta cs) (c, d, s, t) (wdC (ad 1) (fun _ => ad 2) cs) c (fun z => (z, d, s, t)) := by
  have key : ∀ (x : Nat × va_E) (w r : va_W), (x :: (w ++ r)).Perm ((x :: r) ++ w) := fun x w r => List.Perm.cons x List.perm_append_comm
  refine ⟨(wdA ad to cs c d s).head (by simp [wdA]) :: ((wdA ad to cs c d s).drop 3 ++ wdTs to ta cs t), ?_, fun z => ?_⟩
  · exact key _ (wdC (ad 1) (fun _ => ad 2) cs c) ((wdA ad to cs c d s).drop 3 ++ wdTs to ta cs t)
  · exact (key _ (wdC (ad 1) (fun _ => ad 2) cs z) ((wdA ad to cs c d s).drop 3 ++ wdTs to ta cs t)).symm
/-- a row and the card beside it, that is only read -/
def wdSC (o : Nat) (a : Nat → Nat) (co : Nat) (ca : Nat → Nat) (cs : Nat → ClassId) (v u : MS) : va_W := wdS o a cs u ++ wdC co ca cs v
theorem lensTC (j : Nat) (hj : j < 24) : xLens (wdX ad to ta cs) (c, d, s, t) (wdSC (to j) (ta j) (ad 1) (fun _ => ad 2) cs c) (t j) (fun z => (c, d, s, va_up t j z)) := by
  have key : ∀ (x : Nat × va_E) (w r q : va_W), (x :: (w ++ (r ++ q))).Perm ((x :: r) ++ (q ++ w)) := fun x w r q => List.Perm.cons x (by rw [show w ++ (r ++ q) = w ++ (r ++ q) from rfl]; refine List.perm_append_comm.trans ?_; rw [List.append_assoc]; exact List.Perm.refl _)
  have key2 : ∀ (x : Nat × va_E) (w r tr q ts : va_W), ts.Perm (tr ++ q) → (x :: (w ++ (r ++ ts))).Perm ((x :: (r ++ tr)) ++ (q ++ w)) := fun x w r tr q ts h => by
    refine (List.Perm.cons x (List.Perm.append_left w (List.Perm.append_left r h))).trans ?_
    rw [← List.append_assoc r tr q]
    exact key x w (r ++ tr) q
  refine ⟨(wdA ad to cs c d s).head (by simp [wdA]) :: ((wdA ad to cs c d s).drop 3 ++ tsR to ta cs t j), ?_, fun z => ?_⟩
  · exact key2 _ (wdC (ad 1) (fun _ => ad 2) cs c) ((wdA ad to cs c d s).drop 3) _ _ _ (ts_split to ta cs t hj)
  · have h1 := ts_split to ta cs (va_up t j z) hj
    rw [tsR_up, va_up_at] at h1
    exact (key2 _ (wdC (ad 1) (fun _ => ad 2) cs c) ((wdA ad to cs c d s).drop 3) _ _ _ h1).symm
/-- a row's object among the cells -/
theorem mem_row (j : Nat) (hj : j < 24) : (to j, (.inr (2, fsS (ta j) (t j)) : va_E)) ∈ wdX ad to ta cs (c, d, s, t) :=
  List.mem_append_right _ (List.mem_flatMap.mpr ⟨j, List.mem_range.mpr hj, List.mem_cons_self⟩)
theorem eX_0 : (wdX ad to ta cs (c, d, s, t))[0]? = some (ad 0, .inr (4, [.ref (ad 1), .ref (ad 3), .ref (ad 5)])) := rfl
theorem eX_1 : (wdX ad to ta cs (c, d, s, t))[1]? = some (ad 1, .inr (0, fsC (fun _ => ad 2) c)) := rfl
theorem eX_2 : (wdX ad to ta cs (c, d, s, t))[2]? = some (ad 2, .inl (cs 1, 72, .inl (gA c 0))) := rfl
theorem eX_3 : (wdX ad to ta cs (c, d, s, t))[3]? = some (ad 3, .inr (1, fsK ad d)) := rfl
theorem eX_4 : (wdX ad to ta cs (c, d, s, t))[4]? = some (ad 4, .inl (cs 4, 24, .inr (.inr (.inr (.inr (fun i => some (to i))))))) := rfl
theorem eX_5 : (wdX ad to ta cs (c, d, s, t))[5]? = some (ad 5, .inr (3, fsU (fun _ => ad 6) s)) := rfl
theorem eX_6 : (wdX ad to ta cs (c, d, s, t))[6]? = some (ad 6, .inl (cs 0, 24, .inl (gA s 0))) := rfl
theorem sX_C1 (v : Int32) : (wdX ad to ta cs (c, d, s, t)).set 1 (ad 1, .inr (0, (fsC (fun _ => ad 2) c).set 1 (.int v))) = wdX ad to ta cs (sI c 1 v, d, s, t) := rfl
theorem sX_K1 (v : Int32) : (wdX ad to ta cs (c, d, s, t)).set 3 (ad 3, .inr (1, (fsK ad d).set 1 (.int v))) = wdX ad to ta cs (c, sI d 1 v, s, t) := rfl
theorem sX_U1 (v : Int32) : (wdX ad to ta cs (c, d, s, t)).set 5 (ad 5, .inr (3, (fsU (fun _ => ad 6) s).set 1 (.int v))) = wdX ad to ta cs (c, d, sI s 1 v, t) := rfl
theorem sX_U2 (v : Int32) : (wdX ad to ta cs (c, d, s, t)).set 5 (ad 5, .inr (3, (fsU (fun _ => ad 6) s).set 2 (.int v))) = wdX ad to ta cs (c, d, sI s 2 v, t) := rfl
theorem sX_U3 (v : Int32) : (wdX ad to ta cs (c, d, s, t)).set 5 (ad 5, .inr (3, (fsU (fun _ => ad 6) s).set 3 (.int v))) = wdX ad to ta cs (c, d, sI s 3 v, t) := rfl
theorem sX_Ua (i : Nat) (v : Int32) : (wdX ad to ta cs (c, d, s, t)).set 6 (ad 6, .inl (cs 0, 24, .inl (upd (gA s 0) i v))) = wdX ad to ta cs (c, d, sA s 0 i v, t) := rfl
end XL
section RX
variable {S : Type} {l : Launch} {D : va_G} {cl : List vw_C} {tys : List (ClassId × FieldType)} {Ev : (Nat → Prop) → State → Prop} {own : String} {cc : ByteArray} {nL : Nat} {Ts : List Cond} {rm : Room} {ret : Option FieldType} {wd : S → va_W} {post : Option Value → S → Prop} {mc ms kc ks : Nat} {pc : Nat} {lv lv' : List (Nat × Value)} {st : List Value} {u u' : S}
/-- getfield of a cell that is somewhere in the world -/
theorem x_getM {index ci k a : Nat} {fs : List Value} {v : Value} (F : xF cl Ts own index ci k) (he : (a, (.inr (ci, fs) : va_E)) ∈ wd u) (hv : fs[k]? = some v) (hd : decode cc pc = .ok (.getfield index, 3)) (kk : RR l D cl tys Ev own cc nL Ts rm ret wd post mc ms kc ks (pc + 3) lv (v :: st) u) : RR l D cl tys Ev own cc nL Ts rm ret wd post mc ms kc ks pc lv (.ref a :: st) u := by
  obtain ⟨q0, h0⟩ := List.getElem?_of_mem he
  exact x_get F h0 hv hd kk
/-- putfield into a cell that stands first in some order of the world's cells -/
theorem x_putP {index ci k a : Nat} {fs : List Value} {v : Value} {ty : FieldType} (wr : va_W) (F : xF cl Ts own index ci k) (Fw : xFw cl ci k ty) (hp : (wd u).Perm ((a, .inr (ci, fs)) :: wr)) (hn : narrow ty v = v) (hfit : fits ty v = true) (hl' : k < fs.length) (hq : ((a, (.inr (ci, fs.set k v) : va_E)) :: wr).Perm (wd u')) (hd : decode cc pc = .ok (.putfield index, 3)) (kk : RR l D cl tys Ev own cc nL Ts rm ret wd post mc ms kc ks (pc + 3) lv st u') : RR l D cl tys Ev own cc nL Ts rm ret wd post mc ms kc ks pc lv (v :: .ref a :: st) u := by
  intro p e s m args below meth c A H locs ls hX hP hD hS hl
  obtain ⟨C, T, N, ref, h1, h2, h3, h4, h5⟩ := F
  obtain ⟨C', T', N', ty0, g2, g3, g4, g5, g6⟩ := Fw
  obtain ⟨rfl, rfl, rfl⟩ : C = C' ∧ T = T' ∧ N = N' := by
    have h := Option.some.inj (h2.symm.trans g2)
    simp only [Prod.mk.injEq] at h
    exact h
  obtain ⟨hx, hb, -, hown, hts, hK, -⟩ := id hX
  refine va_put hx hb hts h1 ty0 g3 g4 hown hK (x_Pp hP hp) (x_Dp hD hp) hS 0 rfl h2 k h3 (hts _ h4) (fun x9 h9 => ?_) g5 g6 hn hfit hl' hd (fun H1 locs1 hP1 hD1 hS1 => ?_)
  · rcases h5 with h5 | h5
    · rw [h5]; exact h9
    · exact u_same (hts _ h5) x9 h9
  · exact kk p e s m args below meth c A H1 locs1 ls hX (x_Pp hP1 hq) (x_Dp hD1 hq) hS1 hl
/-- a call on a cell that is somewhere in the world -/
theorem mem_ix {ws : va_W} {q : Nat × va_E} (h : q ∈ ws) : ∃ q0 : Nat, ws[q0]? = some q := List.getElem?_of_mem h
/-- an end that is a row, by its place, or null -/
def pF (to : Nat → Nat) (P : Option Nat → S → Prop) : Option Value → S → Prop := fun r u => ∃ q : Option Nat, r = some (va_rf (q.map to)) ∧ P q u
end RX
section RXC
variable {S Sz : Type} {l : Launch} {D : va_G} {cl : List vw_C} {tys : List (ClassId × FieldType)} {Ev : (Nat → Prop) → State → Prop} {own : String} {cc : ByteArray} {nL : Nat} {Ts : List Cond} {rm : Room} {ret : Option FieldType} {wd : S → va_W} {post : Option Value → S → Prop} {mc ms kc ks : Nat} {pc : Nat} {lv : List (Nat × Value)} {st : List Value}
theorem x_rF {to : Nat → Nat} {put : Sz → S} {P : Option Nat → Sz → Prop} (kn : ∀ (u1 : Sz), P none u1 → RR l D cl tys Ev own cc nL Ts rm ret wd post mc ms kc ks pc lv (.null :: st) (put u1)) (ks' : ∀ (j : Nat) (u1 : Sz), P (some j) u1 → RR l D cl tys Ev own cc nL Ts rm ret wd post mc ms kc ks pc lv (.ref (to j) :: st) (put u1)) : ∀ (r : Option Value) (u1 : Sz), pF to P r u1 → RR l D cl tys Ev own cc nL Ts rm ret wd post mc ms kc ks pc lv (r.toList ++ st) (put u1) := by
  rintro _ u1 ⟨q, rfl, h⟩
  cases q with
  | none => exact kn u1 h
  | some j => exact ks' j u1 h
theorem vp_lt {x : Int32} {n : Nat} (h : vp_in x n) : x.toNatClampNeg < n := Nat.not_le.mp fun q => h (Or.inr q)
end RXC
