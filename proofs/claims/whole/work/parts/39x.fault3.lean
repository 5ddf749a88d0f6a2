section FL3
variable {N : Nat} {cs : Nat → Nat → Nat} {ns lb : Nat → Nat} {x : XS} {m : MS}
abbrev lt0 (cs : Nat → Nat → Nat) (ns : Nat → Nat) (s : Nat) : Bool := decide (0 < s) && !dcl (wk cs ns (s - 1))
abbrev fk (N : Nat) (cs : Nat → Nat → Nat) (ns lb : Nat → Nat) (s : Nat) (S : List Op) : Nat := flS N lb s (wk cs ns s) (lt0 cs ns s) (aq cs ns s) S
def flF (N : Nat) (cs : Nat → Nat → Nat) (ns lb : Nat → Nat) : Nat → Nat → List Op → Nat × Nat
  | 0, _, _ => (0, 0)
  | f + 1, s, S => if fk N cs ns lb s S = 0 then flF N cs ns lb f (s + 1) (nxS lb s (wk cs ns s) (aq cs ns s) S) else (fk N cs ns lb s S, s)
theorem flS_le (N : Nat) (lb : Nat → Nat) (s w : Nat) (late : Bool) (A : List Nat) (S : List Op) : flS N lb s w late A S ≤ 8 := by
  unfold flS
  repeat (first | omega | split)
theorem nxS_l (lb : Nat → Nat) (s w : Nat) (A : List Nat) {S : List Op} (hO : OkS S) (h : S.length ≤ s) : (nxS lb s w A S).length ≤ s + 1 := by
  have hp := popL_ok (l := lb s) hO
  have ha : (afS lb s w S).length ≤ s := by
    unfold afS
    split
    · rw [List.length_tail]; omega
    · omega
  unfold nxS
  split
  · rw [List.length_cons]; omega
  · split
    · rw [List.length_cons]; omega
    · split
      · cases hS : afS lb s w S with
        | nil => simp [setE]
        | cons z T =>
          rw [hS] at ha
          simp only [setE, List.length_cons] at ha ⊢
          omega
      · omega
theorem nxS_len (lb : Nat → Nat) (s w : Nat) (A : List Nat) {S : List Op} (hO : OkS S) (hA : A.headD 0 < 100000) (h : S.length ≤ s) : (nxS lb s w A S).length ≤ s + 1 ∧ OkS (nxS lb s w A S) := by
  have hp := popL_ok (l := lb s) hO
  have ha : (afS lb s w S).length ≤ s ∧ OkS (afS lb s w S) := by
    unfold afS
    split
    · exact ⟨by rw [List.length_tail]; omega, fun y hy => hO y (List.mem_of_mem_tail hy)⟩
    · exact ⟨by omega, hp.1⟩
  unfold nxS
  split
  · refine ⟨by rw [List.length_cons]; omega, fun y hy => ?_⟩
    rcases List.mem_cons.mp hy with e | e
    · rw [e]; exact hA
    · exact ha.2 y e
  · split
    · refine ⟨by rw [List.length_cons]; omega, fun y hy => ?_⟩
      rcases List.mem_cons.mp hy with e | e
      · rw [e]; decide
      · exact ha.2 y e
    · split
      · cases hS : afS lb s w S with
        | nil => exact ⟨by simp [setE], fun y hy => absurd hy (by simp [setE])⟩
        | cons z T =>
          rw [hS] at ha
          refine ⟨by simp only [setE, List.length_cons] at ha ⊢; omega, fun y hy => ?_⟩
          unfold setE at hy
          rcases List.mem_cons.mp hy with e | e
          · rw [e]; exact ha.2 z List.mem_cons_self
          · exact ha.2 y (List.mem_cons_of_mem _ e)
      · exact ⟨by omega, ha.2⟩
theorem lk_loop (h : DkI N cs ns lb x m) {post : XS → Prop} : ∀ (f s : Nat) (S : List Op) (U : MS), s + f = N → StC U S → S.length ≤ s → gI U 2 = 0 → gI U 3 = -1 → (∀ U', gI U' 2 = nI (flF N cs ns lb f s S).1 → gI U' 3 = (if (flF N cs ns lb f s S).1 = 0 then -1 else nI (flF N cs ns lb f s S).2) → post (upU x U')) → P_U_look_17 post (f + 2) (nI s) (upU x U) := by
  have hN := h.1
  intro f
  induction f with
  | zero =>
    intro s S U hs hst hl h2 h3 hp
    exact ⟨fun _ => hp U h2 h3, fun q => absurd (by rw [show gI (upU x U).2.1 1 = nI N from h.2.1]; exact nI_le (by omega) (by omega)) q⟩
  | succ f ih =>
    intro s S U hs hst hl h2 h3 hp
    have hU : DkI N cs ns lb (upU x U) m := h
    refine ⟨fun q => absurd q (by rw [show gI (upU x U).2.1 1 = nI N from h.2.1]; exact nI_ge (by omega) (by omega)), fun _ => ⟨fun q => absurd h2 q, fun _ => ?_⟩⟩
    have h8 : flS N lb s (wk cs ns s) (decide (0 < s) && !dcl (wk cs ns (s - 1))) (aq cs ns s) S ≤ 8 := flS_le N lb s (wk cs ns s) (lt0 cs ns s) (aq cs ns s) S
    unfold flF at hp
    refine faultOf_c hU (by omega) hst hl (fun U' hs' k2 k3 => ?_)
    have k2' : gI U' 2 = 0 := k2.trans h2
    have k3' : gI U' 3 = -1 := k3.trans h3
    unfold P_U_look_54
    rw [nI_1, show (nI (flS N lb s (wk cs ns s) (decide (0 < s) && !dcl (wk cs ns (s - 1))) (aq cs ns s) S) = 0) ↔ flS N lb s (wk cs ns s) (decide (0 < s) && !dcl (wk cs ns (s - 1))) (aq cs ns s) S = 0 from nI_eq (b := 0) (by omega) (by decide)]
    refine ⟨fun q => ?_, fun q => ?_⟩
    · rw [if_pos q] at hp
      have st' := hs' q
      have hlen := nxS_l lb s (wk cs ns s) (aq cs ns s) hst.2.1 hl
      rw [q]
      refine ih (s + 1) (nxS lb s (wk cs ns s) (aq cs ns s) S) (sI U' 2 (nI 0)) (by omega) ⟨st'.1, st'.2.1, (by rw [gI_sI, if_neg (by decide)]; exact st'.2.2.1), fun j y hj => (by rw [gA_sI]; exact st'.2.2.2 j y hj)⟩ hlen (by rw [gI_sI, if_pos rfl]; rfl) (by rw [gI_sI, if_neg (by decide)]; exact k3') hp
    · rw [if_neg q] at hp
      simp only at hp
      have fin : post (upU x (sI (sI U' 2 (nI (fk N cs ns lb s S))) 3 (nI s))) := hp _ (by rw [gI_sI, if_neg (by decide), gI_sI, if_pos rfl]) (by rw [gI_sI, if_pos rfl, if_neg q])
      exact ⟨fun _ => fin, fun _ => ⟨fun _ => fin, fun r => absurd r (by
        show ¬ gI (sI (sI U' 2 (nI (fk N cs ns lb s S))) 3 (nI s)) 2 = 0
        rw [gI_sI, if_neg (by decide), gI_sI, if_pos rfl]
        intro r
        exact q ((nI_eq (b := 0) (by omega) (by decide)).mp r))⟩⟩
theorem look_c (h : DkI N cs ns lb x m) {post : XS → Prop} (hp : ∀ U', gI U' 2 = nI (flF N cs ns lb N 0 []).1 → gI U' 3 = (if (flF N cs ns lb N 0 []).1 = 0 then -1 else nI (flF N cs ns lb N 0 []).2) → post (upU x U')) : P_U_look post x := by
  refine ⟨N + 2, lk_loop h N 0 [] (sI (sI (sI x.2.2.1 1 (0 : Int32)) 2 (0 : Int32)) 3 (-1 : Int32)) (by omega) ⟨by decide, fun y hy => absurd hy (by simp), ?_, fun j y hj => absurd hj (by simp)⟩ (Nat.zero_le _) ?_ ?_ hp⟩
  · rw [gI_sI, if_neg (by decide), gI_sI, if_neg (by decide), gI_sI, if_pos rfl]; rfl
  · rw [gI_sI, if_neg (by decide), gI_sI, if_pos rfl]
  · rw [gI_sI, if_pos rfl]
end FL3
