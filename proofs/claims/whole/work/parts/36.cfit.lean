/-! what fits -/
def opP (s E : Ps) : Ps := fun a => match s a with
  | none => some []
  | some Y => match E (a + Y.length) with
    | none => none
    | some Z => some (Y ++ Z)
def clP (c : Nat → Nat) : Ps := fun a => if c a = 40 then lsP c (EX c 7) a else some []
def dmP (c : Nat → Nat) : Ps := sq (nmP c 1) (sq (wdP c 22) (sq (dgP c 3 0) (wdP c 24)))
def ftP (c : Nat → Nat) (k : Nat) : Ps := match k with
  | 1 => sq (wdP c 3) (sq (dgP c 5 6) (sq (idP c) (sq (nmP c 4) (sq (wdP c 4) (sq (EX c 8) (sq (wdP c 23) (sq (EX c 8) (opP (wdP c 23) (EX c 8)))))))))
  | 2 => sq (rfP c (IX c 8) false) (sq (wdP c 4) (EX c 8))
  | 3 => sq (wdP c 39) (sq (EX c 7) (wdP c 40))
  | 5 => sq (wdP c 41) (sq (EX c 7) (wdP c 40))
  | 6 => wdP c 42
  | 7 => wdP c 43
  | 8 => wdP c 44
  | 9 => sq (wdP c 45) (dgP c 5 6)
  | 10 => sq (wdP c 46) (sq (nmP c 2) (clP c))
  | 11 => wdP c 47
  | 12 => wdP c 48
  | 13 => sq (wdP c 49) (srP c (EX c 8))
  | 14 => wdP c 50
  | 15 => sq (orP (wdP c 51) (orP (wdP c 52) (wdP c 53))) (srP c (nmP c 4))
  | 16 => sq (wdP c 54) (srP c (dmP c))
  | 17 => sq (wdP c 55) (sq (srP c (dgP c 5 6)) (sq (wdP c 24) (sq (idP c) (EX c 8))))
  | _ => fun _ => none
section CFT
variable {c : Nat → Nat} {n : Nat}
theorem Tie.op {F G : Ps} {P Q : (Int32 → MS → Prop) → MS → Prop} (h : TieS c n F P) (h' : Tie c n G Q) : Tie c n (opP F G) (fun post u => P (fun r u1 => ((r = 0 → post 1 u1) ∧ (¬ r = 0 → Q post u1))) u) := by
  intro post u a p h1 h2
  unfold opP at h1 h2
  refine h _ u a p (fun Z v hZ hv => ⟨fun e => absurd e (by decide), fun _ => ?_⟩) (fun hZ => ⟨fun _ => h1 [] u (by rw [hZ]) (Ok.nil p), fun e => absurd rfl e⟩)
  rw [hZ] at h1 h2
  simp only at h1 h2
  exact h' _ v _ (hv.pre p) (fun Y w hY hw => h1 _ w (by rw [hY]) (hv.app hw)) (fun w hY hw => h2 w (by rw [hY]) (hv.bad hw))
theorem Tie.orsq {F G D : Ps} {P Q R : (Int32 → MS → Prop) → MS → Prop} (h : TieS c n F P) (hD : Tie c n D Q) (h' : Tie c n (sq G D) R) : Tie c n (sq (orP F G) D) (fun post u => P (fun r u1 => ((¬ r = 0 → Q post u1) ∧ (r = 0 → R post u1))) u) := by
  intro post u a p h1 h2
  refine h _ u a p (fun Z v hZ hv => ⟨fun _ => ?_, fun e => absurd e (by decide)⟩) (fun hZ => ⟨fun e => absurd rfl e, fun _ => ?_⟩)
  · have e : orP F G a = some Z := by unfold orP; rw [hZ]
    exact hD _ v _ (hv.pre p) (fun Y w hY hw => h1 _ w (sq_some e hY) (hv.app hw)) (fun w hY hw => h2 w (sq_none e hY) (hv.bad hw))
  · have e : orP F G a = G a := by unfold orP; rw [hZ]
    have e2 : sq (orP F G) D a = sq G D a := by unfold sq; rw [e]
    exact h' _ u a p (fun Y w hY hw => h1 Y w (e2.trans hY) hw) (fun w hY hw => h2 w (e2.trans hY) hw)
theorem in1 : In c n PEX 1 (IX c 8) := ⟨by decide, ex_tie (m := 7) (d := 1) rfl⟩
theorem cl_tie : Tie c n (clP c) (fun post u => P_T_isNext (fun r54 u53 => ((r54 = 0 → post 1 u53) ∧ (¬ r54 = 0 → P_S_list (fun r56 u55 => ((r56 = 0 → post 0 u55) ∧ (¬ r56 = 0 → post 1 u55))) PEX (1 : Int32) u53))) (40 : Int32) u) := by
  intro post u a p g1 g2
  unfold clP at g1 g2
  refine isNext_of (x := 40) p (by decide) (by decide) ?_
  by_cases h : c a = 40
  · rw [if_pos h]
    rw [if_pos h] at g1 g2
    exact ⟨fun e => absurd e (by decide), fun _ => (list_tie (D := 1) (by decide) (ex_tie (m := 7) (d := 1) rfl)).e1 post u a p g1 g2⟩
  · rw [if_neg h]
    rw [if_neg h] at g1
    exact ⟨fun _ => g1 [] u rfl (Ok.nil p), fun e => absurd rfl e⟩
theorem ser_tie {p : Ps} {w : Int32} (h : Tie c n p (fun post u => P_S_item post w u)) : Tie c n (srP c p) (fun post u => P_S_series post w u) := by
  intro post u a pr g1 g2
  exact sr_fin (L := fun f x2 x3 u => P_S_series_8 post f w x2 x3 u) (fun f x2 x3 u => rfl) h pr g1 g2
theorem ty_tie : Tie c n (srP c (nmP c 4)) (fun post u => P_S_fits_434 post u) := by
  refine (ser_tie (w := 15) ?_).e1
  intro post u a p g1 g2
  exact ⟨fun e => absurd rfl e, fun _ => (TieS.e2 (name_tie (role := 4))).tie post u a p g1 g2⟩
theorem dm_tie : Tie c n (srP c (dmP c)) (fun post u => P_S_series post 16 u) := by
  refine ser_tie (w := 16) ?_
  intro post u a p g1 g2
  exact ⟨fun _ => ⟨fun e => absurd rfl e, fun _ => Tie.sq1 (name_tie (role := 1)).tie (Tie.sq1 (take_tie (i := 22) (by decide)).tie (Tie.sq1 (digits_tie (most := 3) (role := 0) (by decide)) (TieS.e1 (take_tie (i := 24) (by decide))).tie)) post u a p g1 g2⟩, fun e => absurd e (by decide)⟩
theorem go_tie : Tie c n (srP c (dgP c 5 6)) (fun post u => P_S_series post 17 u) := by
  refine ser_tie (w := 17) ?_
  intro post u a p g1 g2
  exact ⟨fun _ => ⟨fun _ => (digits_tie (most := 5) (role := 6) (by decide)).e2 post u a p g1 g2, fun e => absurd e (by decide)⟩, fun e => absurd e (by decide)⟩
theorem fits_1 : Tie c n (ftP c 1) (fun post u => P_S_fits post (nI 1) u) := fun post u a p g1 g2 => ⟨fun _ => Tie.sq1 (take_tie (i := 3) (by decide)).tie (Tie.sq1 (digits_tie (most := 5) (role := 6) (by decide)) (Tie.sq1 comma_tie.tie (Tie.sq1 (name_tie (role := 4)).tie (Tie.sq1 (take_tie (i := 4) (by decide)).tie (Tie.sq1 (ex_tie (m := 8) (d := 0) rfl) (Tie.sq1 (take_tie (i := 23) (by decide)).tie (Tie.sq1 (ex_tie (m := 8) (d := 0) rfl) (Tie.op (take_tie (i := 23) (by decide)) (ex_tie (m := 8) (d := 0) rfl).e1)))))))) post u a p g1 g2, fun e => absurd rfl e⟩
theorem fits_2 : Tie c n (ftP c 2) (fun post u => P_S_fits post (nI 2) u) := fun post u a p g1 g2 => ⟨fun e => absurd e (by decide), fun _ => ⟨fun _ => Tie.sq1 (ref_tie (D := 1) (I := IX c 8) (by decide) in1 false) (Tie.sq1 (take_tie (i := 4) (by decide)).tie (ex_tie (m := 8) (d := 0) rfl).e1) post u a p g1 g2, fun e => absurd rfl e⟩⟩
theorem fits_3 : Tie c n (ftP c 3) (fun post u => P_S_fits post (nI 3) u) := fun post u a p g1 g2 => ⟨fun e => absurd e (by decide), fun _ => ⟨fun e => absurd e (by decide), fun _ => ⟨fun _ => Tie.sq1 (take_tie (i := 39) (by decide)).tie (Tie.sq1 (ex_tie (m := 7) (d := 1) rfl) (TieS.e1 (take_tie (i := 40) (by decide))).tie) post u a p g1 g2, fun e => absurd rfl e⟩⟩⟩
theorem fits_4 : Tie c n (ftP c 4) (fun post u => P_S_fits post (nI 4) u) := fun post u a p g1 g2 => ⟨fun e => absurd e (by decide), fun _ => ⟨fun e => absurd e (by decide), fun _ => ⟨fun e => absurd e (by decide), fun _ => ⟨fun _ => g2 u rfl p.bad, fun e => absurd rfl e⟩⟩⟩⟩
theorem fits_5 : Tie c n (ftP c 5) (fun post u => P_S_fits post (nI 5) u) := fun post u a p g1 g2 => ⟨fun e => absurd e (by decide), fun _ => ⟨fun e => absurd e (by decide), fun _ => ⟨fun e => absurd e (by decide), fun _ => ⟨fun e => absurd e (by decide), fun _ => ⟨fun _ => Tie.sq1 (take_tie (i := 41) (by decide)).tie (Tie.sq1 (ex_tie (m := 7) (d := 1) rfl) (TieS.e1 (take_tie (i := 40) (by decide))).tie) post u a p g1 g2, fun e => absurd rfl e⟩⟩⟩⟩⟩
theorem fits_6 : Tie c n (ftP c 6) (fun post u => P_S_fits post (nI 6) u) := fun post u a p g1 g2 => ⟨fun e => absurd e (by decide), fun _ => ⟨fun e => absurd e (by decide), fun _ => ⟨fun e => absurd e (by decide), fun _ => ⟨fun e => absurd e (by decide), fun _ => ⟨fun e => absurd e (by decide), fun _ => ⟨fun _ => (TieS.e2 (take_tie (i := 42) (by decide))).tie post u a p g1 g2, fun e => absurd rfl e⟩⟩⟩⟩⟩⟩
theorem fits_7 : Tie c n (ftP c 7) (fun post u => P_S_fits post (nI 7) u) := fun post u a p g1 g2 => ⟨fun e => absurd e (by decide), fun _ => ⟨fun e => absurd e (by decide), fun _ => ⟨fun e => absurd e (by decide), fun _ => ⟨fun e => absurd e (by decide), fun _ => ⟨fun e => absurd e (by decide), fun _ => ⟨fun e => absurd e (by decide), fun _ => ⟨fun _ => (TieS.e2 (take_tie (i := 43) (by decide))).tie post u a p g1 g2, fun e => absurd rfl e⟩⟩⟩⟩⟩⟩⟩
theorem fits_8 : Tie c n (ftP c 8) (fun post u => P_S_fits post (nI 8) u) := fun post u a p g1 g2 => ⟨fun e => absurd e (by decide), fun _ => ⟨fun e => absurd e (by decide), fun _ => ⟨fun e => absurd e (by decide), fun _ => ⟨fun e => absurd e (by decide), fun _ => ⟨fun e => absurd e (by decide), fun _ => ⟨fun e => absurd e (by decide), fun _ => ⟨fun e => absurd e (by decide), fun _ => ⟨fun _ => (TieS.e2 (take_tie (i := 44) (by decide))).tie post u a p g1 g2, fun e => absurd rfl e⟩⟩⟩⟩⟩⟩⟩⟩
theorem fits_9 : Tie c n (ftP c 9) (fun post u => P_S_fits post (nI 9) u) := fun post u a p g1 g2 => ⟨fun e => absurd e (by decide), fun _ => ⟨fun e => absurd e (by decide), fun _ => ⟨fun e => absurd e (by decide), fun _ => ⟨fun e => absurd e (by decide), fun _ => ⟨fun e => absurd e (by decide), fun _ => ⟨fun e => absurd e (by decide), fun _ => ⟨fun e => absurd e (by decide), fun _ => ⟨fun e => absurd e (by decide), fun _ => ⟨fun _ => Tie.sq1 (take_tie (i := 45) (by decide)).tie (digits_tie (most := 5) (role := 6) (by decide)).e1 post u a p g1 g2, fun e => absurd rfl e⟩⟩⟩⟩⟩⟩⟩⟩⟩
theorem fits_10 : Tie c n (ftP c 10) (fun post u => P_S_fits post (nI 10) u) := fun post u a p g1 g2 => ⟨fun e => absurd e (by decide), fun _ => ⟨fun e => absurd e (by decide), fun _ => ⟨fun e => absurd e (by decide), fun _ => ⟨fun e => absurd e (by decide), fun _ => ⟨fun e => absurd e (by decide), fun _ => ⟨fun e => absurd e (by decide), fun _ => ⟨fun e => absurd e (by decide), fun _ => ⟨fun e => absurd e (by decide), fun _ => ⟨fun e => absurd e (by decide), fun _ => ⟨fun _ => Tie.sq1 (take_tie (i := 46) (by decide)).tie (Tie.sq1 (name_tie (role := 2)).tie cl_tie) post u a p g1 g2, fun e => absurd rfl e⟩⟩⟩⟩⟩⟩⟩⟩⟩⟩
theorem fits_11 : Tie c n (ftP c 11) (fun post u => P_S_fits post (nI 11) u) := fun post u a p g1 g2 => ⟨fun e => absurd e (by decide), fun _ => ⟨fun e => absurd e (by decide), fun _ => ⟨fun e => absurd e (by decide), fun _ => ⟨fun e => absurd e (by decide), fun _ => ⟨fun e => absurd e (by decide), fun _ => ⟨fun e => absurd e (by decide), fun _ => ⟨fun e => absurd e (by decide), fun _ => ⟨fun e => absurd e (by decide), fun _ => ⟨fun e => absurd e (by decide), fun _ => ⟨fun e => absurd e (by decide), fun _ => ⟨fun _ => (TieS.e2 (take_tie (i := 47) (by decide))).tie post u a p g1 g2, fun e => absurd rfl e⟩⟩⟩⟩⟩⟩⟩⟩⟩⟩⟩
theorem fits_12 : Tie c n (ftP c 12) (fun post u => P_S_fits post (nI 12) u) := fun post u a p g1 g2 => ⟨fun e => absurd e (by decide), fun _ => ⟨fun e => absurd e (by decide), fun _ => ⟨fun e => absurd e (by decide), fun _ => ⟨fun e => absurd e (by decide), fun _ => ⟨fun e => absurd e (by decide), fun _ => ⟨fun e => absurd e (by decide), fun _ => ⟨fun e => absurd e (by decide), fun _ => ⟨fun e => absurd e (by decide), fun _ => ⟨fun e => absurd e (by decide), fun _ => ⟨fun e => absurd e (by decide), fun _ => ⟨fun e => absurd e (by decide), fun _ => ⟨fun _ => (TieS.e2 (take_tie (i := 48) (by decide))).tie post u a p g1 g2, fun e => absurd rfl e⟩⟩⟩⟩⟩⟩⟩⟩⟩⟩⟩⟩
theorem fits_13 : Tie c n (ftP c 13) (fun post u => P_S_fits post (nI 13) u) := fun post u a p g1 g2 => ⟨fun e => absurd e (by decide), fun _ => ⟨fun e => absurd e (by decide), fun _ => ⟨fun e => absurd e (by decide), fun _ => ⟨fun e => absurd e (by decide), fun _ => ⟨fun e => absurd e (by decide), fun _ => ⟨fun e => absurd e (by decide), fun _ => ⟨fun e => absurd e (by decide), fun _ => ⟨fun e => absurd e (by decide), fun _ => ⟨fun e => absurd e (by decide), fun _ => ⟨fun e => absurd e (by decide), fun _ => ⟨fun e => absurd e (by decide), fun _ => ⟨fun e => absurd e (by decide), fun _ => ⟨fun _ => Tie.sq1 (take_tie (i := 49) (by decide)).tie (exs_tie (D := 0) (ex_tie (m := 8) (d := 0) rfl)).e1 post u a p g1 g2, fun e => absurd rfl e⟩⟩⟩⟩⟩⟩⟩⟩⟩⟩⟩⟩⟩
theorem fits_14 : Tie c n (ftP c 14) (fun post u => P_S_fits post (nI 14) u) := fun post u a p g1 g2 => ⟨fun e => absurd e (by decide), fun _ => ⟨fun e => absurd e (by decide), fun _ => ⟨fun e => absurd e (by decide), fun _ => ⟨fun e => absurd e (by decide), fun _ => ⟨fun e => absurd e (by decide), fun _ => ⟨fun e => absurd e (by decide), fun _ => ⟨fun e => absurd e (by decide), fun _ => ⟨fun e => absurd e (by decide), fun _ => ⟨fun e => absurd e (by decide), fun _ => ⟨fun e => absurd e (by decide), fun _ => ⟨fun e => absurd e (by decide), fun _ => ⟨fun e => absurd e (by decide), fun _ => ⟨fun e => absurd e (by decide), fun _ => ⟨fun _ => (TieS.e2 (take_tie (i := 50) (by decide))).tie post u a p g1 g2, fun e => absurd rfl e⟩⟩⟩⟩⟩⟩⟩⟩⟩⟩⟩⟩⟩⟩
theorem fits_15 : Tie c n (ftP c 15) (fun post u => P_S_fits post (nI 15) u) := fun post u a p g1 g2 => ⟨fun e => absurd e (by decide), fun _ => ⟨fun e => absurd e (by decide), fun _ => ⟨fun e => absurd e (by decide), fun _ => ⟨fun e => absurd e (by decide), fun _ => ⟨fun e => absurd e (by decide), fun _ => ⟨fun e => absurd e (by decide), fun _ => ⟨fun e => absurd e (by decide), fun _ => ⟨fun e => absurd e (by decide), fun _ => ⟨fun e => absurd e (by decide), fun _ => ⟨fun e => absurd e (by decide), fun _ => ⟨fun e => absurd e (by decide), fun _ => ⟨fun e => absurd e (by decide), fun _ => ⟨fun e => absurd e (by decide), fun _ => ⟨fun e => absurd e (by decide), fun _ => ⟨fun _ => Tie.orsq (take_tie (i := 51) (by decide)) ty_tie (Tie.orsq (take_tie (i := 52) (by decide)) ty_tie (Tie.sq1 (take_tie (i := 53) (by decide)).tie ty_tie)) post u a p g1 g2, fun e => absurd rfl e⟩⟩⟩⟩⟩⟩⟩⟩⟩⟩⟩⟩⟩⟩⟩
theorem fits_16 : Tie c n (ftP c 16) (fun post u => P_S_fits post (nI 16) u) := fun post u a p g1 g2 => ⟨fun e => absurd e (by decide), fun _ => ⟨fun e => absurd e (by decide), fun _ => ⟨fun e => absurd e (by decide), fun _ => ⟨fun e => absurd e (by decide), fun _ => ⟨fun e => absurd e (by decide), fun _ => ⟨fun e => absurd e (by decide), fun _ => ⟨fun e => absurd e (by decide), fun _ => ⟨fun e => absurd e (by decide), fun _ => ⟨fun e => absurd e (by decide), fun _ => ⟨fun e => absurd e (by decide), fun _ => ⟨fun e => absurd e (by decide), fun _ => ⟨fun e => absurd e (by decide), fun _ => ⟨fun e => absurd e (by decide), fun _ => ⟨fun e => absurd e (by decide), fun _ => ⟨fun e => absurd e (by decide), fun _ => ⟨fun _ => Tie.sq1 (take_tie (i := 54) (by decide)).tie dm_tie.e1 post u a p g1 g2, fun e => absurd rfl e⟩⟩⟩⟩⟩⟩⟩⟩⟩⟩⟩⟩⟩⟩⟩⟩
theorem fits_17 : Tie c n (ftP c 17) (fun post u => P_S_fits post (nI 17) u) := fun post u a p g1 g2 => ⟨fun e => absurd e (by decide), fun _ => ⟨fun e => absurd e (by decide), fun _ => ⟨fun e => absurd e (by decide), fun _ => ⟨fun e => absurd e (by decide), fun _ => ⟨fun e => absurd e (by decide), fun _ => ⟨fun e => absurd e (by decide), fun _ => ⟨fun e => absurd e (by decide), fun _ => ⟨fun e => absurd e (by decide), fun _ => ⟨fun e => absurd e (by decide), fun _ => ⟨fun e => absurd e (by decide), fun _ => ⟨fun e => absurd e (by decide), fun _ => ⟨fun e => absurd e (by decide), fun _ => ⟨fun e => absurd e (by decide), fun _ => ⟨fun e => absurd e (by decide), fun _ => ⟨fun e => absurd e (by decide), fun _ => ⟨fun e => absurd e (by decide), fun _ => ⟨fun _ => Tie.sq1 (take_tie (i := 55) (by decide)).tie (Tie.sq1 go_tie (Tie.sq1 (take_tie (i := 24) (by decide)).tie (Tie.sq1 comma_tie.tie (ex_tie (m := 8) (d := 0) rfl).e1))) post u a p g1 g2, fun e => absurd rfl e⟩⟩⟩⟩⟩⟩⟩⟩⟩⟩⟩⟩⟩⟩⟩⟩⟩
theorem fits_tie {k : Nat} (h1 : 1 ≤ k) (h2 : k ≤ 17) : Tie c n (ftP c k) (fun post u => P_S_fits post (nI k) u) := by
  rcases (by omega : k = 1 ∨ k = 2 ∨ k = 3 ∨ k = 4 ∨ k = 5 ∨ k = 6 ∨ k = 7 ∨ k = 8 ∨ k = 9 ∨ k = 10 ∨ k = 11 ∨ k = 12 ∨ k = 13 ∨ k = 14 ∨ k = 15 ∨ k = 16 ∨ k = 17) with rfl | rfl | rfl | rfl | rfl | rfl | rfl | rfl | rfl | rfl | rfl | rfl | rfl | rfl | rfl | rfl | rfl
  · exact fits_1
  · exact fits_2
  · exact fits_3
  · exact fits_4
  · exact fits_5
  · exact fits_6
  · exact fits_7
  · exact fits_8
  · exact fits_9
  · exact fits_10
  · exact fits_11
  · exact fits_12
  · exact fits_13
  · exact fits_14
  · exact fits_15
  · exact fits_16
  · exact fits_17
def Dv (c : Nat → Nat) (n : Nat) (v : MS) (a : Nat) : Prop := Tx c n v ∧ ∃ b, a ≤ b ∧ b ≤ n ∧ gI v 5 = nI b ∧ ∀ i, b ≤ i → i < n → gA v 1 i = 0 ∧ gA v 2 i = 0 ∧ gA v 3 i = 0
theorem Pre.dv {u : MS} {a : Nat} (p : Pre c n u a) : Dv c n u a := ⟨p.1, a, Nat.le_refl _, p.2.1, p.2.2.1, p.2.2.2⟩
theorem Bad.dv {u v : MS} {a : Nat} (p : Pre c n u a) (h : Bad n u v a) : Dv c n v a := by
  obtain ⟨b, h1, h2, h3, h4⟩ := h
  refine ⟨h4.tx p.1, b, h1, h2, h3, fun i hi hn => ?_⟩
  rw [h4.2.2 1 i (Or.inr hi), h4.2.2 2 i (Or.inr hi), h4.2.2 3 i (Or.inr hi)]
  exact p.2.2.2 i (by omega) hn
theorem Bad.fr {u v : MS} {a : Nat} (h : Bad n u v a) : Fr u v a n := by
  obtain ⟨b, h1, h2, h3, h4⟩ := h
  exact ⟨h4.1, h4.2.1, fun f i hi => h4.2.2 f i (by omega)⟩
theorem Dv.le {v : MS} {a a' : Nat} (h : Dv c n v a) (ha : a' ≤ a) : Dv c n v a' := by
  obtain ⟨h0, b, h1, h2, h3⟩ := h
  exact ⟨h0, b, by omega, h2, h3⟩
theorem Fr.tr {u v w : MS} {a b : Nat} (h : Fr u v a b) (h' : Fr v w a b) : Fr u w a b := h.trans h' (Nat.le_refl _) (Nat.le_refl _)
theorem Fr.wide {u v : MS} {a b a' : Nat} (h : Fr u v a b) (ha : a' ≤ a) : Fr u v a' b := ⟨h.1, h.2.1, fun f i hi => h.2.2 f i (by omega)⟩
theorem gb_loop {post : MS → Prop} {a b : Nat} : ∀ (m k : Nat) (v : MS), k + m = b → a ≤ k → b ≤ n → Tx c n v → gI v 5 = nI b → (∀ i, a ≤ i → i < n → i < k ∨ b ≤ i → gA v 1 i = 0 ∧ gA v 2 i = 0 ∧ gA v 3 i = 0) → (∀ w, Pre c n w a → Fr v w a n → post w) → P_T_goBackTo_2 post (m + 1) (nI a) (nI k) v := by
  intro m
  induction m with
  | zero =>
    intro k v hk ha hb t h5 hcl h
    have h80 := t.1
    unfold P_T_goBackTo_2
    rw [h5]
    refine ⟨fun _ => h _ ⟨t, by omega, rfl, fun i h1 h2 => hcl i h1 h2 (by omega)⟩ ⟨fun j hj => gI_s5n v _ hj, fun i => rfl, fun f i _ => rfl⟩, fun h0 => absurd (nI_le (by omega) (by omega)) h0⟩
  | succ m ih =>
    intro k v hk ha hb t h5 hcl h
    have h80 := t.1
    unfold P_T_goBackTo_2
    rw [h5, t.2.1]
    refine ⟨fun h0 => absurd h0 (nI_ge (by omega) (by omega)), fun _ => ⟨fun h0 => absurd h0 (nI_ge (by omega) (by omega)), fun _ => ⟨t.vp (by omega), t.vp (by omega), t.vp (by omega), ?_⟩⟩⟩
    rw [nI_clamp (by omega), nI_1]
    have hf : Fr v (sA (sA (sA v 1 k 0) 2 k 0) 3 k 0) a n := by
      refine ⟨fun j hj => rfl, fun i => by simp [gA_sA], fun f i hi => ?_⟩
      have hik : ¬ i = k := by omega
      simp [gA_sA, hik]
    refine ih (k + 1) _ (by omega) (by omega) hb (hf.tx t) h5 (fun i h1 h2 h3 => ?_) (fun w pw hw => h w pw (hf.tr hw))
    by_cases hik : i = k
    · subst hik
      simp [gA_sA]
    · have h9 := hcl i h1 h2 (by omega)
      simp [gA_sA, hik, h9.1, h9.2.1, h9.2.2]
theorem gb_of {post : MS → Prop} {v : MS} {a : Nat} (d : Dv c n v a) (h : ∀ w, Pre c n w a → Fr v w a n → post w) : P_T_goBackTo post (nI a) v := by
  obtain ⟨t, b, h1, h2, h3, h4⟩ := d
  exact ⟨b - a + 1, gb_loop (b := b) (b - a) a v (by omega) (Nat.le_refl _) h2 t h3 (fun i q1 q2 q3 => h4 i (by omega) q2) h⟩
def ftF (c : Nat → Nat) (n a : Nat) : Nat → Nat → Option (Nat × List Tz)
  | 0, _ => none
  | f + 1, k => match ftP c k a with
    | some Z => if a + Z.length = n then some (k, Z) else ftF c n a f (k + 1)
    | none => ftF c n a f (k + 1)
def FT (c : Nat → Nat) (n a : Nat) : Option (Nat × List Tz) := ftF c n a 17 1
theorem ft_loop {post : Int32 → MS → Prop} {a : Nat} : ∀ (f k : Nat) (v : MS), k + f = 18 → 1 ≤ k → Dv c n v a → (∀ k' Z w0 w, ftF c n a f k = some (k', Z) → Pre c n w0 a → Fr v w0 a n → Ok n w0 w a Z → a + Z.length = n → post (nI k') w) → (∀ w, ftF c n a f k = none → Pre c n w a → Fr v w a n → post 0 w) → P_S_firstThatFits_2 post (f + 1) (nI a) (nI k) v := by
  intro f
  induction f with
  | zero =>
    intro k v hk h1 d g1 g2
    exact ⟨fun _ => gb_of d (fun w pw hw => g2 w rfl pw hw), fun h0 => absurd ((nI_ltI (a := 17) (by decide) (by omega)).mpr (by omega)) h0⟩
  | succ f ih =>
    intro k v hk h1 d g1 g2
    refine ⟨fun h0 => absurd h0 (nI_nlt (a := 17) (b := k) (by omega) (by decide)), fun _ => gb_of d (fun w pw hw => ?_)⟩
    have h80 := pw.1.1
    unfold ftF at g1 g2
    refine fits_tie h1 (by omega) _ w a pw (fun Z w2 hZ hw2 => ⟨fun e => absurd e (by decide), fun _ => ?_⟩) (fun w2 hZ hw2 => ⟨fun _ => ?_, fun e => absurd rfl e⟩)
    · rw [hZ] at g1 g2
      simp only at g1 g2
      have hl := hw2.1
      have t2 := hw2.2.2.1.tx pw.1
      rw [hw2.2.1, t2.2.1, nI_eq (by omega) (by omega)]
      refine ⟨fun hq => ?_, fun hq => ?_⟩
      · rw [if_neg hq] at g1 g2
        unfold P_S_firstThatFits_34
        rw [nI_1]
        have hb := hw2.toBad
        exact ih (k + 1) w2 (by omega) (by omega) (hb.dv pw) (fun k' Z' w0 w3 e1 e2 e3 e4 e5 => g1 k' Z' w0 w3 e1 e2 ((hw.tr hb.fr).tr e3) e4 e5) (fun w3 e1 e2 e3 => g2 w3 e1 e2 ((hw.tr hb.fr).tr e3))
      · rw [if_pos hq] at g1
        exact g1 k Z w w2 rfl pw hw hw2 hq
    · rw [hZ] at g1 g2
      simp only at g1 g2
      unfold P_S_firstThatFits_34
      rw [nI_1]
      exact ih (k + 1) w2 (by omega) (by omega) (hw2.dv pw) (fun k' Z' w0 w3 e1 e2 e3 e4 e5 => g1 k' Z' w0 w3 e1 e2 ((hw.tr hw2.fr).tr e3) e4 e5) (fun w3 e1 e2 e3 => g2 w3 e1 e2 ((hw.tr hw2.fr).tr e3))
theorem first_of {post : Int32 → MS → Prop} {a : Nat} {v : MS} (d : Dv c n v a) (g1 : ∀ k' Z w0 w, FT c n a = some (k', Z) → Pre c n w0 a → Fr v w0 a n → Ok n w0 w a Z → a + Z.length = n → post (nI k') w) (g2 : ∀ w, FT c n a = none → Pre c n w a → Fr v w a n → post 0 w) : P_S_firstThatFits post (nI a) v := ⟨18, ft_loop 17 1 v (by omega) (by omega) d g1 g2⟩
theorem ftF_k {a : Nat} : ∀ (f k k' : Nat) (Z : List Tz), ftF c n a f k = some (k', Z) → k ≤ k' ∧ k' < k + f ∧ ftP c k' a = some Z ∧ a + Z.length = n := by
  intro f
  induction f with
  | zero => intro k k' Z h; exact absurd h (by simp [ftF])
  | succ f ih =>
    intro k k' Z h
    unfold ftF at h
    split at h
    · rename_i Z' hZ
      split at h
      · cases h
        exact ⟨Nat.le_refl _, by omega, hZ, by assumption⟩
      · have := ih _ _ _ h
        exact ⟨by omega, by omega, this.2.2⟩
    · have := ih _ _ _ h
      exact ⟨by omega, by omega, this.2.2⟩
def mayS (k : Nat) : Bool := decide (k = 2) || (decide (9 ≤ k) && decide (k ≤ 13)) || decide (k = 17)
def ifP (c : Nat → Nat) (n : Nat) : Option (List Tz) := match sq (wdP c 39) (sq (EX c 7) (wdP c 24)) 0 with
  | none => none
  | some Z => match FT c n (0 + Z.length) with
    | none => none
    | some q => if mayS q.1 = true then some (Z ++ q.2) else none
def RC (c : Nat → Nat) (n : Nat) : Nat × List Tz := match FT c n 0 with
  | some q => q
  | none => match ifP c n with
    | some Z => (4, Z)
    | none => (0, zn n)
theorem mayS_of {post : Int32 → Unit → Prop} {k : Nat} (hk : k ≤ 17) (h : post (if mayS k = true then 1 else 0) ()) : P_S_mayStandInIf post (nI k) () := by
  have key : ∀ k, k ≤ 17 → (mayS k = true → nI k = 2 ∨ (¬ nI k = 2 ∧ ((¬ nI k < 9 ∧ nI k ≤ 13) ∨ ((nI k < 9 ∨ ¬ nI k ≤ 13) ∧ nI k = 17)))) ∧ (¬ mayS k = true → ¬ nI k = 2 ∧ (nI k < 9 ∨ ¬ nI k ≤ 13) ∧ ¬ nI k = 17) := by decide +kernel
  have hk2 := key k hk
  unfold P_S_mayStandInIf P_S_mayStandInIf_17
  by_cases hm : mayS k = true
  · rw [if_pos hm] at h
    refine ⟨fun _ => h, fun h2 => ⟨fun h9 => ⟨fun h17 => ?_, fun _ => h⟩, fun h9 => ⟨fun _ => h, fun h13 => ⟨fun h17 => ?_, fun _ => h⟩⟩⟩⟩
    · rcases hk2.1 hm with q | ⟨_, q | q⟩
      · exact absurd q h2
      · exact absurd h9 q.1
      · exact absurd q.2 h17
    · rcases hk2.1 hm with q | ⟨_, q | q⟩
      · exact absurd q h2
      · exact absurd q.2 h13
      · exact absurd q.2 h17
  · rw [if_neg hm] at h
    obtain ⟨q1, q2, q3⟩ := hk2.2 hm
    refine ⟨fun e => absurd e q1, fun _ => ⟨fun _ => ⟨fun _ => h, fun e => absurd e q3⟩, fun h9 => ⟨fun h13 => ?_, fun _ => ⟨fun _ => h, fun e => absurd e q3⟩⟩⟩⟩
    rcases q2 with q | q
    · exact absurd q h9
    · exact absurd h13 q
/-- what has been found in the whole text -/
def Rz (n : Nat) (w : MS) (q : Nat × List Tz) : Prop := gI w 8 = nI q.1 ∧ q.2.length = n ∧ ∀ j t, q.2[j]? = some t → gA w 1 j = nI t.1 ∧ gA w 3 j = nI t.2.1 ∧ gA w 2 j = nI t.2.2
/-- all but how far, what, and what was found -/
def Fs (u w : MS) : Prop := (∀ k, k ≠ 5 → k ≠ 8 → gI w k = gI u k) ∧ ∀ i, gA w 0 i = gA u 0 i
theorem Fr.fs {u w : MS} {a b : Nat} (h : Fr u w a b) : Fs u w := ⟨fun k h5 _ => h.1 k h5, h.2.1⟩
theorem Fs.tr {u v w : MS} (h : Fs u v) (h' : Fs v w) : Fs u w := ⟨fun k h5 h8 => (h'.1 k h5 h8).trans (h.1 k h5 h8), fun i => (h'.2 i).trans (h.2 i)⟩
theorem Fs.s8 (u : MS) (x : Int32) : Fs u (sI u 8 x) := ⟨fun k _ h8 => by rw [gI_sI, if_neg h8], fun i => rfl⟩
theorem Fs.s5 (u : MS) (x : Int32) : Fs u (sI u 5 x) := ⟨fun k h5 _ => by rw [gI_sI, if_neg h5], fun i => rfl⟩
theorem Pre.s8 {u : MS} {a : Nat} (p : Pre c n u a) (x : Int32) : Pre c n (sI u 8 x) a := p
theorem Rz.nil {w : MS} (p : Pre c n w 0) (h : gI w 8 = 0) : Rz n w (0, zn n) := by
  refine ⟨h, zn_len n, fun j t hj => ?_⟩
  obtain ⟨h1, h2⟩ := List.getElem?_eq_some_iff.mp hj
  simp only [zn_len] at h1
  have h3 : t = zz := by rw [← h2]; simp [zn]
  subst h3
  have h4 := p.2.2.2 j (by omega) h1
  exact ⟨h4.1, h4.2.2, h4.2.1⟩
theorem Ok.rz {u w : MS} {Z : List Tz} {k : Nat} (h : Ok n u w 0 Z) (hl : 0 + Z.length = n) (h8 : gI w 8 = nI k) : Rz n w (k, Z) := by
  refine ⟨h8, by simpa using hl, fun j t hj => ?_⟩
  have h9 := h.2.2.2 j t hj
  rw [Nat.zero_add] at h9
  exact h9
theorem recog_of {post : MS → Prop} {u : MS} (t : Tx c n u) (h : ∀ w, Rz n w (RC c n) → Fs u w → post w) : P_S_recognise post u := by
  have h80 := t.1
  have nothing : ∀ w, RC c n = (0, zn n) → Dv c n w 0 → gI w 8 = 0 → Fs u w → P_S_recognise_70 post w := by
    intro w hR d h8 hf
    refine ⟨fun e => absurd h8 e, fun _ => gb_of (a := 0) d (fun w2 p2 f2 => h w2 ?_ (hf.tr f2.fs))⟩
    rw [hR]
    exact Rz.nil p2 ((f2.1 8 (by decide)).trans h8)
  unfold P_S_recognise
  have d0 : Dv c n (sI u 5 (gI u 4)) 0 := ⟨t, n, by omega, Nat.le_refl _, t.2.1, fun i h1 h2 => by omega⟩
  refine first_of (a := 0) d0 (fun k Z w0 w hF p0 f0 hw hl => ⟨fun _ => ⟨fun _ => h _ ?_ ?_, fun h8 => ?_⟩, fun e => ?_⟩) (fun w hF p0 f0 => ⟨fun e => absurd rfl e, fun _ => ?_⟩)
  · have e : RC c n = (k, Z) := by unfold RC; rw [hF]
    rw [e]
    have h3 : Ok n w0 (sI w 8 (nI k)) 0 Z → Rz n (sI w 8 (nI k)) (k, Z) := fun q => q.rz hl rfl
    refine ⟨rfl, by simpa using hl, fun j t hj => ?_⟩
    have h9 := hw.2.2.2 j t hj
    rw [Nat.zero_add] at h9
    exact h9
  · exact ((Fs.s5 u _).tr f0.fs).tr (hw.2.2.1.fs.tr (Fs.s8 w _))
  · have hk := ftF_k _ _ _ _ hF
    exact absurd h8 (nI_ne0 (by omega) (by omega))
  · have hk := ftF_k _ _ _ _ hF
    exact absurd e (nI_ne0 (by omega) (by omega))
  · have p1 : Pre c n (sI w 8 0) 0 := p0
    have fs1 : Fs u (sI w 8 0) := ((Fs.s5 u _).tr f0.fs).tr (Fs.s8 w _)
    have no : ifP c n = none → RC c n = (0, zn n) := fun e => by unfold RC; rw [hF, e]
    have three : Tie c n (sq (wdP c 39) (sq (EX c 7) (wdP c 24))) (fun post u => P_T_take (fun r5 u4 => ((r5 = 0 → post 0 u4) ∧ (¬ r5 = 0 → PEX (fun r7 u6 => ((r7 = 0 → post 0 u6) ∧ (¬ r7 = 0 → P_T_take (fun r9 u8 => ((r9 = 0 → post 0 u8) ∧ (¬ r9 = 0 → post 1 u8))) 24 u6))) (1 : Int32) (1 : Int32) u4))) 39 u) := Tie.sq1 (take_tie (i := 39) (by decide)).tie (Tie.sq1 (ex_tie (m := 7) (d := 1) rfl) (TieS.e1 (take_tie (i := 24) (by decide))).tie)
    have h3 := three (fun r w => (r = 0 → P_S_recognise_70 post w) ∧ (¬ r = 0 → P_S_firstThatFits (fun r11 u10 => P_S_mayStandInIf (fun r13 u12 => ((r13 = 0 → P_S_recognise_70 post u10) ∧ (¬ r13 = 0 → P_S_recognise_70 post (sI u10 8 (4 : Int32))))) r11 ()) (gI w 5) w)) (sI w 8 0) 0 p1 (fun Z w2 hZ hw2 => ⟨fun e => absurd e (by decide), fun _ => ?_⟩) (fun w2 hZ hw2 => ⟨fun _ => ?_, fun e => absurd rfl e⟩)
    · simpa using h3
    · have p2 := hw2.pre p1
      have h82 : gI w2 8 = 0 := hw2.2.2.1.1 8 (by decide)
      have fs2 : Fs u w2 := fs1.tr hw2.2.2.1.fs
      rw [p2.2.2.1]
      refine first_of p2.dv (fun k Y w0 w3 hF3 p3 f3 hw3 hl3 => ?_) (fun w3 hF3 p3 f3 => ?_)
      · have hk := ftF_k _ _ _ _ hF3
        refine mayS_of (by omega) ?_
        have f4 : Fr w2 w3 (0 + Z.length) n := f3.tr hw3.toBad.fr
        have fs4 : Fs u w3 := fs2.tr f4.fs
        by_cases hm : mayS k = true
        · rw [if_pos hm]
          refine ⟨fun e => absurd e (by decide), fun _ => ⟨fun _ => h _ ?_ (fs4.tr (Fs.s8 w3 _)), fun h8 => absurd (show (4 : Int32) = 0 from h8) (by decide)⟩⟩
          have e : RC c n = (4, Z ++ Y) := by
            have : ifP c n = some (Z ++ Y) := by
              unfold ifP
              rw [hZ]
              simp only
              rw [hF3]
              simp only [if_pos hm]
            unfold RC
            rw [hF, this]
          rw [e]
          refine ⟨rfl, by rw [List.length_append]; omega, fun j t hj => ?_⟩
          by_cases hjl : j < Z.length
          · simp only at hj
            rw [List.getElem?_append_left hjl] at hj
            have h9 := hw2.2.2.2 j t hj
            rw [Nat.zero_add] at h9
            have fq := fun q => f4.2.2 q j (Or.inl (by omega))
            exact ⟨(fq 1).trans h9.1, (fq 3).trans h9.2.1, (fq 2).trans h9.2.2⟩
          · simp only at hj
            rw [List.getElem?_append_right (by omega)] at hj
            have h9 := hw3.2.2.2 _ t hj
            rw [show 0 + Z.length + (j - Z.length) = j by omega] at h9
            exact h9
        · rw [if_neg hm]
          refine ⟨fun _ => nothing w3 (no ?_) ((hw3.toBad.dv p3).le (by omega)) ?_ fs4, fun e => absurd rfl e⟩
          · unfold ifP
            rw [hZ]
            simp only
            rw [hF3]
            simp only [if_neg hm]
          · exact (f4.1 8 (by decide)).trans h82
      · refine mayS_of (k := 0) (by omega) ⟨fun _ => nothing w3 (no ?_) (p3.dv.le (by omega)) ((f3.1 8 (by decide)).trans h82) (fs2.tr f3.fs), fun e => absurd rfl e⟩
        unfold ifP
        rw [hZ]
        simp only
        rw [hF3]
    · refine nothing w2 (no ?_) (hw2.dv p1) (hw2.fr.1 8 (by decide)) (fs1.tr hw2.fr.fs)
      unfold ifP
      rw [hZ]
end CFT
