abbrev oB4 : Type := Int32 × Int32 × Int32 × Int32
def bK (v s r f : Int32) (B : oB4) : oB4 := if v ≤ B.2.2.2 then B else (s, r, f, v)
def bF (V : Int32 → Nat → Nat → Int32) (s : Int32) (r : Nat) : Nat → oB4 → oB4
  | 0 => fun B => B
  | k + 1 => fun B => bK (V s r k) s (nI r) (nI k) (bF V s r k B)
def bR (V : Int32 → Nat → Nat → Int32) (s : Int32) : Nat → oB4 → oB4
  | 0 => fun B => B
  | k + 1 => fun B => bF V s k 61 (bR V s k B)
def bZ (V : Int32 → Nat → Nat → Int32) (B : oB4) : Nat → oB4
  | 0 => B
  | k + 1 => bR V (nI (1 + k)) 4 (bZ V B k)
def bS (S : oS) (B : oB4) : oS := oStI (oStI (oStI (oStI S 100 0 4 B.1) 100 0 5 B.2.1) 100 0 6 B.2.2.1) 100 0 7 B.2.2.2
theorem bS_bS (S : oS) (B C : oB4) : bS (bS S B) C = bS S C := by
  refine Prod.ext (funext fun t => funext fun j => funext fun k => ?_) rfl
  simp only [bS, oStI]
  by_cases h1 : t = 100 ∧ j = 0 ∧ k = 7
  · simp [h1]
  by_cases h2 : t = 100 ∧ j = 0 ∧ k = 6
  · simp [h2]
  by_cases h3 : t = 100 ∧ j = 0 ∧ k = 5
  · simp [h3]
  by_cases h4 : t = 100 ∧ j = 0 ∧ k = 4
  · simp [h4]
  simp [h1, h2, h3, h4]
theorem keep_ok (S : oS) (B : oB4) (v s r f : Int32) : f_X0_keepIfBetter s r f v (bS S B) = some (bS S (bK v s r f B)) := by
  unfold f_X0_keepIfBetter
  show (if v ≤ B.2.2.2 then _ else _) = _
  unfold bK
  by_cases h : v ≤ B.2.2.2
  · rw [if_pos h, if_pos h]
  · rw [if_neg h, if_neg h]
    show some (bS (bS S B) (s, r, f, v)) = _
    rw [bS_bS]
/-- how many notes each explanation explains -/
def vB (S : oS) (c : Nat) : Int32 → Nat → Nat → Int32 := fun s r f => xV (S.1 1046 0) s r f (mE (S.1 1048 0) (S.1 1049 0) (nI r) (nI f) c).toInt.toNat
theorem vB_E {S : oS} {c r f : Nat} (h : ∃ E : Nat, E ≤ 61 ∧ mE (S.1 1048 0) (S.1 1049 0) (nI r) (nI f) c = nI E) : ∃ E : Nat, E ≤ 61 ∧ mE (S.1 1048 0) (S.1 1049 0) (nI r) (nI f) c = nI E ∧ (mE (S.1 1048 0) (S.1 1049 0) (nI r) (nI f) c).toInt.toNat = E := by
  obtain ⟨E, h1, h2⟩ := h
  exact ⟨E, h1, h2, by rw [h2, nT (by omega)]; omega⟩
set_option maxHeartbeats 1000000 in
theorem bestX_ok {S : oS} (h : iBoo S) {c : Nat} (c1 : c ≤ 10) (c3 : S.1 100 0 3 = nI c) (c4 : ∀ r f : Int32, mE (S.1 102 0) (S.1 103 0) r f c = mE (S.1 1048 0) (S.1 1049 0) r f c ∧ ∃ E : Nat, E ≤ 61 ∧ mE (S.1 1048 0) (S.1 1049 0) r f c = nI E) : f_X0_findBest S = some (bS S (bZ (vB S c) (0, -1, -1, cSum (wellS (S.1 1046 0)) 244) 2)) := by
  have l1 : ∀ (s : Int32) (r : Nat) (B : oB4), (s = 1 ∨ s = 2) → r < 4 → oLp (f_X0_findBest_L42 (cSum (wellS (S.1 1046 0)) 244) s (nI r)) oFu ((0 : Int32), bS S B) = some (bS S (bF (vB S c) s r 61 B)) := by
    intro s r B hs hr
    refine oLp_eq (fun i => (nI i, bS S (bF (vB S c) s r i B))) _ 61 (by decide) rfl ?_ rfl
    intro i hi
    show (if (61 : Int32) ≤ nI i then _ else _) = _
    rw [if_neg (by rw [nle (m := 61) rfl (by omega)]; omega)]
    obtain ⟨e1, e2⟩ := c4 (nI r) (nI i)
    obtain ⟨E, h1, h2, h3⟩ := vB_E e2
    obtain ⟨g, g1, g2⟩ := gain_ok (S := bS S (bF (vB S c) s r i B)) h (s := s) (r := r) (f := i) hs hr (by omega) c3 c1 h1 (e1.trans h2)
    rw [g1]
    have g2 : cSum (wellS (S.1 101 0)) 244 + g = xV (S.1 1046 0) s r i E := g2
    rw [notes_eq h] at g2
    show (f_X0_keepIfBetter s (nI r) (nI i) (cSum (wellS (S.1 1046 0)) 244 + g) (bS S (bF (vB S c) s r i B))).bind _ = _
    rw [keep_ok, g2]
    show some (Sum.inl (nI i + 1, _)) = _
    rw [nI_1, ← h3]
    rfl
  have l2 : ∀ (s : Int32) (B : oB4), (s = 1 ∨ s = 2) → oLp (f_X0_findBest_L34 (cSum (wellS (S.1 1046 0)) 244) s) oFu ((0 : Int32), bS S B) = some (bS S (bR (vB S c) s 4 B)) := by
    intro s B hs
    refine oLp_eq (fun i => (nI i, bS S (bR (vB S c) s i B))) _ 4 (by decide) rfl ?_ rfl
    intro i hi
    show (if (4 : Int32) ≤ nI i then _ else _) = _
    rw [if_neg (by rw [nle (m := 4) rfl (by omega)]; omega), l1 s i _ hs hi]
    show some (Sum.inl (nI i + 1, _)) = _
    rw [nI_1]
    rfl
  have l3 : ∀ B : oB4, oLp (f_X0_findBest_L27 (cSum (wellS (S.1 1046 0)) 244)) oFu ((1 : Int32), bS S B) = some (bS S (bZ (vB S c) B 2)) := by
    intro B
    refine oLp_eq (fun i => (nI (1 + i), bS S (bZ (vB S c) B i))) _ 2 (by decide) rfl ?_ rfl
    intro i hi
    have hi' : i = 0 ∨ i = 1 := by omega
    show (if (2 : Int32) < nI (1 + i) then _ else _) = _
    rw [if_neg (by rw [i_lt, nT (by omega)]; show ¬ (2 : Int) < _; omega), l2 (nI (1 + i)) _ (by rcases hi' with rfl | rfl; exact Or.inl rfl; exact Or.inr rfl)]
    show some (Sum.inl (nI (1 + i) + 1, _)) = _
    rw [nI_1]
    rfl
  unfold f_X0_findBest
  rw [well_ok, notes_eq h]
  show (oLp (f_X0_findBest_L27 (cSum (wellS (S.1 1046 0)) 244)) oFu ((1 : Int32), bS S (0, -1, -1, cSum (wellS (S.1 1046 0)) 244))).bind _ = _
  rw [l3]
  rfl
set_option maxHeartbeats 1000000 in
theorem bestM_ok {S : oS} {w : Int32} {c : Nat} (c1 : c ≤ 10) (c2 : S.1 1000 0 46 = nI c) (c4 : ∀ r f : Int32, ∃ E : Nat, E ≤ 61 ∧ mE (S.1 1048 0) (S.1 1049 0) r f c = nI E) (B : oB4) : oLp (f_X9_best_L31 w) oFu (B.1, B.2.1, B.2.2.1, B.2.2.2, (1 : Int32), S) = some ((bZ (vB S c) B 2).1, (bZ (vB S c) B 2).2.1, (bZ (vB S c) B 2).2.2.1, (bZ (vB S c) B 2).2.2.2, S) := by
  have l1 : ∀ (s : Int32) (r : Nat) (B : oB4), r < 4 → oLp (f_X9_best_L49 w s (nI r)) oFu (B.1, B.2.1, B.2.2.1, B.2.2.2, (0 : Int32), S) = some ((bF (vB S c) s r 61 B).1, (bF (vB S c) s r 61 B).2.1, (bF (vB S c) s r 61 B).2.2.1, (bF (vB S c) s r 61 B).2.2.2, S) := by
    intro s r B hr
    refine oLp_eq (fun i => ((bF (vB S c) s r i B).1, (bF (vB S c) s r i B).2.1, (bF (vB S c) s r i B).2.2.1, (bF (vB S c) s r i B).2.2.2, nI i, S)) _ 61 (by decide) rfl ?_ rfl
    intro i hi
    show (if (61 : Int32) ≤ nI i then _ else _) = _
    rw [if_neg (by rw [nle (m := 61) rfl (by omega)]; omega)]
    obtain ⟨E, h1, h2, h3⟩ := vB_E (c4 (nI r) (nI i))
    rw [expl_ok (S := S) (s := s) (r := r) (f := i) hr (by omega) c2 c1 h1 h2]
    show (if xV (S.1 1046 0) s r i E ≤ (bF (vB S c) s r i B).2.2.2 then _ else _) = _
    have e : bF (vB S c) s r (i + 1) B = if xV (S.1 1046 0) s r i E ≤ (bF (vB S c) s r i B).2.2.2 then bF (vB S c) s r i B else (s, nI r, nI i, xV (S.1 1046 0) s r i E) := by
      show bK (vB S c s r i) s (nI r) (nI i) (bF (vB S c) s r i B) = _
      unfold vB bK
      rw [h3]
    show _ = some (Sum.inl ((bF (vB S c) s r (i + 1) B).1, (bF (vB S c) s r (i + 1) B).2.1, (bF (vB S c) s r (i + 1) B).2.2.1, (bF (vB S c) s r (i + 1) B).2.2.2, nI (i + 1), S))
    rw [e]
    by_cases hv : xV (S.1 1046 0) s r i E ≤ (bF (vB S c) s r i B).2.2.2
    · rw [if_pos hv, if_pos hv]
      show some (Sum.inl (_, _, _, _, nI i + 1, S)) = _
      rw [nI_1]
    · rw [if_neg hv, if_neg hv]
      show some (Sum.inl (_, _, _, _, nI i + 1, S)) = _
      rw [nI_1]
      rfl
  have l2 : ∀ (s : Int32) (B : oB4), oLp (f_X9_best_L40 w s) oFu (B.1, B.2.1, B.2.2.1, B.2.2.2, (0 : Int32), S) = some ((bR (vB S c) s 4 B).1, (bR (vB S c) s 4 B).2.1, (bR (vB S c) s 4 B).2.2.1, (bR (vB S c) s 4 B).2.2.2, S) := by
    intro s B
    refine oLp_eq (fun i => ((bR (vB S c) s i B).1, (bR (vB S c) s i B).2.1, (bR (vB S c) s i B).2.2.1, (bR (vB S c) s i B).2.2.2, nI i, S)) _ 4 (by decide) rfl ?_ rfl
    intro i hi
    show (if (4 : Int32) ≤ nI i then _ else _) = _
    rw [if_neg (by rw [nle (m := 4) rfl (by omega)]; omega), l1 s i _ hi]
    show some (Sum.inl (_, _, _, _, nI i + 1, S)) = some (Sum.inl ((bR (vB S c) s (i + 1) B).1, (bR (vB S c) s (i + 1) B).2.1, (bR (vB S c) s (i + 1) B).2.2.1, (bR (vB S c) s (i + 1) B).2.2.2, nI (i + 1), S))
    rw [nI_1, show bR (vB S c) s (i + 1) B = bF (vB S c) s i 61 (bR (vB S c) s i B) from rfl]
  refine oLp_eq (fun i => ((bZ (vB S c) B i).1, (bZ (vB S c) B i).2.1, (bZ (vB S c) B i).2.2.1, (bZ (vB S c) B i).2.2.2, nI (1 + i), S)) _ 2 (by decide) rfl ?_ rfl
  intro i hi
  show (if (2 : Int32) < nI (1 + i) then _ else _) = _
  rw [if_neg (by rw [i_lt, nT (by omega)]; show ¬ (2 : Int) < _; omega), l2]
  show some (Sum.inl (_, _, _, _, nI (1 + i) + 1, S)) = some (Sum.inl ((bZ (vB S c) B (i + 1)).1, (bZ (vB S c) B (i + 1)).2.1, (bZ (vB S c) B (i + 1)).2.2.1, (bZ (vB S c) B (i + 1)).2.2.2, nI (1 + (i + 1)), S))
  rw [nI_1, show bZ (vB S c) B (i + 1) = bR (vB S c) (nI (1 + i)) 4 (bZ (vB S c) B i) from rfl, Nat.add_assoc]
set_option maxHeartbeats 1000000 in
theorem pr_best (n : Nat) (w : Int32) : oPair n (f_X8_best w) (f_X9_best w) := by
  intro S h
  by_cases hw : (0 : Int32) ≤ w ∧ w ≤ 3
  · obtain ⟨p1, p2, p3, p4, p5, p6, p7⟩ := h.up
    obtain ⟨c, c1, c2, c3, c4⟩ := bk_count p7
    obtain ⟨Z, hZ⟩ : ∃ Z, Z = bZ (vB S c) (0, -1, -1, cSum (wellS (S.1 1046 0)) 244) 2 := ⟨_, rfl⟩
    have eX := bestX_ok p7 c1 c3 c4
    rw [← hZ] at eX
    obtain ⟨E, e1, e2⟩ := (c4 0 0).2
    have eM0 := expl_ok (S := bS S Z) (s := 0) (r := 0) (f := 0) (by omega) (by omega) c2 c1 e1 e2
    have eM := bestM_ok (S := bS S Z) (w := w) c1 c2 (fun r f => (c4 r f).2) (0, -1, -1, cSum (wellS (S.1 1046 0)) 244)
    have hv : vB (bS S Z) c = vB S c := rfl
    rw [hv, ← hZ] at eM
    have e0 : cSum (exS ((bS S Z).1 1046 0) 0 0 0 E) 244 = cSum (wellS (S.1 1046 0)) 244 := ex0 (N := S.1 1046 0) (r := 0) (f := 0) (E := E)
    rw [e0] at eM0
    have eM0 : f_X9_explained 0 0 0 (bS S Z) = some (cSum (wellS (S.1 1046 0)) 244, bS S Z) := eM0
    refine ⟨if w = 0 then Z.1 else if w = 1 then Z.2.1 else if w = 2 then Z.2.2.1 else Z.2.2.2, bS S Z, bS S Z, ?_, ?_, ⟨p1, p2, p3, p4, p5, p6, p7⟩⟩
    · simp only [f_X8_best, wX, Option.bind_some, if_pos hw, if10, eX]
      by_cases w0 : w = 0
      · rw [if_pos w0, if_pos w0]; rfl
      by_cases w1 : w = 1
      · rw [if_neg w0, if_neg w0, if_pos w1, if_pos w1]; rfl
      by_cases w2 : w = 2
      · rw [if_neg w0, if_neg w0, if_neg w1, if_neg w1, if_pos w2, if_pos w2]; rfl
      · rw [if_neg w0, if_neg w0, if_neg w1, if_neg w1, if_neg w2, if_neg w2]; rfl
    · simp only [f_X9_best, wM, Option.bind_some, if_pos hw, if10, eM0, eM]
      by_cases w0 : w = 0
      · rw [if_pos w0, if_pos w0]
      by_cases w1 : w = 1
      · rw [if_neg w0, if_neg w0, if_pos w1, if_pos w1]
      by_cases w2 : w = 2
      · rw [if_neg w0, if_neg w0, if_neg w1, if_neg w1, if_pos w2, if_pos w2]
      · rw [if_neg w0, if_neg w0, if_neg w1, if_neg w1, if_neg w2, if_neg w2]
  · exact pair_id (r := -2) h (by simp only [f_X8_best, wX, Option.bind_some, if_neg hw, if_true]) (by simp only [f_X9_best, wM, Option.bind_some, if_neg hw, if_true])
