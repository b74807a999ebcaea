theorem i_ring (A G w0 t o w2 w3 : Int32) : A + G + w0 + t + w2 + w3 = A + w0 + o + w2 + w3 + (G + (t - o)) := by grind
/-- the week in which a ring was mended behind f, of the first k entries -/
def mE (R B : Nat → Int32) (r f : Int32) : Nat → Int32
  | 0 => 61
  | k + 1 => if R k = r ∧ ¬ B k ≤ f then (if B k < mE R B r f k then B k else mE R B r f k) else mE R B r f k
theorem mE_cg {R B R' B' : Nat → Int32} {r f : Int32} : ∀ {k : Nat}, (∀ i, i < k → R i = R' i ∧ B i = B' i) → mE R B r f k = mE R' B' r f k := by
  intro k
  induction k with
  | zero => intro _; rfl
  | succ k ih =>
    intro h
    unfold mE
    rw [ih (fun i hi => h i (by omega)), (h k (by omega)).1, (h k (by omega)).2]
theorem mended_ok {S : oS} {r f : Int32} {c : Nat} (hc : S.1 100 0 3 = nI c) (h10 : c ≤ 10) : f_X0_mendedBehind r f S = some (mE (S.1 102 0) (S.1 103 0) r f c, S) := by
  unfold f_X0_mendedBehind
  have e : oLp (f_X0_mendedBehind_L6 r f) oFu ((61 : Int32), (0 : Int32), S) = some (mE (S.1 102 0) (S.1 103 0) r f c, S) := by
    refine oLp_eq (fun i => (mE (S.1 102 0) (S.1 103 0) r f i, nI i, S)) _ c (by omega) rfl ?_ ?_
    · intro i hi
      have hin : oIn (nI i) 10 := (nin (by omega)).mpr (by omega)
      have e1 : S.1 102 0 (nI i).toNatClampNeg = S.1 102 0 i := by rw [ncl (by omega)]
      have e2 : S.1 103 0 (nI i).toNatClampNeg = S.1 103 0 i := by rw [ncl (by omega)]
      show (if S.1 100 0 3 ≤ nI i then _ else _) = _
      rw [hc, if_neg (by rw [nI_leI (by omega) (by omega)]; omega), if_pos hin, e1, e2]
      by_cases h1 : S.1 102 0 i = r
      · rw [if_pos h1, if_pos hin]
        by_cases h2 : S.1 103 0 i ≤ f
        · rw [if_pos h2]
          show some (Sum.inl (_, nI i + 1, S)) = some (Sum.inl ((if _ then _ else _), nI (i + 1), S))
          rw [if_neg (fun z => z.2 h2), nI_1]
        · rw [if_neg h2, if_pos hin]
          show some (Sum.inl (_, nI i + 1, S)) = some (Sum.inl ((if _ then _ else _), nI (i + 1), S))
          rw [if_pos ⟨h1, h2⟩, nI_1]
          rfl
      · rw [if_neg h1]
        show some (Sum.inl (_, nI i + 1, S)) = some (Sum.inl ((if _ then _ else _), nI (i + 1), S))
        rw [if_neg (fun z => h1 z.1), nI_1]
    · show (if S.1 100 0 3 ≤ nI c then _ else _) = _
      rw [hc, if_pos (by rw [i_le]; exact Int.le_refl _)]
  rw [e]
  rfl
theorem renewed_ok {S : oS} {r f : Int32} {c : Nat} (hc : S.1 1000 0 46 = nI c) (h10 : c ≤ 10) : f_X9_renewed r f S = some (mE (S.1 1048 0) (S.1 1049 0) r f c, S) := by
  unfold f_X9_renewed
  have e : oLp (f_X9_renewed_L6 r f) oFu ((61 : Int32), (0 : Int32), S) = some (mE (S.1 1048 0) (S.1 1049 0) r f c, S) := by
    refine oLp_eq (fun i => (mE (S.1 1048 0) (S.1 1049 0) r f i, nI i, S)) _ c (by omega) rfl ?_ ?_
    · intro i hi
      have hin : oIn (nI i) 10 := (nin (by omega)).mpr (by omega)
      have e1 : S.1 1048 0 (nI i).toNatClampNeg = S.1 1048 0 i := by rw [ncl (by omega)]
      have e2 : S.1 1049 0 (nI i).toNatClampNeg = S.1 1049 0 i := by rw [ncl (by omega)]
      show (if S.1 1000 0 46 ≤ nI i then _ else _) = _
      rw [hc, if_neg (by rw [nI_leI (by omega) (by omega)]; omega), if_pos hin, e1, e2]
      by_cases h1 : S.1 1048 0 i = r
      · rw [if_pos h1, if_pos hin]
        by_cases h2 : S.1 1049 0 i ≤ f
        · rw [if_pos h2]
          show some (Sum.inl (_, nI i + 1, S)) = some (Sum.inl ((if _ then _ else _), nI (i + 1), S))
          rw [if_neg (fun z => z.2 h2), nI_1]
        · rw [if_neg h2, if_pos hin]
          by_cases h3 : mE (S.1 1048 0) (S.1 1049 0) r f i ≤ S.1 1049 0 i
          · rw [if_pos h3]
            show some (Sum.inl (_, nI i + 1, S)) = some (Sum.inl ((if _ then _ else _), nI (i + 1), S))
            rw [if_pos ⟨h1, h2⟩, if_neg (by rw [i_lt]; rw [i_le] at h3; omega), nI_1]
          · rw [if_neg h3, if_pos hin]
            show some (Sum.inl (_, nI i + 1, S)) = some (Sum.inl ((if _ then _ else _), nI (i + 1), S))
            rw [if_pos ⟨h1, h2⟩, if_pos (by rw [i_lt]; rw [i_le] at h3; omega), nI_1]
      · rw [if_neg h1]
        show some (Sum.inl (_, nI i + 1, S)) = some (Sum.inl ((if _ then _ else _), nI (i + 1), S))
        rw [if_neg (fun z => h1 z.1), nI_1]
    · show (if S.1 1000 0 46 ≤ nI c then _ else _) = _
      rw [hc, if_pos (by rw [i_le]; exact Int.le_refl _)]
  rw [e]
  rfl
theorem mE_nat {R B : Nat → Int32} {r f : Int32} : ∀ {k : Nat}, (∀ i, i < k → rg (B i) 0 60) → ∃ E : Nat, E ≤ 61 ∧ mE R B r f k = nI E := by
  intro k
  induction k with
  | zero => intro _; exact ⟨61, by decide, rfl⟩
  | succ k ih =>
    intro h
    obtain ⟨E, h1, h2⟩ := ih (fun i hi => h i (by omega))
    unfold mE
    by_cases a : R k = r ∧ ¬ B k ≤ f
    · rw [if_pos a]
      by_cases b : B k < mE R B r f k
      · rw [if_pos b]
        obtain ⟨b1, b2⟩ := h k (by omega)
        exact ⟨(B k).toInt.toNat, by omega, i_nat b1⟩
      · rw [if_neg b]; exact ⟨E, h1, h2⟩
    · rw [if_neg a]; exact ⟨E, h1, h2⟩
/-- what a crack or hot spot tells more in week w -/
def gS (N : Nat → Int32) (r : Nat) (tell : Int32) (w : Nat) : Int32 := bI (N (4 * w + r) = tell) - bI (N (4 * w + r) = 1)
theorem gainL_ok {S : oS} {r f E : Nat} {tell : Int32} (hr : r < 4) (hf : f < 61) (hE : E ≤ 61) : oLp (f_X0_gain_L26 (nI r) tell (nI E)) oFu ((0 : Int32), nI f, S) = some (cSum (fun i => gS (S.1 101 0) r tell (f + i)) (E - f), S) := by
  refine oLp_eq (fun i => (cSum (fun i => gS (S.1 101 0) r tell (f + i)) i, nI (f + i), S)) _ (E - f) (by omega) rfl ?_ ?_
  · intro i hi
    show (if nI E ≤ nI (f + i) then _ else _) = _
    rw [if_neg (by rw [nI_leI (by omega) (by omega)]; omega), n4, if_pos ((nin (by omega)).mpr (by omega)), ncl (by omega)]
    have fin : ∀ z y : Int32, z = bI (S.1 101 0 (4 * (f + i) + r) = tell) → y = bI (S.1 101 0 (4 * (f + i) + r) = 1) → f_X0_gain_K76 (nI r) tell (nI E) (nI (f + i)) (cSum (fun i => gS (S.1 101 0) r tell (f + i)) i + z) y S = some (Sum.inl (cSum (fun i => gS (S.1 101 0) r tell (f + i)) (i + 1), nI (f + (i + 1)), S)) := by
      intro z y hz hy
      unfold f_X0_gain_K76
      show some (Sum.inl (_ - y, nI (f + i) + 1, S)) = some (Sum.inl (_ + (_ - _), nI (f + (i + 1)), S))
      rw [nI_1, ← hz, ← hy, Nat.add_assoc]
      congr 3
      grind
    show (if S.1 101 0 (4 * (f + i) + r) = tell then _ else _) = _
    by_cases h1 : S.1 101 0 (4 * (f + i) + r) = tell
    · rw [if_pos h1]
      show (if S.1 101 0 (4 * (f + i) + r) = 1 then _ else _) = _
      by_cases h2 : S.1 101 0 (4 * (f + i) + r) = 1
      · rw [if_pos h2]; exact fin 1 1 (bI_y h1).symm (bI_y h2).symm
      · rw [if_neg h2]; exact fin 1 0 (bI_y h1).symm (bI_n h2).symm
    · rw [if_neg h1]
      show (if S.1 101 0 (4 * (f + i) + r) = 1 then _ else _) = _
      by_cases h2 : S.1 101 0 (4 * (f + i) + r) = 1
      · rw [if_pos h2]; exact fin 0 1 (bI_n h1).symm (bI_y h2).symm
      · rw [if_neg h2]; exact fin 0 0 (bI_n h1).symm (bI_n h2).symm
  · show (if nI E ≤ nI (f + (E - f)) then _ else _) = _
    rw [if_pos (by rw [nI_leI (by omega) (by omega)]; omega)]
