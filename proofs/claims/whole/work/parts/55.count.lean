/-- a count as a natural number -/
theorem rg_nat {x : Int32} {N : Int} (h : rg x 0 N) : ∃ k : Nat, (k : Int) ≤ N ∧ x = nI k ∧ x.toInt = k := ⟨x.toInt.toNat, by have := h.1; have := h.2; omega, i_nat h.1, by have := h.1; omega⟩
theorem isInside_ok {S : oS} {i : Nat} (hi : i < 200) : f_X9_isInside (nI i) S = some (lIn S i, S) := by
  unfold f_X9_isInside lIn
  rw [if_pos ((nin (by omega)).mpr hi)]
  have e : S.1 1027 0 (nI i).toNatClampNeg = S.1 1027 0 i := by rw [ncl (by omega)]
  rw [e]
  by_cases h : S.1 1027 0 i = -1
  · rw [if_pos h, if_pos h]
  · rw [if_neg h, if_neg h]
theorem inside_ok {S : oS} {c : Nat} (hc : S.1 1000 0 24 = nI c) (h2 : c ≤ 200) : f_X9_inside S = some (cSum (lIn S) c, S) := by
  unfold f_X9_inside
  have e : oLp f_X9_inside_L4 oFu ((0 : Int32), (0 : Int32), S) = some (cSum (lIn S) c, S) := by
    refine oLp_eq (fun i => (cSum (lIn S) i, nI i, S)) _ c (by omega) rfl ?_ ?_
    · intro i hi
      show (if S.1 1000 0 24 ≤ nI i then _ else _) = _
      rw [hc, if_neg (by rw [nI_leI (by omega) (by omega)]; omega), isInside_ok (by omega)]
      show (if lIn S i = 0 then f_X9_inside_K26 (nI i) (cSum (lIn S) i) 0 S else f_X9_inside_K26 (nI i) (cSum (lIn S) i) 1 S) = some (Sum.inl (cSum (lIn S) i + lIn S i, nI (i + 1), S))
      unfold f_X9_inside_K26 lIn
      by_cases h : S.1 1027 0 i = -1
      · rw [if_pos h, if_pos rfl]
        show some (Sum.inl (_, nI i + 1, S)) = _
        rw [nI_1]
      · rw [if_neg h, if_neg (by decide)]
        show some (Sum.inl (_, nI i + 1, S)) = _
        rw [nI_1]
    · show (if S.1 1000 0 24 ≤ nI c then _ else _) = _
      rw [hc, if_pos (by rw [i_le]; exact Int.le_refl _)]
  rw [e]
  rfl
/-- the reference's count of loaves inside is the class's counter -/
theorem inside_eq {S : oS} (h : iLoa S) : f_X9_inside S = some (S.1 400 0 9, S) := by
  obtain ⟨⟨a1, a2⟩, -, -, -, ⟨e1, e2⟩, -⟩ := h
  obtain ⟨c, c1, c2, c3⟩ := rg_nat a2
  rw [inside_ok c2 (by omega), e1, c3]
  rfl
theorem countM7 {S : oS} (hN : ∀ k, 0 ≤ (S.1 1046 0 k).toInt) : oLp f_X9_count_L89 oFu ((0 : Int32), (0 : Int32), S) = some (cSum (knownS (S.1 1046 0)) 244, S) := by
  refine oLp_eq (fun i => (cSum (knownS (S.1 1046 0)) (4 * i), nI i, S)) _ 61 (by decide) rfl ?_ rfl
  intro i hi
  show (if (61 : Int32) ≤ nI i then _ else _) = _
  rw [if_neg (by rw [nle (m := 61) rfl (by omega)]; omega), notesOf_ok S hN i hi]
  show some (Sum.inl (_ + _, nI i + 1, S)) = _
  rw [nI_1, cSum_4]
theorem pr_count (n : Nat) (w : Int32) : oPair n (f_X8_count w) (f_X9_count w) := by
  intro S h
  have h0 := h
  obtain ⟨⟨m1, m2, m3, m4, ⟨m5, -⟩, m6⟩, ⟨d1, -⟩, ⟨⟨k1, -⟩, -⟩, p4, ⟨⟨q1, -⟩, ⟨q2, -⟩, -⟩, ⟨⟨t1, -⟩, -⟩, p7⟩ := h
  have p4' := p4
  obtain ⟨-, -, g1, -⟩ := p4'
  unfold f_X8_count f_X9_count
  by_cases w0 : w = 0
  · exact pair_id (fx := f_X8_count w) (fm := f_X9_count w) (r := S.1 1000 0 5) h0 (by unfold f_X8_count; rw [if_pos w0, m5]) (by unfold f_X9_count; rw [if_pos w0])
  by_cases w1 : w = 1
  · exact pair_id (fx := f_X8_count w) (fm := f_X9_count w) (r := S.1 400 0 9) h0 (by unfold f_X8_count; rw [if_neg w0, if_pos w1]) (by unfold f_X9_count; rw [if_neg w0, if_pos w1, inside_eq p4]; rfl)
  by_cases w2 : w = 2
  · exact pair_id (fx := f_X8_count w) (fm := f_X9_count w) (r := S.1 1000 0 13) h0 (by unfold f_X8_count; rw [if_neg w0, if_neg w1, if_pos w2, k1]) (by unfold f_X9_count; rw [if_neg w0, if_neg w1, if_pos w2])
  by_cases w3 : w = 3
  · exact pair_id (fx := f_X8_count w) (fm := f_X9_count w) (r := S.1 1000 0 32) h0 (by unfold f_X8_count; rw [if_neg w0, if_neg w1, if_neg w2, if_pos w3, q1]) (by unfold f_X9_count; rw [if_neg w0, if_neg w1, if_neg w2, if_pos w3])
  by_cases w4 : w = 4
  · exact pair_id (fx := f_X8_count w) (fm := f_X9_count w) (r := S.1 1000 0 34) h0 (by unfold f_X8_count; rw [if_neg w0, if_neg w1, if_neg w2, if_neg w3, if_pos w4, q2]) (by unfold f_X9_count; rw [if_neg w0, if_neg w1, if_neg w2, if_neg w3, if_pos w4])
  by_cases w5 : w = 5
  · exact pair_id (fx := f_X8_count w) (fm := f_X9_count w) (r := S.1 1000 0 11) h0 (by unfold f_X8_count; rw [if_neg w0, if_neg w1, if_neg w2, if_neg w3, if_neg w4, if_pos w5, d1]) (by unfold f_X9_count; rw [if_neg w0, if_neg w1, if_neg w2, if_neg w3, if_neg w4, if_pos w5])
  by_cases w6 : w = 6
  · exact pair_id (fx := f_X8_count w) (fm := f_X9_count w) (r := S.1 1000 0 31) h0 (by unfold f_X8_count; rw [if_neg w0, if_neg w1, if_neg w2, if_neg w3, if_neg w4, if_neg w5, if_pos w6, g1]) (by unfold f_X9_count; rw [if_neg w0, if_neg w1, if_neg w2, if_neg w3, if_neg w4, if_neg w5, if_pos w6])
  by_cases w7 : w = 7
  · exact pair_id (fx := f_X8_count w) (fm := f_X9_count w) (r := cSum (knownS (S.1 1046 0)) 244) h0 (by unfold f_X8_count; rw [if_neg w0, if_neg w1, if_neg w2, if_neg w3, if_neg w4, if_neg w5, if_neg w6, if_pos w7, known_ok, notes_eq p7]; rfl) (by unfold f_X9_count; rw [if_neg w0, if_neg w1, if_neg w2, if_neg w3, if_neg w4, if_neg w5, if_neg w6, if_pos w7, countM7 (fun k => (p7.1 k).2.1)]; rfl)
  by_cases w8 : w = 8
  · exact pair_id (fx := f_X8_count w) (fm := f_X9_count w) (r := S.1 1000 0 40) h0 (by unfold f_X8_count; rw [if_neg w0, if_neg w1, if_neg w2, if_neg w3, if_neg w4, if_neg w5, if_neg w6, if_neg w7, if_pos w8, t1]) (by unfold f_X9_count; rw [if_neg w0, if_neg w1, if_neg w2, if_neg w3, if_neg w4, if_neg w5, if_neg w6, if_neg w7, if_pos w8])
  · exact pair_id (fx := f_X8_count w) (fm := f_X9_count w) (r := -2) h0 (by unfold f_X8_count; rw [if_neg w0, if_neg w1, if_neg w2, if_neg w3, if_neg w4, if_neg w5, if_neg w6, if_neg w7, if_neg w8]) (by unfold f_X9_count; rw [if_neg w0, if_neg w1, if_neg w2, if_neg w3, if_neg w4, if_neg w5, if_neg w6, if_neg w7, if_neg w8])
