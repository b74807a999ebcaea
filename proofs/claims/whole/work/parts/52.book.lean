/-- what a note should say by an explanation -/
def dueS (s : Int32) (r f E : Nat) (k : Nat) : Int32 := if (0 < s.toInt ∧ k % 4 = r ∧ f ≤ k / 4 ∧ k / 4 < E) then (if s = 1 then 3 else 2) else 1
def exS (N : Nat → Int32) (s : Int32) (r f E k : Nat) : Int32 := bI (N k = dueS s r f E k)
set_option maxHeartbeats 1000000 in
theorem expl_in {S : oS} {s : Int32} {r f E m : Nat} (c : Int32) (hr : r < 4) (hf : f < 61) (hE : E ≤ 61) (hm : m < 61) : oLp (f_X9_explained_L24 s (nI r) (nI f) (nI E) (nI m)) oFu (c, (0 : Int32), S) = some (c + cSum (fun i => exS (S.1 1046 0) s r f E (4 * m + i)) 4, S) := by
  refine oLp_eq (fun i => (c + cSum (fun i => exS (S.1 1046 0) s r f E (4 * m + i)) i, nI i, S)) _ 4 (by decide) (by show (c, (0 : Int32), S) = (c + 0, nI 0, S); rw [Int32.add_zero]; rfl) ?_ rfl
  intro i hi
  have e1 : S.1 1046 0 (4 * nI m + nI i).toNatClampNeg = S.1 1046 0 (4 * m + i) := by rw [n4', ncl (by omega)]
  have hin : oIn (4 * nI m + nI i) 244 := by rw [n4']; exact (nin (by omega)).mpr (by omega)
  have hd1 : (4 * m + i) % 4 = i := by omega
  have hd2 : (4 * m + i) / 4 = m := by omega
  have fin79 : ∀ d : Int32, dueS s r f E (4 * m + i) = d → f_X9_explained_K79 s (nI r) (nI f) (c + cSum (fun i => exS (S.1 1046 0) s r f E (4 * m + i)) i) (nI E) (nI m) (nI i) d S = some (Sum.inl (c + cSum (fun i => exS (S.1 1046 0) s r f E (4 * m + i)) (i + 1), nI (i + 1), S)) := by
    intro d hd
    unfold f_X9_explained_K79
    rw [if_pos hin, e1]
    have nx : ∀ b : Int32, b = bI (S.1 1046 0 (4 * m + i) = d) → f_X9_explained_K105 s (nI r) (nI f) (nI E) (nI m) (nI i) (c + cSum (fun i => exS (S.1 1046 0) s r f E (4 * m + i)) i) b S = some (Sum.inl (c + cSum (fun i => exS (S.1 1046 0) s r f E (4 * m + i)) (i + 1), nI (i + 1), S)) := by
      intro b hb
      unfold f_X9_explained_K105
      show some (Sum.inl (_ + b, nI i + 1, S)) = some (Sum.inl (c + (_ + bI (S.1 1046 0 (4 * m + i) = dueS s r f E (4 * m + i))), nI (i + 1), S))
      rw [nI_1, hd, ← hb, Int32.add_assoc]
    by_cases h : S.1 1046 0 (4 * m + i) = d
    · rw [if_pos h]; exact nx 1 (bI_y h).symm
    · rw [if_neg h]; exact nx 0 (bI_n h).symm
  have no : ¬ (0 < s.toInt ∧ i = r ∧ f ≤ m ∧ m < E) → f_X9_explained_K57 s (nI r) (nI f) (c + cSum (fun i => exS (S.1 1046 0) s r f E (4 * m + i)) i) (nI E) (nI m) (nI i) S = some (Sum.inl (c + cSum (fun i => exS (S.1 1046 0) s r f E (4 * m + i)) (i + 1), nI (i + 1), S)) := by
    intro hn
    unfold f_X9_explained_K57 f_X9_explained_K58
    rw [if_pos rfl]
    exact fin79 1 (by unfold dueS; rw [hd1, hd2, if_neg hn])
  show (if (4 : Int32) ≤ nI i then _ else _) = _
  rw [if_neg (by rw [nle (m := 4) rfl (by omega)]; omega)]
  by_cases h1 : s ≤ 0
  · rw [if_pos h1]
    exact no (fun z => by rw [i_le] at h1; have h1 : s.toInt ≤ 0 := h1; omega)
  · rw [if_neg h1]
    by_cases h2 : i = r
    · rw [if_pos (by rw [h2])]
      by_cases h3 : m < f
      · rw [if_pos ((nI_ltI (by omega) (by omega)).mpr h3)]
        exact no (by omega)
      · rw [if_neg (fun z => h3 ((nI_ltI (by omega) (by omega)).mp z))]
        by_cases h4 : E ≤ m
        · rw [if_pos ((nI_leI (by omega) (by omega)).mpr h4)]
          exact no (by omega)
        · rw [if_neg (fun z => h4 ((nI_leI (by omega) (by omega)).mp z))]
          have hy : 0 < s.toInt ∧ i = r ∧ f ≤ m ∧ m < E := ⟨by rw [i_le] at h1; have h1 : ¬ s.toInt ≤ 0 := h1; omega, h2, by omega, by omega⟩
          unfold f_X9_explained_K58
          rw [if_neg (by decide)]
          by_cases h5 : s = 1
          · rw [if_pos h5]
            exact fin79 3 (by unfold dueS; rw [hd1, hd2, if_pos hy, if_pos h5])
          · rw [if_neg h5]
            exact fin79 2 (by unfold dueS; rw [hd1, hd2, if_pos hy, if_neg h5])
    · rw [if_neg (fun z => h2 ((nI_eq (by omega) (by omega)).mp z))]
      exact no (by omega)
theorem cSum_4 (g : Nat → Int32) (m : Nat) : cSum g (4 * m) + cSum (fun i => g (4 * m + i)) 4 = cSum g (4 * (m + 1)) := by
  show cSum g (4 * m) + (0 + g (4 * m + 0) + g (4 * m + 1) + g (4 * m + 2) + g (4 * m + 3)) = cSum g (4 * m) + g (4 * m) + g (4 * m + 1) + g (4 * m + 2) + g (4 * m + 3)
  rw [Nat.add_zero]
  grind
theorem expl_ok {S : oS} {s : Int32} {r f E c : Nat} (hr : r < 4) (hf : f < 61) (hc : S.1 1000 0 46 = nI c) (h10 : c ≤ 10) (hE : E ≤ 61) (hme : mE (S.1 1048 0) (S.1 1049 0) (nI r) (nI f) c = nI E) : f_X9_explained s (nI r) (nI f) S = some (cSum (exS (S.1 1046 0) s r f E) 244, S) := by
  unfold f_X9_explained
  rw [renewed_ok hc h10, hme]
  have e : oLp (f_X9_explained_L14 s (nI r) (nI f) (nI E)) oFu ((0 : Int32), (0 : Int32), S) = some (cSum (exS (S.1 1046 0) s r f E) 244, S) := by
    refine oLp_eq (fun i => (cSum (exS (S.1 1046 0) s r f E) (4 * i), nI i, S)) _ 61 (by decide) rfl ?_ rfl
    intro i hi
    show (if (61 : Int32) ≤ nI i then _ else _) = _
    rw [if_neg (by rw [nle (m := 61) rfl (by omega)]; omega), expl_in _ hr hf hE hi]
    show some (Sum.inl (_, nI i + 1, S)) = _
    rw [nI_1, cSum_4]
  show (oLp (f_X9_explained_L14 s (nI r) (nI f) (nI E)) oFu ((0 : Int32), (0 : Int32), S)).bind _ = _
  rw [e]
  rfl
/-- the sum over all notes, and the gain over the weeks -/
theorem ex_gain {N : Nat → Int32} {s : Int32} {r f E : Nat} (hs : 0 < s.toInt) (hr : r < 4) : ∀ W : Nat, cSum (exS N s r f E) (4 * W) = cSum (wellS N) (4 * W) + cSum (fun i => gS N r (if s = 1 then 3 else 2) (f + i)) (min W E - f) := by
  intro W
  induction W with
  | zero =>
    rw [show min 0 E - f = 0 by omega]
    rfl
  | succ W ih =>
    rw [← cSum_4, ← cSum_4, ih]
    have ev : ∀ i, i < 4 → exS N s r f E (4 * W + i) = if i = r ∧ f ≤ W ∧ W < E then bI (N (4 * W + i) = if s = 1 then 3 else 2) else wellS N (4 * W + i) := by
      intro i hi
      unfold exS dueS
      rw [show (4 * W + i) % 4 = i by omega, show (4 * W + i) / 4 = W by omega]
      by_cases h : i = r ∧ f ≤ W ∧ W < E
      · rw [if_pos ⟨hs, h⟩, if_pos h]
      · rw [if_neg (fun z => h z.2), if_neg h]
        rfl
    show _ + _ + (0 + exS N s r f E (4 * W + 0) + exS N s r f E (4 * W + 1) + exS N s r f E (4 * W + 2) + exS N s r f E (4 * W + 3)) = _ + (0 + wellS N (4 * W + 0) + wellS N (4 * W + 1) + wellS N (4 * W + 2) + wellS N (4 * W + 3)) + _
    rw [ev 0 (by omega), ev 1 (by omega), ev 2 (by omega), ev 3 (by omega)]
    by_cases h : f ≤ W ∧ W < E
    · rw [show min (W + 1) E - f = (min W E - f) + 1 by omega]
      show _ = _ + (_ + gS N r (if s = 1 then 3 else 2) (f + (min W E - f)))
      rw [show f + (min W E - f) = W by omega]
      unfold gS
      have hw : ∀ i, wellS N (4 * W + i) = bI (N (4 * W + i) = 1) := fun _ => rfl
      have hrr : r = 0 ∨ r = 1 ∨ r = 2 ∨ r = 3 := by omega
      rcases hrr with rfl | rfl | rfl | rfl <;> simp only [h, and_self, and_true, if_true, if_false, false_and, Nat.reduceEqDiff, reduceCtorEq] <;> simp only [hw] <;> grind
    · have hn : ∀ i, ¬ (i = r ∧ f ≤ W ∧ W < E) := fun i z => h z.2
      rw [show min (W + 1) E - f = min W E - f by omega, if_neg (hn 0), if_neg (hn 1), if_neg (hn 2), if_neg (hn 3)]
      grind
