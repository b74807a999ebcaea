/-- some loaf of the kind is inside -/
def anyP (S : oS) (a : Int32) (l : Nat) : Prop := ¬ S.1 1027 0 l = -1 ∧ S.1 1026 0 l = a
theorem any_X {S : oS} (hl : iLoa S) {c : Nat} (hc : S.1 400 0 8 = nI c) (h2 : c ≤ 200) (a : Int32) : ∃ r, f_X3_anyInsideOf a S = some (r, S) ∧ ((r = 0 ∧ ∀ l, l < c → ¬ anyP S a l) ∨ (r = 1 ∧ ∃ l, l < c ∧ anyP S a l)) := by
  have e : ∃ r, oLp (f_X3_anyInsideOf_L2 a) oFu ((0 : Int32), S) = some r ∧ ((r = Sum.inl S ∧ ∀ l, l < c → ¬ anyP S a l) ∨ (r = Sum.inr ((1 : Int32), S) ∧ ∃ l, l < c ∧ anyP S a l)) := by
    refine oLp_inv (fun i s => s = (nI i, S) ∧ ∀ l, l < i → ¬ anyP S a l) (fun r => (r = Sum.inl S ∧ ∀ l, l < c → ¬ anyP S a l) ∨ (r = Sum.inr ((1 : Int32), S) ∧ ∃ l, l < c ∧ anyP S a l)) c oFu 0 ((0 : Int32), S) ⟨rfl, fun l h => absurd h (Nat.not_lt_zero _)⟩ (by show c - 0 < 100000; omega) (by omega) ?_ ?_
    · rintro i s hi ⟨rfl, hI⟩
      have hin : oIn (nI i) 200 := (nin (by omega)).mpr (by omega)
      have ek : S.1 403 0 (nI i).toNatClampNeg = S.1 1026 0 i := by rw [ncl (by omega), (hl.2.1 i).1]
      show (∃ s', (if S.1 400 0 8 ≤ nI i then _ else _) = _ ∧ _) ∨ (∃ r, (if S.1 400 0 8 ≤ nI i then _ else _) = _ ∧ _)
      rw [hc, if_neg (by rw [nI_leI (by omega) (by omega)]; omega), out_X hl (by omega), Option.bind_some]
      by_cases g : S.1 1027 0 i = -1
      · refine Or.inl ⟨(nI (i + 1), S), ?_, rfl, fun l h => ?_⟩
        · rw [if_pos g, if10, ← nI_1]
          rfl
        · by_cases hh : l = i
          · subst hh; exact fun z => z.1 g
          · exact hI l (by omega)
      · rw [if_neg g, if00]
        by_cases g2 : S.1 1026 0 i = a
        · refine Or.inr ⟨Sum.inr (1, S), ?_, Or.inr ⟨rfl, i, hi, g, g2⟩⟩
          show (if oIn (nI i) 200 then (if S.1 403 0 (nI i).toNatClampNeg = a then _ else _) else none) = _
          rw [if_pos hin, ek, if_pos g2]
        · refine Or.inl ⟨(nI (i + 1), S), ?_, rfl, fun l h => ?_⟩
          · show (if oIn (nI i) 200 then (if S.1 403 0 (nI i).toNatClampNeg = a then _ else _) else none) = _
            rw [if_pos hin, ek, if_neg g2, ← nI_1]
            rfl
          · by_cases hh : l = i
            · subst hh; exact fun z => g2 z.2
            · exact hI l (by omega)
    · rintro s ⟨rfl, hI⟩
      refine ⟨Sum.inl S, ?_, Or.inl ⟨rfl, hI⟩⟩
      show (if S.1 400 0 8 ≤ nI c then _ else _) = _
      rw [hc, if_pos (by rw [i_le]; exact Int.le_refl _)]
  unfold f_X3_anyInsideOf
  obtain ⟨r, e1, ⟨rfl, h⟩ | ⟨rfl, h⟩⟩ := e
  · exact ⟨0, by rw [e1]; rfl, Or.inl ⟨rfl, h⟩⟩
  · exact ⟨1, by rw [e1]; rfl, Or.inr ⟨rfl, h⟩⟩
theorem any_M {S : oS} {c : Nat} (hc : S.1 1000 0 24 = nI c) (h2 : c ≤ 200) (a v x y : Int32) : ∃ r, oLp (f_X9_second_L36 a v x y) oFu ((0 : Int32), (0 : Int32), S) = some (r, S) ∧ ((r = 0 ∧ ∀ l, l < c → ¬ anyP S a l) ∨ (r = 1 ∧ ∃ l, l < c ∧ anyP S a l)) := by
  have e : ∃ r, oLp (f_X9_second_L36 a v x y) oFu ((0 : Int32), (0 : Int32), S) = some r ∧ r.2 = S ∧ ((r.1 = 0 ∧ ∀ l, l < c → ¬ anyP S a l) ∨ (r.1 = 1 ∧ ∃ l, l < c ∧ anyP S a l)) := by
    refine oLp_all (fun i s => ∃ b, s = (b, nI i, S) ∧ ((b = 0 ∧ ∀ l, l < i → ¬ anyP S a l) ∨ (b = 1 ∧ ∃ l, l < i ∧ anyP S a l))) (fun r : Int32 × oS => r.2 = S ∧ ((r.1 = 0 ∧ ∀ l, l < c → ¬ anyP S a l) ∨ (r.1 = 1 ∧ ∃ l, l < c ∧ anyP S a l))) c (by omega) ⟨0, rfl, Or.inl ⟨rfl, fun l h => absurd h (Nat.not_lt_zero _)⟩⟩ ?_ ?_
    · rintro i s hi ⟨b, rfl, hI⟩
      have hin : oIn (nI i) 200 := (nin (by omega)).mpr (by omega)
      have ek : S.1 1026 0 (nI i).toNatClampNeg = S.1 1026 0 i := by rw [ncl (by omega)]
      show ∃ s', (if S.1 1000 0 24 ≤ nI i then _ else _) = _ ∧ _
      rw [hc, if_neg (by rw [nI_leI (by omega) (by omega)]; omega)]
      rcases hI with ⟨rfl, hI⟩ | ⟨rfl, l, hl, hI⟩
      · rw [if00, isInside_ok (by omega), Option.bind_some]
        by_cases g : S.1 1027 0 i = -1
        · have z : lIn S i = 0 := by unfold lIn; rw [if_pos g]
          refine ⟨((0 : Int32), nI (i + 1), S), ?_, 0, rfl, Or.inl ⟨rfl, fun l h => ?_⟩⟩
          · rw [z, if00, ← nI_1]
            rfl
          · by_cases hh : l = i
            · subst hh; exact fun z => z.1 g
            · exact hI l (by omega)
        · have z : lIn S i = 1 := by unfold lIn; rw [if_neg g]
          rw [z, if10]
          by_cases g2 : S.1 1026 0 i = a
          · refine ⟨((1 : Int32), nI (i + 1), S), ?_, 1, rfl, Or.inr ⟨rfl, i, by omega, g, g2⟩⟩
            show (if oIn (nI i) 200 then (if S.1 1026 0 (nI i).toNatClampNeg = a then _ else _) else none) = _
            rw [if_pos hin, ek, if_pos g2, ← nI_1]
            rfl
          · refine ⟨((0 : Int32), nI (i + 1), S), ?_, 0, rfl, Or.inl ⟨rfl, fun l h => ?_⟩⟩
            · show (if oIn (nI i) 200 then (if S.1 1026 0 (nI i).toNatClampNeg = a then _ else _) else none) = _
              rw [if_pos hin, ek, if_neg g2, ← nI_1]
              rfl
            · by_cases hh : l = i
              · subst hh; exact fun z => g2 z.2
              · exact hI l (by omega)
      · refine ⟨((1 : Int32), nI (i + 1), S), ?_, 1, rfl, Or.inr ⟨rfl, l, by omega, hI⟩⟩
        rw [if10, ← nI_1]
        rfl
    · rintro s ⟨b, rfl, hI⟩
      refine ⟨(b, S), ?_, rfl, hI⟩
      show (if S.1 1000 0 24 ≤ nI c then _ else _) = _
      rw [hc, if_pos (by rw [i_le]; exact Int.le_refl _)]
  obtain ⟨⟨r, S'⟩, e1, e2, e3⟩ := e
  have e2' : S' = S := e2
  subst e2'
  exact ⟨r, e1, e3⟩
theorem sec_spa {S : oS} {k : Nat} {v x y : Int32} (hxy : x ≤ y) (h : iSpa S) : iSpa (oStI (oStI (oStI (oStI (oStI (oStI S 208 0 k v) 209 0 k x) 210 0 k y) 1022 0 k v) 1023 0 k x) 1024 0 k y) := by
  intro i
  obtain ⟨a, b⟩ := h i
  refine ⟨a, ?_⟩
  show (if 1023 = 1023 ∧ 0 = 0 ∧ i = k then x else S.1 1023 0 i).toInt ≤ (if 1024 = 1024 ∧ 0 = 0 ∧ i = k then y else S.1 1024 0 i).toInt
  by_cases g : i = k
  · rw [if_pos ⟨rfl, rfl, g⟩, if_pos ⟨rfl, rfl, g⟩]; exact i_le.mp hxy
  · rw [if_neg (fun z => g z.2.2), if_neg (fun z => g z.2.2)]; exact b
set_option maxHeartbeats 4000000 in
theorem pr_second (n : Nat) (a v x y : Int32) : oPair n (f_X8_second a v x y) (f_X9_second a v x y) := by
  intro S h
  have h0 := h
  obtain ⟨p1, p2, p3, p4, p5, p6, p7⟩ := h.up
  obtain ⟨⟨k1, k1'⟩, k2, k3, k4⟩ := id p3
  by_cases ha : 0 ≤ a ∧ a ≤ S.1 1000 0 13 - 1
  · by_cases hv : (1 : Int32) ≤ v ∧ v ≤ 30
    · by_cases hs : ((0 : Int32) ≤ x ∧ x ≤ 2000) ∧ x ≤ y ∧ y ≤ 2000
      · obtain ⟨k, hk, rfl⟩ := bel_nat k1' ha
        have h8 : k < 8 := by have := k1'.2; omega
        have hin : oIn (nI k) 8 := (nin (by omega)).mpr h8
        have el : (nI k).toNatClampNeg = k := ncl (by omega)
        obtain ⟨c, c1, c2, c3, c4, c5, c6, c7⟩ := lo_facts p3 p4
        obtain ⟨r, x1, x2⟩ := any_X p4 c3 c1 (nI k)
        have w8 : S.1 208 0 k = S.1 1022 0 k := (k2 k).2.2.2.2.2.2.2.1
        have hT : f_X1_hasTwoHeats (nI k) S = some (if S.1 1022 0 k ≤ 0 then 0 else 1, S) := by
          have e : S.1 208 0 (nI k).toNatClampNeg = S.1 1022 0 k := by rw [el, w8]
          unfold f_X1_hasTwoHeats
          rw [if_pos hin, e]
          by_cases g : S.1 1022 0 k ≤ 0
          · rw [if_pos g, if_pos g]
          · rw [if_neg g, if_neg g]
        by_cases g : S.1 1022 0 k ≤ 0
        · have g' : ¬ 0 < S.1 1022 0 k := by rw [i_lt]; rw [i_le] at g; omega
          rcases x2 with ⟨rfl, hx⟩ | ⟨rfl, hx⟩
          · obtain ⟨r', y1, y2⟩ := any_M (S := oStI (oStI (oStI S 208 0 k v) 209 0 k x) 210 0 k y) c2 c1 (nI k) v x y
            have y2' : r' = 0 := by
              rcases y2 with ⟨e, -⟩ | ⟨-, l, hl, hh⟩
              · exact e
              · exact absurd hh (hx l hl)
            subst y2'
            refine ⟨1, oStI (oStI (oStI S 208 0 k v) 209 0 k x) 210 0 k y, oStI (oStI (oStI (oStI (oStI (oStI S 208 0 k v) 209 0 k x) 210 0 k y) 1022 0 k v) 1023 0 k x) 1024 0 k y, ?_, ?_, ⟨p1, ⟨p2.1, p2.2.1, p2.2.2.1, p2.2.2.2.1, sec_spa hs.2.1 p2.2.2.2.2⟩, ?_, p4, p5, p6, p7⟩⟩
            · simp only [f_X8_second, hsK, wX, spX, Option.bind_some, k1, if_pos ha, if_pos hv, if_pos hs, if10, hT, if_pos g, if00, x1, f_X1_giveSecondHeat]
              rw [if_pos hin]
              show (if oIn (nI k) 8 then _ else none).bind _ = _
              rw [if_pos hin]
              show (if oIn (nI k) 8 then _ else none).bind _ = _
              rw [if_pos hin, el]
              rfl
            · have ha' : 0 ≤ nI k ∧ nI k ≤ (oStI (oStI (oStI S 208 0 k v) 209 0 k x) 210 0 k y).1 1000 0 13 - 1 := ha
              simp only [f_X9_second, hsKM, wM, spM, Option.bind_some, if_pos ha', if_pos hv, if_pos hs, if10, y1]
              have e : (oStI (oStI (oStI S 208 0 k v) 209 0 k x) 210 0 k y).1 1022 0 (nI k).toNatClampNeg = S.1 1022 0 k := by rw [el]; rfl
              rw [if_pos hin, e, if_neg g', if_pos trivial, if_pos hin]
              show (if oIn (nI k) 8 then _ else none) = _
              rw [if_pos hin]
              show (if oIn (nI k) 8 then _ else none) = _
              rw [if_pos hin, el]
              rfl
            · refine ⟨⟨k1, k1'⟩, fun i => ?_, fun i hi => ?_, k4⟩
              · obtain ⟨z1, z2, z3, z4, z5, z6, z7, z8, z9, z10⟩ := k2 i
                refine ⟨z1, z2, z3, z4, z5, z6, z7, ?_, ?_, ?_⟩
                · show (if 208 = 208 ∧ 0 = 0 ∧ i = k then v else S.1 208 0 i) = (if 1022 = 1022 ∧ 0 = 0 ∧ i = k then v else S.1 1022 0 i)
                  rw [z8]
                  by_cases hh : i = k <;> simp [hh]
                · show (if 209 = 209 ∧ 0 = 0 ∧ i = k then x else S.1 209 0 i) = (if 1023 = 1023 ∧ 0 = 0 ∧ i = k then x else S.1 1023 0 i)
                  rw [z9]
                  by_cases hh : i = k <;> simp [hh]
                · show (if 210 = 210 ∧ 0 = 0 ∧ i = k then y else S.1 210 0 i) = (if 1024 = 1024 ∧ 0 = 0 ∧ i = k then y else S.1 1024 0 i)
                  rw [z10]
                  by_cases hh : i = k <;> simp [hh]
              · have hi' : (S.1 1000 0 13).toInt ≤ i := hi
                show (if 1022 = 1022 ∧ 0 = 0 ∧ i = k then v else S.1 1022 0 i) = 0
                rw [if_neg (fun z => by have := z.2.2; omega)]
                exact k3 i hi'
          · obtain ⟨r', y1, y2⟩ := any_M (S := S) c2 c1 (nI k) v x y
            have y2' : r' = 1 := by
              rcases y2 with ⟨-, e⟩ | ⟨e, -⟩
              · obtain ⟨l, hl, hh⟩ := hx
                exact absurd hh (e l hl)
              · exact e
            subst y2'
            have e : S.1 1022 0 (nI k).toNatClampNeg = S.1 1022 0 k := by rw [el]
            refine pair_id (r := -3) h0 ?_ ?_
            · simp only [f_X8_second, hsK, wX, spX, Option.bind_some, k1, if_pos ha, if_pos hv, if_pos hs, if10, hT, if_pos g, if00, x1]
              exact ite_self _
            · simp only [f_X9_second, hsKM, wM, spM, Option.bind_some, if_pos ha, if_pos hv, if_pos hs, if10, y1]
              rw [if_pos hin, e, if_neg g']
        · have g' : 0 < S.1 1022 0 k := by rw [i_lt]; rw [i_le] at g; omega
          obtain ⟨r', y1, y2⟩ := any_M (S := S) c2 c1 (nI k) v x y
          have e : S.1 1022 0 (nI k).toNatClampNeg = S.1 1022 0 k := by rw [el]
          refine pair_id (r := -3) h0 ?_ ?_
          · simp only [f_X8_second, hsK, wX, spX, Option.bind_some, k1, if_pos ha, if_pos hv, if_pos hs, if10, hT, if_neg g]
          · simp only [f_X9_second, hsKM, wM, spM, Option.bind_some, if_pos ha, if_pos hv, if_pos hs, if10, y1]
            rw [if_pos hin, e, if_pos g']
      · refine pair_id (r := -2) h0 ?_ ?_
        · simp only [f_X8_second, hsK, wX, spX, Option.bind_some, k1, if_pos ha, if_pos hv, if_neg hs, if10, if_true]
        · simp only [f_X9_second, hsKM, wM, spM, Option.bind_some, if_pos ha, if_pos hv, if_neg hs, if10, if_true]
    · refine pair_id (r := -2) h0 ?_ ?_
      · simp only [f_X8_second, hsK, wX, Option.bind_some, k1, if_pos ha, if_neg hv, if10, if_true]
      · simp only [f_X9_second, hsKM, wM, Option.bind_some, if_pos ha, if_neg hv, if10, if_true]
  · refine pair_id (r := -2) h0 ?_ ?_
    · simp only [f_X8_second, hsK, Option.bind_some, k1, if_neg ha, if_true]
    · simp only [f_X9_second, hsKM, Option.bind_some, if_neg ha, if_true]
