/-! Turns: a gift -/
theorem nPr (n : Nat) : nI (n + 1) - 1 = nI n := by
  rw [← nI_1]
  grind
theorem nPm (n : Nat) : nI (n + 1) + -1 = nI n := by
  rw [← nI_1]
  grind
theorem shL_X {S : oS} {s a b : Nat} {p : Nat → Int32} (x y : Int32) (hs : s ≤ 8) (ha : a < s) (hb : b < s) : oLp (f_X6_giveTurn_L16 x y (nI b)) oFu (nI a, stR 705 S s p) = some (stR 705 S s (fun k => if a ≤ k ∧ k < b then p (k + 1) else p k)) := by
  have go : oLp (f_X6_giveTurn_L16 x y (nI b)) oFu (nI a, stR 705 S s p) = some (stR 705 S s (fun k => if a ≤ k ∧ k < a + (b - a) then p (k + 1) else p k)) := by
    refine oLp_eq (fun i => (nI (a + i), stR 705 S s (fun k => if a ≤ k ∧ k < a + i then p (k + 1) else p k))) _ (b - a) (by omega) ?_ ?_ ?_
    · show (nI a, stR 705 S s p) = (nI (a + 0), stR 705 S s (fun k => if a ≤ k ∧ k < a + 0 then p (k + 1) else p k))
      refine congrArg (fun z => (nI a, z)) (stR_cg (fun k hk => ?_))
      rw [if_neg (by omega)]
    · intro i hi
      have h1 : oIn (nI (a + i) + 1) 8 := by rw [nI_1]; exact (nin (by omega)).mpr (by omega)
      have h2 : oIn (nI (a + i)) 8 := (nin (by omega)).mpr (by omega)
      have e : (stR 705 S s (fun k => if a ≤ k ∧ k < a + i then p (k + 1) else p k)).1 705 0 (nI (a + i) + 1).toNatClampNeg = p (a + i + 1) := by
        rw [nI_1, ncl (by omega), stR_in (by omega), if_neg (by omega)]
      show (if nI b ≤ nI (a + i) then _ else (if oIn (nI (a + i) + 1) 8 then (if oIn (nI (a + i)) 8 then some (Sum.inl (nI (a + i) + 1, oStI (stR 705 S s (fun k => if a ≤ k ∧ k < a + i then p (k + 1) else p k)) 705 0 (nI (a + i)).toNatClampNeg ((stR 705 S s (fun k => if a ≤ k ∧ k < a + i then p (k + 1) else p k)).1 705 0 (nI (a + i) + 1).toNatClampNeg))) else none) else none)) = _
      rw [if_neg (by rw [nI_leI (by omega) (by omega)]; omega), if_pos h1, if_pos h2, e, ncl (by omega), stR_up (by omega), nI_1]
      refine congrArg (fun z => some (Sum.inl (nI (a + i + 1), z))) (stR_cg (fun k hk => ?_))
      grind
    · show (if nI b ≤ nI (a + (b - a)) then _ else _) = _
      rw [if_pos (by rw [nI_leI (by omega) (by omega)]; omega)]
  rw [go]
  refine congrArg some (stR_cg (fun k hk => ?_))
  grind
theorem shR_X {S : oS} {s a b : Nat} {p : Nat → Int32} (x : Int32) (hs : s ≤ 8) (ha : a < s) (hb : b < s) : oLp (f_X6_giveTurn_L48 x (nI b)) oFu (nI a, stR 705 S s p) = some (stR 705 S s (fun k => if b < k ∧ k ≤ a then p (k - 1) else p k)) := by
  have go : oLp (f_X6_giveTurn_L48 x (nI b)) oFu (nI a, stR 705 S s p) = some (stR 705 S s (fun k => if a - (a - b) < k ∧ k ≤ a then p (k - 1) else p k)) := by
    refine oLp_eq (fun i => (nI (a - i), stR 705 S s (fun k => if a - i < k ∧ k ≤ a then p (k - 1) else p k))) _ (a - b) (by omega) ?_ ?_ ?_
    · show (nI a, stR 705 S s p) = (nI (a - 0), stR 705 S s (fun k => if a - 0 < k ∧ k ≤ a then p (k - 1) else p k))
      refine congrArg (fun z => (nI a, z)) (stR_cg (fun k hk => ?_))
      rw [if_neg (by omega)]
    · intro i hi
      obtain ⟨c, hc⟩ : ∃ c, a - i = c + 1 := ⟨a - i - 1, by omega⟩
      have hc' : a - (i + 1) = c := by omega
      have h1 : oIn (nI (c + 1) - 1) 8 := by rw [nPr]; exact (nin (by omega)).mpr (by omega)
      have h2 : oIn (nI (c + 1)) 8 := (nin (by omega)).mpr (by omega)
      have e : (stR 705 S s (fun k => if c + 1 < k ∧ k ≤ a then p (k - 1) else p k)).1 705 0 (nI (c + 1) - 1).toNatClampNeg = p c := by
        rw [nPr, ncl (by omega), stR_in (by omega), if_neg (by omega)]
      show (f_X6_giveTurn_L48 x (nI b)) (nI (a - i), stR 705 S s (fun k => if a - i < k ∧ k ≤ a then p (k - 1) else p k)) = some (Sum.inl (nI (a - (i + 1)), stR 705 S s (fun k => if a - (i + 1) < k ∧ k ≤ a then p (k - 1) else p k)))
      rw [hc, hc']
      show (if nI (c + 1) ≤ nI b then _ else (if oIn (nI (c + 1) - 1) 8 then (if oIn (nI (c + 1)) 8 then some (Sum.inl (nI (c + 1) + -1, oStI (stR 705 S s (fun k => if c + 1 < k ∧ k ≤ a then p (k - 1) else p k)) 705 0 (nI (c + 1)).toNatClampNeg ((stR 705 S s (fun k => if c + 1 < k ∧ k ≤ a then p (k - 1) else p k)).1 705 0 (nI (c + 1) - 1).toNatClampNeg))) else none) else none)) = _
      rw [if_neg (by rw [nI_leI (by omega) (by omega)]; omega), if_pos h1, if_pos h2, e, ncl (by omega), stR_up (by omega), nPm]
      refine congrArg (fun z => some (Sum.inl (nI c, z))) (stR_cg (fun k hk => ?_))
      grind
    · show (if nI (a - (a - b)) ≤ nI b then _ else _) = _
      rw [if_pos (by rw [nI_leI (by omega) (by omega)]; omega)]
  rw [go]
  refine congrArg some (stR_cg (fun k hk => ?_))
  grind
theorem shL_M {S : oS} {s a : Nat} {p : Nat → Int32} (x y : Int32) (hs : s ≤ 8) (ha : a < s) (h36 : S.1 1000 0 36 = nI s) : oLp (f_X9_give_L17 x y) oFu (nI a, stR 1065 S s p) = some (stR 1065 S s (fun k => if a ≤ k ∧ k < s - 1 then p (k + 1) else p k)) := by
  have go : oLp (f_X9_give_L17 x y) oFu (nI a, stR 1065 S s p) = some (stR 1065 S s (fun k => if a ≤ k ∧ k < a + (s - 1 - a) then p (k + 1) else p k)) := by
    refine oLp_eq (fun i => (nI (a + i), stR 1065 S s (fun k => if a ≤ k ∧ k < a + i then p (k + 1) else p k))) _ (s - 1 - a) (by omega) ?_ ?_ ?_
    · show (nI a, stR 1065 S s p) = (nI (a + 0), stR 1065 S s (fun k => if a ≤ k ∧ k < a + 0 then p (k + 1) else p k))
      refine congrArg (fun z => (nI a, z)) (stR_cg (fun k hk => ?_))
      rw [if_neg (by omega)]
    · intro i hi
      have h1 : oIn (nI (a + i) + 1) 8 := by rw [nI_1]; exact (nin (by omega)).mpr (by omega)
      have h2 : oIn (nI (a + i)) 8 := (nin (by omega)).mpr (by omega)
      have e : (stR 1065 S s (fun k => if a ≤ k ∧ k < a + i then p (k + 1) else p k)).1 1065 0 (nI (a + i) + 1).toNatClampNeg = p (a + i + 1) := by
        rw [nI_1, ncl (by omega), stR_in (by omega), if_neg (by omega)]
      show (if S.1 1000 0 36 ≤ nI (a + i) + 1 then _ else (if oIn (nI (a + i) + 1) 8 then (if oIn (nI (a + i)) 8 then some (Sum.inl (nI (a + i) + 1, oStI (stR 1065 S s (fun k => if a ≤ k ∧ k < a + i then p (k + 1) else p k)) 1065 0 (nI (a + i)).toNatClampNeg ((stR 1065 S s (fun k => if a ≤ k ∧ k < a + i then p (k + 1) else p k)).1 1065 0 (nI (a + i) + 1).toNatClampNeg))) else none) else none)) = _
      rw [h36, if_neg (by rw [nI_1, nI_leI (by omega) (by omega)]; omega), if_pos h1, if_pos h2, e, ncl (by omega), stR_up (by omega), nI_1]
      refine congrArg (fun z => some (Sum.inl (nI (a + i + 1), z))) (stR_cg (fun k hk => ?_))
      grind
    · show (if S.1 1000 0 36 ≤ nI (a + (s - 1 - a)) + 1 then _ else _) = _
      rw [h36, if_pos (by rw [nI_1, nI_leI (by omega) (by omega)]; omega)]
  rw [go]
  refine congrArg some (stR_cg (fun k hk => ?_))
  grind
theorem shR_M {S : oS} {s a b : Nat} {p : Nat → Int32} (x : Int32) (hs : s ≤ 8) (ha : a < s) (hb : b < s) : oLp (f_X9_give_L58 x (nI b)) oFu (nI a, stR 1065 S s p) = some (stR 1065 S s (fun k => if b < k ∧ k ≤ a then p (k - 1) else p k)) := by
  have go : oLp (f_X9_give_L58 x (nI b)) oFu (nI a, stR 1065 S s p) = some (stR 1065 S s (fun k => if a - (a - b) < k ∧ k ≤ a then p (k - 1) else p k)) := by
    refine oLp_eq (fun i => (nI (a - i), stR 1065 S s (fun k => if a - i < k ∧ k ≤ a then p (k - 1) else p k))) _ (a - b) (by omega) ?_ ?_ ?_
    · show (nI a, stR 1065 S s p) = (nI (a - 0), stR 1065 S s (fun k => if a - 0 < k ∧ k ≤ a then p (k - 1) else p k))
      refine congrArg (fun z => (nI a, z)) (stR_cg (fun k hk => ?_))
      rw [if_neg (by omega)]
    · intro i hi
      obtain ⟨c, hc⟩ : ∃ c, a - i = c + 1 := ⟨a - i - 1, by omega⟩
      have hc' : a - (i + 1) = c := by omega
      have h1 : oIn (nI (c + 1) - 1) 8 := by rw [nPr]; exact (nin (by omega)).mpr (by omega)
      have h2 : oIn (nI (c + 1)) 8 := (nin (by omega)).mpr (by omega)
      have e : (stR 1065 S s (fun k => if c + 1 < k ∧ k ≤ a then p (k - 1) else p k)).1 1065 0 (nI (c + 1) - 1).toNatClampNeg = p c := by
        rw [nPr, ncl (by omega), stR_in (by omega), if_neg (by omega)]
      show (f_X9_give_L58 x (nI b)) (nI (a - i), stR 1065 S s (fun k => if a - i < k ∧ k ≤ a then p (k - 1) else p k)) = some (Sum.inl (nI (a - (i + 1)), stR 1065 S s (fun k => if a - (i + 1) < k ∧ k ≤ a then p (k - 1) else p k)))
      rw [hc, hc']
      show (if nI (c + 1) ≤ nI b then _ else (if oIn (nI (c + 1) - 1) 8 then (if oIn (nI (c + 1)) 8 then some (Sum.inl (nI (c + 1) + -1, oStI (stR 1065 S s (fun k => if c + 1 < k ∧ k ≤ a then p (k - 1) else p k)) 1065 0 (nI (c + 1)).toNatClampNeg ((stR 1065 S s (fun k => if c + 1 < k ∧ k ≤ a then p (k - 1) else p k)).1 1065 0 (nI (c + 1) - 1).toNatClampNeg))) else none) else none)) = _
      rw [if_neg (by rw [nI_leI (by omega) (by omega)]; omega), if_pos h1, if_pos h2, e, ncl (by omega), stR_up (by omega), nPm]
      refine congrArg (fun z => some (Sum.inl (nI c, z))) (stR_cg (fun k hk => ?_))
      grind
    · show (if nI (a - (a - b)) ≤ nI b then _ else _) = _
      rw [if_pos (by rw [nI_leI (by omega) (by omega)]; omega)]
  rw [go]
  refine congrArg some (stR_cg (fun k hk => ?_))
  grind
theorem give_X {S : oS} {s u v : Nat} {p : Nat → Int32} (hs : s ≤ 8) (h6 : S.1 700 0 6 = nI s) (h : PR s p) (hu : u < s) (hv : v < s) : f_X6_giveTurn (nI u) (nI v) (stR 705 S s p) = some (stR 705 S s (gvR p (plR p (nI u) s) (plR p (nI v) s))) := by
  obtain ⟨a1, a2⟩ := plR_PR h hu
  obtain ⟨b1, b2⟩ := plR_PR h hv
  generalize ha : plR p (nI u) s = a at *
  generalize hb : plR p (nI v) s = b at *
  unfold f_X6_giveTurn
  rw [place_X (nI v) hs h6, Option.bind_some]
  show (f_X6_placeOf (nI u) (stR 705 S s p)).bind _ = _
  rw [place_X (nI u) hs h6, Option.bind_some]
  show (oLp (f_X6_giveTurn_L16 (nI v) (nI (plR p (nI v) s)) (nI (plR p (nI u) s))) oFu (nI (plR p (nI v) s), stR 705 S s p)).bind _ = _
  rw [ha, hb, shL_X _ _ hs b1 a1, Option.bind_some]
  show (oLp (f_X6_giveTurn_L48 (nI v) (nI a)) oFu (nI b, stR 705 S s _)).bind _ = _
  rw [shR_X _ hs b1 a1, Option.bind_some]
  show (if oIn (nI a) 8 then some (oStI (stR 705 S s _) 705 0 (nI a).toNatClampNeg (nI v)) else none) = _
  rw [if_pos ((nin (by omega)).mpr (by omega)), ncl (by omega), stR_up a1]
  refine congrArg some (stR_cg (fun k hk => ?_))
  unfold gvR gvT
  grind
theorem give_M {S : oS} {s u v : Nat} {p : Nat → Int32} (hs : s ≤ 8) (h36 : S.1 1000 0 36 = nI s) (h : PR s p) (hu : u < s) (hv : v < s) : f_X9_give (nI u) (nI v) (stR 1065 S s p) = some (stR 1065 S s (gvR p (plR p (nI u) s) (plR p (nI v) s))) := by
  obtain ⟨a1, a2⟩ := plR_PR h hu
  obtain ⟨b1, b2⟩ := plR_PR h hv
  obtain ⟨c, hc⟩ : ∃ c, s = c + 1 := ⟨s - 1, by omega⟩
  unfold f_X9_give
  rw [place_M hs h hu, Option.bind_some]
  show (f_X9_placeOf (nI v) (stR 1065 S s p)).bind _ = _
  rw [place_M hs h hv, Option.bind_some]
  show (oLp (f_X9_give_L17 (nI v) (nI (plR p (nI u) s))) oFu (nI (plR p (nI v) s), stR 1065 S s p)).bind _ = _
  rw [shL_M _ _ hs b1 h36, Option.bind_some]
  show (oLp (f_X9_give_L58 (nI v) (nI (plR p (nI u) s))) oFu (S.1 1000 0 36 - 1, stR 1065 S s _)).bind _ = _
  rw [h36, show nI s - 1 = nI c by rw [hc, nPr], shR_M _ hs (by omega) a1, Option.bind_some]
  show (if oIn (nI (plR p (nI u) s)) 8 then some (oStI (stR 1065 S s _) 1065 0 (nI (plR p (nI u) s)).toNatClampNeg (nI v)) else none) = _
  rw [if_pos ((nin (by omega)).mpr (by omega)), ncl (by omega), stR_up a1]
  refine congrArg some (stR_cg (fun k hk => ?_))
  unfold gvR gvT
  grind
