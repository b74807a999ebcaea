/-! The law's loop: call by call -/
theorem law_p {n : Nat} {fx fm : oS → Option (Int32 × oS)} {z : Int32} {S : oS} (hp : oPair n fx fm) (hI : Inv n S) : ∃ s', ((fx S).bind fun zz2 => (fm zz2.2).bind fun zz3 => if zz2.1 = zz3.1 then (oLet (z + 8) fun zx4 => some (Sum.inl (zx4, zz3.2))) else some (Sum.inr (Sum.inr ((0 : Int32), zz3.2)))) = (some (Sum.inl s') : Option ((Int32 × oS) ⊕ (oS ⊕ (Int32 × oS)))) ∧ ∃ S', s' = (z + 8, S') ∧ Inv (n + 1) S' := by
  obtain ⟨r, S1, S2, e1, e2, e3⟩ := hp S hI
  refine ⟨(z + 8, S2), ?_, S2, rfl, e3⟩
  rw [e1, Option.bind_some, e2, Option.bind_some, if_pos rfl, oLet_eq]
theorem law_pL {n : Nat} {fx fm : oS → Option (Int64 × oS)} {z : Int32} {S : oS} (hp : oPairL n fx fm) (hI : Inv n S) : ∃ s', ((fx S).bind fun zz2 => (fm zz2.2).bind fun zz3 => if zz2.1 = zz3.1 then (oLet (z + 8) fun zx4 => some (Sum.inl (zx4, zz3.2))) else some (Sum.inr (Sum.inr ((0 : Int32), zz3.2)))) = (some (Sum.inl s') : Option ((Int32 × oS) ⊕ (oS ⊕ (Int32 × oS)))) ∧ ∃ S', s' = (z + 8, S') ∧ Inv (n + 1) S' := by
  obtain ⟨r, S1, S2, e1, e2, e3⟩ := hp S hI
  refine ⟨(z + 8, S2), ?_, S2, rfl, e3⟩
  rw [e1, Option.bind_some, e2, Option.bind_some, if_pos rfl, oLet_eq]
set_option maxHeartbeats 8000000 in
theorem law_step {r0 : oR} {n : Nat} (hn : n ≤ 4096) {z : Int32} {S : oS} (hI : Inv n S) (hz : ¬ (Int32.ofNat (oSl r0 5) - 8) < z) (z0 : oIn z (oSl r0 5)) (z1 : oIn (z + 1) (oSl r0 5)) (z2 : oIn (z + 2) (oSl r0 5)) (z3 : oIn (z + 3) (oSl r0 5)) (z4 : oIn (z + 4) (oSl r0 5)) (z5 : oIn (z + 5) (oSl r0 5)) (z6 : oIn (z + 6) (oSl r0 5)) (z7 : oIn (z + 7) (oSl r0 5)) : ∃ s', f_L_law_L18 r0 (z, S) = some (Sum.inl s') ∧ ∃ S', s' = (z + 8, S') ∧ Inv (n + 1) S' := by
  unfold f_L_law_L18
  show ∃ s', (if (Int32.ofNat (oSl r0 5) - 8) < z then _ else (if oIn z (oSl r0 5) then oLet (oSv r0 5 z.toNatClampNeg &&& 63) _ else none)) = _ ∧ _
  rw [if_neg hz, if_pos z0, oLet_eq]
  generalize oSv r0 5 z.toNatClampNeg &&& 63 = x
  by_cases h0 : x = 0
  · rw [if_pos h0]
    simp only [if_pos z1]
    exact law_p (pr_air n _) hI
  rw [if_neg h0]
  by_cases h1 : x = 1
  · rw [if_pos h1]
    simp only [if_pos z1, if_pos z2]
    exact law_p (pr_damp n _ _) hI
  rw [if_neg h1]
  by_cases h2 : x = 2
  · rw [if_pos h2]
    simp only [if_pos z1, if_pos z2]
    exact law_p (pr_crack n _ _) hI
  rw [if_neg h2]
  by_cases h3 : x = 3
  · rw [if_pos h3]
    simp only [if_pos z1]
    exact law_p (pr_fire n _) hI
  rw [if_neg h3]
  by_cases h4 : x = 4
  · rw [if_pos h4]
    simp only [if_pos z1, if_pos z2]
    exact law_p (pr_log n _ _) hI
  rw [if_neg h4]
  by_cases h5 : x = 5
  · rw [if_pos h5]
    simp only [if_pos z1]
    exact law_p (pr_ticks n hn _) hI
  rw [if_neg h5]
  by_cases h6 : x = 6
  · rw [if_pos h6]
    simp only [if_pos z1, if_pos z2, if_pos z3]
    exact law_pL (pr_heat n _ _ _) hI
  rw [if_neg h6]
  by_cases h7 : x = 7
  · rw [if_pos h7]
    simp only [if_pos z1]
    exact law_pL (pr_sum n _) hI
  rw [if_neg h7]
  by_cases h8 : x = 8
  · rw [if_pos h8]
    by_cases q : oSv r0 5 (Int32.toNatClampNeg (z + 2)) = 0
    · unfold f_L_law_K439 f_L_law_K488
      simp only [if_pos z1, if_pos z2, if_pos z3, if_pos z4, if_pos z5, if_pos z6, if_pos z7, if_pos q]
      exact law_p (pr_kind n _ 0 _ _ _ _ _ (Or.inl rfl)) hI
    · unfold f_L_law_K439 f_L_law_K488
      simp only [if_pos z1, if_pos z2, if_pos z3, if_pos z4, if_pos z5, if_pos z6, if_pos z7, if_neg q]
      exact law_p (pr_kind n _ 1 _ _ _ _ _ (Or.inr rfl)) hI
  rw [if_neg h8]
  by_cases h9 : x = 9
  · rw [if_pos h9]
    simp only [if_pos z1, if_pos z2, if_pos z3, if_pos z4]
    exact law_p (pr_second n _ _ _ _) hI
  rw [if_neg h9]
  by_cases h10 : x = 10
  · rw [if_pos h10]
    simp only [if_pos z1, if_pos z2]
    exact law_p (pr_put n _ _) hI
  rw [if_neg h10]
  by_cases h11 : x = 11
  · rw [if_pos h11]
    simp only [if_pos z1, if_pos z2]
    exact law_p (pr_move n _ _) hI
  rw [if_neg h11]
  by_cases h12 : x = 12
  · rw [if_pos h12]
    simp only [if_pos z1]
    exact law_p (pr_take n _) hI
  rw [if_neg h12]
  by_cases h13 : x = 13
  · rw [if_pos h13]
    simp only [if_pos z1, if_pos z2]
    exact law_p (pr_loaf n _ _) hI
  rw [if_neg h13]
  by_cases h14 : x = 14
  · rw [if_pos h14]
    simp only [if_pos z1]
    exact law_p (pr_room n _) hI
  rw [if_neg h14]
  by_cases h15 : x = 15
  · rw [if_pos h15]
    simp only [if_pos z1]
    exact law_p (pr_order n _) hI
  rw [if_neg h15]
  by_cases h16 : x = 16
  · rw [if_pos h16]
    simp only [if_pos z1]
    exact law_p (pr_opening n _) hI
  rw [if_neg h16]
  by_cases h17 : x = 17
  · rw [if_pos h17]
    exact law_p (pr_clear n) hI
  rw [if_neg h17]
  by_cases h18 : x = 18
  · rw [if_pos h18]
    exact law_p (pr_plan n hn) hI
  rw [if_neg h18]
  by_cases h19 : x = 19
  · rw [if_pos h19]
    simp only [if_pos z1, if_pos z2]
    exact law_p (pr_planned n hn _ _) hI
  rw [if_neg h19]
  by_cases h20 : x = 20
  · rw [if_pos h20]
    simp only [if_pos z1]
    exact law_p (pr_last n hn _) hI
  rw [if_neg h20]
  by_cases h21 : x = 21
  · rw [if_pos h21]
    simp only [if_pos z1, if_pos z2, if_pos z3, if_pos z4, if_pos z5]
    exact law_p (pr_wood n hn _ _ _ _ _) hI
  rw [if_neg h21]
  by_cases h22 : x = 22
  · rw [if_pos h22]
    simp only [if_pos z1]
    exact law_p (pr_households n _) hI
  rw [if_neg h22]
  by_cases h23 : x = 23
  · rw [if_pos h23]
    simp only [if_pos z1, if_pos z2]
    exact law_p (pr_custom n _ _) hI
  rw [if_neg h23]
  by_cases h24 : x = 24
  · rw [if_pos h24]
    by_cases q : oSv r0 5 (Int32.toNatClampNeg (z + 4)) = 0
    · unfold f_L_law_K997 f_L_law_K1029
      simp only [if_pos z1, if_pos z2, if_pos z3, if_pos z4, if_pos q]
      exact law_p (pr_told n _ _ _ 0 (Or.inl rfl)) hI
    · unfold f_L_law_K997 f_L_law_K1029
      simp only [if_pos z1, if_pos z2, if_pos z3, if_pos z4, if_neg q]
      exact law_p (pr_told n _ _ _ 1 (Or.inr rfl)) hI
  rw [if_neg h24]
  by_cases h25 : x = 25
  · rw [if_pos h25]
    simp only [if_pos z1]
    exact law_p (pr_slots n _) hI
  rw [if_neg h25]
  by_cases h26 : x = 26
  · rw [if_pos h26]
    simp only [if_pos z1, if_pos z2]
    exact law_p (pr_at n _ _) hI
  rw [if_neg h26]
  by_cases h27 : x = 27
  · rw [if_pos h27]
    simp only [if_pos z1, if_pos z2, if_pos z3, if_pos z4]
    exact law_p (pr_waits n _ _ _ _) hI
  rw [if_neg h27]
  by_cases h28 : x = 28
  · rw [if_pos h28]
    simp only [if_pos z1, if_pos z2, if_pos z3]
    exact law_p (pr_note n _ _ _) hI
  rw [if_neg h28]
  by_cases h29 : x = 29
  · rw [if_pos h29]
    simp only [if_pos z1]
    exact law_p (pr_lose n _) hI
  rw [if_neg h29]
  by_cases h30 : x = 30
  · rw [if_pos h30]
    simp only [if_pos z1, if_pos z2]
    exact law_p (pr_bricks n _ _) hI
  rw [if_neg h30]
  by_cases h31 : x = 31
  · rw [if_pos h31]
    simp only [if_pos z1]
    exact law_p (pr_best n _) hI
  rw [if_neg h31]
  by_cases h32 : x = 32
  · rw [if_pos h32]
    simp only [if_pos z1, if_pos z2, if_pos z3]
    exact law_p (pr_explains n _ _ _) hI
  rw [if_neg h32]
  by_cases h33 : x = 33
  · rw [if_pos h33]
    simp only [if_pos z1]
    exact law_p (pr_count n _) hI
  rw [if_neg h33]
  exact ⟨(z + 8, S), by rw [oLet_eq], S, rfl, hI.up⟩
