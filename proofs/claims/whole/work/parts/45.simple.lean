theorem hsK (a : Int32) (S : oS) : f_X1_has a S = some (if 0 ≤ a ∧ a ≤ S.1 200 0 10 - 1 then 1 else 0, S) := by
  unfold f_X1_has
  rw [wX, Option.bind_some]
  by_cases h : 0 ≤ a ∧ a ≤ S.1 200 0 10 - 1 <;> simp [h]
theorem hsKM (a : Int32) (S : oS) : f_X9_isKind a S = some (if 0 ≤ a ∧ a ≤ S.1 1000 0 13 - 1 then 1 else 0, S) := by
  unfold f_X9_isKind
  rw [wM, Option.bind_some]
  by_cases h : 0 ≤ a ∧ a ≤ S.1 1000 0 13 - 1 <;> simp [h]
theorem hsT (a : Int32) (S : oS) : f_X6_has a S = some (if 0 ≤ a ∧ a ≤ S.1 700 0 6 - 1 then 1 else 0, S) := by
  unfold f_X6_has
  rw [wX, Option.bind_some]
  by_cases h : 0 ≤ a ∧ a ≤ S.1 700 0 6 - 1 <;> simp [h]
theorem hsTM (a : Int32) (S : oS) : f_X9_isHouse a S = some (if 0 ≤ a ∧ a ≤ S.1 1000 0 36 - 1 then 1 else 0, S) := by
  unfold f_X9_isHouse
  rw [wM, Option.bind_some]
  by_cases h : 0 ≤ a ∧ a ≤ S.1 1000 0 36 - 1 <;> simp [h]
theorem hsL (a : Int32) (S : oS) : f_X3_has a S = some (if 0 ≤ a ∧ a ≤ S.1 400 0 8 - 1 then 1 else 0, S) := by
  unfold f_X3_has
  rw [wX, Option.bind_some]
  by_cases h : 0 ≤ a ∧ a ≤ S.1 400 0 8 - 1 <;> simp [h]
theorem hsLM (a : Int32) (S : oS) : f_X9_isLoaf a S = some (if 0 ≤ a ∧ a ≤ S.1 1000 0 24 - 1 then 1 else 0, S) := by
  unfold f_X9_isLoaf
  rw [wM, Option.bind_some]
  by_cases h : 0 ≤ a ∧ a ≤ S.1 1000 0 24 - 1 <;> simp [h]
theorem bel {a s : Int32} {N : Int} (hs : rg s 0 N) (h : 0 ≤ a ∧ a ≤ s - 1) : 0 ≤ a.toInt ∧ a.toInt < s.toInt := by
  have := hs.1
  have b := i_bd s
  have e : (s - 1).toInt = s.toInt - 1 := i_sub (by show _ ≤ s.toInt - 1; omega) (by show s.toInt - 1 ≤ _; omega)
  rw [i_le, i_le, e] at h
  exact ⟨h.1, by omega⟩
theorem not30 {x : Int32} {c : Int32} {m : Int} (hc : c.toInt = m) (h : x.toInt < m) : ¬ x = c := fun z => by rw [z, hc] at h; exact absurd h (Int.lt_irrefl _)
theorem at_cap {x : Int32} {c : Int32} {N m : Int} (hc : c.toInt = m) (h : rg x 0 N) (hN : N ≤ m) (hx : ¬ x.toInt < m) : x = c := i_eq.mpr (by rw [hc]; have := h.2; omega)
theorem if10 {α : Type} {a b : α} : (if (1 : Int32) = 0 then a else b) = b := if_neg (by decide)
theorem if00 {α : Type} {a b : α} : (if (0 : Int32) = 0 then a else b) = a := if_pos rfl
set_option maxHeartbeats 1000000 in
theorem pr_told (n : Nat) (w a b g : Int32) (hg : oBl g) : oPair n (f_X8_told w a b g) (f_X9_told w a b g) := by
  intro S h
  have h0 := h
  obtain ⟨p1, p2, p3, p4, p5, ⟨⟨t1, t1'⟩, ⟨t2, t2'⟩, t3, t4, t5, t6⟩, p7⟩ := h.up
  by_cases hw : (0 : Int32) ≤ w ∧ w ≤ 60
  · by_cases ha : 0 ≤ a ∧ a ≤ S.1 1000 0 36 - 1
    · by_cases hb : 0 ≤ b ∧ b ≤ S.1 1000 0 36 - 1
      · by_cases hab : a = b
        · refine pair_id (r := -2) h0 ?_ ?_
          · simp only [f_X8_told, wkX, hsT, Option.bind_some, if_pos hw, t2, if_pos ha, if_pos hb, if10, if_pos hab]
          · simp only [f_X9_told, wkM, hsTM, Option.bind_some, if_pos hw, if_pos ha, if_pos hb, if10, if_pos hab]
        · by_cases hc : (S.1 1000 0 40).toInt < 30
          · obtain ⟨e1, e2⟩ := ct_up t1' hc (by decide)
            have hin := ct_in (n := 30) t1' hc
            generalize hi : (S.1 1000 0 40).toNatClampNeg = i
            refine ⟨1, oStI (oStI (oStI (oStI (oStI S 701 0 i w) 702 0 i a) 703 0 i b) 704 0 i g) 700 0 5 (S.1 1000 0 40 + 1), oStI (oStI (oStI (oStI (oStI (oStI (oStI (oStI (oStI (oStI S 701 0 i w) 702 0 i a) 703 0 i b) 704 0 i g) 700 0 5 (S.1 1000 0 40 + 1)) 1042 0 i w) 1043 0 i a) 1044 0 i b) 1045 0 i g) 1000 0 40 (S.1 1000 0 40 + 1), ?_, ?_, ⟨p1, p2, p3, p4, p5, ⟨⟨rfl, e2⟩, ⟨t2, t2'⟩, t3, t4, t5, ?_⟩, p7⟩⟩
            · simp only [f_X8_told, wkX, hsT, Option.bind_some, if_pos hw, t2, if_pos ha, if_pos hb, if10, if_neg hab]
              rw [t1, if_pos (by rw [i_lt]; exact hc)]
              have hin' : oIn (S.1 700 0 5) 30 := by rw [t1]; exact hin
              unfold f_X6_addTold
              rw [if_pos hin']
              show ((if oIn (S.1 700 0 5) 30 then _ else none : Option oS).bind _) = _
              rw [if_pos hin']
              show ((if oIn (S.1 700 0 5) 30 then _ else none : Option oS).bind _) = _
              rw [if_pos hin']
              show ((if oIn (S.1 700 0 5) 30 then _ else none : Option oS).bind _) = _
              rw [if_pos hin', if_pos hg, ← hi, ← t1]
              rfl
            · simp only [f_X9_told, wkM, hsTM, Option.bind_some, if_pos hw]
              have ha' : 0 ≤ a ∧ a ≤ (oStI (oStI (oStI (oStI (oStI S 701 0 i w) 702 0 i a) 703 0 i b) 704 0 i g) 700 0 5 (S.1 1000 0 40 + 1)).1 1000 0 36 - 1 := ha
              have hb' : 0 ≤ b ∧ b ≤ (oStI (oStI (oStI (oStI (oStI S 701 0 i w) 702 0 i a) 703 0 i b) 704 0 i g) 700 0 5 (S.1 1000 0 40 + 1)).1 1000 0 36 - 1 := hb
              simp only [if_pos ha', if_pos hb', if10, if_neg hab]
              show (if S.1 1000 0 40 = 30 then _ else _) = _
              rw [if_neg (not30 (m := 30) rfl hc)]
              show (if oIn (S.1 1000 0 40) 30 then _ else none) = _
              rw [if_pos hin]
              show (if oIn (S.1 1000 0 40) 30 then _ else none) = _
              rw [if_pos hin]
              show (if oIn (S.1 1000 0 40) 30 then _ else none) = _
              rw [if_pos hin]
              show (if oIn (S.1 1000 0 40) 30 then _ else none) = _
              rw [if_pos hin, if_pos hg, ← hi]
              rfl
            · intro k hk
              have hk : (k : Int) < (S.1 1000 0 40 + 1).toInt := hk
              rw [e1, nat_cl t1'.1] at hk
              rcases hk with hk | hk
              · have hne := nat_ne hk
                rw [hi] at hne
                have := t6 k hk
                simpa [oStI, hne] using this
              · rw [hi] at hk
                subst hk
                have r0 : rg (S.1 1000 0 36) 0 8 := ⟨by have := t2'.1; omega, t2'.2⟩
                have r1 := bel r0 ha
                have r2 := bel r0 hb
                simp [oStI, r1, r2, hab, hg]
          · have h30 := at_cap (c := 30) (m := 30) rfl t1' (by decide) hc
            refine pair_id (r := -4) h0 ?_ ?_
            · simp only [f_X8_told, wkX, hsT, Option.bind_some, if_pos hw, t2, if_pos ha, if_pos hb, if10, if_neg hab, t1, h30]
              rfl
            · simp only [f_X9_told, wkM, hsTM, Option.bind_some, if_pos hw, if_pos ha, if_pos hb, if10, if_neg hab, if_pos h30]
      · refine pair_id (r := -2) h0 ?_ ?_
        · simp only [f_X8_told, wkX, hsT, Option.bind_some, if_pos hw, t2, if_pos ha, if_neg hb, if10, if00, if_true]
        · simp only [f_X9_told, wkM, hsTM, Option.bind_some, if_pos hw, if_pos ha, if_neg hb, if10, if00, if_true]
    · refine pair_id (r := -2) h0 ?_ ?_
      · simp only [f_X8_told, wkX, hsT, Option.bind_some, if_pos hw, t2, if_neg ha, if10, if00, if_true]
      · simp only [f_X9_told, wkM, hsTM, Option.bind_some, if_pos hw, if_neg ha, if10, if00, if_true]
  · refine pair_id (r := -2) h0 ?_ ?_
    · simp only [f_X8_told, wkX, Option.bind_some, if_neg hw, if00, if_true]
    · simp only [f_X9_told, wkM, Option.bind_some, if_neg hw, if00, if_true]
set_option maxHeartbeats 1000000 in
theorem pr_clear (n : Nat) : oPair n f_X8_clear f_X9_clear := by
  intro S h
  obtain ⟨p1, p2, p3, p4, ⟨⟨t1, t1'⟩, t2, t3, t4, t5, t6⟩, p6⟩ := h.up
  refine ⟨S.1 1000 0 32, oStI (oStI S 600 0 10 0) 600 0 11 0, oStI (oStI (oStI (oStI S 600 0 10 0) 600 0 11 0) 1000 0 32 0) 1000 0 34 0, ?_, rfl, ⟨p1, p2, p3, p4, ⟨⟨rfl, (show rg (0 : Int32) 0 4 from ⟨by decide, by decide⟩)⟩, ⟨rfl, (show rg (0 : Int32) 0 3 from ⟨by decide, by decide⟩)⟩, fun k hk => absurd hk (Int.not_lt.mpr (Int.natCast_nonneg k)), fun k hk => absurd hk (Int.not_lt.mpr (Int.natCast_nonneg k)), fun k hk => absurd hk (Int.not_lt.mpr (by show (0 : Int) ≤ (k : Int) + 1; omega)), t6⟩, p6⟩⟩
  rw [← t1]
  rfl
set_option maxHeartbeats 1000000 in
theorem pr_order (n : Nat) (a : Int32) : oPair n (f_X8_order a) (f_X9_order a) := by
  intro S h
  have h0 := h
  obtain ⟨p1, p2, ⟨⟨k1, k1'⟩, k2⟩, p4, ⟨⟨t1, t1'⟩, t2, t3, t4⟩, p6⟩ := h.up
  by_cases ha : 0 ≤ a ∧ a ≤ S.1 1000 0 13 - 1
  · by_cases hc : (S.1 1000 0 32).toInt < 4
    · obtain ⟨e1, e2⟩ := ct_up t1' hc (by decide)
      have hin := ct_in (n := 4) t1' hc
      generalize hi : (S.1 1000 0 32).toNatClampNeg = i
      refine ⟨S.1 1000 0 32 + 1 - 1, oStI (oStI S 604 0 i a) 600 0 10 (S.1 1000 0 32 + 1), oStI (oStI (oStI (oStI S 604 0 i a) 600 0 10 (S.1 1000 0 32 + 1)) 1034 0 i a) 1000 0 32 (S.1 1000 0 32 + 1), ?_, ?_, ⟨p1, p2, ⟨⟨k1, k1'⟩, k2⟩, p4, ⟨⟨rfl, e2⟩, t2, ?_, t4⟩, p6⟩⟩
      · simp only [f_X8_order, hsK, Option.bind_some, k1, if_pos ha, if10]
        rw [t1, if_pos (by rw [i_lt]; exact hc)]
        unfold f_X5_addOrder
        rw [if_pos (by rw [t1]; exact hin), ← hi, ← t1]
        rfl
      · simp only [f_X9_order, hsKM, Option.bind_some]
        have ha' : 0 ≤ a ∧ a ≤ (oStI (oStI S 604 0 i a) 600 0 10 (S.1 1000 0 32 + 1)).1 1000 0 13 - 1 := ha
        simp only [if_pos ha', if10]
        show (if S.1 1000 0 32 = 4 then _ else _) = _
        rw [if_neg (not30 (m := 4) rfl hc)]
        show (if oIn (S.1 1000 0 32) 4 then _ else none) = _
        rw [if_pos hin, ← hi]
        rfl
      · intro k hk
        have hk : (k : Int) < (S.1 1000 0 32 + 1).toInt := hk
        rw [e1, nat_cl t1'.1] at hk
        rcases hk with hk | hk
        · have hne := nat_ne hk
          rw [hi] at hne
          have := t3 k hk
          simpa [oStI, hne] using this
        · rw [hi] at hk
          subst hk
          have r1 := bel k1' ha
          simp [oStI, r1]
    · have h4 := at_cap (c := 4) (m := 4) rfl t1' (by decide) hc
      refine pair_id (r := -4) h0 ?_ ?_
      · simp only [f_X8_order, hsK, Option.bind_some, k1, if_pos ha, if10, t1, h4]
        rfl
      · simp only [f_X9_order, hsKM, Option.bind_some, if_pos ha, if10, if_pos h4]
  · refine pair_id (r := -2) h0 ?_ ?_
    · simp only [f_X8_order, hsK, Option.bind_some, k1, if_neg ha, if00, if_true]
    · simp only [f_X9_order, hsKM, Option.bind_some, if_neg ha, if00, if_true]
