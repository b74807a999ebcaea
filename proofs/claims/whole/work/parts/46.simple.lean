/-- the first tick that a new opening may have -/
def oFF (S : oS) : Int32 := if S.1 1000 0 34 = 0 then 0 else S.1 1036 0 (S.1 1000 0 34 - 1).toNatClampNeg + 1
theorem pred_in {x : Int32} {N : Int} (h : rg x 0 N) (hx : ¬ x = 0) (hN : N ≤ 1000) : (x - 1).toInt = x.toInt - 1 ∧ 0 ≤ (x - 1).toInt ∧ (x - 1).toInt < N ∧ 0 < x.toInt := by
  have h0 : ¬ x.toInt = 0 := fun z => hx (i_eq.mpr z)
  have e : (x - 1).toInt = x.toInt - 1 := i_sub (by show _ ≤ x.toInt - 1; have := h.1; omega) (by show x.toInt - 1 ≤ _; have := h.2; omega)
  have := h.1
  have := h.2
  exact ⟨e, by omega, by omega, by omega⟩
theorem ff_X {S : oS} (h : iPla S) : f_X5_firstFreeTick S = some (oFF S, S) := by
  obtain ⟨-, ⟨t2, t2'⟩, -, t4, -⟩ := h
  unfold f_X5_firstFreeTick oFF
  rw [t2]
  by_cases hz : S.1 1000 0 34 = 0
  · rw [if_pos hz, if_pos hz]
  · obtain ⟨e1, e2, e3, e4⟩ := pred_in t2' hz (by decide)
    rw [if_neg hz, if_neg hz, if_pos (by rw [oIn_rg]; exact ⟨e2, e3⟩)]
    have := (t4 (S.1 1000 0 34 - 1).toNatClampNeg (by rw [i_clamp]; omega)).1
    rw [this]
theorem ff_rg {S : oS} (h : iPla S) : rg (oFF S) 0 41 ∧ ∀ k : Nat, (k : Int) < (S.1 1000 0 34).toInt → (S.1 1036 0 k).toInt < (oFF S).toInt := by
  obtain ⟨-, ⟨t2, t2'⟩, -, t4, t5, -⟩ := h
  unfold oFF
  by_cases hz : S.1 1000 0 34 = 0
  · rw [if_pos hz]
    exact ⟨⟨by decide, by decide⟩, fun k hk => by rw [hz] at hk; exact absurd hk (Int.not_lt.mpr (Int.natCast_nonneg k))⟩
  · obtain ⟨e1, e2, e3, e4⟩ := pred_in t2' hz (by decide)
    rw [if_neg hz]
    have hcl : (((S.1 1000 0 34 - 1).toNatClampNeg : Nat) : Int) = (S.1 1000 0 34).toInt - 1 := by rw [i_clamp]; omega
    have r := (t4 (S.1 1000 0 34 - 1).toNatClampNeg (by omega)).2
    have e5 : (S.1 1036 0 (S.1 1000 0 34 - 1).toNatClampNeg + 1).toInt = (S.1 1036 0 (S.1 1000 0 34 - 1).toNatClampNeg).toInt + 1 := i_add (by show _ ≤ _ + (1 : Int); have := r.1; omega) (by show _ + (1 : Int) ≤ _; have := r.2; omega)
    refine ⟨⟨by rw [e5]; have := r.1; omega, by rw [e5]; have := r.2; omega⟩, ?_⟩
    have mono : ∀ d k : Nat, (k : Int) + d = (S.1 1000 0 34).toInt - 1 → (S.1 1036 0 k).toInt ≤ (S.1 1036 0 (S.1 1000 0 34 - 1).toNatClampNeg).toInt := by
      intro d
      induction d with
      | zero =>
        intro k hk
        have : k = (S.1 1000 0 34 - 1).toNatClampNeg := by omega
        rw [← this]
        exact Int.le_refl _
      | succ d ih =>
        intro k hk
        have a := ih (k + 1) (by omega)
        have b := t5 k (by omega)
        omega
    intro k hk
    have := mono ((S.1 1000 0 34).toInt - 1 - k).toNat k (by omega)
    omega
set_option maxHeartbeats 1000000 in
theorem mo_open {S T : oS} {t : Int32} (h : iPla S) (e1 : T.1 1000 0 34 = S.1 1000 0 34) (e2 : T.1 1036 0 = S.1 1036 0) : f_X9_opening t T = f_X9_opening_K25 t t (oFF S) T := by
  obtain ⟨-, ⟨t2, t2'⟩, -, t4, -⟩ := h
  unfold f_X9_opening oFF
  rw [e1, e2]
  by_cases hz : S.1 1000 0 34 = 0
  · rw [if_pos hz, if_pos hz]
  · obtain ⟨q1, q2, q3, q4⟩ := pred_in t2' hz (by decide)
    rw [if_neg hz, if_neg hz, if_pos (by rw [oIn_rg]; exact ⟨q2, by omega⟩)]
set_option maxHeartbeats 1000000 in
theorem pr_opening (n : Nat) (t : Int32) : oPair n (f_X8_opening t) (f_X9_opening t) := by
  intro S h
  have h0 := h
  obtain ⟨p1, p2, p3, p4, p5, p6⟩ := h.up
  have hF := ff_rg p5
  by_cases ht : oFF S ≤ t ∧ t ≤ 40
  · obtain ⟨t1, ⟨t2, t2'⟩, t3, t4, t5, t6⟩ := id p5
    by_cases hc : (S.1 1000 0 34).toInt < 3
    · obtain ⟨e1, e2⟩ := ct_up t2' hc (by decide)
      have hin := ct_in (n := 3) t2' hc
      have hin4 := ct_in (n := 4) t2' (by omega : (S.1 1000 0 34).toInt < (4 : Nat))
      generalize hi : (S.1 1000 0 34).toNatClampNeg = i
      have hiI : (i : Int) = (S.1 1000 0 34).toInt := by rw [← hi, i_clamp]; have := t2'.1; omega
      have hti : (oFF S).toInt ≤ t.toInt ∧ t.toInt ≤ 40 := by rw [i_le, i_le] at ht; exact ht
      have hfi : (i : Int) ≤ (oFF S).toInt := by
        by_cases hz : S.1 1000 0 34 = 0
        · rw [hz] at hiI
          have := hF.1.1
          have : (0 : Int32).toInt = 0 := rfl
          omega
        · obtain ⟨q1, q2, q3, q4⟩ := pred_in t2' hz (by decide)
          have a := hF.2 (i - 1) (by omega)
          have b := (t4 (i - 1) (by omega)).2.1
          omega
      refine ⟨S.1 1000 0 34 + 1, oStI (oStI S 605 0 i t) 600 0 11 (S.1 1000 0 34 + 1), oStI (oStI (oStI (oStI S 605 0 i t) 600 0 11 (S.1 1000 0 34 + 1)) 1036 0 i t) 1000 0 34 (S.1 1000 0 34 + 1), ?_, ?_, ⟨p1, p2, p3, p4, ⟨t1, ⟨rfl, e2⟩, t3, ?_, ?_, t6⟩, p6⟩⟩
      · simp only [f_X8_opening, ff_X p5, Option.bind_some, wX, if_pos ht, if10]
        rw [t2, if_pos (by rw [i_lt]; exact hc)]
        unfold f_X5_addOpening
        rw [if_pos (by rw [t2]; exact hin), ← hi, ← t2]
        rfl
      · rw [mo_open p5 (t := t) (T := oStI (oStI S 605 0 i t) 600 0 11 (S.1 1000 0 34 + 1)) rfl rfl]
        simp only [f_X9_opening_K25, wM, Option.bind_some, if_pos ht, if10]
        show (if S.1 1000 0 34 = 3 then _ else _) = _
        rw [if_neg (not30 (m := 3) rfl hc)]
        show (if oIn (S.1 1000 0 34) 4 then _ else none) = _
        rw [if_pos hin4, ← hi]
        rfl
      · intro k hk
        have hk : (k : Int) < (S.1 1000 0 34 + 1).toInt := hk
        rw [e1, nat_cl t2'.1] at hk
        rcases hk with hk | hk
        · have hne := nat_ne hk
          rw [hi] at hne
          have := t4 k hk
          simpa [oStI, hne] using this
        · rw [hi] at hk
          subst hk
          have r : rg t k 40 := ⟨by omega, hti.2⟩
          simp [oStI, r]
      · intro k hk
        have hk : (k : Int) + 1 < (S.1 1000 0 34 + 1).toInt := hk
        rw [e1] at hk
        by_cases hk1 : k + 1 = i
        · have hne : ¬ k = i := by omega
          have a := hF.2 k (by omega)
          have : (S.1 1036 0 k).toInt < t.toInt := by omega
          simpa [oStI, hne, hk1] using this
        · have hne : ¬ k = i := by omega
          have := t5 k (by omega)
          simpa [oStI, hne, hk1] using this
    · have h3 := at_cap (c := 3) (m := 3) rfl t2' (by decide) hc
      refine pair_id (r := -4) h0 ?_ ?_
      · simp only [f_X8_opening, ff_X p5, Option.bind_some, wX, if_pos ht, if10, t2, h3]
        rfl
      · rw [mo_open p5 rfl rfl]
        simp only [f_X9_opening_K25, wM, Option.bind_some, if_pos ht, if10, if_pos h3]
  · refine pair_id (r := -2) h0 ?_ ?_
    · simp only [f_X8_opening, ff_X p5, Option.bind_some, wX, if_neg ht, if00, if_true]
    · rw [mo_open p5 rfl rfl]
      simp only [f_X9_opening_K25, wM, Option.bind_some, if_neg ht, if00, if_true]
