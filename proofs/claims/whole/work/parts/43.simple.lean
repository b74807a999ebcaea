set_option maxHeartbeats 1000000 in
theorem pr_crack (n : Nat) (q v : Int32) : oPair n (f_X8_crack q v) (f_X9_crack q v) := by
  intro S h
  by_cases hq : (0 : Int32) ≤ q ∧ q ≤ 3
  · by_cases hp : (0 : Int32) ≤ v ∧ v ≤ 4
    · obtain ⟨⟨m1, m2, m3, m4⟩, c⟩ := h.up
      have hi : oIn q 4 := rt_in (m := 3) rfl (by decide) hq
      refine ⟨S.1 503 0 q.toNatClampNeg, oStI S 503 0 q.toNatClampNeg v, oStI (oStI S 503 0 q.toNatClampNeg v) 1004 0 q.toNatClampNeg v, ?_, ?_, ⟨⟨m1, m2, st_two (Q := fun x => rg x 0 4) (by decide) m3 (rg_of rfl rfl hp), m4⟩, c⟩⟩
      · unfold f_X8_crack
        rw [rgX, Option.bind_some, wX, Option.bind_some]
        simp only [hq, hp, and_self, if_true, if_pos hi, oLet]
        rfl
      · rw [(m3 _).1]
        unfold f_X9_crack
        rw [rgM, Option.bind_some, wM, Option.bind_some]
        simp only [hq, hp, and_self, if_true, if_pos hi, oLet]
        rfl
    · exact pair_id (r := -2) h (by simp [f_X8_crack, rgX, wX, hq, hp]) (by simp [f_X9_crack, rgM, wM, hq, hp])
  · exact pair_id (r := -2) h (by simp [f_X8_crack, rgX, hq]) (by simp [f_X9_crack, rgM, hq])
set_option maxHeartbeats 1000000 in
theorem pr_slots (n : Nat) (v : Int32) : oPair n (f_X8_slots v) (f_X9_slots v) := by
  intro S h
  by_cases hp : (1 : Int32) ≤ v ∧ v ≤ 8
  · obtain ⟨a, b, c, d, e, ⟨t1, t2, t3, t4, ⟨t5, t6⟩, t7⟩, g⟩ := h.up
    refine ⟨S.1 700 0 9, oStI S 700 0 9 v, oStI (oStI S 700 0 9 v) 1000 0 39 v, ?_, ?_, ⟨a, b, c, d, e, ⟨t1, t2, t3, t4, ⟨rfl, rg_of rfl rfl hp⟩, t7⟩, g⟩⟩
    · simp [f_X8_slots, wX, hp, oLet]
    · rw [t5]
      simp [f_X9_slots, wM, hp, oLet, oStI]
  · exact pair_id (r := -2) h (by simp [f_X8_slots, wX, hp]) (by simp [f_X9_slots, wM, hp])
set_option maxHeartbeats 1000000 in
theorem pr_households (n : Nat) (v : Int32) : oPair n (f_X8_households v) (f_X9_households v) := by
  intro S h
  by_cases hp : (2 : Int32) ≤ v ∧ v ≤ 8
  · obtain ⟨a, b, c, d, e, ⟨t1, ⟨t2, t2'⟩, t3, t4, t5, t6⟩, g⟩ := h.up
    refine ⟨S.1 700 0 6, oStI (oStI S 700 0 6 v) 700 0 5 0, oStI (oStI (oStI (oStI S 700 0 6 v) 700 0 5 0) 1000 0 36 v) 1000 0 40 0, ?_, ?_, ⟨a, b, c, d, e, ⟨⟨rfl, (show rg (0 : Int32) 0 30 from ⟨by decide, by decide⟩)⟩, ⟨rfl, rg_of rfl rfl hp⟩, t3, t4, t5, fun k hk => absurd hk (Int.not_lt.mpr (Int.natCast_nonneg k))⟩, g⟩⟩
    · simp [f_X8_households, wX, hp, oLet]
    · rw [t2]
      simp [f_X9_households, wM, hp, oLet, oStI]
  · exact pair_id (r := -2) h (by simp [f_X8_households, wX, hp]) (by simp [f_X9_households, wM, hp])
theorem bl_of {v : Int32} (h : (0 : Int32) ≤ v ∧ v ≤ 1) : oBl v := by
  rw [i_le, i_le, show (0 : Int32).toInt = 0 from rfl, show (1 : Int32).toInt = 1 from rfl] at h
  by_cases h0 : v.toInt = 0
  · exact Or.inl (i_eq.mpr h0)
  · exact Or.inr (i_eq.mpr (by show v.toInt = 1; omega))
set_option maxHeartbeats 1000000 in
theorem pr_custom (n : Nat) (v w : Int32) : oPair n (f_X8_custom v w) (f_X9_custom v w) := by
  intro S h
  by_cases hp : (0 : Int32) ≤ v ∧ v ≤ 1
  · by_cases hw : (0 : Int32) ≤ w
    · obtain ⟨a, b, c, d, e, ⟨t1, t2, t3, t4, t5, t6⟩, g⟩ := h.up
      refine ⟨1, oStI (oStI S 700 0 7 v) 700 0 8 w, oStI (oStI (oStI (oStI S 700 0 7 v) 700 0 8 w) 1000 0 37 v) 1000 0 38 w, ?_, ?_, ⟨a, b, c, d, e, ⟨t1, t2, ⟨rfl, bl_of hp⟩, ⟨rfl, by rw [i_le] at hw; exact hw⟩, t5, t6⟩, g⟩⟩
      · simp [f_X8_custom, wX, hp, hw, oLet]
      · simp [f_X9_custom, wM, hp, hw, oLet]
    · exact pair_id (r := -2) h (by simp [f_X8_custom, wX, hp, hw]) (by simp [f_X9_custom, wM, hp, hw])
  · exact pair_id (r := -2) h (by simp [f_X8_custom, wX, hp]) (by simp [f_X9_custom, wM, hp])
/-- a count below its bound -/
theorem ct_in {x : Int32} {N : Int} {n : Nat} (h : rg x 0 N) (hx : x.toInt < n) : oIn x n := by
  rw [oIn_rg]
  exact ⟨h.1, hx⟩
theorem ct_up {x : Int32} {N : Int} (h : rg x 0 N) (hx : x.toInt < N) (hN : N ≤ 1000) : (x + 1).toInt = x.toInt + 1 ∧ rg (x + 1) 0 N := by
  have e : (x + 1).toInt = x.toInt + 1 := i_add (by show _ ≤ x.toInt + 1; have := h.1; omega) (by show x.toInt + 1 ≤ _; omega)
  exact ⟨e, by rw [e]; have := h.1; omega, by rw [e]; omega⟩
theorem layLog_ok {S : oS} {j : Nat} {a b : Int32} (h : rg (S.1 500 j 5) 0 30) (hc : (S.1 500 j 5).toInt < 30) : f_X4_layLog j a b S = some (oStI (oStI (oStI S 504 j (S.1 500 j 5).toNatClampNeg a) 505 j (S.1 500 j 5).toNatClampNeg b) 500 j 5 (S.1 500 j 5 + 1)) := by
  unfold f_X4_layLog
  rw [if_neg (by rw [i_le]; show ¬ (30 : Int) ≤ _; omega), if_pos (ct_in (n := 30) h hc)]
  show (if oIn ((oStI S 504 j (S.1 500 j 5).toNatClampNeg a).1 500 j 5) 30 then _ else none) = _
  have e1 : (oStI S 504 j (S.1 500 j 5).toNatClampNeg a).1 500 j 5 = S.1 500 j 5 := by simp [oStI]
  have e2 : (oStI (oStI S 504 j (S.1 500 j 5).toNatClampNeg a) 505 j (S.1 500 j 5).toNatClampNeg b).1 500 j 5 = S.1 500 j 5 := by simp [oStI]
  rw [e1, if_pos (ct_in (n := 30) h hc)]
  simp only [oLet, e1, e2]
theorem log_rows {S : oS} {ta tb i : Nat} {a : Int32} {f : oS → oS} {Q : Int32 → Prop} (h : ∀ k, S.1 ta 0 k = S.1 tb 0 k ∧ Q (S.1 tb 0 k)) (hQ : Q a) (hf : ∀ k, (f S).1 ta 0 k = (if k = i then a else S.1 ta 0 k) ∧ (f S).1 tb 0 k = if k = i then a else S.1 tb 0 k) : ∀ k, (f S).1 ta 0 k = (f S).1 tb 0 k ∧ Q ((f S).1 tb 0 k) := by
  intro k
  rw [(hf k).1, (hf k).2]
  by_cases hk : k = i
  · rw [if_pos hk, if_pos hk]
    exact ⟨rfl, hQ⟩
  · rw [if_neg hk, if_neg hk]
    exact h k
set_option maxHeartbeats 1000000 in
theorem pr_log (n : Nat) (a b : Int32) : oPair n (f_X8_log a b) (f_X9_log a b) := by
  intro S h
  by_cases hp : ((1 : Int32) ≤ a ∧ a ≤ 50) ∧ (0 : Int32) ≤ b ∧ b ≤ 60
  · obtain ⟨⟨m1, m2, m3, m4, ⟨m5, m5'⟩, m6, m7, m8⟩, c⟩ := h.up
    have ra : rg a 0 50 := by
      have := rg_of (m := 1) (n := 50) rfl rfl hp.1
      exact ⟨by have := this.1; omega, this.2⟩
    have rb : rg b 0 60 := rg_of rfl rfl hp.2
    by_cases hc : (S.1 1000 0 5).toInt < 30
    · have hx := layLog_ok (S := S) (j := 0) (a := a) (b := b) (by rw [m5]; exact m5') (by rw [m5]; exact hc)
      rw [m5] at hx
      obtain ⟨e1, e2⟩ := ct_up m5' hc (by decide)
      generalize hi : (S.1 1000 0 5).toNatClampNeg = i at hx
      refine ⟨S.1 1000 0 5 + 1, oStI (oStI (oStI S 504 0 i a) 505 0 i b) 500 0 5 (S.1 1000 0 5 + 1), oStI (oStI (oStI (oStI (oStI (oStI S 504 0 i a) 505 0 i b) 500 0 5 (S.1 1000 0 5 + 1)) 1007 0 i a) 1008 0 i b) 1000 0 5 (S.1 1000 0 5 + 1), ?_, ?_, ⟨⟨m1, m2, m3, m4, ⟨rfl, e2⟩, ?_, ?_, m8⟩, c⟩⟩
      · unfold f_X8_log
        rw [lgX, Option.bind_some, if_pos hp]
        show (if S.1 500 0 5 < 30 then _ else _) = _
        rw [m5, if_pos (by rw [i_lt]; exact hc), hx]
        rfl
      · unfold f_X9_log
        rw [lgM, Option.bind_some, if_pos hp]
        have hne : ¬ S.1 1000 0 5 = 30 := fun z => by rw [z] at hc; exact absurd hc (by decide)
        have hin := ct_in (n := 30) m5' hc
        show (if S.1 1000 0 5 = 30 then _ else _) = _
        rw [if_neg hne]
        show (if oIn (S.1 1000 0 5) 30 then _ else none) = _
        rw [if_pos hin]
        show (if oIn (S.1 1000 0 5) 30 then _ else none) = _
        rw [if_pos hin, ← hi]
        rfl
      · exact log_rows (i := i) (a := a) (f := fun S => oStI (oStI (oStI (oStI (oStI (oStI S 504 0 i a) 505 0 i b) 500 0 5 (S.1 1000 0 5 + 1)) 1007 0 i a) 1008 0 i b) 1000 0 5 (S.1 1000 0 5 + 1)) (Q := fun x => rg x 0 50) m6 ra (fun k => by simp [oStI])
      · exact log_rows (i := i) (a := b) (f := fun S => oStI (oStI (oStI (oStI (oStI (oStI S 504 0 i a) 505 0 i b) 500 0 5 (S.1 1000 0 5 + 1)) 1007 0 i a) 1008 0 i b) 1000 0 5 (S.1 1000 0 5 + 1)) (Q := fun x => rg x 0 60) m7 rb (fun k => by simp [oStI])
    · have h30 : S.1 1000 0 5 = 30 := i_eq.mpr (by show _ = (30 : Int); have := m5'.2; omega)
      refine pair_id (r := -4) h ?_ ?_
      · unfold f_X8_log
        rw [lgX, Option.bind_some, if_pos hp]
        show (if S.1 500 0 5 < 30 then _ else _) = _
        rw [m5, h30]
        rfl
      · unfold f_X9_log
        rw [lgM, Option.bind_some, if_pos hp]
        show (if S.1 1000 0 5 = 30 then _ else _) = _
        rw [if_pos h30]
  · exact pair_id (r := -2) h (by unfold f_X8_log; rw [lgX, Option.bind_some, if_neg hp]; rfl) (by unfold f_X9_log; rw [lgM, Option.bind_some, if_neg hp]; rfl)
