/-- a week's ring as a place of the notes -/
theorem wk_idx {w q : Int32} (hw : (0 : Int32) ≤ w ∧ w ≤ 60) (hq : (0 : Int32) ≤ q ∧ q ≤ 3) : oIn (w * 4 + q) 244 ∧ oIn (4 * w + q) 244 ∧ (4 * w + q) = w * 4 + q := by
  have a := rg_of (m := 0) (n := 60) rfl rfl hw
  have b := rg_of (m := 0) (n := 3) rfl rfl hq
  have e1 : (w * 4).toInt = w.toInt * 4 := i_mul (by show _ ≤ w.toInt * 4; have := a.1; omega) (by show w.toInt * 4 ≤ _; have := a.2; omega)
  have e2 : (4 * w + q) = w * 4 + q := by rw [Int32.mul_comm]
  have e3 : (w * 4 + q).toInt = w.toInt * 4 + q.toInt := by rw [i_add] <;> rw [e1] <;> (have := a.1; have := a.2; have := b.1; have := b.2; omega)
  have e4 : oIn (w * 4 + q) 244 := by
    rw [oIn_rg, e3]
    have := a.1; have := a.2; have := b.1; have := b.2
    omega
  exact ⟨e4, by rw [e2]; exact e4, e2⟩
set_option maxHeartbeats 1000000 in
theorem pr_note (n : Nat) (w q v : Int32) : oPair n (f_X8_note w q v) (f_X9_note w q v) := by
  intro S h
  by_cases hw : (0 : Int32) ≤ w ∧ w ≤ 60
  · by_cases hq : (0 : Int32) ≤ q ∧ q ≤ 3
    · by_cases hv : (0 : Int32) ≤ v ∧ v ≤ 3
      · obtain ⟨a, b, c, d, e, f, ⟨g1, g2⟩⟩ := h.up
        obtain ⟨i1, i2, i3⟩ := wk_idx hw hq
        refine ⟨S.1 101 0 (w * 4 + q).toNatClampNeg, oStI S 101 0 (w * 4 + q).toNatClampNeg v, oStI (oStI S 101 0 (w * 4 + q).toNatClampNeg v) 1046 0 (w * 4 + q).toNatClampNeg v, ?_, ?_, ⟨a, b, c, d, e, f, st_two (Q := fun x => rg x 0 3) (by decide) g1 (rg_of rfl rfl hv), g2⟩⟩
        · unfold f_X8_note
          rw [wkX, Option.bind_some, if_pos hw]
          show (if (1 : Int32) = 0 then _ else _) = _
          rw [if_neg (by decide), rgX, Option.bind_some, if_pos hq]
          show (if (1 : Int32) = 0 then _ else _) = _
          rw [if_neg (by decide), wX, Option.bind_some, if_pos hv]
          show (if (1 : Int32) = 0 then _ else _) = _
          rw [if_neg (by decide), if_pos i1]
          show (if oIn (w * 4 + q) 244 then _ else none) = _
          rw [if_pos i1]
          rfl
        · rw [(g1 _).1]
          unfold f_X9_note
          rw [wkM, Option.bind_some, if_pos hw]
          show (if (1 : Int32) = 0 then _ else _) = _
          rw [if_neg (by decide), rgM, Option.bind_some, if_pos hq]
          show (if (1 : Int32) = 0 then _ else _) = _
          rw [if_neg (by decide), wM, Option.bind_some, if_pos hv]
          show (if (1 : Int32) = 0 then _ else _) = _
          rw [if_neg (by decide), i3, if_pos i1]
          show (if oIn (w * 4 + q) 244 then _ else none) = _
          rw [if_pos i1]
          rfl
      · exact pair_id (r := -2) h (by simp [f_X8_note, wkX, rgX, wX, hw, hq, hv]) (by simp [f_X9_note, wkM, rgM, wM, hw, hq, hv])
    · exact pair_id (r := -2) h (by simp [f_X8_note, wkX, rgX, hw, hq]) (by simp [f_X9_note, wkM, rgM, hw, hq])
  · exact pair_id (r := -2) h (by simp [f_X8_note, wkX, hw]) (by simp [f_X9_note, wkM, hw])
theorem nat_cl {x : Int32} {k : Nat} (h0 : 0 ≤ x.toInt) : (k : Int) < x.toInt + 1 ↔ (k : Int) < x.toInt ∨ k = x.toNatClampNeg := by
  rw [i_clamp]
  omega
theorem nat_ne {x : Int32} {k : Nat} (h : (k : Int) < x.toInt) : k ≠ x.toNatClampNeg := by
  rw [i_clamp]
  omega
set_option maxHeartbeats 1000000 in
theorem pr_bricks (n : Nat) (q w : Int32) : oPair n (f_X8_bricks q w) (f_X9_bricks q w) := by
  intro S h
  by_cases hq : (0 : Int32) ≤ q ∧ q ≤ 3
  · by_cases hw : (0 : Int32) ≤ w ∧ w ≤ 60
    · obtain ⟨a, b, c, d, e, f, ⟨g1, ⟨g2, g3⟩, g4⟩⟩ := h.up
      by_cases hc : (S.1 1000 0 46).toInt < 10
      · obtain ⟨e1, e2⟩ := ct_up g3 hc (by decide)
        have hin := ct_in (n := 10) g3 hc
        generalize hi : (S.1 1000 0 46).toNatClampNeg = i
        refine ⟨S.1 1000 0 46 + 1, oStI (oStI (oStI S 102 0 i q) 103 0 i w) 100 0 3 (S.1 1000 0 46 + 1), oStI (oStI (oStI (oStI (oStI (oStI S 102 0 i q) 103 0 i w) 100 0 3 (S.1 1000 0 46 + 1)) 1048 0 i q) 1049 0 i w) 1000 0 46 (S.1 1000 0 46 + 1), ?_, ?_, ⟨a, b, c, d, e, f, g1, ⟨rfl, e2⟩, ?_⟩⟩
        · unfold f_X8_bricks
          rw [rgX, Option.bind_some, if_pos hq]
          show (if (1 : Int32) = 0 then _ else _) = _
          rw [if_neg (by decide), wkX, Option.bind_some, if_pos hw]
          show (if (1 : Int32) = 0 then _ else _) = _
          rw [if_neg (by decide)]
          show (if S.1 100 0 3 < 10 then _ else _) = _
          rw [g2, if_pos (by rw [i_lt]; exact hc)]
          unfold f_X0_addBricks
          show (((if oIn (S.1 100 0 3) 10 then _ else none) : Option (Int32 × oS)).bind _) = _
          rw [if_pos (by rw [g2]; exact hin)]
          show (((if oIn (S.1 100 0 3) 10 then _ else none) : Option (Int32 × oS)).bind _) = _
          rw [if_pos (by rw [g2]; exact hin), ← hi, ← g2]
          rfl
        · unfold f_X9_bricks
          rw [rgM, Option.bind_some, if_pos hq]
          show (if (1 : Int32) = 0 then _ else _) = _
          rw [if_neg (by decide), wkM, Option.bind_some, if_pos hw]
          show (if (1 : Int32) = 0 then _ else _) = _
          have hne : ¬ S.1 1000 0 46 = 10 := fun z => by rw [z] at hc; exact absurd hc (by decide)
          rw [if_neg (by decide)]
          show (if S.1 1000 0 46 = 10 then _ else _) = _
          rw [if_neg hne]
          show (if oIn (S.1 1000 0 46) 10 then _ else none) = _
          rw [if_pos hin]
          show (if oIn (S.1 1000 0 46) 10 then _ else none) = _
          rw [if_pos hin, ← hi]
          rfl
        · intro k hk
          have hk : (k : Int) < (S.1 1000 0 46 + 1).toInt := hk
          rw [e1, nat_cl g3.1] at hk
          rcases hk with hk | hk
          · have hne := nat_ne hk
            rw [hi] at hne
            have := g4 k hk
            simpa [oStI, hne] using this
          · rw [hi] at hk
            subst hk
            have r1 : rg q 0 3 := rg_of rfl rfl hq
            have r2 : rg w 0 60 := rg_of rfl rfl hw
            simp [oStI, r1, r2]
      · have h10 : S.1 1000 0 46 = 10 := i_eq.mpr (by show _ = (10 : Int); have := g3.2; omega)
        refine pair_id (r := -4) h ?_ ?_
        · simp [f_X8_bricks, rgX, wkX, hq, hw, g2, h10]
        · simp [f_X9_bricks, rgM, wkM, hq, hw, h10]
    · exact pair_id (r := -2) h (by simp [f_X8_bricks, rgX, wkX, hq, hw]) (by simp [f_X9_bricks, rgM, wkM, hq, hw])
  · exact pair_id (r := -2) h (by simp [f_X8_bricks, rgX, hq]) (by simp [f_X9_bricks, rgM, hq])
