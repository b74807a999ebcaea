theorem lgX (a b : Int32) (S : oS) : f_X8_isLog a b S = some (if (1 ≤ a ∧ a ≤ 50) ∧ 0 ≤ b ∧ b ≤ 60 then 1 else 0, S) := by
  unfold f_X8_isLog
  rw [wX]
  by_cases h : (1 : Int32) ≤ a ∧ a ≤ 50 <;> by_cases g : (0 : Int32) ≤ b ∧ b ≤ 60 <;> simp [h, g, wX]
theorem lgM (a b : Int32) (S : oS) : f_X9_isLog a b S = some (if (1 ≤ a ∧ a ≤ 50) ∧ 0 ≤ b ∧ b ≤ 60 then 1 else 0, S) := lgX a b S
theorem spX (a b : Int32) (S : oS) : f_X8_isSpan a b S = some (if (0 ≤ a ∧ a ≤ 2000) ∧ a ≤ b ∧ b ≤ 2000 then 1 else 0, S) := by
  unfold f_X8_isSpan
  rw [wX]
  by_cases h : (0 : Int32) ≤ a ∧ a ≤ 2000 <;> by_cases g : a ≤ b ∧ b ≤ 2000 <;> simp [h, g, wX]
theorem spM (a b : Int32) (S : oS) : f_X9_isSpan a b S = some (if (0 ≤ a ∧ a ≤ 2000) ∧ a ≤ b ∧ b ≤ 2000 then 1 else 0, S) := spX a b S
theorem rg_of {x : Int32} {a b : Int32} {m n : Int} (ha : a.toInt = m) (hb : b.toInt = n) (h : a ≤ x ∧ x ≤ b) : rg x m n := by
  rw [i_le, i_le, ha, hb] at h
  exact h
theorem pair_id {n : Nat} {fx fm : oS → Option (Int32 × oS)} {S : oS} {r : Int32} (h : Inv n S) (hx : fx S = some (r, S)) (hm : fm S = some (r, S)) : ∃ r S1 S2, fx S = some (r, S1) ∧ fm S1 = some (r, S2) ∧ Inv (n + 1) S2 := ⟨r, S, S, hx, hm, h.up⟩
set_option maxHeartbeats 1000000 in
theorem pr_air (n : Nat) (v : Int32) : oPair n (f_X8_air v) (f_X9_air v) := by
  intro S h
  by_cases hp : (0 : Int32) ≤ v ∧ v ≤ 40
  · obtain ⟨⟨⟨a1, a2⟩, b⟩, c⟩ := h.up
    refine ⟨S.1 500 0 7, oStI S 500 0 7 v, oStI (oStI S 500 0 7 v) 1000 0 0 v, ?_, ?_, ⟨⟨⟨rfl, rg_of rfl rfl hp⟩, b⟩, c⟩⟩
    · simp [f_X8_air, wX, hp, oLet]
    · rw [a1]
      simp [f_X9_air, wM, hp, oLet, oStI]
  · exact pair_id (r := -2) h (by simp [f_X8_air, wX, hp]) (by simp [f_X9_air, wM, hp])
set_option maxHeartbeats 1000000 in
theorem pr_fire (n : Nat) (v : Int32) : oPair n (f_X8_fire v) (f_X9_fire v) := by
  intro S h
  by_cases hp : (0 : Int32) ≤ v ∧ v ≤ 2
  · obtain ⟨⟨m1, m2, m3, ⟨a1, a2⟩, b⟩, c⟩ := h.up
    refine ⟨S.1 500 0 6, oStI S 500 0 6 v, oStI (oStI S 500 0 6 v) 1000 0 4 v, ?_, ?_, ⟨⟨m1, m2, m3, ⟨rfl, rg_of rfl rfl hp⟩, b⟩, c⟩⟩
    · simp [f_X8_fire, wX, hp, oLet]
    · rw [a1]
      simp [f_X9_fire, wM, hp, oLet, oStI]
  · exact pair_id (r := -2) h (by simp [f_X8_fire, wX, hp]) (by simp [f_X9_fire, wM, hp])
theorem rt_in {a : Int32} {b : Int32} {n : Nat} {m : Int} (hb : b.toInt = m) (hn : m < n) (h : 0 ≤ a ∧ a ≤ b) : oIn a n := by
  rw [oIn_rg]
  rw [i_le, i_le, hb] at h
  exact ⟨h.1, by omega⟩
/-- one place of two rows that say the same, written alike -/
theorem st_two {S : oS} {ta tb i : Nat} {v : Int32} {Q : Int32 → Prop} (hab : ta ≠ tb) (h : ∀ k, S.1 ta 0 k = S.1 tb 0 k ∧ Q (S.1 tb 0 k)) (hv : Q v) : ∀ k, (oStI (oStI S ta 0 i v) tb 0 i v).1 ta 0 k = (oStI (oStI S ta 0 i v) tb 0 i v).1 tb 0 k ∧ Q ((oStI (oStI S ta 0 i v) tb 0 i v).1 tb 0 k) := by
  intro k
  by_cases hk : k = i
  · subst hk
    simp [oStI, hab, hv]
  · have := h k
    simp [oStI, hk, hab, Ne.symm hab, this.1, this.2]
set_option maxHeartbeats 1000000 in
theorem pr_damp (n : Nat) (q v : Int32) : oPair n (f_X8_damp q v) (f_X9_damp q v) := by
  intro S h
  by_cases hq : (0 : Int32) ≤ q ∧ q ≤ 3
  · by_cases hp : (0 : Int32) ≤ v ∧ v ≤ 1000
    · obtain ⟨⟨m1, m2, m3⟩, c⟩ := h.up
      have hi : oIn q 4 := rt_in (m := 3) rfl (by decide) hq
      refine ⟨S.1 502 0 q.toNatClampNeg, oStI S 502 0 q.toNatClampNeg v, oStI (oStI S 502 0 q.toNatClampNeg v) 1003 0 q.toNatClampNeg v, ?_, ?_, ⟨⟨m1, st_two (Q := fun x => rg x 0 1000) (by decide) m2 (rg_of rfl rfl hp), m3⟩, c⟩⟩
      · unfold f_X8_damp
        rw [rgX, Option.bind_some, wX, Option.bind_some]
        simp only [hq, hp, and_self, if_true, if_pos hi, oLet]
        rfl
      · rw [(m2 _).1]
        unfold f_X9_damp
        rw [rgM, Option.bind_some, wM, Option.bind_some]
        simp only [hq, hp, and_self, if_true, if_pos hi, oLet]
        rfl
    · exact pair_id (r := -2) h (by simp [f_X8_damp, rgX, wX, hq, hp]) (by simp [f_X9_damp, rgM, wM, hq, hp])
  · exact pair_id (r := -2) h (by simp [f_X8_damp, rgX, hq]) (by simp [f_X9_damp, rgM, hq])
