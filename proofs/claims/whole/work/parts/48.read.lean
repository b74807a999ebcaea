/-! counters -/
theorem nT {i : Nat} (h : i < 2147483648) : (nI i).toInt = i := nI_toInt h
theorem nle {c : Int32} {m i : Nat} (hc : c.toInt = m) (hi : i < 2147483648) : c ≤ nI i ↔ m ≤ i := by
  rw [i_le, hc, nT hi]
  omega
theorem nlt {c : Int32} {m i : Nat} (hc : c.toInt = m) (hi : i < 2147483648) : nI i < c ↔ i < m := by
  rw [i_lt, hc, nT hi]
  omega
theorem nin {i n : Nat} (hi : i < 2147483648) : oIn (nI i) n ↔ i < n := by
  rw [oIn_rg, nT hi]
  omega
theorem ncl {i : Nat} (hi : i < 2147483648) : (nI i).toNatClampNeg = i := nI_clamp hi
def lSum (f : Nat → Int64) : Nat → Int64
  | 0 => 0
  | k + 1 => lSum f k + f k
theorem lSum_cg {f g : Nat → Int64} : ∀ {n : Nat}, (∀ k, k < n → f k = g k) → lSum f n = lSum g n := by
  intro n
  induction n with
  | zero => intro _; rfl
  | succ n ih =>
    intro h
    show lSum f n + f n = lSum g n + g n
    rw [ih (fun k hk => h k (by omega)), h n (by omega)]
theorem held_ok (j : Nat) (S : oS) : f_X4_held j S = some (lSum (S.2 501 j) 12, S) := by
  unfold f_X4_held
  have e : oLp (f_X4_held_L4 j) oFu ((0 : Int64), (0 : Int32), S) = some (lSum (S.2 501 j) 12, S) := by
    refine oLp_eq (fun i => (lSum (S.2 501 j) i, nI i, S)) (lSum (S.2 501 j) 12, S) 12 (by decide) rfl ?_ rfl
    intro i hi
    show (if (12 : Int32) ≤ nI i then _ else _) = _
    rw [if_neg (by rw [nle (m := 12) rfl (by omega)]; omega), if_pos ((nin (by omega)).mpr hi), ncl (by omega)]
    show some (Sum.inl (_, nI i + 1, S)) = _
    rw [nI_1]
    rfl
  rw [e]
  rfl
theorem sumM_ok (S : oS) : oLp f_X9_sum_L44 oFu ((0 : Int64), (0 : Int32), S) = some (lSum (S.2 1002 0) 12, S) := by
  refine oLp_eq (fun i => (lSum (S.2 1002 0) i, nI i, S)) (lSum (S.2 1002 0) 12, S) 12 (by decide) rfl ?_ rfl
  intro i hi
  show (if (12 : Int32) ≤ nI i then _ else _) = _
  rw [if_neg (by rw [nle (m := 12) rfl (by omega)]; omega), if_pos ((nin (by omega)).mpr hi), ncl (by omega)]
  show some (Sum.inl (_, nI i + 1, S)) = _
  rw [nI_1]
  rfl
theorem pairL_id {n : Nat} {fx fm : oS → Option (Int64 × oS)} {S : oS} {r : Int64} (h : Inv n S) (hx : fx S = some (r, S)) (hm : fm S = some (r, S)) : ∃ r S1 S2, fx S = some (r, S1) ∧ fm S1 = some (r, S2) ∧ Inv (n + 1) S2 := ⟨r, S, S, hx, hm, h.up⟩
theorem pr_sum (n : Nat) (w : Int32) : oPairL n (f_X8_sum w) (f_X9_sum w) := by
  intro S h
  have h0 := h
  obtain ⟨⟨m1, m2, m3, m4, m5, m6, m7, m8, m9, m10, m11⟩, ⟨d1, d2, d3, d4⟩, p3⟩ := h
  by_cases w0 : w = 0
  · refine pairL_id (r := S.2 1000 0 8) h0 ?_ ?_
    · unfold f_X8_sum; rw [if_pos w0, m10]
    · unfold f_X9_sum; rw [if_pos w0]
  by_cases w1 : w = 1
  · refine pairL_id (r := lSum (S.2 1002 0) 12) h0 ?_ ?_
    · unfold f_X8_sum; rw [if_neg w0, if_pos w1, held_ok, lSum_cg (fun k hk => (m8 k hk).1)]; rfl
    · unfold f_X9_sum; rw [if_neg w0, if_pos w1, sumM_ok]; rfl
  by_cases w2 : w = 2
  · refine pairL_id (r := S.2 1000 0 9) h0 ?_ ?_
    · unfold f_X8_sum; rw [if_neg w0, if_neg w1, if_pos w2, m11]
    · unfold f_X9_sum; rw [if_neg w0, if_neg w1, if_pos w2]
  by_cases w3 : w = 3
  · refine pairL_id (r := S.2 1000 0 10) h0 ?_ ?_
    · unfold f_X8_sum; rw [if_neg w0, if_neg w1, if_neg w2, if_pos w3, d4.1]
    · unfold f_X9_sum; rw [if_neg w0, if_neg w1, if_neg w2, if_pos w3]
  by_cases w4 : w = 4
  · refine pairL_id (r := 4000) h0 ?_ ?_
    · unfold f_X8_sum; rw [if_neg w0, if_neg w1, if_neg w2, if_neg w3, if_pos w4]
    · unfold f_X9_sum; rw [if_neg w0, if_neg w1, if_neg w2, if_neg w3, if_pos w4]
  · refine pairL_id (r := -2) h0 ?_ ?_
    · unfold f_X8_sum; rw [if_neg w0, if_neg w1, if_neg w2, if_neg w3, if_neg w4]
    · unfold f_X9_sum; rw [if_neg w0, if_neg w1, if_neg w2, if_neg w3, if_neg w4]
/-- the cell of a ring's layer -/
theorem rl_idx {q l : Int32} (hq : (0 : Int32) ≤ q ∧ q ≤ 3) (hl : (0 : Int32) ≤ l ∧ l ≤ 2) : (q * 3 + l).toInt = q.toInt * 3 + l.toInt ∧ 3 * q + l = q * 3 + l ∧ oIn (q * 3 + l) 12 ∧ oIn l 3 := by
  have a := rg_of (m := 0) (n := 3) rfl rfl hq
  have b := rg_of (m := 0) (n := 2) rfl rfl hl
  have e1 : (q * 3).toInt = q.toInt * 3 := i_mul (by show _ ≤ q.toInt * 3; have := a.1; omega) (by show q.toInt * 3 ≤ _; have := a.2; omega)
  have e3 : (q * 3 + l).toInt = q.toInt * 3 + l.toInt := by rw [i_add] <;> rw [e1] <;> (have := a.1; have := a.2; have := b.1; have := b.2; omega)
  refine ⟨e3, by rw [Int32.mul_comm], ?_, rt_in (m := 2) rfl (by decide) hl⟩
  rw [oIn_rg, e3]
  have := a.1; have := a.2; have := b.1; have := b.2
  omega
theorem lay_cases {l : Int32} (hl : (0 : Int32) ≤ l ∧ l ≤ 2) : l = 0 ∨ l = 1 ∨ l = 2 := by
  have b := rg_of (m := 0) (n := 2) rfl rfl hl
  have h : l.toInt = 0 ∨ l.toInt = 1 ∨ l.toInt = 2 := by have := b.1; have := b.2; omega
  rcases h with h | h | h
  · exact Or.inl (i_eq.mpr h)
  · exact Or.inr (Or.inl (i_eq.mpr h))
  · exact Or.inr (Or.inr (i_eq.mpr h))
set_option maxHeartbeats 1000000 in
theorem pr_heat (n : Nat) (q l w : Int32) : oPairL n (f_X8_heat q l w) (f_X9_heat q l w) := by
  intro S h
  have h0 := h
  obtain ⟨⟨m1, m2, m3, m4, m5, m6, m7, m8, m9⟩, p⟩ := h
  by_cases hq : (0 : Int32) ≤ q ∧ q ≤ 3
  · by_cases hl : (0 : Int32) ≤ l ∧ l ≤ 2
    · by_cases hw : (0 : Int32) ≤ w ∧ w ≤ 1
      · obtain ⟨i1, i2, i3, i4⟩ := rl_idx hq hl
        have hk : (q * 3 + l).toNatClampNeg < 12 := by rw [i_clamp]; have := (oIn_rg.mp i3); omega
        have e := (m8 _ hk).1
        by_cases w0 : w = 0
        · refine pairL_id (r := S.2 1002 0 (q * 3 + l).toNatClampNeg) h0 ?_ ?_
          · simp only [f_X8_heat, rgX, wX, Option.bind_some, if_pos hq, if_pos hl, if_pos hw, if10, if_pos w0, f_X4_heatOf, if_pos i3, e]
          · simp only [f_X9_heat, rgM, wM, Option.bind_some, if_pos hq, if_pos hl, if_pos hw, if10, f_X9_cellOf, i2, if_pos i3, oLet, if_pos w0]
        · refine pairL_id (r := S.2 1002 0 (q * 3 + l).toNatClampNeg / (oMASS l.toNatClampNeg).toInt64) h0 ?_ ?_
          · have hm : ¬ (oMASS l.toNatClampNeg).toInt64 = 0 := by rcases lay_cases hl with rfl | rfl | rfl <;> decide
            simp only [f_X8_heat, rgX, wX, Option.bind_some, if_pos hq, if_pos hl, if_pos hw, if10, if_neg w0, f_X4_warmthOf, if_pos i3, if_pos i4, if_pos hm, e]
          · simp only [f_X9_heat, rgM, wM, Option.bind_some, if_pos hq, if_pos hl, if_pos hw, if10, f_X9_cellOf, i2, if_pos i3, oLet, if_neg w0]
            rcases lay_cases hl with rfl | rfl | rfl <;> rfl
      · refine pairL_id (r := -2) h0 ?_ ?_
        · simp only [f_X8_heat, rgX, wX, Option.bind_some, if_pos hq, if_pos hl, if_neg hw, if10, if_true]
        · simp only [f_X9_heat, rgM, wM, Option.bind_some, if_pos hq, if_pos hl, if_neg hw, if10, if_true]
    · refine pairL_id (r := -2) h0 ?_ ?_
      · simp only [f_X8_heat, rgX, wX, Option.bind_some, if_pos hq, if_neg hl, if10, if_true]
      · simp only [f_X9_heat, rgM, wM, Option.bind_some, if_pos hq, if_neg hl, if10, if_true]
  · refine pairL_id (r := -2) h0 ?_ ?_
    · simp only [f_X8_heat, rgX, Option.bind_some, if_neg hq, if_true]
    · simp only [f_X9_heat, rgM, Option.bind_some, if_neg hq, if_true]
