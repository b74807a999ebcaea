theorem cr2 {c : Int32} (hc : rg c 0 4) : (Int32.toInt64 (2 + c)).toInt = 2 + c.toInt ∧ (Int32.toInt64 (1 + c)).toInt = 1 + c.toInt := by
  have h1 := hc.1
  have h2 := hc.2
  rw [i_long, i_long, i_add (by rw [i2]; omega) (by rw [i2]; omega), i_add (by rw [i1]; omega) (by rw [i1]; omega), i2, i1]
  exact ⟨rfl, rfl⟩
theorem ok_soak {h : Nat → Int64} {c : Nat → Int32} {M : Int} (H : okH h M) (hM : M ≤ 1000000000000) (hc : ∀ r, r < 4 → rg (c r) 0 4) : ∀ i, i ≤ 4 → okH (soH h c i) M := by
  intro i
  induction i with
  | zero =>
    intro _
    exact okH_cg (fun k hk => (soH_b (by omega)).symm) H
  | succ i ih =>
    intro hi
    have H0 := ih (by omega)
    obtain ⟨a0, b0⟩ := okH_k H (k := 3 * i) (by omega)
    obtain ⟨a1, b1⟩ := okH_k H (k := 3 * i + 1) (by omega)
    obtain ⟨a2, b2⟩ := okH_k H (k := 3 * i + 2) (by omega)
    have hc0 := hc i (by omega)
    have c0 := hc0.1
    have c1 := hc0.2
    obtain ⟨ec, -⟩ := cr2 hc0
    have e0 : soH h c i (3 * i) = h (3 * i) := soH_b (by omega)
    have e1 : soH h c i (3 * i + 1) = h (3 * i + 1) := soH_b (by omega)
    have e2 : soH h c i (3 * i + 2) = h (3 * i + 2) := soH_b (by omega)
    have x1 : (h (3 * i) / 10 - h (3 * i + 1) / 30).toInt = (h (3 * i)).toInt / 10 - (h (3 * i + 1)).toInt / 30 := by rw [l_sub (by rw [d10 a0, d30 a1]; omega) (by rw [d10 a0, d30 a1]; omega), d10 a0, d30 a1]
    have x2 : (h (3 * i + 1) / 30 - h (3 * i + 2) / 60).toInt = (h (3 * i + 1)).toInt / 30 - (h (3 * i + 2)).toInt / 60 := by rw [l_sub (by rw [d30 a1, d60 a2]; omega) (by rw [d30 a1, d60 a2]; omega), d30 a1, d60 a2]
    have et : (tbS h i).toInt = 2 * ((h (3 * i)).toInt / 10 - (h (3 * i + 1)).toInt / 30) := by
      unfold tbS
      rw [l_mul (by rw [l2, x1]; omega) (by rw [l2, x1]; omega), l2, x1]
    obtain ⟨y1, y2⟩ := tm (t := Int32.toInt64 (2 + c i)) (x := h (3 * i + 1) / 30 - h (3 * i + 2) / 60) (by omega) (by omega) (by rw [x2]; omega) (by rw [x2]; omega)
    rw [x2] at y1 y2
    have hk : (tkS h c i).toInt ≤ 6 * ((h (3 * i + 1)).toInt / 30) ∧ -(6 * ((h (3 * i + 2)).toInt / 60)) ≤ (tkS h c i).toInt := by
      unfold tkS
      by_cases g : 0 ≤ (h (3 * i + 1)).toInt / 30 - (h (3 * i + 2)).toInt / 60
      · have := y1 g
        omega
      · have := y2 (by omega)
        omega
    obtain ⟨k1, k2⟩ := hk
    have v0 : (h (3 * i) - tbS h i).toInt = (h (3 * i)).toInt - (tbS h i).toInt := l_sub (by omega) (by omega)
    have v9 : (tbS h i - tkS h c i).toInt = (tbS h i).toInt - (tkS h c i).toInt := l_sub (by omega) (by omega)
    have v1 : (h (3 * i + 1) + (tbS h i - tkS h c i)).toInt = (h (3 * i + 1)).toInt + ((tbS h i).toInt - (tkS h c i).toInt) := by rw [l_add (by rw [v9]; omega) (by rw [v9]; omega), v9]
    have v2 : (h (3 * i + 2) + tkS h c i).toInt = (h (3 * i + 2)).toInt + (tkS h c i).toInt := l_add (by omega) (by omega)
    have s0 := ok_set H0 (k := 3 * i) (by omega) (x := h (3 * i) - tbS h i) (by omega)
    rw [e0] at s0
    have s1 := ok_set s0 (k := 3 * i + 1) (by omega) (x := h (3 * i + 1) + (tbS h i - tkS h c i)) (by omega)
    rw [uL_n (by omega), e1] at s1
    have s2 := ok_set s1 (k := 3 * i + 2) (by omega) (x := h (3 * i + 2) + tkS h c i) (by omega)
    rw [uL_n (by omega), uL_n (by omega), e2] at s2
    exact okH_cg (fun k _ => soH_s k) (ok_le s2 (by omega))
theorem fl_i {h : Nat → Int64} {M : Int} (H : okH h M) (hM : M ≤ 1000000000000) {r : Nat} (hr : r < 3) : (flE h r).toInt = (h (3 * r)).toInt / 10 - (h (3 * (r + 1))).toInt / 10 := by
  obtain ⟨a0, b0⟩ := okH_k H (k := 3 * r) (by omega)
  obtain ⟨a1, b1⟩ := okH_k H (k := 3 * (r + 1)) (by omega)
  unfold flE
  rw [l_sub (by rw [d10 a0, d10 a1]; omega) (by rw [d10 a0, d10 a1]; omega), d10 a0, d10 a1]
theorem ok_even {h : Nat → Int64} {M : Int} (H : okH h M) (hM : M ≤ 1000000000000) : ∀ i, i ≤ 3 → okH (evH h i) M := by
  intro i
  induction i with
  | zero =>
    intro _
    refine okH_cg (fun k hk => ?_) H
    unfold evH inE
    by_cases g : k % 3 = 0
    · rw [if_pos g, if_neg (by omega), if_neg (by omega), show 3 * (k / 3) = k by omega]
    · rw [if_neg g]
  | succ i ih =>
    intro hi
    have H0 := ih (by omega)
    obtain ⟨a0, b0⟩ := okH_k H (k := 3 * i) (by omega)
    obtain ⟨a1, b1⟩ := okH_k H (k := 3 * (i + 1)) (by omega)
    obtain ⟨a9, b9⟩ := okH_k H0 (k := 3 * i) (by omega)
    have ef := fl_i H hM (r := i) (by omega)
    have e1 : evH h i (3 * (i + 1)) = h (3 * (i + 1)) := by
      unfold evH inE
      rw [if_pos (by omega), if_neg (by omega), if_neg (by omega), show 3 * (3 * (i + 1) / 3) = 3 * (i + 1) by omega]
    have e0 : (h (3 * i)).toInt - (h (3 * i)).toInt / 10 ≤ (evH h i (3 * i)).toInt := by
      unfold evH inE
      rw [if_pos (by omega), if_neg (by omega), show 3 * i / 3 = i by omega]
      by_cases g : 1 ≤ i
      · rw [if_pos (by omega)]
        have ef2 := fl_i H hM (r := i - 1) (by omega)
        rw [show i - 1 + 1 = i by omega] at ef2
        obtain ⟨a3, b3⟩ := okH_k H (k := 3 * (i - 1)) (by omega)
        rw [l_add (by omega) (by omega)]
        omega
      · rw [if_neg (by omega)]
        omega
    have v0 : (evH h i (3 * i) - flE h i).toInt = (evH h i (3 * i)).toInt - (flE h i).toInt := l_sub (by omega) (by omega)
    have v1 : (h (3 * (i + 1)) + flE h i).toInt = (h (3 * (i + 1))).toInt + (flE h i).toInt := l_add (by omega) (by omega)
    have s0 := ok_set H0 (k := 3 * i) (by omega) (x := evH h i (3 * i) - flE h i) (by omega)
    have s1 := ok_set s0 (k := 3 * (i + 1)) (by omega) (x := h (3 * (i + 1)) + flE h i) (by omega)
    rw [uL_n (by omega), e1] at s1
    exact okH_cg (fun k _ => evH_s k) (ok_le s1 (by omega))
theorem dg_b {r : Nat} : 0 ≤ (Int32.toInt64 (oDRAUGHT r)).toInt ∧ (Int32.toInt64 (oDRAUGHT r)).toInt ≤ 6 := by
  rw [i_long]
  unfold oDRAUGHT
  by_cases g0 : r = 0
  · rw [if_pos g0]; decide
  · rw [if_neg g0]
    by_cases g1 : r = 1
    · rw [if_pos g1]; decide
    · rw [if_neg g1]
      by_cases g2 : r = 2
      · rw [if_pos g2]; decide
      · rw [if_neg g2]; decide
theorem sub_a {x : Int64} {a : Int32} (hx : 0 ≤ x.toInt) (hx2 : x.toInt ≤ 1000000000000) (ha : rg a 0 40) : (x - Int32.toInt64 a).toInt = x.toInt - a.toInt := by
  have a0 := ha.1
  have a1 := ha.2
  rw [l_sub (by rw [i_long]; omega) (by rw [i_long]; omega), i_long]
theorem sk_b {h : Nat → Int64} {c : Nat → Int32} {a : Int32} {M : Int} (H : okH h M) (hM : M ≤ 1000000000000) (hc : ∀ r, r < 4 → rg (c r) 0 4) (ha : rg a 0 40) {r : Nat} (hr : r < 4) : 0 ≤ (skL h c a r).toInt ∧ (skL h c a r).toInt ≤ (h (3 * r + 2)).toInt ∧ cl0 (Int32.toInt64 (1 + c r) * (h (3 * r + 2) / 60 - Int32.toInt64 a)) = skL h c a r := by
  obtain ⟨a0, b0⟩ := okH_k H (k := 3 * r + 2) (by omega)
  have hc0 := hc r hr
  have c0 := hc0.1
  have c1 := hc0.2
  have h0 := ha.1
  have h1 := ha.2
  obtain ⟨-, ec⟩ := cr2 hc0
  have ed := d60 a0
  have ex := sub_a (x := h (3 * r + 2) / 60) (by omega) (by omega) ha
  have m := max_b (t := Int32.toInt64 (1 + c r)) (x := h (3 * r + 2) / 60 - Int32.toInt64 a) (B := (h (3 * r + 2)).toInt / 60) (by omega) (by omega) (by omega) (by omega) (by omega) (by omega)
  refine ⟨m.1, ?_, cl0_mul (by omega) (by omega) (by omega) (by omega)⟩
  have := m.2
  unfold skL
  omega
theorem ln_b {h : Nat → Int64} {a : Int32} {M : Int} (H : okH h M) (hM : M ≤ 1000000000000) (ha : rg a 0 40) (o : Int32) {r : Nat} (hr : r < 4) : 0 ≤ (lnL h a o r).toInt ∧ (lnL h a o r).toInt ≤ (h (3 * r)).toInt ∧ cl0 (Int32.toInt64 (oDRAUGHT r) * (h (3 * r) / 10 - Int32.toInt64 a)) = Int32.toInt64 (oDRAUGHT r) * oMaxL 0 (h (3 * r) / 10 - Int32.toInt64 a) := by
  obtain ⟨a0, b0⟩ := okH_k H (k := 3 * r) (by omega)
  have h0 := ha.1
  have h1 := ha.2
  obtain ⟨g0, g6⟩ := dg_b (r := r)
  have ed := d10 a0
  have ex := sub_a (x := h (3 * r) / 10) (by omega) (by omega) ha
  have m := max_b (t := Int32.toInt64 (oDRAUGHT r)) (x := h (3 * r) / 10 - Int32.toInt64 a) (B := (h (3 * r)).toInt / 10) (by omega) (by omega) (by omega) (by omega) (by omega) (by omega)
  have m2 := m.2
  refine ⟨?_, ?_, cl0_mul (by omega) (by omega) (by omega) (by omega)⟩
  · unfold lnL
    by_cases g : o = 0
    · rw [if_pos g, l0]; omega
    · rw [if_neg g]; exact m.1
  · unfold lnL
    by_cases g : o = 0
    · rw [if_pos g, l0]; omega
    · rw [if_neg g]; omega
theorem ok_lose {h : Nat → Int64} {c : Nat → Int32} {a : Int32} {M : Int} (H : okH h M) (hM : M ≤ 1000000000000) (hc : ∀ r, r < 4 → rg (c r) 0 4) (ha : rg a 0 40) (o : Int32) : ∀ i, i ≤ 4 → okH (loH h c a o i) M := by
  intro i
  induction i with
  | zero =>
    intro _
    exact okH_cg (fun k hk => (loH_b (by omega)).symm) H
  | succ i ih =>
    intro hi
    have H0 := ih (by omega)
    obtain ⟨s0, s1, -⟩ := sk_b H hM hc ha (r := i) (by omega)
    obtain ⟨t0, t1, -⟩ := ln_b H hM ha o (r := i) (by omega)
    have e0 : loH h c a o i (3 * i) = h (3 * i) := loH_b (by omega)
    have e2 : loH h c a o i (3 * i + 2) = h (3 * i + 2) := loH_b (by omega)
    have u0 := ok_sub H0 (k := 3 * i + 2) (by omega) (v := skL h c a i) s0 (by rw [e2]; exact s1) hM
    rw [e2] at u0
    have u1 := ok_sub u0 (k := 3 * i) (by omega) (v := lnL h a o i) t0 (by rw [uL_n (by omega), e0]; exact t1) hM
    rw [uL_n (show ¬ 3 * i = 3 * i + 2 by omega), e0] at u1
    exact okH_cg (fun k _ => loH_s k) u1
