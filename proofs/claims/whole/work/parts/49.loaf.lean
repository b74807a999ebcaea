set_option maxHeartbeats 1000000 in
theorem pr_loaf (n : Nat) (l w : Int32) : oPair n (f_X8_loaf l w) (f_X9_loaf l w) := by
  intro S h
  have h0 := h
  obtain ⟨p1, p2, p3, ⟨⟨a1, a2⟩, b, c⟩, p5⟩ := h
  by_cases hl : 0 ≤ l ∧ l ≤ S.1 1000 0 24 - 1
  · have r := bel a2 hl
    have hi : oIn l 200 := by rw [oIn_rg]; have := a2.2; omega
    obtain ⟨b1, b2, b3, b4, b5, b6⟩ := b l.toNatClampNeg
    by_cases w0 : w = 0
    · refine pair_id (r := S.1 1026 0 l.toNatClampNeg) h0 ?_ ?_
      · simp only [f_X8_loaf, hsL, Option.bind_some, a1, if_pos hl, if10, if_pos w0, if_pos hi, b1]
      · simp only [f_X9_loaf, hsLM, Option.bind_some, if_pos hl, if10, if_pos w0, if_pos hi]
    by_cases w1 : w = 1
    · refine pair_id (r := S.1 1027 0 l.toNatClampNeg) h0 ?_ ?_
      · simp only [f_X8_loaf, hsL, Option.bind_some, a1, if_pos hl, if10, if_neg w0, if_pos w1, if_pos hi, b2]
      · simp only [f_X9_loaf, hsLM, Option.bind_some, if_pos hl, if10, if_neg w0, if_pos w1, if_pos hi]
    by_cases w2 : w = 2
    · refine pair_id (r := S.1 1028 0 l.toNatClampNeg) h0 ?_ ?_
      · simp only [f_X8_loaf, hsL, Option.bind_some, a1, if_pos hl, if10, if_neg w0, if_neg w1, if_pos w2, if_pos hi, b3]
      · simp only [f_X9_loaf, hsLM, Option.bind_some, if_pos hl, if10, if_neg w0, if_neg w1, if_pos w2, if_pos hi]
    by_cases w3 : w = 3
    · refine pair_id (r := S.1 1029 0 l.toNatClampNeg) h0 ?_ ?_
      · simp only [f_X8_loaf, hsL, Option.bind_some, a1, if_pos hl, if10, if_neg w0, if_neg w1, if_neg w2, if_pos w3, if_pos hi, b4]
      · simp only [f_X9_loaf, hsLM, Option.bind_some, if_pos hl, if10, if_neg w0, if_neg w1, if_neg w2, if_pos w3, if_pos hi]
    by_cases w4 : w = 4
    · refine pair_id (r := S.1 1030 0 l.toNatClampNeg) h0 ?_ ?_
      · simp only [f_X8_loaf, hsL, Option.bind_some, a1, if_pos hl, if10, if_neg w0, if_neg w1, if_neg w2, if_neg w3, if_pos w4, if_pos hi, b5]
      · simp only [f_X9_loaf, hsLM, Option.bind_some, if_pos hl, if10, if_neg w0, if_neg w1, if_neg w2, if_neg w3, if_pos w4, if_pos hi]
    by_cases w5 : w = 5
    · refine pair_id (r := S.1 1031 0 l.toNatClampNeg) h0 ?_ ?_
      · simp only [f_X8_loaf, hsL, Option.bind_some, a1, if_pos hl, if10, if_neg w0, if_neg w1, if_neg w2, if_neg w3, if_neg w4, if_pos w5, if_pos hi, b6]
      · simp only [f_X9_loaf, hsLM, Option.bind_some, if_pos hl, if10, if_neg w0, if_neg w1, if_neg w2, if_neg w3, if_neg w4, if_pos w5, if_pos hi]
    · refine pair_id (r := -2) h0 ?_ ?_
      · simp only [f_X8_loaf, hsL, Option.bind_some, a1, if_pos hl, if10, if_neg w0, if_neg w1, if_neg w2, if_neg w3, if_neg w4, if_neg w5]
      · simp only [f_X9_loaf, hsLM, Option.bind_some, if_pos hl, if10, if_neg w0, if_neg w1, if_neg w2, if_neg w3, if_neg w4, if_neg w5]
  · refine pair_id (r := -2) h0 ?_ ?_
    · simp only [f_X8_loaf, hsL, Option.bind_some, a1, if_neg hl, if_true]
    · simp only [f_X9_loaf, hsLM, Option.bind_some, if_neg hl, if_true]
