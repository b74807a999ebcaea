theorem bel_nat {a s : Int32} {N : Int} (hs : rg s 0 N) (h : 0 ≤ a ∧ a ≤ s - 1) : ∃ k : Nat, (k : Int) < s.toInt ∧ a = nI k := by
  have := bel hs h
  exact ⟨a.toInt.toNat, by omega, i_nat this.1⟩
theorem fitB_01 (S : oS) (q k : Nat) : fitB S q k = 0 ∨ fitB S q k = 1 := by
  unfold fitB
  by_cases g : oROOM q < usM (S.1 300 q 0 + mBg S k) (S.1 300 q 1 + mOn S k) (S.1 300 q 2 + mCr S k)
  · rw [if_pos g]; exact Or.inl rfl
  · rw [if_neg g]; exact Or.inr rfl
set_option maxHeartbeats 4000000 in
theorem pr_put (n : Nat) (a b : Int32) : oPair n (f_X8_put a b) (f_X9_put a b) := by
  intro S h
  have h0 := h
  obtain ⟨p1, p2, p3, p4, p5, p6, p7⟩ := h.up
  obtain ⟨⟨k1, k1'⟩, -⟩ := id p3
  obtain ⟨c, c1, c2, c3, c4, c5, c6, c7⟩ := lo_facts p3 p4
  obtain ⟨-, -, -, -, ⟨-, r12⟩, -⟩ := id p4
  by_cases ha : 0 ≤ a ∧ a ≤ S.1 1000 0 13 - 1
  · by_cases hb : (0 : Int32) ≤ b ∧ b ≤ 3
    · obtain ⟨k, hk, rfl⟩ := bel_nat k1' ha
      obtain ⟨q, hq, rfl⟩ := wk_nat (m := 3) rfl hb
      have h8 : k < 8 := by have := k1'.2; omega
      have hfX := fits_X p3 p4 (q := q) (k := k) (by omega) h8 hk
      have hfM := hasRoom_M (T := S) p3 p4 rfl rfl rfl rfl rfl (q := q) (k := k) (by omega) h8
      rcases fitB_01 S q k with hz | hz
      · refine ⟨-3, S, cmS S (S.1 300 q 1 + mOn S k) (S.1 300 q 2 + mCr S k) (S.1 300 q 0 + mBg S k), ?_, ?_, ⟨p1, p2, p3, p4, p5, p6, p7⟩⟩
        · simp only [f_X8_put, hsK, rgX, Option.bind_some, k1, if_pos ha, if_pos hb, if10, hfX, hz, if_true]
        · simp only [f_X9_put, hsKM, rgM, Option.bind_some, if_pos ha, if_pos hb, if10, hfM, hz, if_true]
      · have hin := inside_M (T := cmS S (S.1 300 q 1 + mOn S k) (S.1 300 q 2 + mCr S k) (S.1 300 q 0 + mBg S k)) p3 p4 rfl rfl
        by_cases h12 : (S.1 400 0 9).toInt < 12
        · by_cases h200 : c < 200
          · have hfM' := hasRoom_M (T := puX S c k q) p3 p4 rfl rfl rfl rfl rfl (q := q) (k := k) (by omega) h8
            have hin' := inside_M (T := cmS (puX S c k q) (S.1 300 q 1 + mOn S k) (S.1 300 q 2 + mCr S k) (S.1 300 q 0 + mBg S k)) p3 p4 rfl rfl
            refine ⟨nI c + 1 - 1, puX S c k q, puM (cmS (puX S c k q) (S.1 300 q 1 + mOn S k) (S.1 300 q 2 + mCr S k) (S.1 300 q 0 + mBg S k)) c k q, ?_, ?_, ⟨p1, ⟨p2.1, rfl, Or.inr rfl, p2.2.2.2⟩, p3, put_loa p3 p4 c2 h200 h8 hk (by omega) h12 _ _ _ rfl, ?_, p6, p7⟩⟩
            · simp only [f_X8_put, hsK, rgX, Option.bind_some, k1, if_pos ha, if_pos hb, if10, hfX, hz]
              rw [if_neg (by rw [i_le]; show ¬ (12 : Int) ≤ _; omega), c3, if_pos (by rw [i_lt, nT (by omega)]; show _ < (200 : Int); omega), layIn_ok c3 h200 h8 (by omega)]
              rfl
            · have ha' : 0 ≤ nI k ∧ nI k ≤ (puX S c k q).1 1000 0 13 - 1 := ha
              simp only [f_X9_put, hsKM, rgM, Option.bind_some, if_pos ha', if_pos hb, if10, hfM', hz, hin']
              rw [if_neg (not30 (m := 12) rfl h12)]
              show (if S.1 1000 0 24 = 200 then _ else _) = _
              have hc200 : oIn (nI c) 200 := (nin (by omega)).mpr h200
              have ec : (nI c).toNatClampNeg = c := ncl (by omega)
              rw [c2, if_neg (by rw [i_eq, nT (by omega)]; show ¬ _ = (200 : Int); omega)]
              show (if oIn (S.1 1000 0 24) 200 then _ else none) = _
              rw [c2, if_pos hc200]
              show (if oIn (S.1 1000 0 24) 200 then _ else none) = _
              rw [c2, if_pos hc200]
              show some ((S.1 1000 0 24 + 1) - 1, oStI (oStI (oStI (oStI (cmS (puX S c k q) _ _ _) 1026 0 (S.1 1000 0 24).toNatClampNeg (nI k)) 1027 0 (S.1 1000 0 24).toNatClampNeg (nI q)) 1000 0 24 (S.1 1000 0 24 + 1)) 1000 0 12 1) = _
              rw [c2, ec]
              rfl
            · obtain ⟨q1, q2, q3, q4, q5, q6⟩ := p5
              refine ⟨q1, q2, q3, q4, q5, fun j i hj1 hj2 hi => ?_⟩
              have v : (puM (cmS (puX S c k q) (S.1 300 q 1 + mOn S k) (S.1 300 q 2 + mCr S k) (S.1 300 q 0 + mBg S k)) c k q).1 300 j i = (ldS (oStI (oStI S 403 0 c (nI k)) 404 0 c (nI q)) q (S.1 300 q 0 + 1 * kBg S k) (S.1 300 q 1 + 1 * kOn S k) (S.1 300 q 2 + 1 * kCr S k)).1 300 j i := rfl
              rw [v, ldS_1, if_neg (fun z => by have := z.2; omega)]
              exact q6 j i hj1 hj2 hi
          · have hc : c = 200 := by omega
            refine ⟨-4, S, cmS S (S.1 300 q 1 + mOn S k) (S.1 300 q 2 + mCr S k) (S.1 300 q 0 + mBg S k), ?_, ?_, ⟨p1, p2, p3, p4, p5, p6, p7⟩⟩
            · simp only [f_X8_put, hsK, rgX, Option.bind_some, k1, if_pos ha, if_pos hb, if10, hfX, hz]
              rw [if_neg (by rw [i_le]; show ¬ (12 : Int) ≤ _; omega), c3, hc]
              rfl
            · simp only [f_X9_put, hsKM, rgM, Option.bind_some, if_pos ha, if_pos hb, if10, hfM, hz, hin]
              rw [if_neg (not30 (m := 12) rfl h12)]
              show (if S.1 1000 0 24 = 200 then _ else _) = _
              rw [c2, hc]
              rfl
        · have e12 := at_cap (c := 12) (m := 12) rfl r12 (by decide) h12
          refine ⟨-4, S, cmS S (S.1 300 q 1 + mOn S k) (S.1 300 q 2 + mCr S k) (S.1 300 q 0 + mBg S k), ?_, ?_, ⟨p1, p2, p3, p4, p5, p6, p7⟩⟩
          · simp only [f_X8_put, hsK, rgX, Option.bind_some, k1, if_pos ha, if_pos hb, if10, hfX, hz, e12]
            rfl
          · simp only [f_X9_put, hsKM, rgM, Option.bind_some, if_pos ha, if_pos hb, if10, hfM, hz, hin, e12, if_true]
    · refine pair_id (r := -2) h0 ?_ ?_
      · simp only [f_X8_put, hsK, rgX, Option.bind_some, k1, if_pos ha, if_neg hb, if10, if_true]
      · simp only [f_X9_put, hsKM, rgM, Option.bind_some, if_pos ha, if_neg hb, if10, if_true]
  · refine pair_id (r := -2) h0 ?_ ?_
    · simp only [f_X8_put, hsK, Option.bind_some, k1, if_neg ha, if_true]
    · simp only [f_X9_put, hsKM, Option.bind_some, if_neg ha, if_true]
