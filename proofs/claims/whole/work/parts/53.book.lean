/-- what both sides make of an explanation -/
def xV (N : Nat → Int32) (s : Int32) (r f E : Nat) : Int32 := cSum (exS N s r f E) 244
/-- the book as both sides have it -/
theorem bk_count {S : oS} (h : iBoo S) : ∃ c : Nat, c ≤ 10 ∧ S.1 1000 0 46 = nI c ∧ S.1 100 0 3 = nI c ∧ ∀ r f : Int32, mE (S.1 102 0) (S.1 103 0) r f c = mE (S.1 1048 0) (S.1 1049 0) r f c ∧ ∃ E : Nat, E ≤ 61 ∧ mE (S.1 1048 0) (S.1 1049 0) r f c = nI E := by
  obtain ⟨-, ⟨a, b1, b2⟩, c⟩ := h
  refine ⟨(S.1 1000 0 46).toInt.toNat, by omega, i_nat b1, by rw [a]; exact i_nat b1, fun r f => ⟨?_, ?_⟩⟩
  · exact mE_cg (fun i hi => ⟨(c i (by omega)).1, (c i (by omega)).2.1⟩)
  · exact mE_nat (fun i hi => (c i (by omega)).2.2.2)
theorem cSum_f {f g : Nat → Int32} (h : f = g) (n : Nat) : cSum f n = cSum g n := by rw [h]
theorem notes_eq {S : oS} (h : iBoo S) : S.1 101 0 = S.1 1046 0 := funext fun k => (h.1 k).1
theorem gain_ok {S : oS} (h : iBoo S) {s : Int32} {r f c E : Nat} (hs : s = 1 ∨ s = 2) (hr : r < 4) (hf : f < 61) (hc : S.1 100 0 3 = nI c) (h10 : c ≤ 10) (hE : E ≤ 61) (hme : mE (S.1 102 0) (S.1 103 0) (nI r) (nI f) c = nI E) : ∃ g : Int32, f_X0_gain s (nI r) (nI f) S = some (g, S) ∧ cSum (wellS (S.1 101 0)) 244 + g = xV (S.1 1046 0) s r f E := by
  refine ⟨cSum (fun i => gS (S.1 101 0) r (if s = 1 then 3 else 2) (f + i)) (E - f), ?_, ?_⟩
  · have go : ∀ t : Int32, f_X0_gain_K10 (nI r) (nI f) t S = some (cSum (fun i => gS (S.1 101 0) r t (f + i)) (E - f), S) := by
      intro t
      unfold f_X0_gain_K10
      rw [mended_ok hc h10, hme]
      show (oLp (f_X0_gain_L26 (nI r) t (nI E)) oFu ((0 : Int32), nI f, S)).bind _ = _
      rw [gainL_ok hr hf hE]
      rfl
    unfold f_X0_gain
    by_cases h1 : s = 1
    · rw [if_pos h1, if_pos h1, go]
    · rw [if_neg h1, if_neg h1, go]
  · have hs' : 0 < s.toInt := by rcases hs with rfl | rfl <;> decide
    have := ex_gain (N := S.1 1046 0) (f := f) (E := E) hs' hr 61
    rw [show min 61 E - f = E - f by omega] at this
    unfold xV
    rw [show (244 : Nat) = 4 * 61 from rfl, this, notes_eq h]
theorem ex0 {N : Nat → Int32} {r f E : Nat} : xV N 0 r f E = cSum (wellS N) 244 := cSum_f (funext fun k => by
  unfold exS dueS wellS
  rw [if_neg (fun z => absurd z.1 (by decide))]) 244
theorem sort_cases {s : Int32} (h : (0 : Int32) ≤ s ∧ s ≤ 2) : s = 0 ∨ s = 1 ∨ s = 2 := lay_cases h
set_option maxHeartbeats 1000000 in
theorem pr_explains (n : Nat) (s q w : Int32) : oPair n (f_X8_explains s q w) (f_X9_explains s q w) := by
  intro S h
  have h0 := h
  obtain ⟨p1, p2, p3, p4, p5, p6, p7⟩ := h
  obtain ⟨c, c1, c2, c3, c4⟩ := bk_count p7
  by_cases hs : (0 : Int32) ≤ s ∧ s ≤ 2
  · by_cases hq : (0 : Int32) ≤ q ∧ q ≤ 3
    · by_cases hw : (0 : Int32) ≤ w ∧ w ≤ 60
      · obtain ⟨r, hr, rfl⟩ := wk_nat (m := 3) rfl hq
        obtain ⟨f, hf, rfl⟩ := wk_nat (m := 60) rfl hw
        obtain ⟨e1, E, e2, e3⟩ := c4 (nI r) (nI f)
        have hx := expl_ok (S := S) (s := s) (r := r) (f := f) (by omega) (by omega) c2 c1 e2 e3
        by_cases s0 : s = 0
        · by_cases r0 : nI r = 0
          · by_cases f0 : nI f = 0
            · refine pair_id (r := cSum (wellS (S.1 1046 0)) 244) h0 ?_ ?_
              · simp only [f_X8_explains, wX, rgX, wkX, Option.bind_some, if_pos hs, if_pos hq, if_pos hw, if10, if_pos s0, if_pos r0, if_pos f0, well_ok, notes_eq p7]
              · simp only [f_X9_explains, wM, rgM, wkM, Option.bind_some, if_pos hs, if_pos hq, if_pos hw, if10, if_pos s0, if_pos r0, if_pos f0, f_X9_explains_K38, hx]
                rw [← ex0 (r := r) (f := f) (E := E), s0]
                rfl
            · refine pair_id (r := -2) h0 ?_ ?_
              · simp only [f_X8_explains, wX, rgX, wkX, Option.bind_some, if_pos hs, if_pos hq, if_pos hw, if10, if_pos s0, if_pos r0, if_neg f0]
              · simp only [f_X9_explains, wM, rgM, wkM, Option.bind_some, if_pos hs, if_pos hq, if_pos hw, if10, if_pos s0, if_pos r0, if_neg f0]
          · refine pair_id (r := -2) h0 ?_ ?_
            · simp only [f_X8_explains, wX, rgX, wkX, Option.bind_some, if_pos hs, if_pos hq, if_pos hw, if10, if_pos s0, if_neg r0]
            · simp only [f_X9_explains, wM, rgM, wkM, Option.bind_some, if_pos hs, if_pos hq, if_pos hw, if10, if_pos s0, if_neg r0]
        · have hs12 : s = 1 ∨ s = 2 := (sort_cases hs).resolve_left s0
          obtain ⟨g, g1, g2⟩ := gain_ok p7 (r := r) (f := f) hs12 (by omega) (by omega) c3 c1 e2 (e1.trans e3)
          refine pair_id (r := xV (S.1 1046 0) s r f E) h0 ?_ ?_
          · simp only [f_X8_explains, wX, rgX, wkX, Option.bind_some, if_pos hs, if_pos hq, if_pos hw, if10, if_neg s0, well_ok, g1, g2]
          · simp only [f_X9_explains, wM, rgM, wkM, Option.bind_some, if_pos hs, if_pos hq, if_pos hw, if10, if_neg s0, f_X9_explains_K38, hx]
            rfl
      · refine pair_id (r := -2) h0 ?_ ?_
        · simp only [f_X8_explains, wX, rgX, wkX, Option.bind_some, if_pos hs, if_pos hq, if_neg hw, if10, if_true]
        · simp only [f_X9_explains, wM, rgM, wkM, Option.bind_some, if_pos hs, if_pos hq, if_neg hw, if10, if_true]
    · refine pair_id (r := -2) h0 ?_ ?_
      · simp only [f_X8_explains, wX, rgX, Option.bind_some, if_pos hs, if_neg hq, if10, if_true]
      · simp only [f_X9_explains, wM, rgM, Option.bind_some, if_pos hs, if_neg hq, if10, if_true]
  · refine pair_id (r := -2) h0 ?_ ?_
    · simp only [f_X8_explains, wX, Option.bind_some, if_neg hs, if_true]
    · simp only [f_X9_explains, wM, Option.bind_some, if_neg hs, if_true]
set_option maxHeartbeats 1000000 in
theorem pr_lose (n : Nat) (w : Int32) : oPair n (f_X8_lose w) (f_X9_lose w) := by
  intro S h
  by_cases hw : (0 : Int32) ≤ w ∧ w ≤ 60
  · obtain ⟨p1, p2, p3, p4, p5, p6, p7⟩ := h.up
    obtain ⟨m, hm, rfl⟩ := wk_nat (m := 60) rfl hw
    have e1 : f_X8_lose (nI m) S = some (cSum (fun i => knownS (S.1 101 0) (4 * m + i)) 4, wipe 101 m S 4) := by
      simp only [f_X8_lose, wkX, Option.bind_some, if_pos hw, if10, forget_ok S m (by omega)]
    have e2 := loseM_ok (wipe 101 m S 4) (fun k => (p7.1 k).2.1) m (by omega)
    refine ⟨_, _, wipe 1046 m (wipe 101 m S 4) 4, e1, ?_, ⟨p1, p2, p3, p4, p5, p6, ?_, p7.2⟩⟩
    · rw [e2]
      show some (cSum (fun i => knownS (S.1 1046 0) (4 * m + i)) 4, _) = _
      rw [notes_eq p7]
    · intro k
      have a := p7.1 k
      rw [wipe_t, wipe_f 4 101 0 (by decide), wipe_t]
      show (if _ then _ else _) = (if _ then _ else S.1 1046 0 k) ∧ rg (if _ then _ else S.1 1046 0 k) 0 3
      by_cases hk : 4 * m ≤ k ∧ k < 4 * m + 4
      · rw [if_pos hk, if_pos hk]
        exact ⟨rfl, by decide, by decide⟩
      · rw [if_neg hk, if_neg hk]
        exact a
  · exact pair_id (r := -2) h (by simp only [f_X8_lose, wkX, Option.bind_some, if_neg hw, if_true]) (by simp only [f_X9_lose, wkM, Option.bind_some, if_neg hw, if_true])
