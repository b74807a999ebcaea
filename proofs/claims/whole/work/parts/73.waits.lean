/-- weeks of waiting, the first week ahead -/
def wtS (R : Nat → Nat → Int32) (f s : Nat) (h sl : Int32) (i : Nat) : Int32 := if nI (plR (R (f + i)) h s) < sl then 0 else 1
def fsW (R : Nat → Nat → Int32) (f : Nat) (h : Int32) : Nat → Int32
  | 0 => -1
  | i + 1 => if fsW R f h i = -1 ∧ R (f + i) 0 = h then nI (f + i) else fsW R f h i
theorem fsW_st {R : Nat → Nat → Int32} {f : Nat} {h : Int32} {i : Nat} (g : ¬ fsW R f h i = -1) : ∀ d, fsW R f h (i + d) = fsW R f h i := by
  intro d
  induction d with
  | zero => rfl
  | succ d ih =>
    show (if fsW R f h (i + d) = -1 ∧ R (f + (i + d)) 0 = h then nI (f + (i + d)) else fsW R f h (i + d)) = _
    rw [if_neg (fun z => g (ih ▸ z.1)), ih]
theorem n_ne1 {q : Nat} (h : q < 1000) : ¬ nI q = -1 := fun z => by rw [i_eq, nT (by omega)] at z; have : (-1 : Int32).toInt = -1 := rfl; omega
theorem weeks_X {S : oS} {s : Nat} {R : Nat → Nat → Int32} (h8 : s ≤ 8) (h6 : S.1 700 0 6 = nI s) (hX : ∀ w, w ≤ 60 → ∀ q, f_X6_makeRow (nI w) (stR 705 S s q) = some (stR 705 S s (R w))) (h : Int32) {f t : Nat} (hft : f ≤ t) (ht : t ≤ 60) : ∃ q, f_X6_weeksWaited h (nI f) (nI t) S = some (cSum (wtS R f s h (S.1 700 0 9)) (t + 1 - f), stR 705 S s q) := by
  have e : ∃ r, oLp (f_X6_weeksWaited_L6 h (nI t)) oFu ((0 : Int32), nI f, S) = some r ∧ ∃ q, r = (cSum (wtS R f s h (S.1 700 0 9)) (t + 1 - f), stR 705 S s q) := by
    refine oLp_all (fun i z => ∃ q, z = (cSum (wtS R f s h (S.1 700 0 9)) i, nI (f + i), stR 705 S s q)) (fun r => ∃ q, r = (cSum (wtS R f s h (S.1 700 0 9)) (t + 1 - f), stR 705 S s q)) (t + 1 - f) (by omega) ⟨S.1 705 0, by rw [stR_id]; rfl⟩ ?_ ?_
    · rintro i z hi ⟨q, rfl⟩
      refine ⟨(cSum (wtS R f s h (S.1 700 0 9)) (i + 1), nI (f + (i + 1)), stR 705 S s (R (f + i))), ?_, R (f + i), rfl⟩
      show (if nI t < nI (f + i) then _ else _) = _
      rw [if_neg (by rw [nI_ltI (by omega) (by omega)]; omega), hX (f + i) (by omega) q, Option.bind_some, place_X h h8 h6, Option.bind_some]
      show (if nI (plR (R (f + i)) h s) < S.1 700 0 9 then _ else _) = some (Sum.inl (cSum (wtS R f s h (S.1 700 0 9)) i + (if nI (plR (R (f + i)) h s) < S.1 700 0 9 then 0 else 1), nI (f + i + 1), _))
      by_cases g : nI (plR (R (f + i)) h s) < S.1 700 0 9
      · rw [if_pos g, if_pos g, Int32.add_zero, ← nI_1]
        rfl
      · rw [if_neg g, if_neg g, ← nI_1]
        rfl
    · rintro z ⟨q, rfl⟩
      refine ⟨_, ?_, q, rfl⟩
      show (if nI t < nI (f + (t + 1 - f)) then _ else _) = _
      rw [if_pos (by rw [nI_ltI (by omega) (by omega)]; omega)]
  obtain ⟨r, e1, q, rfl⟩ := e
  refine ⟨q, ?_⟩
  unfold f_X6_weeksWaited
  rw [e1]
  rfl
theorem first_X {S : oS} {s : Nat} {R : Nat → Nat → Int32} (h2 : 2 ≤ s) (hX : ∀ w, w ≤ 60 → ∀ q, f_X6_makeRow (nI w) (stR 705 S s q) = some (stR 705 S s (R w))) (h : Int32) {f t : Nat} (hft : f ≤ t) (ht : t ≤ 60) : ∃ q, f_X6_firstWeekAhead h (nI f) (nI t) S = some (fsW R f h (t + 1 - f), stR 705 S s q) := by
  have e : ∃ r, oLp (f_X6_firstWeekAhead_L3 h (nI t)) oFu (nI f, S) = some r ∧ ∃ q, (r = Sum.inl (stR 705 S s q) ∧ fsW R f h (t + 1 - f) = -1) ∨ r = Sum.inr (fsW R f h (t + 1 - f), stR 705 S s q) := by
    refine oLp_inv (fun i z => (∃ q, z = (nI (f + i), stR 705 S s q)) ∧ fsW R f h i = -1) (fun r => ∃ q, (r = Sum.inl (stR 705 S s q) ∧ fsW R f h (t + 1 - f) = -1) ∨ r = Sum.inr (fsW R f h (t + 1 - f), stR 705 S s q)) (t + 1 - f) oFu 0 (nI f, S) ⟨⟨S.1 705 0, by rw [stR_id]; rfl⟩, rfl⟩ (by show _ < 100000; omega) (by omega) ?_ ?_
    · rintro i z hi ⟨⟨q, rfl⟩, hI⟩
      have ek : (stR 705 S s (R (f + i))).1 705 0 (Int32.toNatClampNeg (0 : Int32)) = R (f + i) 0 := stR_in (k := 0) (by omega)
      show (∃ s', (if nI t < nI (f + i) then _ else _) = _ ∧ _) ∨ (∃ r, (if nI t < nI (f + i) then _ else _) = _ ∧ _)
      rw [if_neg (by rw [nI_ltI (by omega) (by omega)]; omega), hX (f + i) (by omega) q, Option.bind_some, ek]
      by_cases g : R (f + i) 0 = h
      · have e1 : fsW R f h (i + 1) = nI (f + i) := by
          show (if fsW R f h i = -1 ∧ R (f + i) 0 = h then _ else _) = _
          rw [if_pos ⟨hI, g⟩]
        have e2 := fsW_st (R := R) (f := f) (h := h) (i := i + 1) (by rw [e1]; exact n_ne1 (by omega)) (t + 1 - f - (i + 1))
        rw [show i + 1 + (t + 1 - f - (i + 1)) = t + 1 - f by omega, e1] at e2
        refine Or.inr ⟨Sum.inr (nI (f + i), stR 705 S s (R (f + i))), ?_, R (f + i), Or.inr (by rw [e2])⟩
        rw [if_pos g]
      · refine Or.inl ⟨(nI (f + (i + 1)), stR 705 S s (R (f + i))), ?_, ⟨_, rfl⟩, ?_⟩
        · rw [if_neg g]
          show _ = some (Sum.inl (nI (f + i + 1), stR 705 S s (R (f + i))))
          rw [← nI_1]
          rfl
        · show (if fsW R f h i = -1 ∧ R (f + i) 0 = h then _ else _) = _
          rw [if_neg (fun z => g z.2)]
          exact hI
    · rintro z ⟨⟨q, rfl⟩, hI⟩
      refine ⟨Sum.inl (stR 705 S s q), ?_, q, Or.inl ⟨rfl, hI⟩⟩
      show (if nI t < nI (f + (t + 1 - f)) then _ else _) = _
      rw [if_pos (by rw [nI_ltI (by omega) (by omega)]; omega)]
  obtain ⟨r, e1, q, ⟨rfl, g⟩ | rfl⟩ := e
  · refine ⟨q, ?_⟩
    unfold f_X6_firstWeekAhead
    rw [e1, g]
    rfl
  · refine ⟨q, ?_⟩
    unfold f_X6_firstWeekAhead
    rw [e1]
    rfl
theorem waits_M {S : oS} {s : Nat} {R : Nat → Nat → Int32} (h2 : 2 ≤ s) (h8 : s ≤ 8) (hP : ∀ w, w ≤ 60 → PR s (R w)) (hM : ∀ w, w ≤ 60 → ∀ q, f_X9_layRow (nI w) (stR 1065 S s q) = some (stR 1065 S s (R w))) {h : Nat} (hh : h < s) (x : Int32) {f t : Nat} (hft : f ≤ t) (ht : t ≤ 60) : ∃ q, oLp (f_X9_waits_L49 (nI h) (nI t) x) oFu ((0 : Int32), (-1 : Int32), nI f, S) = some (cSum (wtS R f s (nI h) (S.1 1000 0 39)) (t + 1 - f), fsW R f (nI h) (t + 1 - f), stR 1065 S s q) := by
  have e : ∃ r, oLp (f_X9_waits_L49 (nI h) (nI t) x) oFu ((0 : Int32), (-1 : Int32), nI f, S) = some r ∧ ∃ q, r = (cSum (wtS R f s (nI h) (S.1 1000 0 39)) (t + 1 - f), fsW R f (nI h) (t + 1 - f), stR 1065 S s q) := by
    refine oLp_all (fun i z => ∃ q, z = (cSum (wtS R f s (nI h) (S.1 1000 0 39)) i, fsW R f (nI h) i, nI (f + i), stR 1065 S s q)) (fun r => ∃ q, r = (cSum (wtS R f s (nI h) (S.1 1000 0 39)) (t + 1 - f), fsW R f (nI h) (t + 1 - f), stR 1065 S s q)) (t + 1 - f) (by omega) ⟨S.1 1065 0, by rw [stR_id]; rfl⟩ ?_ ?_
    · rintro i z hi ⟨q, rfl⟩
      refine ⟨(cSum (wtS R f s (nI h) (S.1 1000 0 39)) (i + 1), fsW R f (nI h) (i + 1), nI (f + (i + 1)), stR 1065 S s (R (f + i))), ?_, R (f + i), rfl⟩
      have ek : (stR 1065 S s (R (f + i))).1 1065 0 (Int32.toNatClampNeg (0 : Int32)) = R (f + i) 0 := stR_in (k := 0) (by omega)
      have key : ∀ a b : Int32, f_X9_waits_K80 (nI h) (nI t) x (fsW R f (nI h) i) (nI (f + i)) a b (stR 1065 S s (R (f + i))) = some (Sum.inl (a + b, fsW R f (nI h) (i + 1), nI (f + (i + 1)), stR 1065 S s (R (f + i)))) := by
        intro a b
        show (if fsW R f (nI h) i = -1 then (if (stR 1065 S s (R (f + i))).1 1065 0 (Int32.toNatClampNeg (0 : Int32)) = nI h then some (Sum.inl (a + b, nI (f + i), nI (f + i) + 1, stR 1065 S s (R (f + i)))) else some (Sum.inl (a + b, fsW R f (nI h) i, nI (f + i) + 1, stR 1065 S s (R (f + i))))) else some (Sum.inl (a + b, fsW R f (nI h) i, nI (f + i) + 1, stR 1065 S s (R (f + i))))) = some (Sum.inl (a + b, (if fsW R f (nI h) i = -1 ∧ R (f + i) 0 = nI h then nI (f + i) else fsW R f (nI h) i), nI (f + i + 1), stR 1065 S s (R (f + i))))
        rw [ek, nI_1]
        by_cases g1 : fsW R f (nI h) i = -1
        · rw [if_pos g1]
          by_cases g2 : R (f + i) 0 = nI h
          · rw [if_pos g2, if_pos ⟨g1, g2⟩]
          · rw [if_neg g2, if_neg (fun z => g2 z.2)]
        · rw [if_neg g1, if_neg (fun z => g1 z.1)]
      show (if nI t < nI (f + i) then _ else _) = _
      rw [if_neg (by rw [nI_ltI (by omega) (by omega)]; omega), hM (f + i) (by omega) q, Option.bind_some, place_M h8 (hP (f + i) (by omega)) hh, Option.bind_some]
      show (if nI (plR (R (f + i)) (nI h) s) < S.1 1000 0 39 then f_X9_waits_K80 (nI h) (nI t) x (fsW R f (nI h) i) (nI (f + i)) (cSum (wtS R f s (nI h) (S.1 1000 0 39)) i) 0 (stR 1065 S s (R (f + i))) else f_X9_waits_K80 (nI h) (nI t) x (fsW R f (nI h) i) (nI (f + i)) (cSum (wtS R f s (nI h) (S.1 1000 0 39)) i) 1 (stR 1065 S s (R (f + i)))) = some (Sum.inl (cSum (wtS R f s (nI h) (S.1 1000 0 39)) i + (if nI (plR (R (f + i)) (nI h) s) < S.1 1000 0 39 then 0 else 1), fsW R f (nI h) (i + 1), nI (f + (i + 1)), _))
      rw [key, key]
      by_cases g : nI (plR (R (f + i)) (nI h) s) < S.1 1000 0 39
      · rw [if_pos g, if_pos g]
      · rw [if_neg g, if_neg g]
    · rintro z ⟨q, rfl⟩
      refine ⟨_, ?_, q, rfl⟩
      show (if nI t < nI (f + (t + 1 - f)) then _ else _) = _
      rw [if_pos (by rw [nI_ltI (by omega) (by omega)]; omega)]
  obtain ⟨r, e1, q, rfl⟩ := e
  exact ⟨q, e1⟩
set_option maxHeartbeats 1000000 in
theorem pr_waits (n : Nat) (a f t x : Int32) : oPair n (f_X8_waits a f t x) (f_X9_waits a f t x) := by
  intro S h
  have h0 := h
  obtain ⟨p1, p2, p3, p4, p5, p6, p7⟩ := h.up
  obtain ⟨s, R, hs2, hs8, es, et, hP, hX, hM⟩ := turn_rows p6
  have ee : S.1 700 0 6 = S.1 1000 0 36 := et.trans es.symm
  by_cases ha : 0 ≤ a ∧ a ≤ S.1 1000 0 36 - 1
  · by_cases hf : (0 : Int32) ≤ f ∧ f ≤ 60
    · by_cases ht : (0 : Int32) ≤ t ∧ t ≤ 60
      · by_cases hft : t < f
        · refine pair_id (r := -2) h0 ?_ ?_
          · simp only [f_X8_waits, hsT, ee, wkX, Option.bind_some, if_pos ha, if_pos hf, if_pos ht, if10, if_pos hft]
          · simp only [f_X9_waits, hsTM, wkM, Option.bind_some, if_pos ha, if_pos hf, if_pos ht, if10, if_pos hft]
        · by_cases hx : (0 : Int32) ≤ x ∧ x ≤ 1
          · obtain ⟨a', ha', rfl⟩ := bel_s es hs2 hs8 ha
            obtain ⟨f', hf', rfl⟩ := wk_nat (c := 60) (m := 60) rfl hf
            obtain ⟨t', ht', rfl⟩ := wk_nat (c := 60) (m := 60) rfl ht
            have hle : f' ≤ t' := by rw [nI_ltI (by omega) (by omega)] at hft; omega
            have e9 : S.1 700 0 9 = S.1 1000 0 39 := p6.2.2.2.2.1.1
            obtain ⟨q1, e1⟩ := weeks_X hs8 et hX (nI a') hle (by omega)
            obtain ⟨q2, e2⟩ := first_X hs2 hX (nI a') hle (by omega)
            rcases bl_of hx with rfl | rfl
            · obtain ⟨q3, e3⟩ := waits_M (S := stR 705 S s q1) hs2 hs8 hP (hM _ rfl rfl rfl rfl rfl) ha' 0 hle (by omega)
              refine ⟨cSum (wtS R f' s (nI a') (S.1 1000 0 39)) (t' + 1 - f'), stR 705 S s q1, stR 1065 (stR 705 S s q1) s q3, ?_, ?_, ⟨p1, p2, p3, p4, p5, p6, p7⟩⟩
              · simp only [f_X8_waits, hsT, ee, wkX, wX, Option.bind_some, if_pos ha, if_pos hf, if_pos ht, if10, if_neg hft, if_pos hx, if00, if_true, e1, e9]
              · have ha2 : 0 ≤ nI a' ∧ nI a' ≤ (stR 705 S s q1).1 1000 0 36 - 1 := ha
                simp only [f_X9_waits, hsTM, wkM, wM, Option.bind_some, if_pos ha2, if_pos hf, if_pos ht, if10, if_neg hft, if_pos hx, if00, if_true, e3]
                rfl
            · obtain ⟨q3, e3⟩ := waits_M (S := stR 705 S s q2) hs2 hs8 hP (hM _ rfl rfl rfl rfl rfl) ha' 1 hle (by omega)
              refine ⟨fsW R f' (nI a') (t' + 1 - f'), stR 705 S s q2, stR 1065 (stR 705 S s q2) s q3, ?_, ?_, ⟨p1, p2, p3, p4, p5, p6, p7⟩⟩
              · simp only [f_X8_waits, hsT, ee, wkX, wX, Option.bind_some, if_pos ha, if_pos hf, if_pos ht, if10, if_neg hft, if_pos hx, e2]
              · have ha2 : 0 ≤ nI a' ∧ nI a' ≤ (stR 705 S s q2).1 1000 0 36 - 1 := ha
                simp only [f_X9_waits, hsTM, wkM, wM, Option.bind_some, if_pos ha2, if_pos hf, if_pos ht, if10, if_neg hft, if_pos hx, e3]
          · refine pair_id (r := -2) h0 ?_ ?_
            · simp only [f_X8_waits, hsT, ee, wkX, wX, Option.bind_some, if_pos ha, if_pos hf, if_pos ht, if10, if_neg hft, if_neg hx, if00, if_true]
            · simp only [f_X9_waits, hsTM, wkM, wM, Option.bind_some, if_pos ha, if_pos hf, if_pos ht, if10, if_neg hft, if_neg hx, if00, if_true]
      · refine pair_id (r := -2) h0 ?_ ?_
        · simp only [f_X8_waits, hsT, ee, wkX, Option.bind_some, if_pos ha, if_pos hf, if_neg ht, if10, if00, if_true]
        · simp only [f_X9_waits, hsTM, wkM, Option.bind_some, if_pos ha, if_pos hf, if_neg ht, if10, if00, if_true]
    · refine pair_id (r := -2) h0 ?_ ?_
      · simp only [f_X8_waits, hsT, ee, wkX, Option.bind_some, if_pos ha, if_neg hf, if10, if00, if_true]
      · simp only [f_X9_waits, hsTM, wkM, Option.bind_some, if_pos ha, if_neg hf, if10, if00, if_true]
  · refine pair_id (r := -2) h0 ?_ ?_
    · simp only [f_X8_waits, hsT, ee, Option.bind_some, if_neg ha, if00, if_true]
    · simp only [f_X9_waits, hsTM, Option.bind_some, if_neg ha, if00, if_true]
