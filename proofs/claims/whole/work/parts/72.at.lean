theorem tlR_cg {W A B G W' A' B' G' : Nat → Int32} {w : Int32} {s m : Nat} {p : Nat → Int32} (h : ∀ i, i < m → W i = W' i ∧ A i = A' i ∧ B i = B' i ∧ G i = G' i) : ∀ i, i ≤ m → tlR W A B G w s p i = tlR W' A' B' G' w s p i := by
  intro i
  induction i with
  | zero => intro _; rfl
  | succ i ih =>
    intro hi
    obtain ⟨e1, e2, e3, e4⟩ := h i (by omega)
    show (if W i = w then (if G i = 0 then swR (tlR W A B G w s p i) (plR (tlR W A B G w s p i) (A i) s) (plR (tlR W A B G w s p i) (B i) s) else gvR (tlR W A B G w s p i) (plR (tlR W A B G w s p i) (A i) s) (plR (tlR W A B G w s p i) (B i) s)) else tlR W A B G w s p i) = (if W' i = w then (if G' i = 0 then swR (tlR W' A' B' G' w s p i) (plR (tlR W' A' B' G' w s p i) (A' i) s) (plR (tlR W' A' B' G' w s p i) (B' i) s) else gvR (tlR W' A' B' G' w s p i) (plR (tlR W' A' B' G' w s p i) (A' i) s) (plR (tlR W' A' B' G' w s p i) (B' i) s)) else tlR W' A' B' G' w s p i)
    rw [ih (by omega), e1, e2, e3, e4]
theorem turn_rows {S : oS} (h : iTur S) : ∃ (s : Nat) (R : Nat → Nat → Int32), 2 ≤ s ∧ s ≤ 8 ∧ S.1 1000 0 36 = nI s ∧ S.1 700 0 6 = nI s ∧ (∀ w, w ≤ 60 → PR s (R w)) ∧ (∀ w, w ≤ 60 → ∀ q, f_X6_makeRow (nI w) (stR 705 S s q) = some (stR 705 S s (R w))) ∧ ∀ T : oS, T.1 1000 0 = S.1 1000 0 → T.1 1042 0 = S.1 1042 0 → T.1 1043 0 = S.1 1043 0 → T.1 1044 0 = S.1 1044 0 → T.1 1045 0 = S.1 1045 0 → ∀ w, w ≤ 60 → ∀ q, f_X9_layRow (nI w) (stR 1065 T s q) = some (stR 1065 T s (R w)) := by
  obtain ⟨⟨t1, t1'⟩, ⟨t2, t2'⟩, ⟨t3, t3'⟩, ⟨t4, t4'⟩, ⟨t5, t5'⟩, t6⟩ := h
  obtain ⟨m, hm, em, em'⟩ := rg_nat t1'
  obtain ⟨s, hs, es, es'⟩ := rg_nat (x := S.1 1000 0 36) (N := 8) ⟨by have := t2'.1; omega, t2'.2⟩
  have hs2 := t2'.1
  have hA : ∀ i, i < m → ∃ a, a < s ∧ S.1 1043 0 i = nI a := fun i hi => by
    obtain ⟨-, -, -, -, q1, q2, -⟩ := t6 i (by omega)
    exact ⟨_, by omega, i_nat q1⟩
  have hB : ∀ i, i < m → ∃ a, a < s ∧ S.1 1044 0 i = nI a := fun i hi => by
    obtain ⟨-, -, -, -, -, -, q1, q2, -⟩ := t6 i (by omega)
    exact ⟨_, by omega, i_nat q1⟩
  refine ⟨s, fun w => rwR s m (S.1 1042 0) (S.1 1043 0) (S.1 1044 0) (S.1 1045 0) (S.1 1000 0 37) (S.1 1000 0 38) w, by omega, by omega, es, t2.trans es, fun w hw => tlR_PR (rwB_PR (by omega) (by omega)) hA hB m (Nat.le_refl _), fun w hw q => ?_, fun T e1 e2 e3 e4 e5 w hw q => ?_⟩
  · have := make_X (S := S) (s := s) (m := m) (w := w) q (by omega) (by omega) (by omega) hw (t2.trans es) (t1.trans em) (by rw [t4]; exact t4') (fun i hi => by rw [(t6 i (by omega)).2.1]; exact hA i hi) (fun i hi => by rw [(t6 i (by omega)).2.2.1]; exact hB i hi)
    rw [this]
    unfold rwR
    rw [t3, t4, tlR_cg (fun i hi => by obtain ⟨q1, q2, q3, q4, -⟩ := t6 i (by omega); exact ⟨q1, q2, q3, q4⟩) m (Nat.le_refl _)]
  · have := lay_M (S := T) (s := s) (m := m) (w := w) q (by omega) (by omega) (by omega) hw (by rw [e1]; exact es) (by rw [e1]; exact em) (by rw [e1]; exact t4') (by rw [e1]; exact t3') (fun i hi => by rw [e3]; exact hA i hi) (fun i hi => by rw [e4]; exact hB i hi)
    rw [this, e1, e2, e3, e4, e5]
theorem bel_s {k : Int32} {c : Int32} {s : Nat} (hc : c = nI s) (hs : 2 ≤ s) (h8 : s ≤ 8) (h : 0 ≤ k ∧ k ≤ c - 1) : ∃ i : Nat, i < s ∧ k = nI i := by
  obtain ⟨i, h1, h2⟩ := bel_nat (N := 8) (by rw [hc]; exact ⟨by rw [nT (by omega)]; omega, by rw [nT (by omega)]; omega⟩) h
  rw [hc, nT (by omega)] at h1
  exact ⟨i, by omega, h2⟩
set_option maxHeartbeats 1000000 in
theorem pr_at (n : Nat) (w k : Int32) : oPair n (f_X8_at w k) (f_X9_at w k) := by
  intro S h
  have h0 := h
  obtain ⟨p1, p2, p3, p4, p5, p6, p7⟩ := h.up
  obtain ⟨s, R, hs2, hs8, es, et, hP, hX, hM⟩ := turn_rows p6
  by_cases hw : (0 : Int32) ≤ w ∧ w ≤ 60
  · by_cases hk : 0 ≤ k ∧ k ≤ S.1 1000 0 36 - 1
    · obtain ⟨w', hw', rfl⟩ := wk_nat (c := 60) (m := 60) rfl hw
      obtain ⟨k', hk', rfl⟩ := bel_s es hs2 hs8 hk
      have eX := hX w' (by omega) (S.1 705 0)
      rw [stR_id] at eX
      have eM := hM (stR 705 S s (R w')) rfl rfl rfl rfl rfl w' (by omega) ((stR 705 S s (R w')).1 1065 0)
      rw [stR_id] at eM
      have hin : oIn (nI k') 8 := (nin (by omega)).mpr (by omega)
      refine ⟨R w' k', stR 705 S s (R w'), stR 1065 (stR 705 S s (R w')) s (R w'), ?_, ?_, ⟨p1, p2, p3, p4, p5, p6, p7⟩⟩
      · simp only [f_X8_at, wkX, Option.bind_some, if_pos hw, if10, wX]
        rw [et, ← es, if_pos hk, if10, eX, Option.bind_some, if_pos hin]
        have : (stR 705 S s (R w')).1 705 0 (nI k').toNatClampNeg = R w' k' := by rw [ncl (by omega), stR_in hk']
        rw [this]
      · have hk' : 0 ≤ nI k' ∧ nI k' ≤ (stR 705 S s (R w')).1 1000 0 36 - 1 := hk
        simp only [f_X9_at, wkM, Option.bind_some, if_pos hw, if10, wM]
        rw [if_pos hk', if10, eM, Option.bind_some, if_pos hin]
        have : (stR 1065 (stR 705 S s (R w')) s (R w')).1 1065 0 (nI k').toNatClampNeg = R w' k' := by rw [ncl (by omega), stR_in (by omega)]
        rw [this]
    · refine pair_id (r := -2) h0 ?_ ?_
      · simp only [f_X8_at, wkX, Option.bind_some, if_pos hw, if10, wX]
        rw [et, ← es, if_neg hk, if00]
      · simp only [f_X9_at, wkM, Option.bind_some, if_pos hw, if10, wM]
        rw [if_neg hk, if00]
  · refine pair_id (r := -2) h0 ?_ ?_
    · simp only [f_X8_at, wkX, Option.bind_some, if_neg hw, if00, if_true]
    · simp only [f_X9_at, wkM, Option.bind_some, if_neg hw, if00, if_true]
