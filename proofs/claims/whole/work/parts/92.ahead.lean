/-! The oven ahead: openings, forecasts on both sides -/
def opF (T : Nat → Nat) : Nat → Nat → Int32
  | 0, _ => 0
  | i + 1, t => if T i = t then 1 else opF T i t
theorem opF_01 {T : Nat → Nat} {t : Nat} : ∀ i, opF T i t = 0 ∨ opF T i t = 1 := by
  intro i
  induction i with
  | zero => exact Or.inl rfl
  | succ i ih =>
    show (if T i = t then (1 : Int32) else opF T i t) = 0 ∨ (if T i = t then (1 : Int32) else opF T i t) = 1
    by_cases g : T i = t
    · rw [if_pos g]; exact Or.inr rfl
    · rw [if_neg g]; exact ih
theorem opF_1 {T : Nat → Nat} {t i : Nat} (h : T i = t) : ∀ Q, i < Q → opF T Q t = 1 := by
  intro Q
  induction Q with
  | zero => intro z; omega
  | succ Q ih =>
    intro z
    show (if T Q = t then (1 : Int32) else opF T Q t) = 1
    by_cases g : T Q = t
    · rw [if_pos g]
    · rw [if_neg g]
      have : i ≠ Q := fun y => g (by rw [← y]; exact h)
      exact ih (by omega)
theorem opF_cg {T U : Nat → Nat} {t : Nat} : ∀ Q, (∀ i, i < Q → T i = U i) → opF T Q t = opF U Q t := by
  intro Q
  induction Q with
  | zero => intro _; rfl
  | succ Q ih =>
    intro e
    show (if T Q = t then (1 : Int32) else opF T Q t) = (if U Q = t then (1 : Int32) else opF U Q t)
    rw [ih (fun i hi => e i (by omega)), e Q (by omega)]
theorem isOp_X {Y : oS} {T : Nat → Nat} {Q t : Nat} (hQ : Y.1 600 0 11 = nI Q) (h3 : Q ≤ 3) (hT : ∀ i, i < Q → Y.1 605 0 i = nI (T i) ∧ T i ≤ 40) (ht : t ≤ 1000) : f_X5_isOpening (nI t) Y = some (opF T Q t, Y) := by
  have e : ∃ x, oLp (f_X5_isOpening_L2 (nI t)) oFu ((0 : Int32), Y) = some x ∧ ((x = Sum.inl Y ∧ opF T Q t = 0) ∨ (x = Sum.inr ((1 : Int32), Y) ∧ opF T Q t = 1)) := by
    refine oLp_inv (fun i s => s = (nI i, Y) ∧ opF T i t = 0) (fun x => (x = Sum.inl Y ∧ opF T Q t = 0) ∨ (x = Sum.inr ((1 : Int32), Y) ∧ opF T Q t = 1)) Q oFu 0 ((0 : Int32), Y) ⟨rfl, rfl⟩ (by show Q - 0 < 100000; omega) (by omega) ?_ ?_
    · rintro i s hi ⟨rfl, hI⟩
      obtain ⟨h1, h2⟩ := hT i hi
      have ek : Y.1 605 0 (nI i).toNatClampNeg = nI (T i) := by rw [ncl (by omega), h1]
      show (∃ s', (if Y.1 600 0 11 ≤ nI i then _ else _) = _ ∧ _) ∨ (∃ r, (if Y.1 600 0 11 ≤ nI i then _ else _) = _ ∧ _)
      rw [hQ, if_neg (by rw [nI_leI (by omega) (by omega)]; omega), if_pos ((nin (by omega)).mpr (by omega)), ek]
      by_cases g : T i = t
      · refine Or.inr ⟨Sum.inr (1, Y), ?_, Or.inr ⟨rfl, opF_1 g Q hi⟩⟩
        rw [if_pos (by rw [g])]
      · refine Or.inl ⟨(nI (i + 1), Y), ?_, rfl, ?_⟩
        · rw [if_neg (by rw [nI_eq (by omega) (by omega)]; exact g), ← nI_1]
          rfl
        · show (if T i = t then (1 : Int32) else opF T i t) = 0
          rw [if_neg g]; exact hI
    · rintro s ⟨rfl, hI⟩
      refine ⟨Sum.inl Y, ?_, Or.inl ⟨rfl, hI⟩⟩
      show (if Y.1 600 0 11 ≤ nI Q then _ else _) = _
      rw [hQ, if_pos (by rw [i_le]; exact Int.le_refl _)]
  unfold f_X5_isOpening
  obtain ⟨x, e1, ⟨rfl, h⟩ | ⟨rfl, h⟩⟩ := e
  · rw [e1, h]; rfl
  · rw [e1, h]; rfl
theorem isOp_M {Y : oS} {T : Nat → Nat} {Q t : Nat} (hQ : Y.1 1000 0 34 = nI Q) (h3 : Q ≤ 3) (hT : ∀ i, i < Q → Y.1 1036 0 i = nI (T i) ∧ T i ≤ 40) (ht : t ≤ 1000) : f_X9_isOpening (nI t) Y = some (opF T Q t, Y) := by
  have e : oLp (f_X9_isOpening_L4 (nI t)) oFu ((0 : Int32), (0 : Int32), Y) = some (opF T Q t, Y) := by
    refine oLp_eq (fun i => (opF T i t, nI i, Y)) _ Q (by omega) rfl ?_ ?_
    · intro i hi
      obtain ⟨h1, h2⟩ := hT i hi
      have ek : Y.1 1036 0 (nI i).toNatClampNeg = nI (T i) := by rw [ncl (by omega), h1]
      show (if Y.1 1000 0 34 ≤ nI i then _ else (if opF T i t = 0 then (if oIn (nI i) 4 then (if Y.1 1036 0 (nI i).toNatClampNeg = nI t then some (Sum.inl ((1 : Int32), nI i + 1, Y)) else some (Sum.inl ((0 : Int32), nI i + 1, Y))) else none) else some (Sum.inl ((1 : Int32), nI i + 1, Y)))) = some (Sum.inl ((if T i = t then (1 : Int32) else opF T i t), nI (i + 1), Y))
      rw [hQ, if_neg (by rw [nI_leI (by omega) (by omega)]; omega), if_pos ((nin (by omega)).mpr (by omega)), ek, nI_1]
      rcases opF_01 (T := T) (t := t) i with z | z
      · rw [z, if00]
        by_cases g : T i = t
        · rw [if_pos (by rw [g]), if_pos g]
        · rw [if_neg (by rw [nI_eq (by omega) (by omega)]; exact g), if_neg g]
      · rw [z, if10]
        by_cases g : T i = t
        · rw [if_pos g]
        · rw [if_neg g]
    · show (if Y.1 1000 0 34 ≤ nI Q then _ else _) = _
      rw [hQ, if_pos (by rw [i_le]; exact Int.le_refl _)]
  unfold f_X9_isOpening
  rw [e, Option.bind_some, if_pos (opF_01 Q)]
/-- only masonry 1 and the forecast have changed -/
def FrP (S Y : oS) : Prop := (∀ t i k, (i ≠ 1 ∨ t < 500 ∨ 505 < t) → Y.1 t i k = S.1 t i k) ∧ ∀ t i k, (i ≠ 1 ∨ t < 500 ∨ 505 < t) → t ≠ 603 → Y.2 t i k = S.2 t i k
def fcV (c : Nat → Int32) (a : Int32) (f : Nat) (h : Nat → Int64) (d : Nat → Int32) (F : Nat → Int64) (O : Nat → Int32) (t r : Nat) : Int64 := (itS c a f h d F O (t + 1)).1 (3 * r) / 10
theorem n_40 (m i : Nat) : 4 * nI m + nI i = nI (4 * m + i) := n4' m i
theorem foreL_X {Y : oS} {h : Nat → Int64} {d : Nat → Int32} {n : Nat} {ls lw c : Nat → Int32} {a : Int32} {f t0 : Nat} (ht : t0 < 40) (H : hM 1 Y h d n ls lw c a f) : ∃ Y', oLp (f_X5_foresee_L30 (nI t0)) oFu ((0 : Int32), Y) = some Y' ∧ Y'.1 = Y.1 ∧ (∀ t i k, ¬ (t = 603 ∧ i = 0 ∧ 4 * t0 ≤ k) → Y'.2 t i k = Y.2 t i k) ∧ ∀ r, r < 4 → Y'.2 603 0 (4 * t0 + r) = h (3 * r) / 10 := by
  refine oLp_all (fun i s => ∃ Y' : oS, s = (nI i, Y') ∧ Y'.1 = Y.1 ∧ (∀ t i k, ¬ (t = 603 ∧ i = 0 ∧ 4 * t0 ≤ k) → Y'.2 t i k = Y.2 t i k) ∧ ∀ r, r < i → Y'.2 603 0 (4 * t0 + r) = h (3 * r) / 10) (fun Y' : oS => Y'.1 = Y.1 ∧ (∀ t i k, ¬ (t = 603 ∧ i = 0 ∧ 4 * t0 ≤ k) → Y'.2 t i k = Y.2 t i k) ∧ ∀ r, r < 4 → Y'.2 603 0 (4 * t0 + r) = h (3 * r) / 10) 4 (by omega) ⟨Y, rfl, rfl, fun _ _ _ _ => rfl, fun r hr => absurd hr (Nat.not_lt_zero _)⟩ ?_ ?_
  · rintro i s hi ⟨Y', rfl, e1, e2, e3⟩
    obtain ⟨a1, a2, a3, a4, a5, a6, a7, a8⟩ := H
    have H' : hM 1 Y' h d n ls lw c a f := ⟨fun k hk => by rw [e2 _ _ _ (by omega)]; exact a1 k hk, by rw [e1]; exact a2, by rw [e1]; exact a3, by rw [e1]; exact a4, by rw [e1]; exact a5, by rw [e1]; exact a6, by rw [e1]; exact a7, by rw [e1]; exact a8⟩
    refine ⟨(nI (i + 1), oStL Y' 603 0 (4 * t0 + i) (h (3 * i) / 10)), ?_, _, rfl, e1, fun t i' k hh => ?_, fun r hr => ?_⟩
    · show (if (4 : Int32) ≤ nI i then _ else _) = _
      rw [if_neg (le4 hi), wf_P H' hi, Option.bind_some, n4, if_pos ((nin (by omega)).mpr (by omega))]
      show some (Sum.inl (nI i + 1, oStL Y' 603 0 (nI (4 * t0 + i)).toNatClampNeg (h (3 * i) / 10))) = _
      rw [ncl (by omega), nI_1]
    · show (if t = 603 ∧ i' = 0 ∧ k = 4 * t0 + i then _ else Y'.2 t i' k) = _
      rw [if_neg (by omega)]
      exact e2 t i' k hh
    · show (if 603 = 603 ∧ 0 = 0 ∧ 4 * t0 + r = 4 * t0 + i then h (3 * i) / 10 else Y'.2 603 0 (4 * t0 + r)) = _
      by_cases z : r = i
      · rw [if_pos ⟨rfl, rfl, by omega⟩, z]
      · rw [if_neg (by omega)]
        exact e3 r (by omega)
  · rintro s ⟨Y', rfl, e1, e2, e3⟩
    exact ⟨Y', rfl, e1, e2, e3⟩
theorem fore_X {S : oS} {h : Nat → Int64} {d : Nat → Int32} {n : Nat} {ls lw c : Nat → Int32} {a : Int32} {f Q : Nat} {T : Nat → Nat} (hn : n ≤ 30) (hf : f ≤ 2) (H : hM 0 S h d n ls lw c a f) (hQ : S.1 600 0 11 = nI Q) (h3 : Q ≤ 3) (hT : ∀ i, i < Q → S.1 605 0 i = nI (T i) ∧ T i ≤ 40) : ∃ Y, f_X5_foresee 0 S = some Y ∧ FrP S Y ∧ ∀ t r, t < 40 → r < 4 → Y.2 603 0 (4 * t + r) = fcV c a f h d (fiL n ls lw) (opF T Q) t r := by
  obtain ⟨Z1, e1, H1, F1⟩ := copy_P (j := 1) (i0 := 0) (by decide) H
  have e : ∃ Y, oLp f_X5_foresee_L10 oFu ((0 : Int32), Z1) = some Y ∧ FrP S Y ∧ ∀ t r, t < 40 → r < 4 → Y.2 603 0 (4 * t + r) = fcV c a f h d (fiL n ls lw) (opF T Q) t r := by
    refine oLp_all (fun i s => ∃ Y : oS, s = (nI i, Y) ∧ FrP S Y ∧ hM 1 Y (itS c a f h d (fiL n ls lw) (opF T Q) i).1 (itS c a f h d (fiL n ls lw) (opF T Q) i).2 (n - i) (shT ls n i) (shT lw n i) c a f ∧ ∀ t r, t < i → r < 4 → Y.2 603 0 (4 * t + r) = fcV c a f h d (fiL n ls lw) (opF T Q) t r) (fun Y : oS => FrP S Y ∧ ∀ t r, t < 40 → r < 4 → Y.2 603 0 (4 * t + r) = fcV c a f h d (fiL n ls lw) (opF T Q) t r) 40 (by omega) ⟨Z1, rfl, ⟨fun t i k z => F1.1 t i k z, fun t i k z _ => F1.2 t i k z⟩, H1, fun t r ht => absurd ht (Nat.not_lt_zero _)⟩ ?_ ?_
    · rintro i s hi ⟨Y, rfl, FY, HY, hI⟩
      have hop := isOp_X (Y := Y) (T := T) (Q := Q) (t := i) (by rw [FY.1 _ _ _ (by omega)]; exact hQ) h3 (fun k hk => by rw [FY.1 _ _ _ (by omega)]; exact hT k hk) (by omega)
      obtain ⟨Y1, p1, p2, p3⟩ := pass_P (opF T Q i) (by omega) hf HY
      rw [frT] at p2
      obtain ⟨Y2, q1, q2, q3, q4⟩ := foreL_X hi p2
      refine ⟨(nI (i + 1), Y2), ?_, Y2, rfl, ⟨fun t i' k z => ?_, fun t i' k z z2 => ?_⟩, ?_, fun t r ht hr => ?_⟩
      · show (if (40 : Int32) ≤ nI i then _ else _) = _
        rw [if_neg (by rw [nle (m := 40) rfl (by omega)]; omega), hop, Option.bind_some]
        show (f_X4_passTick 1 (opF T Q i) Y).bind _ = _
        rw [p1, Option.bind_some, q1, Option.bind_some, oLet_eq, nI_1]
      · rw [q2, p3.1 t i' k z]; exact FY.1 t i' k z
      · rw [q3 t i' k (by omega), p3.2 t i' k z]; exact FY.2 t i' k z z2
      · obtain ⟨a1, a2, a3, a4, a5, a6, a7, a8⟩ := p2
        exact ⟨fun k hk => by rw [q3 _ _ _ (by omega)]; exact a1 k hk, by rw [q2]; exact a2, by rw [q2]; exact a3, by rw [q2]; exact a4, by rw [q2]; exact a5, by rw [q2]; exact a6, by rw [q2]; exact a7, by rw [q2]; exact a8⟩
      · by_cases z : t = i
        · subst z
          exact q4 r hr
        · rw [q3 603 0 (4 * t + r) (by omega), p3.2 603 0 _ (Or.inl (by decide))]
          exact hI t r (by omega) hr
    · rintro s ⟨Y, rfl, FY, HY, hI⟩
      exact ⟨Y, rfl, FY, hI⟩
  obtain ⟨Y, e2, FY, hI⟩ := e
  refine ⟨Y, ?_, FY, hI⟩
  unfold f_X5_foresee
  rw [e1, Option.bind_some, e2, Option.bind_some]
