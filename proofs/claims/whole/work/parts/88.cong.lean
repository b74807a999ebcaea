/-! A step looks at twelve heats, four damps, four cracks alone -/
theorem uL_cg {h g : Nat → Int64} {k : Nat} {v w : Int64} {N : Nat} (e : ∀ i, i < N → h i = g i) (ev : v = w) : ∀ i, i < N → uL h k v i = uL g k w i := by
  intro i hi
  unfold uL
  rw [e i hi, ev]
theorem brH_cg {h g : Nat → Int64} {f : Nat} {F : Int64} (hf : f ≤ 2) (e : ∀ k, k < 12 → h k = g k) : ∀ k, k < 12 → brH h f F k = brH g f F k := by
  have e0 := e (3 * f) (by omega)
  have e1 := e (3 * (f + 1)) (by omega)
  have s1 := uL_cg (k := 3 * f) e (show h (3 * f) + F / 2 = g (3 * f) + F / 2 by rw [e0])
  have s2 := uL_cg (k := 3 * (f + 1)) s1 (show h (3 * (f + 1)) + (F - F / 2) / 2 = g (3 * (f + 1)) + (F - F / 2) / 2 by rw [e1])
  unfold brH
  exact uL_cg s2 (by rw [s2 (3 * (f - 1)) (by omega)])
theorem dr_cg {h g : Nat → Int64} {d e : Nat → Int32} {r : Nat} (e1 : h (3 * r) = g (3 * r)) (e2 : d r = e r) : dr h d r = dr g e r := by
  unfold dr
  rw [e1, e2]
theorem dryH_cg {h g : Nat → Int64} {d e : Nat → Int32} (e1 : ∀ k, k < 12 → h k = g k) (e2 : ∀ k, k < 4 → d k = e k) : ∀ k, k < 12 → dryH h d 4 k = dryH g e 4 k := by
  intro k hk
  unfold dryH
  rw [e1 k hk, dr_cg (r := k / 3) (e1 _ (by omega)) (e2 _ (by omega))]
theorem dryD_cg {h g : Nat → Int64} {d e : Nat → Int32} (e1 : ∀ k, k < 12 → h k = g k) (e2 : ∀ k, k < 4 → d k = e k) : ∀ k, k < 4 → dryD h d 4 k = dryD g e 4 k := by
  intro k hk
  unfold dryD
  rw [e2 k hk, dr_cg (r := k) (e1 _ (by omega)) (e2 _ (by omega))]
theorem soH_cg {h g : Nat → Int64} {c e : Nat → Int32} (e1 : ∀ k, k < 12 → h k = g k) (e2 : ∀ k, k < 4 → c k = e k) : ∀ k, k < 12 → soH h c 4 k = soH g e 4 k := by
  intro k hk
  unfold soH tbS tkS
  rw [e1 k hk, e1 (3 * (k / 3)) (by omega), e1 (3 * (k / 3) + 1) (by omega), e1 (3 * (k / 3) + 2) (by omega), e2 (k / 3) (by omega)]
theorem flE_cg {h g : Nat → Int64} (e1 : ∀ k, k < 12 → h k = g k) {r : Nat} (hr : r < 3) : flE h r = flE g r := by
  unfold flE
  rw [e1 (3 * r) (by omega), e1 (3 * (r + 1)) (by omega)]
theorem evH_cg {h g : Nat → Int64} (e1 : ∀ k, k < 12 → h k = g k) : ∀ k, k < 12 → evH h 3 k = evH g 3 k := by
  intro k hk
  have ei : inE h 3 (k / 3) = inE g 3 (k / 3) := by
    unfold inE
    by_cases z : 1 ≤ k / 3 ∧ k / 3 ≤ 3
    · rw [if_pos z, if_pos z, e1 (3 * (k / 3)) (by omega), flE_cg e1 (by omega)]
    · rw [if_neg z, if_neg z, e1 (3 * (k / 3)) (by omega)]
  unfold evH
  rw [ei, e1 k hk]
  by_cases z : k / 3 < 3
  · rw [if_pos z, if_pos z, flE_cg e1 z]
  · rw [if_neg z, if_neg z]
theorem loH_cg {h g : Nat → Int64} {c e : Nat → Int32} {a o : Int32} (e1 : ∀ k, k < 12 → h k = g k) (e2 : ∀ k, k < 4 → c k = e k) : ∀ k, k < 12 → loH h c a o 4 k = loH g e a o 4 k := by
  intro k hk
  unfold loH skL lnL
  rw [e1 k hk, e1 (3 * (k / 3)) (by omega), e1 (3 * (k / 3) + 2) (by omega), e2 (k / 3) (by omega)]
theorem st_cg {h g : Nat → Int64} {d e c c' : Nat → Int32} {a o : Int32} {f : Nat} {F : Int64} (hf : f ≤ 2) (e1 : ∀ k, k < 12 → h k = g k) (e2 : ∀ k, k < 4 → d k = e k) (e3 : ∀ k, k < 4 → c k = c' k) : (∀ k, k < 12 → stH h d c a f F o k = stH g e c' a f F o k) ∧ ∀ k, k < 4 → stD h d f F k = stD g e f F k :=
  ⟨loH_cg (evH_cg (soH_cg (dryH_cg (brH_cg hf e1) e2) e3)) e3, dryD_cg (brH_cg hf e1) e2⟩
/-- masonry j of a state holds these -/
def hM (j : Nat) (Z : oS) (h : Nat → Int64) (d : Nat → Int32) (n : Nat) (ls lw : Nat → Int32) (c : Nat → Int32) (a : Int32) (f : Nat) : Prop := (∀ k, k < 12 → Z.2 501 j k = h k) ∧ (∀ k, k < 4 → Z.1 502 j k = d k) ∧ Z.1 500 j 5 = nI n ∧ (∀ k, k < 30 → Z.1 504 j k = ls k) ∧ (∀ k, k < 30 → Z.1 505 j k = lw k) ∧ (∀ k, k < 4 → Z.1 503 j k = c k) ∧ Z.1 500 j 7 = a ∧ Z.1 500 j 6 = nI f
/-- only masonry j has changed -/
def Fr (j : Nat) (Z Z' : oS) : Prop := (∀ t i k, (i ≠ j ∨ t < 500 ∨ 505 < t) → Z'.1 t i k = Z.1 t i k) ∧ ∀ t i k, (i ≠ j ∨ t < 500 ∨ 505 < t) → Z'.2 t i k = Z.2 t i k
theorem Fr.tr {j : Nat} {X Y Z : oS} (h1 : Fr j X Y) (h2 : Fr j Y Z) : Fr j X Z := ⟨fun t i k h => (h2.1 t i k h).trans (h1.1 t i k h), fun t i k h => (h2.2 t i k h).trans (h1.2 t i k h)⟩
theorem Fr.rf {j : Nat} {X : oS} : Fr j X X := ⟨fun _ _ _ _ => rfl, fun _ _ _ _ => rfl⟩
theorem hM_fr {i j : Nat} {Z Z' : oS} {h : Nat → Int64} {d : Nat → Int32} {n : Nat} {ls lw c : Nat → Int32} {a : Int32} {f : Nat} (hij : i ≠ j) (H : hM i Z h d n ls lw c a f) (F : Fr j Z Z') : hM i Z' h d n ls lw c a f := by
  obtain ⟨a1, a2, a3, a4, a5, a6, a7, a8⟩ := H
  exact ⟨fun k hk => by rw [F.2 _ _ _ (Or.inl hij)]; exact a1 k hk, fun k hk => by rw [F.1 _ _ _ (Or.inl hij)]; exact a2 k hk, by rw [F.1 _ _ _ (Or.inl hij)]; exact a3, fun k hk => by rw [F.1 _ _ _ (Or.inl hij)]; exact a4 k hk, fun k hk => by rw [F.1 _ _ _ (Or.inl hij)]; exact a5 k hk, fun k hk => by rw [F.1 _ _ _ (Or.inl hij)]; exact a6 k hk, by rw [F.1 _ _ _ (Or.inl hij)]; exact a7, by rw [F.1 _ _ _ (Or.inl hij)]; exact a8⟩
theorem pass_P {j : Nat} {Z : oS} {h : Nat → Int64} {d : Nat → Int32} {n : Nat} {ls lw c : Nat → Int32} {a : Int32} {f : Nat} (o : Int32) (hn : n ≤ 30) (hf : f ≤ 2) (H : hM j Z h d n ls lw c a f) : ∃ Z', f_X4_passTick j o Z = some Z' ∧ hM j Z' (stH h d c a f (frO n ls lw) o) (stD h d f (frO n ls lw)) (n - 1) (shG ls n) (shG lw n) c a f ∧ Fr j Z Z' := by
  obtain ⟨a1, a2, a3, a4, a5, a6, a7, a8⟩ := H
  have p := pass_X (j := j) (S := Z) (b := Z.2 500 j 8) (n := n) (ls := Z.1 504 j) (lw := Z.1 505 j) (h := Z.2 501 j) (d := Z.1 502 j) (l := Z.2 500 j 9) o hn a8 hf
  rw [lX_id a3, mX_id] at p
  have eF : frO n (Z.1 504 j) (Z.1 505 j) = frO n ls lw := by
    unfold frO
    rw [a4 0 (by omega), a5 0 (by omega)]
  have es : ∀ (x y : Nat → Int32), (∀ k, k < 30 → x k = y k) → ∀ k, k < 30 → shG x n k = shG y n k := by
    intro x y hxy k hk
    unfold shG
    by_cases z : k < n - 1
    · rw [if_pos z, if_pos z, hxy (k + 1) (by omega)]
    · rw [if_neg z, if_neg z, hxy k hk]
  rw [eF] at p
  obtain ⟨s1, s2⟩ := st_cg (a := a) (o := o) (F := frO n ls lw) hf a1 a2 a6
  rw [a7] at p
  refine ⟨_, p, ⟨fun k hk => ?_, fun k hk => ?_, ?_, fun k hk => ?_, fun k hk => ?_, fun k hk => ?_, ?_, ?_⟩, fun t i k hh => ?_, fun t i k hh => ?_⟩
  · rw [mX_2, if_pos ⟨rfl, rfl, hk⟩]; exact s1 k hk
  · rw [mX_1, if_pos ⟨rfl, rfl, hk⟩]; exact s2 k hk
  · rw [mX_a, lX_n]
  · rw [bu_rs]; exact es _ _ a4 k hk
  · rw [bu_rw]; exact es _ _ a5 k hk
  · rw [mX_1, if_neg (fun z => absurd z.1 (by decide))]; exact a6 k hk
  · rw [mX_a, lX_7]; exact a7
  · rw [mX_a, lX_6]; exact a8
  · rw [mX_1, lX_1, if_neg (by omega), if_neg (by omega), if_neg (by omega), if_neg (by omega)]
  · rw [mX_2, lX_2, if_neg (by omega), if_neg (by omega), if_neg (by omega)]
theorem copy_P {j i0 : Nat} {Z : oS} {h : Nat → Int64} {d : Nat → Int32} {n : Nat} {ls lw c : Nat → Int32} {a : Int32} {f : Nat} (hj : i0 ≠ j) (H : hM i0 Z h d n ls lw c a f) : ∃ Z', f_X4_copyFrom j i0 Z = some Z' ∧ hM j Z' h d n ls lw c a f ∧ Fr j Z Z' := by
  obtain ⟨a1, a2, a3, a4, a5, a6, a7, a8⟩ := H
  have c0 : Int32.toNatClampNeg (0 : Int32) = 0 := rfl
  have c4 : Int32.toNatClampNeg (4 : Int32) = 4 := rfl
  have c12 : Int32.toNatClampNeg (12 : Int32) = 12 := rfl
  have c30 : Int32.toNatClampNeg (30 : Int32) = 30 := rfl
  unfold f_X4_copyFrom
  simp only [oLet, c0, c4, c12, c30]
  refine ⟨_, rfl, ⟨fun k hk => ?_, fun k hk => ?_, ?_, fun k hk => ?_, fun k hk => ?_, fun k hk => ?_, ?_, ?_⟩, fun t i k hh => ?_, fun t i k hh => ?_⟩
  · simp [oStI, oStL, oCpI, oCpL, hj, hk, a1]
  · simp [oStI, oStL, oCpI, oCpL, hj, hk, a2]
  · simp [oStI, oStL, oCpI, oCpL, hj, a3]
  · simp [oStI, oStL, oCpI, oCpL, hj, hk, a4]
  · simp [oStI, oStL, oCpI, oCpL, hj, hk, a5]
  · simp [oStI, oStL, oCpI, oCpL, hj, hk, a6]
  · simp [oStI, oStL, oCpI, oCpL, hj, a7]
  · simp [oStI, oStL, oCpI, oCpL, hj, a8]
  · simp only [oStI, oStL, oCpI, oCpL]
    rw [if_neg (by omega), if_neg (by omega), if_neg (by omega), if_neg (by omega), if_neg (by omega), if_neg (by omega), if_neg (by omega)]
  · simp only [oStI, oStL, oCpI, oCpL]
    rw [if_neg (by omega), if_neg (by omega), if_neg (by omega)]
