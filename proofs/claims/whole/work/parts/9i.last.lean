/-! The best last opening -/
theorem Bsf_ex {V : Nat → Prop} {C : Nat → Nat} : ∀ x, ∃ m z, Bsf V C x m z := by
  intro x
  induction x with
  | zero => exact ⟨-1, 0, Or.inl ⟨rfl, fun k hk => absurd hk (Nat.not_lt_zero _)⟩⟩
  | succ x ih =>
    obtain ⟨m, z, h⟩ := ih
    rcases Classical.em (V x ∧ m < C x) with y | y
    · exact ⟨C x, x, Bsf_up h y.1 y.2⟩
    · refine ⟨m, z, Bsf_sk h (by omega) (fun k k1 k2 hv => ?_)⟩
      have : k = x := by omega
      rw [this] at hv ⊢
      rcases Classical.em (m < C x) with w | w
      · exact absurd ⟨hv, w⟩ y
      · omega
def lbF (v : Nat → Int) (fr : Nat) : Nat → Int × Int32
  | 0 => (-1, -1)
  | i + 1 => if v (fr + i) ≤ (lbF v fr i).1 then lbF v fr i else (v (fr + i), nI (fr + i))
theorem lb_st {v : Nat → Int} {fr : Nat} {K : Int} (hv : ∀ t, v t ≤ K) {i : Nat} (h : K ≤ (lbF v fr i).1) : ∀ d, lbF v fr (i + d) = lbF v fr i := by
  intro d
  induction d with
  | zero => rfl
  | succ d ih =>
    show (if v (fr + (i + d)) ≤ (lbF v fr (i + d)).1 then lbF v fr (i + d) else _) = _
    rw [ih, if_pos (by have := hv (fr + (i + d)); omega)]
theorem opS_u {T : Nat → Nat} {Q t : Nat} (h : opS T Q) (h2 : Q ≤ 2) (ht : t ≤ 40) (hl : ∀ i, i < Q → T i < t) : opS (uN T Q t) (Q + 1) := by
  obtain ⟨o1, o2, o3⟩ := h
  refine ⟨by omega, fun i hi => ?_, fun i j hij hj => ?_⟩
  · by_cases y : i = Q
    · rw [y, uN_y]; exact ht
    · rw [uN_n (by omega)]; exact o2 i (by omega)
  · by_cases y : j = Q
    · rw [y, uN_y, uN_n (by omega)]; exact hl i (by omega)
    · rw [uN_n (by omega), uN_n (by omega)]; exact o3 i j hij (by omega)
theorem opF_u {T : Nat → Nat} {Q t s : Nat} (h : s ≠ t) : opF (uN T Q t) (Q + 1) s = opF T Q s := by
  show (if uN T Q t Q = s then (1 : Int32) else opF (uN T Q t) Q s) = _
  rw [uN_y, if_neg (fun y => h y.symm)]
  exact opF_cg Q (fun i hi => uN_n hi)
/-- the class's state while it tries last openings -/
def FrL (S : oS) (Q : Nat) (fc : Nat → Nat → Int64) (Y : oS) : Prop := (∀ t i k, (i ≠ 1 ∨ t < 500 ∨ 505 < t) → ¬ (t = 600 ∧ 12 ≤ k) → ¬ (606 ≤ t ∧ t ≤ 610) → ¬ (t = 605 ∧ i = 0 ∧ k = Q) → Y.1 t i k = S.1 t i k) ∧ (∀ t i k, (i ≠ 1 ∨ t < 500 ∨ 505 < t) → t ≠ 603 → Y.2 t i k = S.2 t i k) ∧ ∀ t r, t < 40 → r < 4 → Y.2 603 0 (4 * t + r) = fc t r
/-- the value of the best plan with a last opening at t -/
def vOK (S : oS) (K Q : Nat) (T kd : Nat → Nat) (fc : Nat → Nat → Int64) (v : Nat → Int) : Prop := ∀ t, ∃ z, Bsf (mdV (wyQ (Q + 1)) K (Q + 1) (gmO (lkX S) (rsB S) fc (uN T Q t) kd) (onK S kd) (crK S kd) (bgK S kd)) (plC (wyQ (Q + 1)) K) ((wyQ (Q + 1) + 1) ^ K) (v t) z
theorem vOK_le {S : oS} {K Q : Nat} {T kd : Nat → Nat} {fc : Nat → Nat → Int64} {v : Nat → Int} (h : vOK S K Q T kd fc v) (t : Nat) : v t ≤ K := by
  obtain ⟨z, hz⟩ := h t
  rcases hz with ⟨y, -⟩ | ⟨-, -, y, -⟩
  · omega
  · have := cntP_le (W := wyQ (Q + 1)) (g := dg (wyQ (Q + 1) + 1) K z) K
    have : plC (wyQ (Q + 1)) K z ≤ K := this
    omega
set_option maxHeartbeats 2000000 in
theorem lastS_X {S : oS} {K Q : Nat} {T kd : Nat → Nat} {fc : Nat → Nat → Int64} {v : Nat → Int} (hk : iKin S) (hs : iSpa S) (hp : plH S K Q T kd) (h2 : Q ≤ 2) (hv : vOK S K Q T kd fc v) {Y : oS} (hF : FrL S Q fc Y) {t : Nat} (ht : t ≤ 40) (hl : ∀ i, i < Q → T i < t) : ∃ Z, ((f_X5_addOpening (nI t) Y).bind fun zz5 => (f_X5_choose zz5.2).bind fun zz6 => some (oStI zz6 600 0 11 ((zz6.1 600 0 11) - (1 : Int32)))) = some Z ∧ FrL S Q fc Z ∧ (Z.1 600 0 12).toInt = v t ∧ Z.1 600 0 13 = Y.1 600 0 13 ∧ Z.1 600 0 14 = Y.1 600 0 14 := by
  obtain ⟨q1, q2, q3, q4, q5, q6, q7, q8, q9, q10⟩ := hp
  obtain ⟨F1, F2, F3⟩ := hF
  obtain ⟨kk1, kk2, kk3, kk4⟩ := kin_o hk (kd := kd) (K := K) (fun o ho => (q9 o ho).2.2)
  obtain ⟨L1, L2⟩ := kin_L hk hs
  have hk8 : ∀ o, o < K → kd o < 8 := fun o ho => by
    have a := (q9 o ho).2.2
    have b := hk.1.2.2
    omega
  obtain ⟨X, hX⟩ : ∃ X, X = oStI (oStI Y 605 0 Q (nI t)) 600 0 11 (nI (Q + 1)) := ⟨_, rfl⟩
  have y11 : Y.1 600 0 11 = nI Q := by rw [F1 _ _ _ (by omega) (by omega) (by omega) (by omega)]; exact q5
  have ea : f_X5_addOpening (nI t) Y = some (nI (Q + 1), X) := by
    unfold f_X5_addOpening
    rw [y11, if_pos ((nin (by omega)).mpr (by omega)), oLet_eq]
    show oLet (oStI (oStI Y 605 0 (nI Q).toNatClampNeg (nI t)) 600 0 11 (Y.1 600 0 11 + 1)) _ = _
    rw [y11, nI_1, ncl (by omega), oLet_eq, ← hX]
    show some (X.1 600 0 11, X) = _
    rw [hX]
    rfl
  have X1 : ∀ t' i k, (i ≠ 1 ∨ t' < 500 ∨ 505 < t') → ¬ (t' = 600 ∧ 11 ≤ k) → ¬ (606 ≤ t' ∧ t' ≤ 610) → ¬ (t' = 605 ∧ i = 0 ∧ k = Q) → X.1 t' i k = S.1 t' i k := fun t' i k z1 z2 z3 z4 => by
    rw [hX]
    show (if t' = 600 ∧ i = 0 ∧ k = 11 then _ else if t' = 605 ∧ i = 0 ∧ k = Q then nI t else Y.1 t' i k) = _
    rw [if_neg (by omega), if_neg z4]
    exact F1 t' i k z1 (by omega) z3 z4
  have hrow : ∀ t', t' < 500 → X.1 t' 0 = S.1 t' 0 := fun t' h => funext fun k => X1 t' 0 k (by omega) (by omega) (by omega) (by omega)
  have x605 : ∀ i, i < Q + 1 → X.1 605 0 i = nI (uN T Q t i) := fun i hi => by
    rw [hX]
    show (if 605 = 605 ∧ 0 = 0 ∧ i = Q then nI t else Y.1 605 0 i) = _
    by_cases y : i = Q
    · rw [if_pos ⟨rfl, rfl, y⟩, y, uN_y]
    · rw [if_neg (fun z => y z.2.2), uN_n (by omega), F1 _ _ _ (by omega) (by omega) (by omega) (by omega)]
      exact (q8 i (by omega)).1
  have x603 : X.2 = Y.2 := by rw [hX]; rfl
  have hO := opS_u q7 h2 ht hl
  have hJ : jH X (lkX S) (rsB S) fc (uN T Q t) (Q + 1) K kd := by
    refine ⟨by rw [hX]; rfl, hO, x605, by rw [X1 _ _ _ (by omega) (by omega) (by omega) (by omega)]; exact q3, q1, fun o ho => ⟨by rw [X1 _ _ _ (by omega) (by omega) (by omega) (by omega)]; exact (q9 o ho).1, hk8 o ho⟩, fun k x w => ?_, fun k s r a => ?_, fun t' r i hi ht' hr => ?_⟩
    · unfold lkX
      rw [hrow 208 (by omega), hrow 206 (by omega), hrow 205 (by omega), hrow 210 (by omega), hrow 209 (by omega)]
    · rw [hrow 207 (by omega), hrow 203 (by omega), hrow 204 (by omega)]
      exact L2 k s r a
    · rw [x603]
      exact F3 t' r (by have := hO.2.1 i hi; omega) hr
  have hS : kdS X kd (onK S kd) (crK S kd) (bgK S kd) K := fun o ho => by
    obtain ⟨a1, a2, a3⟩ := kk2 o ho
    refine ⟨by rw [X1 _ _ _ (by omega) (by omega) (by omega) (by omega)]; exact (q9 o ho).1, hk8 o ho, ?_, ?_, ?_⟩
    · rw [← a1]; unfold kOn; rw [hrow 201 (by omega)]
    · rw [← a2]; unfold kCr; rw [hrow 202 (by omega)]
    · rw [← a3]; unfold kBg; rw [hrow 201 (by omega)]
  obtain ⟨Z, e2, ⟨C1, C2⟩, z, c1, c2⟩ := choose_X hJ kk1 hS (fun j k h4 h12 h3 => by rw [X1 300 j k (by omega) (by omega) (by omega) (by omega)]; exact q10 j k h4 h12 h3)
  have hV : mdV (wyQ (Q + 1)) K (Q + 1) (gmO (lkX S) (rsB S) fc (uN T Q t) kd) (onK S kd) (crK S kd) (bgK S kd) = plV (wyQ (Q + 1)) K (gdO X (lkX S) (rsB S) fc (uN T Q t) (Q + 1) kd) (onK S kd) (crK S kd) (bgK S kd) := funext fun k => propext (V_eq (pl := fun o => X.1 201 0 (kd o)) hO.1 rfl kk1 (fun o ho => by show X.1 201 0 (kd o) = _; rw [hrow 201 (by omega)]; exact kk4 o ho) (fun o w ho hw => by
    have hpo : pO (w / 4) < Q + 1 := (wy_iff hO.1 (by have := wy_12 (Q + 1); omega)).mp hw
    unfold gdO gdC
    rw [if_pos hpo]
    rfl) k)
  rw [← hV] at c2
  obtain ⟨z', hz'⟩ := hv t
  have hmv := (Bsf_u c2 hz').1
  have z11 : Z.1 600 0 11 = nI (Q + 1) := by
    rw [C2 _ _ _ (by omega) (by omega), hX]
    rfl
  refine ⟨oStI Z 600 0 11 (nI Q), ?_, ⟨fun t' i k z1 z2 z3 z4 => ?_, fun t' i k z1 z2 => ?_, fun t' r h1 h2 => ?_⟩, hmv, ?_, ?_⟩
  · rw [ea, Option.bind_some, e2, Option.bind_some, z11, nPr]
  · show (if t' = 600 ∧ i = 0 ∧ k = 11 then nI Q else Z.1 t' i k) = _
    by_cases y : t' = 600 ∧ i = 0 ∧ k = 11
    · rw [if_pos y, y.1, y.2.1, y.2.2, q5]
    · rw [if_neg y, C2 t' i k (by omega) (by omega)]
      by_cases w : t' = 600 ∧ 11 ≤ k
      · rw [hX]
        show (if t' = 600 ∧ i = 0 ∧ k = 11 then _ else if t' = 605 ∧ i = 0 ∧ k = Q then nI t else Y.1 t' i k) = _
        rw [if_neg y, if_neg z4]
        exact F1 t' i k z1 z2 z3 z4
      · exact X1 t' i k z1 w z3 z4
  · show Z.2 t' i k = _
    rw [C1, x603]
    exact F2 t' i k z1 z2
  · show Z.2 603 0 (4 * t' + r) = _
    rw [C1, x603]
    exact F3 t' r h1 h2
  · show Z.1 600 0 13 = _
    rw [C2 _ _ _ (by omega) (by omega), hX]
    rfl
  · show Z.1 600 0 14 = _
    rw [C2 _ _ _ (by omega) (by omega), hX]
    rfl
