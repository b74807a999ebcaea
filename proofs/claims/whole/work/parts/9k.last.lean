/-- the reference's state while it tries last openings -/
def FrQ (S Z : oS) (Q : Nat) (X : oS) : Prop := (∀ t i k, t < 1000 → X.1 t i k = Z.1 t i k ∧ X.2 t i k = Z.2 t i k) ∧ (∀ t i k, 1000 ≤ t → t ≠ 1052 → ¬ (1059 ≤ t ∧ t ≤ 1063) → ¬ (t = 1000 ∧ 53 ≤ k) → ¬ (t = 1036 ∧ i = 0 ∧ k = Q) → X.1 t i k = S.1 t i k) ∧ ∀ t i k, 1000 ≤ t → ¬ (1050 ≤ t ∧ t ≤ 1057) → ¬ (t = 1000 ∧ k = 52) → X.2 t i k = S.2 t i k
/-- through all the wrappers -/
theorem wr_1 {Y : oS} {A1 h1 w1 : Nat → Int64} {d1 : Nat → Int32} {l1 : Int64} {W : Nat} {I O R G D : Nat → Int32} {b o c g : Int32} (t i k : Nat) (z1 : t ≠ 1052) (z2 : ¬ (1059 ≤ t ∧ t ≤ 1063)) (z3 : ¬ (t = 1000 ∧ 53 ≤ k)) : (cmS (dS (wS (nS (aS Y A1) h1 w1 d1 l1) W I O R G) D b) o c g).1 t i k = Y.1 t i k := by
  rw [cmS_1, if_neg (by omega), if_neg (by omega), if_neg (by omega), dS_1, if_neg (by omega), if_neg (by omega), wS_1, if_neg (by omega), if_neg (by omega), if_neg (by omega), if_neg (by omega), if_neg (by omega), nS_1, if_neg (by omega)]
  rfl
theorem wr_2 {Y : oS} {A1 h1 w1 : Nat → Int64} {d1 : Nat → Int32} {l1 : Int64} {W : Nat} {I O R G D : Nat → Int32} {b o c g : Int32} (t i k : Nat) (z1 : ¬ (1050 ≤ t ∧ t ≤ 1057)) (z2 : ¬ (t = 1000 ∧ k = 52)) : (cmS (dS (wS (nS (aS Y A1) h1 w1 d1 l1) W I O R G) D b) o c g).2 t i k = Y.2 t i k := by
  show (nS (aS Y A1) h1 w1 d1 l1).2 t i k = _
  rw [nS_2, if_neg (by omega), if_neg (by omega), if_neg (by omega), aS_2, if_neg (by omega)]
set_option maxHeartbeats 2000000 in
theorem lastS_M {n : Nat} {S Z : oS} (hk : iKin S) (hs : iSpa S) {K Q f n0 : Nat} {T kd : Nat → Nat} {v : Nat → Int} (hp : plH S K Q T kd) (h2 : Q ≤ 2) (hm : maH n S f n0) (hv : vOK S K Q T kd (fcV (S.1 1004 0) (S.1 1000 0 0) f (S.2 1002 0) (S.1 1003 0) (fiL n0 (S.1 1007 0) (S.1 1008 0)) (opF T Q)) v) {X : oS} (hX : FrQ S Z Q X) {t : Nat} (ht : t ≤ 40) (hl : ∀ i, i < Q → T i < t) : ∃ best X', f_X9_findPlan (oStI (oStI X 1036 0 Q (nI t)) 1000 0 34 (nI (Q + 1))) = some (best, X') ∧ best.toInt = v t ∧ X'.1 1000 0 34 = nI (Q + 1) ∧ FrQ S Z Q (oStI X' 1000 0 34 (nI Q)) := by
  obtain ⟨f1, n1, f2, n2, b1, b2, b3, b4, b5, b6, b7⟩ := hm
  obtain ⟨q1, q2, q3, q4, q5, q6, q7, q8, q9, q10⟩ := hp
  obtain ⟨X0, X1, X2⟩ := hX
  obtain ⟨kk1, kk2, kk3, kk4⟩ := kin_o hk (kd := kd) (K := K) (fun o ho => (q9 o ho).2.2)
  obtain ⟨L1, L2⟩ := kin_L hk hs
  have hk8 : ∀ o, o < K → kd o < 8 := fun o ho => by
    have a := (q9 o ho).2.2
    have b := hk.1.2.2
    omega
  have hO := opS_u q7 h2 ht hl
  generalize hY : oStI (oStI X 1036 0 Q (nI t)) 1000 0 34 (nI (Q + 1)) = Y
  have Y1 : ∀ t' i k, Y.1 t' i k = if t' = 1000 ∧ i = 0 ∧ k = 34 then nI (Q + 1) else if t' = 1036 ∧ i = 0 ∧ k = Q then nI t else X.1 t' i k := fun t' i k => by rw [← hY]; rfl
  have Y2 : Y.2 = X.2 := by rw [← hY]; rfl
  have rw1 : ∀ t', 1001 ≤ t' → t' ≠ 1036 → t' ≠ 1052 → ¬ (1059 ≤ t' ∧ t' ≤ 1063) → Y.1 t' 0 = S.1 t' 0 := fun t' z1 z2 z3 z4 => funext fun k => by
    rw [Y1, if_neg (by omega), if_neg (by omega)]
    exact X1 t' 0 k (by omega) z3 z4 (by omega) (by omega)
  have rw0 : ∀ k, k < 53 → k ≠ 34 → Y.1 1000 0 k = S.1 1000 0 k := fun k z1 z2 => by
    rw [Y1, if_neg (by omega), if_neg (by omega)]
    exact X1 1000 0 k (by omega) (by omega) (by omega) (by omega) (by omega)
  have rw2 : Y.2 1002 0 = S.2 1002 0 := by
    rw [Y2]
    exact funext fun k => X2 1002 0 k (by omega) (by omega) (by omega)
  have y34 : Y.1 1000 0 34 = nI (Q + 1) := by rw [Y1, if_pos ⟨rfl, rfl, rfl⟩]
  have y36 : ∀ i, i < Q + 1 → Y.1 1036 0 i = nI (uN T Q t i) := fun i hi => by
    rw [Y1, if_neg (by omega)]
    by_cases y : i = Q
    · rw [if_pos ⟨rfl, rfl, y⟩, y, uN_y]
    · rw [if_neg (fun z => y z.2.2), uN_n (by omega), X1 1036 0 i (by omega) (by omega) (by omega) (by omega) (by omega)]
      exact (q8 i (by omega)).2
  obtain ⟨A1, h1, w1, d1, l1, g1, g2⟩ := lay_A (T := Y) (M := 4000 + 600000 * n) (n0 := n0) (f := f) (A0 := Y.2 1057 0) (h0 := (aS Y (Y.2 1057 0)).2 1050 0) (w0 := (aS Y (Y.2 1057 0)).2 1051 0) (d0 := (aS Y (Y.2 1057 0)).1 1052 0) (l0' := (aS Y (Y.2 1057 0)).2 1000 0 52) (Q := Q + 1) (U := uN T Q t) (by rw [rw0 5 (by omega) (by omega)]; exact n2) n1 (by rw [rw0 4 (by omega) (by omega)]; exact f2) f1 (by rw [rw2]; exact b1) b2 (by rw [rw1 1003 (by omega) (by omega) (by omega) (by omega)]; exact b3) (by rw [rw1 1004 (by omega) (by omega) (by omega) (by omega)]; exact b4) (by rw [rw0 0 (by omega) (by omega)]; exact b5) (by rw [rw1 1007 (by omega) (by omega) (by omega) (by omega)]; exact b6) (by rw [rw1 1008 (by omega) (by omega) (by omega) (by omega)]; exact b7) y34 (by omega) (fun i hi => ⟨y36 i hi, hO.2.1 i hi⟩)
  rw [nS_id, aS_id] at g1
  rw [rw1 1004 (by omega) (by omega) (by omega) (by omega), rw0 0 (by omega) (by omega), rw2, rw1 1003 (by omega) (by omega) (by omega) (by omega), rw1 1007 (by omega) (by omega) (by omega) (by omega), rw1 1008 (by omega) (by omega) (by omega) (by omega)] at g2
  have hM : mH (nS (aS Y A1) h1 w1 d1 l1) (lkX S) (rsB S) (fcV (S.1 1004 0) (S.1 1000 0 0) f (S.2 1002 0) (S.1 1003 0) (fiL n0 (S.1 1007 0) (S.1 1008 0)) (opF T Q)) (uN T Q t) (Q + 1) K kd := by
    refine ⟨y34, hO, y36, (rw0 32 (by omega) (by omega)).trans q4, q1, fun o ho => ⟨?_, hk8 o ho⟩, fun k x w => ?_, fun k s r a => ?_, fun t' r i hi ht' hr => ?_⟩
    · show Y.1 1034 0 o = _
      rw [rw1 1034 (by omega) (by omega) (by omega) (by omega)]
      exact (q9 o ho).2.1
    · rw [← L1]
      show srM Y k x w = _
      unfold srM
      rw [rw1 1019 (by omega) (by omega) (by omega) (by omega), rw1 1020 (by omega) (by omega) (by omega) (by omega), rw1 1022 (by omega) (by omega) (by omega) (by omega), rw1 1023 (by omega) (by omega) (by omega) (by omega), rw1 1024 (by omega) (by omega) (by omega) (by omega)]
    · show rsB Y k s r a = _
      unfold rsB
      rw [rw1 1017 (by omega) (by omega) (by omega) (by omega), rw1 1018 (by omega) (by omega) (by omega) (by omega), rw1 1021 (by omega) (by omega) (by omega) (by omega)]
    · have hle : uN T Q t i ≤ t := by
        by_cases y : i = Q
        · rw [y, uN_y]; omega
        · rw [uN_n (by omega)]
          have := hl i (by omega)
          omega
      show A1 (4 * t' + r) = _
      rw [g2 t' r (by omega) hr]
      unfold fcV
      rw [itS_cg (t' + 1) (fun s hs => ⟨rfl, opF_u (by omega)⟩)]
  have hSM : kdM' (nS (aS Y A1) h1 w1 d1 l1) kd (onK S kd) (crK S kd) (bgK S kd) K := fun o ho => by
    refine ⟨?_, hk8 o ho, ?_, ?_, ?_⟩
    · show Y.1 1034 0 o = _
      rw [rw1 1034 (by omega) (by omega) (by omega) (by omega)]
      exact (q9 o ho).2.1
    · rw [← (kk3 o ho).1]
      show mOn Y (kd o) = _
      unfold mOn
      rw [rw1 1015 (by omega) (by omega) (by omega) (by omega)]
    · rw [← (kk3 o ho).2.1]
      show mCr Y (kd o) = _
      unfold mCr
      rw [rw1 1016 (by omega) (by omega) (by omega) (by omega)]
    · rw [← (kk3 o ho).2.2]
      show mBg Y (kd o) = _
      unfold mBg
      rw [rw1 1015 (by omega) (by omega) (by omega) (by omega)]
  obtain ⟨best, I, O, R, G, D, b, o, c, g, z, r1, r2, r3, r4, r5⟩ := find_M g1 hM kk1 hSM
  obtain ⟨z', hz'⟩ := hv t
  refine ⟨best, _, r1, (Bsf_u r5 hz').1, ?_, fun t' i k z1 => ⟨?_, ?_⟩, fun t' i k z1 z2 z3 z4 z5 => ?_, fun t' i k z1 z2 z3 => ?_⟩
  · rw [wr_1 1000 0 34 (by omega) (by omega) (by omega)]
    exact y34
  · show (if t' = 1000 ∧ i = 0 ∧ k = 34 then nI Q else (cmS (dS (wS (nS (aS Y A1) h1 w1 d1 l1) (wyQ (Q + 1)) I O R G) D b) o c g).1 t' i k) = _
    rw [if_neg (by omega), wr_1 t' i k (by omega) (by omega) (by omega), Y1, if_neg (by omega), if_neg (by omega)]
    exact (X0 t' i k z1).1
  · show (cmS (dS (wS (nS (aS Y A1) h1 w1 d1 l1) (wyQ (Q + 1)) I O R G) D b) o c g).2 t' i k = _
    rw [wr_2 t' i k (by omega) (by omega), Y2]
    exact (X0 t' i k z1).2
  · show (if t' = 1000 ∧ i = 0 ∧ k = 34 then nI Q else (cmS (dS (wS (nS (aS Y A1) h1 w1 d1 l1) (wyQ (Q + 1)) I O R G) D b) o c g).1 t' i k) = _
    by_cases y : t' = 1000 ∧ i = 0 ∧ k = 34
    · rw [if_pos y, y.1, y.2.1, y.2.2, q6]
    · rw [if_neg y, wr_1 t' i k z2 z3 z4, Y1, if_neg y, if_neg z5]
      exact X1 t' i k z1 z2 z3 z4 z5
  · show (cmS (dS (wS (nS (aS Y A1) h1 w1 d1 l1) (wyQ (Q + 1)) I O R G) D b) o c g).2 t' i k = _
    rw [wr_2 t' i k z2 z3, Y2]
    exact X2 t' i k z1 z2 z3
