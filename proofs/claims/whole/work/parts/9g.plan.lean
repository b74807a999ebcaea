def plH (S : oS) (K Q : Nat) (T kd : Nat → Nat) : Prop := K ≤ 4 ∧ Q ≤ 3 ∧ S.1 600 0 10 = nI K ∧ S.1 1000 0 32 = nI K ∧ S.1 600 0 11 = nI Q ∧ S.1 1000 0 34 = nI Q ∧ opS T Q ∧ (∀ i, i < Q → S.1 605 0 i = nI (T i) ∧ S.1 1036 0 i = nI (T i)) ∧ (∀ o, o < K → S.1 604 0 o = nI (kd o) ∧ S.1 1034 0 o = nI (kd o) ∧ ((kd o : Nat) : Int) < (S.1 1000 0 13).toInt) ∧ ∀ j k : Nat, 4 ≤ j → j < 12 → k < 3 → S.1 300 j k = 0
/-- looks and results agree -/
theorem kin_L {S : oS} (hk : iKin S) (hs : iSpa S) : (∀ k x w, srM S k x w = cvL (lkX S k x w)) ∧ ∀ k s r a, (if s ≤ S.1 207 0 k then (if S.1 203 0 k ≤ r then (if a ≤ S.1 204 0 k then (1 : Int32) else 3) else 0) else 2) = rsB S k s r a := by
  refine ⟨fun k x w => ?_, fun k s r a => ?_⟩
  · obtain ⟨z1, z2, z3, z4, z5, z6, z7, z8, z9, z10⟩ := hk.2.1 k
    exact lk_sr x w z5 z6 z8 z9 z10 (hs k)
  · obtain ⟨z1, z2, z3, z4, z5, z6, z7, z8, z9, z10⟩ := hk.2.1 k
    unfold rsB
    rw [z3, z4, z7]
set_option maxHeartbeats 2000000 in
theorem plan_both {n : Nat} {S : oS} (h : Inv n S) (hn : n ≤ 4096) {K Q : Nat} {T kd : Nat → Nat} (hp : plH S K Q T kd) : ∃ (A : Nat → Nat → Nat → Int32) (B : Nat → Nat → Nat → Int64) (A1 h1 w1 : Nat → Int64) (d1 : Nat → Int32) (l1 : Int64) (I O R G D : Nat → Int32) (b o c g : Int32) (z : Nat), f_X5_makePlan 0 S = some (ovP S A B) ∧ f_X9_findPlan (ovP S A B) = some ((ovP S A B).1 600 0 12, cmS (dS (wS (nS (aS (ovP S A B) A1) h1 w1 d1 l1) (wyQ Q) I O R G) D b) o c g) ∧ (∀ w, w < wyQ Q → I w = nI (pI (w / 4)) ∧ O w = nI (pO (w / 4)) ∧ R w = nI (w % 4)) ∧ b = nI z ∧ z < 100000 ∧ ∀ i, i < K → (ovP S A B).1 610 0 i = cdW (wyQ Q) (dg (wyQ Q + 1) K z i) := by
  obtain ⟨m, dd, hk, hl, -, -, -⟩ := h
  obtain ⟨f, n0, f1, n1, f2, n2, b1, b2, b3, b4, b5, b6, b7, b8⟩ := inv_mas m hn
  obtain ⟨q1, q2, q3, q4, q5, q6, q7, q8, q9, q10⟩ := hp
  obtain ⟨kk1, kk2, kk3, kk4⟩ := kin_o hk (kd := kd) (K := K) (fun o ho => (q9 o ho).2.2)
  obtain ⟨L1, L2⟩ := kin_L hk dd.2.2.2.2
  have hk8 : ∀ o, o < K → kd o < 8 := fun o ho => by
    have a := (q9 o ho).2.2
    have b := hk.1.2.2
    omega
  obtain ⟨Y, e1, F1, hfc⟩ := fore_X (S := S) (Q := Q) (T := T) n1 f1 b8 q5 q2 (fun i hi => ⟨(q8 i hi).1, q7.2.1 i hi⟩)
  have hrow : ∀ t, t < 500 → Y.1 t 0 = S.1 t 0 := fun t ht => funext fun k => F1.1 t 0 k (by omega)
  have hrow6 : ∀ t, 505 < t → Y.1 t 0 = S.1 t 0 := fun t ht => funext fun k => F1.1 t 0 k (by omega)
  have eL : ∀ k x w, lkX Y k x w = lkX S k x w := fun k x w => by
    unfold lkX
    rw [hrow 208 (by omega), hrow 206 (by omega), hrow 205 (by omega), hrow 210 (by omega), hrow 209 (by omega)]
  have hJ : jH Y (lkX S) (rsB S) (fcV (S.1 1004 0) (S.1 1000 0 0) f (S.2 1002 0) (S.1 1003 0) (fiL n0 (S.1 1007 0) (S.1 1008 0)) (opF T Q)) T Q K kd := by
    refine ⟨by rw [hrow6 600 (by omega)]; exact q5, q7, fun i hi => by rw [hrow6 605 (by omega)]; exact (q8 i hi).1, by rw [hrow6 600 (by omega)]; exact q3, q1, fun o ho => ⟨by rw [hrow6 604 (by omega)]; exact (q9 o ho).1, hk8 o ho⟩, eL, fun k s r a => ?_, fun t r i hi ht hr => hfc t r (by have := q7.2.1 i hi; omega) hr⟩
    rw [hrow 207 (by omega), hrow 203 (by omega), hrow 204 (by omega)]
    exact L2 k s r a
  have hS : kdS Y kd (onK S kd) (crK S kd) (bgK S kd) K := fun o ho => by
    obtain ⟨a1, a2, a3⟩ := kk2 o ho
    refine ⟨by rw [hrow6 604 (by omega)]; exact (q9 o ho).1, hk8 o ho, ?_, ?_, ?_⟩
    · rw [← a1]; unfold kOn; rw [hrow 201 (by omega)]
    · rw [← a2]; unfold kCr; rw [hrow 202 (by omega)]
    · rw [← a3]; unfold kBg; rw [hrow 201 (by omega)]
  obtain ⟨Z, e2, F2, hZ⟩ := choose_X hJ kk1 hS (fun j k h4 h12 h3 => by rw [F1.1 300 j k (by omega)]; exact q10 j k h4 h12 h3)
  have eZ := ovP_eq F1 F2
  generalize Z.1 = A at eZ
  generalize Z.2 = B at eZ
  subst eZ
  obtain ⟨A1, h1, w1, d1, l1, g1, g2⟩ := lay_A (T := ovP S A B) (A0 := (ovP S A B).2 1057 0) (h0 := (aS (ovP S A B) ((ovP S A B).2 1057 0)).2 1050 0) (w0 := (aS (ovP S A B) ((ovP S A B).2 1057 0)).2 1051 0) (d0 := (aS (ovP S A B) ((ovP S A B).2 1057 0)).1 1052 0) (l0' := (aS (ovP S A B) ((ovP S A B).2 1057 0)).2 1000 0 52) (Q := Q) (U := T) n2 n1 f2 f1 b1 b2 b3 b4 b5 b6 b7 q6 q2 (fun i hi => ⟨(q8 i hi).2, q7.2.1 i hi⟩)
  rw [nS_id, aS_id] at g1
  have hM : mH (nS (aS (ovP S A B) A1) h1 w1 d1 l1) (lkX S) (rsB S) (fcV (S.1 1004 0) (S.1 1000 0 0) f (S.2 1002 0) (S.1 1003 0) (fiL n0 (S.1 1007 0) (S.1 1008 0)) (opF T Q)) T Q K kd := ⟨q6, q7, fun i hi => (q8 i hi).2, q4, q1, fun o ho => ⟨(q9 o ho).2.1, hk8 o ho⟩, L1, fun k s r a => rfl, fun t r i hi ht hr => g2 t r (by have := q7.2.1 i hi; omega) hr⟩
  have hSM : kdM' (nS (aS (ovP S A B) A1) h1 w1 d1 l1) kd (onK S kd) (crK S kd) (bgK S kd) K := fun o ho => ⟨(q9 o ho).2.1, hk8 o ho, (kk3 o ho).1, (kk3 o ho).2.1, (kk3 o ho).2.2⟩
  obtain ⟨I, O, R, G, D, b, o, c, g, z, r1, r2, r3, r4, r5, r6, r7⟩ := core hJ kk1 hZ (fun o ho => by rw [hrow 201 (by omega)]; exact kk4 o ho) g1 hM hSM
  refine ⟨A, B, A1, h1, w1, d1, l1, I, O, R, G, D, b, o, c, g, z, ?_, r1, fun w hw => ⟨(r2 w hw).1, (r2 w hw).2.1, (r2 w hw).2.2.1⟩, r3, r4, r5⟩
  unfold f_X5_makePlan
  rw [e1, Option.bind_some, e2, Option.bind_some]
set_option maxHeartbeats 4000000 in
theorem pr_plan (n : Nat) (hn : n ≤ 4096) : oPair n f_X8_plan f_X9_plan := by
  intro S h
  have u := h.up
  by_cases hi : S.1 400 0 9 ≤ 0
  · obtain ⟨K, Q, T, kd, hp⟩ := inv_pla h.2.2.2.2.1
    obtain ⟨A, B, A1, h1, w1, d1, l1, I, O, R, G, D, b, o, c, g, z, e1, e2, -⟩ := plan_both h hn hp
    refine ⟨(ovP S A B).1 600 0 12, ovP S A B, cmS (dS (wS (nS (aS (ovP S A B) A1) h1 w1 d1 l1) (wyQ Q) I O R G) D b) o c g, ?_, ?_, u⟩
    · unfold f_X8_plan
      rw [if_pos hi, e1, Option.bind_some]
    · unfold f_X9_plan
      rw [inside_M (S := S) (T := ovP S A B) h.2.2.1 h.2.2.2.1 rfl rfl, Option.bind_some, if_pos hi, e2, Option.bind_some]
  · refine pair_id (r := -3) h ?_ ?_
    · unfold f_X8_plan
      rw [if_neg hi]
    · unfold f_X9_plan
      rw [inside_M (S := S) (T := S) h.2.2.1 h.2.2.2.1 rfl rfl, Option.bind_some, if_neg hi]
