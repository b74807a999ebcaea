theorem loopL_M {n : Nat} {S Z : oS} (hk : iKin S) (hs : iSpa S) {K Q f n0 : Nat} {T kd : Nat → Nat} {v : Nat → Int} (hp : plH S K Q T kd) (h2 : Q ≤ 2) (hm : maH n S f n0) (hv : vOK S K Q T kd (fcV (S.1 1004 0) (S.1 1000 0 0) f (S.2 1002 0) (S.1 1003 0) (fiL n0 (S.1 1007 0) (S.1 1008 0)) (opF T Q)) v) (hZ : FrQ S Z Q Z) (w : Int32) : ∃ best X, oLp (f_X9_last_L67 w) oFu ((-1 : Int32), (-1 : Int32), nI (frT' T Q), Z) = some (best, (lbF v (frT' T Q) (41 - frT' T Q)).2, X) ∧ best.toInt = (lbF v (frT' T Q) (41 - frT' T Q)).1 ∧ FrQ S Z Q X := by
  obtain ⟨r1, r2⟩ := fr_ok hp.2.2.2.2.2.2.1
  have q6 : S.1 1000 0 34 = nI Q := hp.2.2.2.2.2.1
  generalize frT' T Q = fr at r1 r2 ⊢
  have e : ∃ x, oLp (f_X9_last_L67 w) oFu ((-1 : Int32), (-1 : Int32), nI fr, Z) = some x ∧ ∃ best X, x = (best, (lbF v fr (41 - fr)).2, X) ∧ best.toInt = (lbF v fr (41 - fr)).1 ∧ FrQ S Z Q X := by
    refine oLp_all (fun i s => ∃ (best : Int32) (X : oS), s = (best, (lbF v fr i).2, nI (fr + i), X) ∧ best.toInt = (lbF v fr i).1 ∧ FrQ S Z Q X) (fun x => ∃ (best : Int32) (X : oS), x = (best, (lbF v fr (41 - fr)).2, X) ∧ best.toInt = (lbF v fr (41 - fr)).1 ∧ FrQ S Z Q X) (41 - fr) (by omega) ⟨-1, Z, rfl, rfl, hZ⟩ ?_ ?_
    · rintro i s hi ⟨best, X, rfl, hb, hX⟩
      obtain ⟨vb, X', l1, l2, l3, l4⟩ := lastS_M hk hs hp h2 hm hv hX (t := fr + i) (by omega) (fun j hj => by have := r2 j hj; omega)
      have x34 : X.1 1000 0 34 = nI Q := by rw [hX.2.1 _ _ _ (by omega) (by omega) (by omega) (by omega) (by omega)]; exact q6
      have hle : (vb ≤ best) ↔ v (fr + i) ≤ (lbF v fr i).1 := by rw [i_le, l2, hb]
      show ∃ s', (if (40 : Int32) < nI (fr + i) then _ else (if oIn (X.1 1000 0 34) 4 then _ else none)) = _ ∧ _
      rw [if_neg (show ¬ (40 : Int32) < nI (fr + i) by rw [i_lt, nT (by omega)]; have : (40 : Int32).toInt = 40 := rfl; omega), x34, if_pos ((nin (by omega)).mpr (by omega)), oLet_eq, oLet_eq]
      show ∃ s', (f_X9_findPlan (oStI (oStI X 1036 0 (nI Q).toNatClampNeg (nI (fr + i))) 1000 0 34 (X.1 1000 0 34 + 1))).bind _ = _ ∧ _
      rw [x34, nI_1, ncl (by omega), l1, Option.bind_some, oLet_eq]
      show ∃ s', (if vb ≤ best then f_X9_last_K123 w best (nI (fr + i)) vb (lbF v fr i).2 (oStI X' 1000 0 34 (X'.1 1000 0 34 - 1)) else f_X9_last_K123 w best (nI (fr + i)) vb (nI (fr + i)) (oStI X' 1000 0 34 (X'.1 1000 0 34 - 1))) = _ ∧ _
      rw [l3, nPr]
      unfold f_X9_last_K123 f_X9_last_K136
      by_cases y : vb ≤ best
      · have e : lbF v fr (i + 1) = lbF v fr i := if_pos (hle.mp y)
        rw [if_pos y, if_pos y]
        exact ⟨(best, (lbF v fr i).2, nI (fr + i + 1), oStI X' 1000 0 34 (nI Q)), by rw [oLet_eq, nI_1], best, _, by rw [e]; rfl, by rw [e]; exact hb, l4⟩
      · have e : lbF v fr (i + 1) = (v (fr + i), nI (fr + i)) := if_neg (fun z => y (hle.mpr z))
        rw [if_neg y, if_neg y]
        exact ⟨(vb, nI (fr + i), nI (fr + i + 1), oStI X' 1000 0 34 (nI Q)), by rw [oLet_eq, nI_1], vb, _, by rw [e]; rfl, by rw [e]; exact l2, l4⟩
    · rintro s ⟨best, X, rfl, hb, hX⟩
      refine ⟨_, ?_, best, X, rfl, hb, hX⟩
      show (if (40 : Int32) < nI (fr + (41 - fr)) then _ else _) = _
      rw [if_pos (show (40 : Int32) < nI (fr + (41 - fr)) by rw [i_lt, nT (by omega)]; have : (40 : Int32).toInt = 40 := rfl; omega)]
  obtain ⟨x, e1, best, X, rfl, hb, hX⟩ := e
  exact ⟨best, X, e1, hb, hX⟩
/-- both sides' scratch, laid over the state before -/
def ovL (S : oS) (Q : Nat) (A : Nat → Nat → Nat → Int32) (B : Nat → Nat → Nat → Int64) : oS := (fun t i k => if (500 ≤ t ∧ t ≤ 505 ∧ i = 1) ∨ (t = 600 ∧ 12 ≤ k) ∨ (606 ≤ t ∧ t ≤ 610) ∨ t = 1052 ∨ (1059 ≤ t ∧ t ≤ 1063) ∨ (t = 1000 ∧ 53 ≤ k) ∨ (t = 605 ∧ i = 0 ∧ k = Q) ∨ (t = 1036 ∧ i = 0 ∧ k = Q) then A t i k else S.1 t i k, fun t i k => if (500 ≤ t ∧ t ≤ 505 ∧ i = 1) ∨ t = 603 ∨ (1050 ≤ t ∧ t ≤ 1057) ∨ (t = 1000 ∧ k = 52) then B t i k else S.2 t i k)
theorem ovL_eq {S Z X : oS} {Q : Nat} {fc : Nat → Nat → Int64} (hZ : FrL S Q fc Z) (hX : FrQ S Z Q X) : X = ovL S Q X.1 X.2 := by
  refine oS_ext (fun t i k => ?_) (fun t i k => ?_)
  · show X.1 t i k = (if (500 ≤ t ∧ t ≤ 505 ∧ i = 1) ∨ (t = 600 ∧ 12 ≤ k) ∨ (606 ≤ t ∧ t ≤ 610) ∨ t = 1052 ∨ (1059 ≤ t ∧ t ≤ 1063) ∨ (t = 1000 ∧ 53 ≤ k) ∨ (t = 605 ∧ i = 0 ∧ k = Q) ∨ (t = 1036 ∧ i = 0 ∧ k = Q) then X.1 t i k else S.1 t i k)
    by_cases g : (500 ≤ t ∧ t ≤ 505 ∧ i = 1) ∨ (t = 600 ∧ 12 ≤ k) ∨ (606 ≤ t ∧ t ≤ 610) ∨ t = 1052 ∨ (1059 ≤ t ∧ t ≤ 1063) ∨ (t = 1000 ∧ 53 ≤ k) ∨ (t = 605 ∧ i = 0 ∧ k = Q) ∨ (t = 1036 ∧ i = 0 ∧ k = Q)
    · rw [if_pos g]
    · rw [if_neg g]
      by_cases y : t < 1000
      · rw [(hX.1 t i k y).1]
        exact hZ.1 t i k (by omega) (by omega) (by omega) (by omega)
      · exact hX.2.1 t i k (by omega) (by omega) (by omega) (by omega) (by omega)
  · show X.2 t i k = (if (500 ≤ t ∧ t ≤ 505 ∧ i = 1) ∨ t = 603 ∨ (1050 ≤ t ∧ t ≤ 1057) ∨ (t = 1000 ∧ k = 52) then X.2 t i k else S.2 t i k)
    by_cases g : (500 ≤ t ∧ t ≤ 505 ∧ i = 1) ∨ t = 603 ∨ (1050 ≤ t ∧ t ≤ 1057) ∨ (t = 1000 ∧ k = 52)
    · rw [if_pos g]
    · rw [if_neg g]
      by_cases y : t < 1000
      · rw [(hX.1 t i k y).2]
        exact hZ.2.1 t i k (by omega) (by omega)
      · exact hX.2.2 t i k (by omega) (by omega) (by omega)
theorem ovL_inv {n : Nat} {S : oS} {Q : Nat} {A : Nat → Nat → Nat → Int32} {B : Nat → Nat → Nat → Int64} (h : Inv n S) (hQ : S.1 1000 0 34 = nI Q) (h3 : Q ≤ 3) : Inv n (ovL S Q A B) := by
  obtain ⟨p1, p2, p3, p4, ⟨a1, a2, a3, a4, a5, a6⟩, p6, p7⟩ := h
  have hlt : ∀ k : Nat, (k : Int) < (S.1 1000 0 34).toInt → k < Q := fun k hk => by
    rw [hQ, nT (by omega)] at hk
    omega
  have r5 : ∀ k, k < Q → (ovL S Q A B).1 605 0 k = S.1 605 0 k := fun k hk => if_neg (by omega)
  have r6 : ∀ k, k < Q → (ovL S Q A B).1 1036 0 k = S.1 1036 0 k := fun k hk => if_neg (by omega)
  refine ⟨p1, p2, p3, p4, ⟨a1, a2, a3, fun k hk => ?_, fun k hk => ?_, a6⟩, p6, p7⟩
  · have hk' := hlt k hk
    rw [r5 k hk', r6 k hk']
    exact a4 k hk
  · have hk : (k : Int) + 1 < (S.1 1000 0 34).toInt := hk
    have hk' := hlt (k + 1) (by omega)
    rw [r6 k (by omega), r6 (k + 1) hk']
    exact a5 k hk
set_option maxHeartbeats 4000000 in
theorem pr_last (n : Nat) (hn : n ≤ 4096) (w : Int32) : oPair n (f_X8_last w) (f_X9_last w) := by
  intro S h
  obtain ⟨K, Q, T, kd, hp⟩ := inv_pla h.2.2.2.2.1
  have hp' := hp
  obtain ⟨q1, q2, q3, q4, q5, q6, q7, q8, q9, q10⟩ := hp'
  have hk := h.2.2.1
  have hs := h.2.1.2.2.2.2
  by_cases hw : (0 : Int32) ≤ w ∧ w ≤ 1
  · by_cases hi : S.1 400 0 9 ≤ 0
    · by_cases h2 : Q ≤ 2
      · obtain ⟨f, n0, v, hm, hv, Z, e1, e2, e3, e4⟩ := findLast_X h hn hp h2
        have hZ : FrQ S Z Q Z := ⟨fun t i k _ => ⟨rfl, rfl⟩, fun t i k z1 z2 z3 z4 z5 => e2.1 t i k (by omega) (by omega) (by omega) (by omega), fun t i k z1 z2 z3 => e2.2.1 t i k (by omega) (by omega)⟩
        obtain ⟨best, X, l1, l2, l3⟩ := loopL_M hk hs hp h2 hm hv hZ w
        have eX := ovL_eq e2 l3
        have z34 : Z.1 1000 0 34 = nI Q := by rw [e2.1 _ _ _ (by omega) (by omega) (by omega) (by omega)]; exact q6
        have hIX : Inv (n + 1) X := by
          rw [eX]
          exact ovL_inv h.up q6 q2
        have k61 : f_X9_last_K61 w (-1) (-1) (nI (frT' T Q)) Z = some (if w = 0 then (lbF v (frT' T Q) (41 - frT' T Q)).2 else best, X) := by
          unfold f_X9_last_K61
          rw [l1, Option.bind_some]
          by_cases y : w = 0
          · rw [if_pos y, if_pos y]
          · rw [if_neg y, if_neg y]
        have hb : Z.1 600 0 14 = best := i_eq.mpr (by rw [e3, l2])
        refine ⟨if w = 0 then (lbF v (frT' T Q) (41 - frT' T Q)).2 else best, Z, X, ?_, ?_, hIX⟩
        · unfold f_X8_last
          rw [wX, if_pos hw, Option.bind_some, if10]
          show (if S.1 400 0 9 ≤ 0 then (if S.1 600 0 11 < 3 then (f_X5_findBestLast 0 S).bind _ else _) else _) = _
          rw [if_pos hi, q5, if_pos (by rw [nlt (m := 3) rfl (by omega)]; omega), e1, Option.bind_some, e4, hb]
          by_cases y : w = 0
          · rw [if_pos y, if_pos y]
          · rw [if_neg y, if_neg y]
        · unfold f_X9_last
          rw [wM, if_pos hw, Option.bind_some, if10]
          show (f_X9_inside Z).bind _ = _
          rw [inside_M (S := S) (T := Z) hk h.2.2.2.1 (e2.1 _ _ _ (by omega) (by omega) (by omega) (by omega)) (funext fun k => e2.1 _ _ _ (by omega) (by omega) (by omega) (by omega)), Option.bind_some, if_pos hi]
          show (if Z.1 1000 0 34 = 3 then _ else (if Z.1 1000 0 34 = 0 then f_X9_last_K61 w (-1) (-1) 0 Z else (if oIn (Z.1 1000 0 34 - 1) 4 then f_X9_last_K61 w (-1) (-1) (Z.1 1036 0 (Z.1 1000 0 34 - 1).toNatClampNeg + 1) Z else none))) = _
          rw [z34, if_neg (show ¬ nI Q = 3 from fun y => by rw [i_eq, nT (by omega)] at y; have : (3 : Int32).toInt = 3 := rfl; omega)]
          unfold frT' at k61
          by_cases z : Q = 0
          · rw [if_pos z] at k61
            rw [if_pos (by rw [z]; rfl)]
            have k61 : f_X9_last_K61 w (-1) (-1) 0 Z = _ := k61
            rw [k61]
            unfold frT'
            rw [if_pos z]
          · rw [if_neg z] at k61
            rw [if_neg (nI_ne0 (by omega) (by omega))]
            have e36 : Z.1 1036 0 (nI (Q - 1)).toNatClampNeg = nI (T (Q - 1)) := by
              rw [ncl (by omega), e2.1 _ _ _ (by omega) (by omega) (by omega) (by omega)]
              exact (q8 _ (by omega)).2
            rw [show nI Q - 1 = nI (Q - 1) from n_sub (a := 1) (by omega), if_pos ((nin (by omega)).mpr (by omega)), e36, nI_1, k61]
            unfold frT'
            rw [if_neg z]
      · have hQ3 : Q = 3 := by omega
        refine pair_id (r := -4) h ?_ ?_
        · unfold f_X8_last
          rw [wX, if_pos hw, Option.bind_some, if10]
          show (if S.1 400 0 9 ≤ 0 then (if S.1 600 0 11 < 3 then (f_X5_findBestLast 0 S).bind _ else _) else _) = _
          rw [if_pos hi, q5, if_neg (by rw [nlt (m := 3) rfl (by omega)]; omega)]
        · unfold f_X9_last
          rw [wM, if_pos hw, Option.bind_some, if10]
          show (f_X9_inside S).bind _ = _
          rw [inside_M (S := S) (T := S) hk h.2.2.2.1 rfl rfl, Option.bind_some, if_pos hi]
          show (if S.1 1000 0 34 = 3 then _ else _) = _
          rw [q6, if_pos (by rw [hQ3]; rfl)]
    · refine pair_id (r := -3) h ?_ ?_
      · unfold f_X8_last
        rw [wX, if_pos hw, Option.bind_some, if10]
        show (if S.1 400 0 9 ≤ 0 then _ else _) = _
        rw [if_neg hi]
      · unfold f_X9_last
        rw [wM, if_pos hw, Option.bind_some, if10]
        show (f_X9_inside S).bind _ = _
        rw [inside_M (S := S) (T := S) hk h.2.2.2.1 rfl rfl, Option.bind_some, if_neg hi]
  · refine pair_id (r := -2) h ?_ ?_
    · unfold f_X8_last
      rw [wX, if_neg hw, Option.bind_some, if00]
    · unfold f_X9_last
      rw [wM, if_neg hw, Option.bind_some, if00]
