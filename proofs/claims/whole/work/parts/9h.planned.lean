/-- what is told of an order of a plan -/
def tlD (W d : Nat) (T : Nat → Nat) (w : Int32) : Int32 := if d = W then -1 else if w = 0 then nI (d % 4) else if w = 1 then nI (T (pI (d / 4))) else nI (T (pO (d / 4)))
theorem tell_P {Z : oS} {W K Q a d : Nat} {T : Nat → Nat} {w : Int32} (ha : a < 4) (h3 : Q ≤ 3) (hW : W = wyQ Q) (hd : d ≤ W) (h1 : Z.1 610 0 a = cdW W d) (hT : ∀ i, i < Q → Z.1 605 0 i = nI (T i)) : f_X5_tell (nI a) w Z = some (tlD W d T w, Z) := by
  have hW12 : W ≤ 12 := by rw [hW]; exact wy_12 Q
  have e1 : Z.1 610 0 (nI a).toNatClampNeg = cdW W d := by rw [ncl (by omega)]; exact h1
  unfold f_X5_tell tlD
  rw [if_pos ((nin (by omega)).mpr ha), e1, oLet_eq, wX, Option.bind_some]
  unfold cdW
  by_cases z : d = W
  · rw [if_pos z, if_pos z]
    rfl
  · have hlt : d < W := by omega
    have hq : pO (d / 4) < Q := (wy_iff h3 (by omega)).mp (by rw [← hW]; exact hlt)
    obtain ⟨p1, p2, p3, p4⟩ := pIO (p := d / 4) (by omega)
    have i3 : oIn (nI (d / 4)) 3 := (nin (by omega)).mpr (by omega)
    have r1 : oPIN (nI (d / 4)).toNatClampNeg = nI (pI (d / 4)) := by rw [ncl (by omega)]; exact p1
    have r2 : oPOUT (nI (d / 4)).toNatClampNeg = nI (pO (d / 4)) := by rw [ncl (by omega)]; exact p2
    have k1 : f_X5_tell_K56 (nI (pI (d / 4))) Z = some (nI (T (pI (d / 4))), Z) := by
      have : Z.1 605 0 (nI (pI (d / 4))).toNatClampNeg = nI (T (pI (d / 4))) := by rw [ncl (by omega)]; exact hT _ (by omega)
      unfold f_X5_tell_K56
      rw [if_pos ((nin (by omega)).mpr (by omega)), this]
    have k2 : f_X5_tell_K56 (nI (pO (d / 4))) Z = some (nI (T (pO (d / 4))), Z) := by
      have : Z.1 605 0 (nI (pO (d / 4))).toNatClampNeg = nI (T (pO (d / 4))) := by rw [ncl (by omega)]; exact hT _ hq
      unfold f_X5_tell_K56
      rw [if_pos ((nin (by omega)).mpr (by omega)), this]
    have hin : (0 : Int32) ≤ nI d ∧ nI d ≤ 11 := ⟨nI_pos' (by omega), by
      have : (11 : Int32) = nI 11 := rfl
      rw [this, nI_leI (by omega) (by omega)]; omega⟩
    rw [if_neg z, if_neg z, if_pos hin, if10, n4d (by omega), n4m (by omega), oLet_eq, if_pos i3, if_pos i3]
    show (if w = 0 then some (nI (d % 4), Z) else (if w = 1 then f_X5_tell_K56 (oPIN (nI (d / 4)).toNatClampNeg) Z else f_X5_tell_K56 (oPOUT (nI (d / 4)).toNatClampNeg) Z)) = _
    rw [r1, r2, k1, k2]
    by_cases y : w = 0
    · rw [if_pos y, if_pos y]
    · rw [if_neg y, if_neg y]
      by_cases x : w = 1
      · rw [if_pos x, if_pos x]
      · rw [if_neg x, if_neg x]
set_option maxHeartbeats 4000000 in
theorem pr_planned (n : Nat) (hn : n ≤ 4096) (a w : Int32) : oPair n (f_X8_planned a w) (f_X9_planned a w) := by
  intro S h
  have u := h.up
  obtain ⟨K, Q, T, kd, hp⟩ := inv_pla h.2.2.2.2.1
  obtain ⟨q1, q2, q3, q4, q5, q6, q7, q8, q9, q10⟩ := hp
  have e10 : S.1 600 0 10 = S.1 1000 0 32 := q3.trans q4.symm
  by_cases ha : 0 ≤ a ∧ a ≤ S.1 1000 0 32 - 1
  · by_cases hw : (0 : Int32) ≤ w ∧ w ≤ 2
    · by_cases hi : S.1 400 0 9 ≤ 0
      · obtain ⟨a', ha', rfl⟩ := bel_nat (N := 4) (by rw [q4]; exact ⟨by rw [nT (by omega)]; omega, by rw [nT (by omega)]; omega⟩) ha
        rw [q4, nT (by omega)] at ha'
        have ha4 : a' < K := by omega
        obtain ⟨A, B, A1, h1, w1, d1, l1, I, O, R, G, D, b, o, c, g, z, e1, e2, e3, e4, e5, e6⟩ := plan_both h hn ⟨q1, q2, q3, q4, q5, q6, q7, q8, q9, q10⟩
        have hW12 := wy_12 Q
        have hdl := dg_lt (W := wyQ Q) (K := K) (k := z) (o := a')
        have tx := tell_P (Z := ovP S A B) (W := wyQ Q) (K := K) (Q := Q) (a := a') (d := dg (wyQ Q + 1) K z a') (T := T) (w := w) (by omega) q2 rfl (by omega) (e6 a' ha4) (fun i hi => (q8 i hi).1)
        obtain ⟨D', g1, g2⟩ := given_M (V := wS (nS (aS (ovP S A B) A1) h1 w1 d1 l1) (wyQ Q) I O R G) (W := wyQ Q) (K := K) (k := z) (G := G) q4 q1 rfl hW12 (fun _ _ _ _ => rfl) e5 D b o c g
        rw [← e4] at g1
        refine ⟨tlD (wyQ Q) (dg (wyQ Q + 1) K z a') T w, ovP S A B, cmS (dS (wS (nS (aS (ovP S A B) A1) h1 w1 d1 l1) (wyQ Q) I O R G) D' b) o c g, ?_, ?_, u⟩
        · unfold f_X8_planned
          rw [e10, wX, if_pos ha, Option.bind_some, if10]
          show (f_X8_within w 0 2 S).bind _ = _
          rw [wX, if_pos hw, Option.bind_some, if10]
          show (if S.1 400 0 9 ≤ 0 then (f_X5_makePlan 0 S).bind _ else _) = _
          rw [if_pos hi, e1, Option.bind_some, tx, Option.bind_some]
        · have ha2 : 0 ≤ nI a' ∧ nI a' ≤ (ovP S A B).1 1000 0 32 - 1 := ha
          unfold f_X9_planned
          rw [wM, if_pos ha2, Option.bind_some, if10]
          show (f_X9_in w 0 2 (ovP S A B)).bind _ = _
          rw [wM, if_pos hw, Option.bind_some, if10]
          show (f_X9_inside (ovP S A B)).bind _ = _
          rw [inside_M (S := S) (T := ovP S A B) h.2.2.1 h.2.2.2.1 rfl rfl, Option.bind_some, if_pos hi, e2, Option.bind_some]
          show (f_X9_layGiven b (cmS (dS (wS (nS (aS (ovP S A B) A1) h1 w1 d1 l1) (wyQ Q) I O R G) D b) o c g)).bind _ = _
          rw [g1, Option.bind_some]
          generalize hX : cmS (dS (wS (nS (aS (ovP S A B) A1) h1 w1 d1 l1) (wyQ Q) I O R G) D' b) o c g = X
          have x63 : X.1 1063 0 (nI a').toNatClampNeg = nI (dg (wyQ Q + 1) K z a') := by rw [ncl (by omega), ← hX]; exact g2 a' ha4
          have x57 : X.1 1000 0 57 = nI (wyQ Q) := by rw [← hX]; rfl
          have x59 : ∀ x, X.1 1059 0 x = I x := fun x => by rw [← hX]; rfl
          have x60 : ∀ x, X.1 1060 0 x = O x := fun x => by rw [← hX]; rfl
          have x61 : ∀ x, X.1 1061 0 x = R x := fun x => by rw [← hX]; rfl
          have x36 : ∀ x, x < Q → X.1 1036 0 x = nI (T x) := fun x hx => by rw [← hX]; exact (q8 x hx).2
          generalize dg (wyQ Q + 1) K z a' = d at hdl x63 ⊢
          show (if oIn (nI a') 4 then oLet (X.1 1063 0 (nI a').toNatClampNeg) _ else none) = _
          rw [if_pos ((nin (by omega)).mpr (by omega)), x63, oLet_eq]
          show (if nI d = X.1 1000 0 57 then some ((-1 : Int32), X) else (if w = 0 then (if oIn (nI d) 13 then some (X.1 1061 0 (nI d).toNatClampNeg, X) else none) else (if w = 1 then (if oIn (nI d) 13 then f_X9_planned_K104 (X.1 1059 0 (nI d).toNatClampNeg) X else none) else (if oIn (nI d) 13 then f_X9_planned_K104 (X.1 1060 0 (nI d).toNatClampNeg) X else none)))) = _
          have cd : ∀ t : Nat, X.1 t 0 (nI d).toNatClampNeg = X.1 t 0 d := fun t => by rw [ncl (by omega)]
          unfold tlD
          rw [x57, if_pos (show oIn (nI d) 13 from (nin (by omega)).mpr (by omega)), if_pos (show oIn (nI d) 13 from (nin (by omega)).mpr (by omega)), if_pos (show oIn (nI d) 13 from (nin (by omega)).mpr (by omega)), cd, cd, cd, x59, x60, x61]
          by_cases zz : d = wyQ Q
          · rw [if_pos (by rw [zz]), if_pos zz]
          · have hlt : d < wyQ Q := by omega
            obtain ⟨y1, y2, y3⟩ := e3 d hlt
            have hq : pO (d / 4) < Q := (wy_iff q2 (by omega)).mp hlt
            obtain ⟨p1, p2, p3, p4⟩ := pIO (p := d / 4) (by omega)
            have k1 : f_X9_planned_K104 (nI (pI (d / 4))) X = some (nI (T (pI (d / 4))), X) := by
              have : X.1 1036 0 (nI (pI (d / 4))).toNatClampNeg = nI (T (pI (d / 4))) := by rw [ncl (by omega)]; exact x36 _ (by omega)
              unfold f_X9_planned_K104
              rw [if_pos ((nin (by omega)).mpr (by omega)), this]
            have k2 : f_X9_planned_K104 (nI (pO (d / 4))) X = some (nI (T (pO (d / 4))), X) := by
              have : X.1 1036 0 (nI (pO (d / 4))).toNatClampNeg = nI (T (pO (d / 4))) := by rw [ncl (by omega)]; exact x36 _ hq
              unfold f_X9_planned_K104
              rw [if_pos ((nin (by omega)).mpr (by omega)), this]
            rw [if_neg (by rw [nI_eq (by omega) (by omega)]; exact zz), if_neg zz, y1, y2, y3, k1, k2]
            by_cases y : w = 0
            · rw [if_pos y, if_pos y]
            · rw [if_neg y, if_neg y]
              by_cases x : w = 1
              · rw [if_pos x, if_pos x]
              · rw [if_neg x, if_neg x]
      · refine pair_id (r := -3) h ?_ ?_
        · simp only [f_X8_planned, e10, wX, Option.bind_some, if_pos ha, if_pos hw, if10, if_neg hi]
        · unfold f_X9_planned
          rw [wM, if_pos ha, Option.bind_some, if10]
          show (f_X9_in w 0 2 S).bind _ = _
          rw [wM, if_pos hw, Option.bind_some, if10]
          show (f_X9_inside S).bind _ = _
          rw [inside_M (S := S) (T := S) h.2.2.1 h.2.2.2.1 rfl rfl, Option.bind_some, if_neg hi]
    · refine pair_id (r := -2) h ?_ ?_
      · simp only [f_X8_planned, e10, wX, Option.bind_some, if_pos ha, if_neg hw, if10, if00, if_true]
      · simp only [f_X9_planned, wM, Option.bind_some, if_pos ha, if_neg hw, if10, if00, if_true]
  · refine pair_id (r := -2) h ?_ ?_
    · simp only [f_X8_planned, e10, wX, Option.bind_some, if_neg ha, if00, if_true]
    · simp only [f_X9_planned, wM, Option.bind_some, if_neg ha, if00, if_true]
