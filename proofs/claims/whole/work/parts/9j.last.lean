theorem bind3 {α β γ δ : Type} {a : Option α} {B : α → Option β} {w : β → γ} {F : γ → Option δ} {Z : γ} (h : (a.bind fun x => (B x).bind fun y => some (w y)) = some Z) : (a.bind fun x => (B x).bind fun y => oLet (w y) F) = F Z := by
  cases a with
  | none => cases h
  | some x =>
    rw [Option.bind_some] at h ⊢
    cases hB : B x with
    | none => rw [hB] at h; cases h
    | some y =>
      rw [hB, Option.bind_some] at h
      rw [Option.bind_some, oLet_eq]
      cases h
      rfl
def frT' (T : Nat → Nat) (Q : Nat) : Nat := if Q = 0 then 0 else T (Q - 1) + 1
theorem fr_ok {T : Nat → Nat} {Q : Nat} (h : opS T Q) : frT' T Q ≤ 41 ∧ ∀ i, i < Q → T i < frT' T Q := by
  obtain ⟨o1, o2, o3⟩ := h
  unfold frT'
  by_cases z : Q = 0
  · rw [if_pos z]
    exact ⟨by omega, fun i hi => by omega⟩
  · rw [if_neg z]
    refine ⟨by have := o2 (Q - 1) (by omega); omega, fun i hi => ?_⟩
    by_cases y : i = Q - 1
    · rw [y]; omega
    · have := o3 i (Q - 1) (by omega) (by omega)
      omega
def maH (n : Nat) (S : oS) (f n0 : Nat) : Prop := f ≤ 2 ∧ n0 ≤ 30 ∧ S.1 1000 0 4 = nI f ∧ S.1 1000 0 5 = nI n0 ∧ okH (S.2 1002 0) (4000 + 600000 * n) ∧ (4000 + 600000 * n : Int) ≤ 900000000000 ∧ (∀ r, r < 4 → rg (S.1 1003 0 r) 0 1000) ∧ (∀ r, r < 4 → rg (S.1 1004 0 r) 0 4) ∧ rg (S.1 1000 0 0) 0 40 ∧ (∀ k, rg (S.1 1007 0 k) 0 50) ∧ ∀ k, rg (S.1 1008 0 k) 0 60
set_option maxHeartbeats 2000000 in
theorem findLast_X {n : Nat} {S : oS} (h : Inv n S) (hn : n ≤ 4096) {K Q : Nat} {T kd : Nat → Nat} (hp : plH S K Q T kd) (h2 : Q ≤ 2) : ∃ (f n0 : Nat) (v : Nat → Int), maH n S f n0 ∧ vOK S K Q T kd (fcV (S.1 1004 0) (S.1 1000 0 0) f (S.2 1002 0) (S.1 1003 0) (fiL n0 (S.1 1007 0) (S.1 1008 0)) (opF T Q)) v ∧ ∃ Z, f_X5_findBestLast 0 S = some Z ∧ FrL S Q (fcV (S.1 1004 0) (S.1 1000 0 0) f (S.2 1002 0) (S.1 1003 0) (fiL n0 (S.1 1007 0) (S.1 1008 0)) (opF T Q)) Z ∧ (Z.1 600 0 14).toInt = (lbF v (frT' T Q) (41 - frT' T Q)).1 ∧ Z.1 600 0 13 = (lbF v (frT' T Q) (41 - frT' T Q)).2 := by
  obtain ⟨m, dd, hk, hl, -, -, -⟩ := h
  obtain ⟨f, n0, f1, n1, f2, n2, b1, b2, b3, b4, b5, b6, b7, b8⟩ := inv_mas m hn
  have hp' := hp
  obtain ⟨q1, q2, q3, q4, q5, q6, q7, q8, q9, q10⟩ := hp'
  obtain ⟨Y0, e1, F1, hfc⟩ := fore_X (S := S) (Q := Q) (T := T) n1 f1 b8 q5 q2 (fun i hi => ⟨(q8 i hi).1, q7.2.1 i hi⟩)
  refine ⟨f, n0, ?_⟩
  generalize fcV (S.1 1004 0) (S.1 1000 0 0) f (S.2 1002 0) (S.1 1003 0) (fiL n0 (S.1 1007 0) (S.1 1008 0)) (opF T Q) = fc at hfc ⊢
  obtain ⟨v, hv⟩ : ∃ v, vOK S K Q T kd fc v := Classical.axiomOfChoice (r := fun t m => ∃ z, Bsf (mdV (wyQ (Q + 1)) K (Q + 1) (gmO (lkX S) (rsB S) fc (uN T Q t) kd) (onK S kd) (crK S kd) (bgK S kd)) (plC (wyQ (Q + 1)) K) ((wyQ (Q + 1) + 1) ^ K) m z) (fun t => Bsf_ex _)
  have hvK := vOK_le hv
  obtain ⟨r1, r2⟩ := fr_ok q7
  refine ⟨v, ⟨f1, n1, f2, n2, b1, b2, b3, b4, b5, b6, b7⟩, hv, ?_⟩
  generalize hfr : frT' T Q = fr at r1 r2 ⊢
  obtain ⟨Y1, hY1⟩ : ∃ Y1, Y1 = oStI (oStI Y0 600 0 13 (-1)) 600 0 14 (-1) := ⟨_, rfl⟩
  have FY1 : FrL S Q fc Y1 := by
    rw [hY1]
    refine ⟨fun t i k z1 z2 z3 z4 => ?_, fun t i k z1 z2 => F1.2 t i k z1 z2, hfc⟩
    show (if t = 600 ∧ i = 0 ∧ k = 14 then _ else if t = 600 ∧ i = 0 ∧ k = 13 then _ else Y0.1 t i k) = _
    rw [if_neg (by omega), if_neg (by omega)]
    exact F1.1 t i k z1
  have eff : f_X5_firstFreeTick Y1 = some (nI fr, Y1) := by
    have y11 : Y1.1 600 0 11 = nI Q := by rw [FY1.1 _ _ _ (by omega) (by omega) (by omega) (by omega)]; exact q5
    unfold f_X5_firstFreeTick
    rw [y11]
    unfold frT' at hfr
    by_cases z : Q = 0
    · rw [if_pos z] at hfr
      rw [if_pos (by rw [z]; rfl), ← hfr]
      rfl
    · rw [if_neg z] at hfr
      obtain ⟨p, rfl⟩ : ∃ p, Q = p + 1 := ⟨Q - 1, by omega⟩
      have e5 : Y1.1 605 0 (nI p).toNatClampNeg = nI (T p) := by
        rw [ncl (by omega), FY1.1 _ _ _ (by omega) (by omega) (by omega) (by omega)]
        exact (q8 p (by omega)).1
      rw [if_neg (nI_ne0 (by omega) (by omega)), nPr, if_pos ((nin (by omega)).mpr (by omega)), e5, nI_1, ← hfr]
      rfl
  have lp : ∃ Z, oLp f_X5_findBestLast_L22 oFu (nI fr, Y1) = some Z ∧ FrL S Q fc Z ∧ (Z.1 600 0 14).toInt = (lbF v fr (41 - fr)).1 ∧ Z.1 600 0 13 = (lbF v fr (41 - fr)).2 := by
    refine oLp_inv (fun i s => ∃ Y, s = (nI (fr + i), Y) ∧ FrL S Q fc Y ∧ (Y.1 600 0 14).toInt = (lbF v fr i).1 ∧ Y.1 600 0 13 = (lbF v fr i).2) (fun Z => FrL S Q fc Z ∧ (Z.1 600 0 14).toInt = (lbF v fr (41 - fr)).1 ∧ Z.1 600 0 13 = (lbF v fr (41 - fr)).2) (41 - fr) oFu 0 (nI fr, Y1) ⟨Y1, rfl, FY1, by rw [hY1]; rfl, by rw [hY1]; rfl⟩ (by show 41 - fr - 0 < 100000; omega) (by omega) ?_ ?_
    · rintro i s hi ⟨Y, rfl, FY, hb, ht⟩
      have y10 : Y.1 600 0 10 = nI K := by rw [FY.1 _ _ _ (by omega) (by omega) (by omega) (by omega)]; exact q3
      show (∃ s', (if (40 : Int32) < nI (fr + i) then _ else (if Y.1 600 0 10 ≤ Y.1 600 0 14 then _ else _)) = _ ∧ _) ∨ (∃ r, (if (40 : Int32) < nI (fr + i) then _ else (if Y.1 600 0 10 ≤ Y.1 600 0 14 then _ else _)) = _ ∧ _)
      rw [if_neg (show ¬ (40 : Int32) < nI (fr + i) by rw [i_lt, nT (by omega)]; have : (40 : Int32).toInt = 40 := rfl; omega), y10]
      by_cases z : nI K ≤ Y.1 600 0 14
      · rw [if_pos z]
        rw [i_le, nT (by omega), hb] at z
        have hst := lb_st hvK z (41 - fr - i)
        rw [show i + (41 - fr - i) = 41 - fr by omega] at hst
        exact Or.inr ⟨Y, rfl, FY, by rw [hst]; exact hb, by rw [hst]; exact ht⟩
      · rw [if_neg z]
        obtain ⟨Z, l1, l2, l3, l4, l5⟩ := lastS_X hk dd.2.2.2.2 hp h2 hv FY (t := fr + i) (by omega) (fun j hj => by have := r2 j hj; omega)
        rw [bind3 l1]
        have hle : (Z.1 600 0 12 ≤ Z.1 600 0 14) ↔ v (fr + i) ≤ (lbF v fr i).1 := by rw [i_le, l3, l5, hb]
        by_cases y : Z.1 600 0 12 ≤ Z.1 600 0 14
        · have y' := hle.mp y
          have e : lbF v fr (i + 1) = lbF v fr i := if_pos y'
          rw [if_pos y]
          exact Or.inl ⟨(nI (fr + i + 1), Z), by rw [oLet_eq, nI_1], Z, rfl, l2, by rw [e, l5]; exact hb, by rw [e, l4]; exact ht⟩
        · have y' : ¬ v (fr + i) ≤ (lbF v fr i).1 := fun w => y (hle.mpr w)
          have e : lbF v fr (i + 1) = (v (fr + i), nI (fr + i)) := if_neg y'
          rw [if_neg y]
          refine Or.inl ⟨(nI (fr + i + 1), oStI (oStI Z 600 0 13 (nI (fr + i))) 600 0 14 (Z.1 600 0 12)), by rw [oLet_eq, oLet_eq, oLet_eq, nI_1]; rfl, _, rfl, ⟨fun t i' k z1 z2 z3 z4 => ?_, fun t i' k z1 z2 => l2.2.1 t i' k z1 z2, l2.2.2⟩, by rw [e]; exact l3, by rw [e]; rfl⟩
          show (if t = 600 ∧ i' = 0 ∧ k = 14 then _ else if t = 600 ∧ i' = 0 ∧ k = 13 then _ else Z.1 t i' k) = _
          rw [if_neg (by omega), if_neg (by omega)]
          exact l2.1 t i' k z1 z2 z3 z4
    · rintro s ⟨Y, rfl, FY, hb, ht⟩
      refine ⟨Y, ?_, FY, hb, ht⟩
      show (if (40 : Int32) < nI (fr + (41 - fr)) then _ else _) = _
      rw [if_pos (show (40 : Int32) < nI (fr + (41 - fr)) by rw [i_lt, nT (by omega)]; have : (40 : Int32).toInt = 40 := rfl; omega)]
  obtain ⟨Z, l1, l2, l3, l4⟩ := lp
  refine ⟨Z, ?_, l2, l3, l4⟩
  unfold f_X5_findBestLast
  rw [e1, Option.bind_some, oLet_eq, oLet_eq, ← hY1, eff, Option.bind_some]
  show (oLp f_X5_findBestLast_L22 oFu (nI fr, Y1)).bind _ = _
  rw [l1, Option.bind_some]
