theorem cv1 {v : Int32} : (if cvL v = 1 then (1 : Int32) else 0) = (if v = 0 then 1 else 0) := by
  unfold cvL
  by_cases g : v = 0
  · rw [if_pos g, if_pos g]; rfl
  · rw [if_neg g, if_neg g]
    by_cases g1 : v = 1
    · rw [if_pos g1]; rfl
    · rw [if_neg g1]; rfl
theorem cv2 {v : Int32} : (if cvL v = 2 then (1 : Int32) else 0) = (if v = 0 then 0 else if v = 1 then 1 else 0) := by
  unfold cvL
  by_cases g : v = 0
  · rw [if_pos g, if_pos g]; rfl
  · rw [if_neg g, if_neg g]
    by_cases g1 : v = 1
    · rw [if_pos g1, if_pos g1]; rfl
    · rw [if_neg g1, if_neg g1]; rfl
theorem cv3 {v : Int32} : (if cvL v = 0 then (1 : Int32) else 0) = (if v = 0 then 0 else if v = 1 then 0 else 1) := by
  unfold cvL
  by_cases g : v = 0
  · rw [if_pos g, if_pos g]; rfl
  · rw [if_neg g, if_neg g]
    by_cases g1 : v = 1
    · rw [if_pos g1, if_pos g1]; rfl
    · rw [if_neg g1, if_neg g1]; rfl
theorem if_2 {c : Prop} [Decidable c] {α : Type} {f : Int32 → α} : (if c then f 1 else f 0) = f (if c then 1 else 0) := by
  by_cases g : c
  · rw [if_pos g, if_pos g]
  · rw [if_neg g, if_neg g]
theorem k202_ok {S : oS} {g l : Int64} {A R C P d : Nat → Int32} {i : Nat} {h w : Nat → Int64} (hi : i < 200) (x : Int32) : f_X9_bake_K202 (nI i) (nI i) (P i) x (yT S g A R C P h w d l) = some (Sum.inl (nI (i + 1), yT S g A R C (uI P i (P i + x)) h w d l)) := by
  unfold f_X9_bake_K202
  simp only [if_pos (show oIn (nI i) 200 from (nin (by omega)).mpr hi), oLet, yT_sP _ hi, nI_1]
theorem k184_ok {S : oS} {g l : Int64} {A R C P d : Nat → Int32} {i : Nat} {h w : Nat → Int64} (hi : i < 200) (v x : Int32) : f_X9_bake_K184 (nI i) v (nI i) (C i) x (yT S g A R C P h w d l) = some (Sum.inl (nI (i + 1), yT S g A R (uI C i (C i + x)) (uI P i (P i + if v = 0 then 1 else 0)) h w d l)) := by
  have c1 : (nI i).toNatClampNeg = i := ncl (by omega)
  have rP : (yT S g A R (uI C i (C i + x)) P h w d l).1 1031 0 (nI i).toNatClampNeg = P i := by rw [c1]; rfl
  unfold f_X9_bake_K184
  simp only [if_pos (show oIn (nI i) 200 from (nin (by omega)).mpr hi), oLet, yT_sC _ hi, rP]
  rw [if_2 (f := fun z => f_X9_bake_K202 (nI i) (nI i) (P i) z (yT S g A R (uI C i (C i + x)) P h w d l)), k202_ok hi]
theorem k165_ok {S : oS} {g l : Int64} {A R C P d : Nat → Int32} {i : Nat} {h w : Nat → Int64} (hi : i < 200) (v x : Int32) : f_X9_bake_K165 (nI i) v (nI i) (R i) x (yT S g A R C P h w d l) = some (Sum.inl (nI (i + 1), yT S g A (uI R i (R i + x)) (uI C i (C i + if v = 2 then 1 else 0)) (uI P i (P i + if v = 0 then 1 else 0)) h w d l)) := by
  have c1 : (nI i).toNatClampNeg = i := ncl (by omega)
  have rC : (yT S g A (uI R i (R i + x)) C P h w d l).1 1030 0 (nI i).toNatClampNeg = C i := by rw [c1]; rfl
  unfold f_X9_bake_K165
  simp only [if_pos (show oIn (nI i) 200 from (nin (by omega)).mpr hi), oLet, yT_sR _ hi, rC]
  rw [if_2 (f := fun z => f_X9_bake_K184 (nI i) v (nI i) (C i) z (yT S g A (uI R i (R i + x)) C P h w d l)), k184_ok hi]
theorem face_M {S : oS} {h w : Nat → Int64} {d : Nat → Int32} {l : Int64} {p : Nat} (hp : p < 4) : f_X9_faceOf (nI p) (nS S h w d l) = some (h (3 * p) / 10, nS S h w d l) := by
  unfold f_X9_faceOf f_X9_cellOf
  rw [Option.bind_some, m3_0]
  show (if oIn (nI (3 * p)) 12 then some ((nS S h w d l).2 1050 0 (nI (3 * p)).toNatClampNeg / 10, nS S h w d l) else none) = _
  rw [if_pos (in12 (show 3 * p < 12 by omega)), nS_h (show 3 * p < 12 by omega)]
set_option maxHeartbeats 1000000 in
theorem bakeG_M {S : oS} {g l : Int64} {A R C P d : Nat → Int32} {c : Nat} {h w : Nat → Int64} {v : Nat → Int32} (hc : S.1 1000 0 24 = nI c) (h2 : c ≤ 200) (hq : rgQ (S.1 1027 0) c) (hk : kdQ (S.1 1026 0) c) (hv : ∀ i, i < c → srM S (S.1 1026 0 i).toNatClampNeg (A i + 1) (h (3 * (S.1 1027 0 i).toNatClampNeg) / 10) = cvL (v i)) : oLp f_X9_bake_L95 oFu ((0 : Int32), yT S g A R C P h w d l) = some (yT S g (gw A (eA (S.1 1027 0)) c) (gw R (eR (S.1 1027 0) v) c) (gw C (eC (S.1 1027 0) v) c) (gw P (eP (S.1 1027 0) v) c) h w d l) := by
  refine oLp_eq (fun i => (nI i, yT S g (gw A (eA (S.1 1027 0)) i) (gw R (eR (S.1 1027 0) v) i) (gw C (eC (S.1 1027 0) v) i) (gw P (eP (S.1 1027 0) v) i) h w d l)) _ c (by omega) ?_ ?_ ?_
  · have z : ∀ F e : Nat → Int32, F = gw F e 0 := fun F e => funext fun k => (if_neg (by omega)).symm
    show _ = ((0 : Int32), yT S g (gw A _ 0) (gw R _ 0) (gw C _ 0) (gw P _ 0) h w d l)
    rw [← z A, ← z R, ← z C, ← z P]
  · intro i hi
    have c1 : (nI i).toNatClampNeg = i := ncl (by omega)
    have hin : oIn (nI i) 200 := (nin (by omega)).mpr (by omega)
    show (if S.1 1000 0 24 ≤ nI i then _ else _) = some (Sum.inl (nI (i + 1), yT S g (gw A (eA (S.1 1027 0)) (i + 1)) (gw R (eR (S.1 1027 0) v) (i + 1)) (gw C (eC (S.1 1027 0) v) (i + 1)) (gw P (eP (S.1 1027 0) v) (i + 1)) h w d l))
    rw [hc, if_neg (by rw [nI_leI (by omega) (by omega)]; omega), isInside_ok (by omega), Option.bind_some]
    show (if (if S.1 1027 0 i = -1 then (0 : Int32) else 1) = 0 then _ else _) = _
    rcases hq i hi with z | ⟨p, hp, z⟩
    · rw [if_pos z, if00, gw_0 (show eA (S.1 1027 0) i = 0 from if_pos z), gw_0 (show eR (S.1 1027 0) _ i = 0 from if_pos z), gw_0 (show eC (S.1 1027 0) _ i = 0 from if_pos z), gw_0 (show eP (S.1 1027 0) _ i = 0 from if_pos z), ← nI_1]
      rfl
    · have z' : ¬ S.1 1027 0 i = -1 := by rw [z]; exact n_m1 hp
      obtain ⟨k, h8, ek⟩ := hk i hi
      have hvi := hv i hi
      rw [ek, z, ncl (by omega), ncl (by omega)] at hvi
      rw [if_neg z', if10]
      generalize hA : gw A (eA (S.1 1027 0)) i = A1
      generalize hR : gw R (eR (S.1 1027 0) v) i = R1
      generalize hC : gw C (eC (S.1 1027 0) v) i = C1
      generalize hP : gw P (eP (S.1 1027 0) v) i = P1
      have a1 : A1 i = A i := by rw [← hA, gw_b]
      have b1 : R1 i = R i := by rw [← hR, gw_b]
      have b2 : C1 i = C i := by rw [← hC, gw_b]
      have b3 : P1 i = P i := by rw [← hP, gw_b]
      have r8 : ∀ A' : Nat → Int32, (yT S g A' R1 C1 P1 h w d l).1 1028 0 (nI i).toNatClampNeg = A' i := fun A' => by rw [c1]; rfl
      have r7 : ∀ A' : Nat → Int32, (yT S g A' R1 C1 P1 h w d l).1 1027 0 (nI i).toNatClampNeg = nI p := fun A' => by rw [c1]; exact z
      have r6 : ∀ A' : Nat → Int32, (yT S g A' R1 C1 P1 h w d l).1 1026 0 (nI i).toNatClampNeg = nI k := fun A' => by rw [c1]; exact ek
      have r9 : ∀ A' : Nat → Int32, (yT S g A' R1 C1 P1 h w d l).1 1029 0 (nI i).toNatClampNeg = R1 i := fun A' => by rw [c1]; rfl
      have rF : ∀ A' : Nat → Int32, f_X9_faceOf (nI p) (yT S g A' R1 C1 P1 h w d l) = some (h (3 * p) / 10, yT S g A' R1 C1 P1 h w d l) := fun A' => face_M hp
      have rS : ∀ (A' : Nat → Int32) (x : Int32) (y : Int64), srM (yT S g A' R1 C1 P1 h w d l) k x y = srM S k x y := fun _ _ _ => rfl
      have rI : uI A1 i (A i + 1) i = A i + 1 := if_pos rfl
      simp only [if_pos hin, oLet, r8, a1, yT_sA _ (show i < 200 by omega), r7, r6, r9, rF, Option.bind_some, rI, sr_M h8, rS, hvi]
      rw [if_2 (f := fun z => f_X9_bake_K165 (nI i) (cvL (v i)) (nI i) (R1 i) z (yT S g (uI A1 i (A i + 1)) R1 C1 P1 h w d l)), k165_ok (by omega), cv1, cv2, cv3, ← gw_s, ← gw_s, ← gw_s, ← gw_s, hA, hR, hC, hP, b1, b2, b3]
      have x1 : eA (S.1 1027 0) i = 1 := if_neg z'
      have x2 : eR (S.1 1027 0) v i = if v i = 0 then 1 else 0 := if_neg z'
      have x3 : eC (S.1 1027 0) v i = if v i = 0 then 0 else if v i = 1 then 1 else 0 := if_neg z'
      have x4 : eP (S.1 1027 0) v i = if v i = 0 then 0 else if v i = 1 then 0 else 1 := if_neg z'
      rw [x1, x2, x3, x4]
  · show (if S.1 1000 0 24 ≤ nI c then _ else _) = _
    rw [hc, if_pos (by rw [i_le]; exact Int.le_refl _)]
