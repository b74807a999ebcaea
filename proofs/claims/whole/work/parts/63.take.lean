def rsB (S : oS) (k : Nat) (s r a : Int32) : Int32 := if s ≤ S.1 1021 0 k then (if S.1 1017 0 k ≤ r then (if a ≤ S.1 1018 0 k then 1 else 3) else 0) else 2
theorem result_X {S : oS} {k : Nat} {a r s : Int32} (h8 : k < 8) : f_X1_resultOf (nI k) a r s S = some (if s ≤ S.1 207 0 k then (if S.1 203 0 k ≤ r then (if a ≤ S.1 204 0 k then 1 else 3) else 0) else 2, S) := by
  have hin : oIn (nI k) 8 := (nin (by omega)).mpr h8
  have e1 : S.1 207 0 (nI k).toNatClampNeg = S.1 207 0 k := by rw [ncl (by omega)]
  have e2 : S.1 203 0 (nI k).toNatClampNeg = S.1 203 0 k := by rw [ncl (by omega)]
  have e3 : S.1 204 0 (nI k).toNatClampNeg = S.1 204 0 k := by rw [ncl (by omega)]
  unfold f_X1_resultOf
  rw [if_pos hin, e1, e2, e3]
  by_cases g1 : s ≤ S.1 207 0 k
  · rw [if_pos g1, if_pos g1, if_pos hin]
    by_cases g2 : S.1 203 0 k ≤ r
    · rw [if_pos g2, if_pos g2, if_pos hin]
      by_cases g3 : a ≤ S.1 204 0 k
      · rw [if_pos g3, if_pos g3]
      · rw [if_neg g3, if_neg g3]
    · rw [if_neg g2, if_neg g2]
  · rw [if_neg g1, if_neg g1]
theorem result_M {S : oS} {k : Nat} {a r s : Int32} (h8 : k < 8) : f_X9_resultOf (nI k) s r a S = some (rsB S k s r a, S) := by
  have hin : oIn (nI k) 8 := (nin (by omega)).mpr h8
  have e1 : S.1 1021 0 (nI k).toNatClampNeg = S.1 1021 0 k := by rw [ncl (by omega)]
  have e2 : S.1 1017 0 (nI k).toNatClampNeg = S.1 1017 0 k := by rw [ncl (by omega)]
  have e3 : S.1 1018 0 (nI k).toNatClampNeg = S.1 1018 0 k := by rw [ncl (by omega)]
  unfold f_X9_resultOf rsB
  rw [if_pos hin, e1, e2, e3]
  by_cases g1 : s ≤ S.1 1021 0 k
  · rw [if_pos g1, if_pos g1, if_pos hin]
    by_cases g2 : S.1 1017 0 k ≤ r
    · rw [if_pos g2, if_pos g2, if_pos hin]
      by_cases g3 : a ≤ S.1 1018 0 k
      · rw [if_pos g3, if_pos g3]
      · rw [if_neg g3, if_neg g3]
    · rw [if_neg g2, if_neg g2]
  · rw [if_neg g1, if_neg g1]
def taX (S : oS) (l p k : Nat) : oS := oStI (oStI (oStI (ldS S p (S.1 300 p 0 + -1 * kBg S k) (S.1 300 p 1 + -1 * kOn S k) (S.1 300 p 2 + -1 * kCr S k)) 404 0 l (-1)) 400 0 9 (S.1 400 0 9 - 1)) 400 0 12 1
def taM (S : oS) (l : Nat) : oS := oStI (oStI S 1027 0 l (-1)) 1000 0 12 1
theorem drawOut_ok {S : oS} (hk : iKin S) (hl : iLoa S) {l p k : Nat} (h2 : l < 200) (hp : p < 4) (h8 : k < 8) (hr : S.1 1027 0 l = nI p) (hkk : S.1 1026 0 l = nI k) : f_X3_drawOut (nI l) S = some (rsB S k (S.1 1030 0 l) (S.1 1029 0 l) (S.1 1028 0 l), if rsB S k (S.1 1030 0 l) (S.1 1029 0 l) (S.1 1028 0 l) = 1 then oStI (taX S l p k) 400 0 10 (S.1 400 0 10 + 1) else taX S l p k) := by
  have hin : oIn (nI l) 200 := (nin (by omega)).mpr h2
  have el : (nI l).toNatClampNeg = l := ncl (by omega)
  have e0 : 0 + (nI p).toNatClampNeg = p := by rw [ncl (by omega)]; omega
  obtain ⟨-, a3, -⟩ := hl
  obtain ⟨-, k2, -⟩ := hk
  obtain ⟨y1, y2, y3, y4, y5, y6⟩ := a3 l
  obtain ⟨w1, w2, w3, w4, w5, w6, w7, -⟩ := k2 k
  have e1 : S.1 404 0 (nI l).toNatClampNeg = nI p := by rw [el, y2, hr]
  have e2 : S.1 403 0 (nI l).toNatClampNeg = nI k := by rw [el, y1, hkk]
  unfold f_X3_drawOut
  rw [if_pos hin, e1, if_pos ((nin (by omega)).mpr hp)]
  show (if oIn (nI l) 200 then (f_X2_change (0 + (nI p).toNatClampNeg) (S.1 403 0 (nI l).toNatClampNeg) (-1) S).bind _ else none) = _
  rw [if_pos hin, e2, e0, change_ok h8, Option.bind_some, if_pos hin]
  show (if oIn (nI l) 200 then _ else none) = _
  rw [if_pos hin, if_pos hin, if_pos hin, if_pos hin]
  have eq : oStI (oStI (oStI (ldS S p (S.1 300 p 0 + -1 * kBg S k) (S.1 300 p 1 + -1 * kOn S k) (S.1 300 p 2 + -1 * kCr S k)) 404 0 (nI l).toNatClampNeg (-1)) 400 0 9 (S.1 400 0 9 - 1)) 400 0 12 1 = taX S l p k := by rw [el]; rfl
  show (f_X1_resultOf (S.1 403 0 (nI l).toNatClampNeg) (S.1 405 0 (nI l).toNatClampNeg) (S.1 406 0 (nI l).toNatClampNeg) (S.1 407 0 (nI l).toNatClampNeg) (oStI (oStI (oStI (ldS S p (S.1 300 p 0 + -1 * kBg S k) (S.1 300 p 1 + -1 * kOn S k) (S.1 300 p 2 + -1 * kCr S k)) 404 0 (nI l).toNatClampNeg (-1)) 400 0 9 (S.1 400 0 9 - 1)) 400 0 12 1)).bind _ = _
  rw [e2, eq, el, y3, y4, y5, result_X h8, Option.bind_some]
  have er : (if S.1 1030 0 l ≤ (taX S l p k).1 207 0 k then (if (taX S l p k).1 203 0 k ≤ S.1 1029 0 l then (if S.1 1028 0 l ≤ (taX S l p k).1 204 0 k then (1 : Int32) else 3) else 0) else 2) = rsB S k (S.1 1030 0 l) (S.1 1029 0 l) (S.1 1028 0 l) := by
    unfold rsB
    rw [← w7, ← w3, ← w4]
    rfl
  rw [er]
  show (if rsB S k (S.1 1030 0 l) (S.1 1029 0 l) (S.1 1028 0 l) = 1 then _ else _) = _
  by_cases g : rsB S k (S.1 1030 0 l) (S.1 1029 0 l) (S.1 1028 0 l) = 1
  · rw [if_pos g, if_pos g]
    rfl
  · rw [if_neg g, if_neg g]
