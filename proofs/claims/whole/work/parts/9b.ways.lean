/-! The reference lays its ways -/
def wS (U : oS) (n : Nat) (I O R G : Nat → Int32) : oS := (fun t i k => if t = 1000 ∧ i = 0 ∧ k = 57 then nI n else if t = 1059 ∧ i = 0 then I k else if t = 1060 ∧ i = 0 then O k else if t = 1061 ∧ i = 0 then R k else if t = 1062 ∧ i = 0 then G k else U.1 t i k, U.2)
theorem wS_1 {U : oS} {n : Nat} {I O R G : Nat → Int32} (t i k : Nat) : (wS U n I O R G).1 t i k = if t = 1000 ∧ i = 0 ∧ k = 57 then nI n else if t = 1059 ∧ i = 0 then I k else if t = 1060 ∧ i = 0 then O k else if t = 1061 ∧ i = 0 then R k else if t = 1062 ∧ i = 0 then G k else U.1 t i k := rfl
section
variable {U : oS} {n m : Nat} {I O R G : Nat → Int32} {v : Int32}
theorem wS_sI (hm : m < 1000) : oStI (wS U n I O R G) 1059 0 (nI m).toNatClampNeg v = wS U n (uI I m v) O R G := by
  rw [ncl (by omega)]
  refine oS_ext (fun t i k => ?_) (fun t i k => rfl)
  show (if t = 1059 ∧ i = 0 ∧ k = m then v else (wS U n I O R G).1 t i k) = _
  rw [wS_1, wS_1]
  unfold uI
  grind (splits := 20)
theorem wS_sO (hm : m < 1000) : oStI (wS U n I O R G) 1060 0 (nI m).toNatClampNeg v = wS U n I (uI O m v) R G := by
  rw [ncl (by omega)]
  refine oS_ext (fun t i k => ?_) (fun t i k => rfl)
  show (if t = 1060 ∧ i = 0 ∧ k = m then v else (wS U n I O R G).1 t i k) = _
  rw [wS_1, wS_1]
  unfold uI
  grind (splits := 20)
theorem wS_sR (hm : m < 1000) : oStI (wS U n I O R G) 1061 0 (nI m).toNatClampNeg v = wS U n I O (uI R m v) G := by
  rw [ncl (by omega)]
  refine oS_ext (fun t i k => ?_) (fun t i k => rfl)
  show (if t = 1061 ∧ i = 0 ∧ k = m then v else (wS U n I O R G).1 t i k) = _
  rw [wS_1, wS_1]
  unfold uI
  grind (splits := 20)
theorem wS_sG (hm : m < 1000) : oStI (wS U n I O R G) 1062 0 (nI m).toNatClampNeg v = wS U n I O R (uI G m v) := by
  rw [ncl (by omega)]
  refine oS_ext (fun t i k => ?_) (fun t i k => rfl)
  show (if t = 1062 ∧ i = 0 ∧ k = m then v else (wS U n I O R G).1 t i k) = _
  rw [wS_1, wS_1]
  unfold uI
  grind (splits := 20)
theorem wS_sn {n' : Nat} : oStI (wS U n I O R G) 1000 0 57 (nI n') = wS U n' I O R G := by
  refine oS_ext (fun t i k => ?_) (fun t i k => rfl)
  show (if t = 1000 ∧ i = 0 ∧ k = 57 then nI n' else (wS U n I O R G).1 t i k) = _
  rw [wS_1, wS_1]
  grind (splits := 20)
end
theorem wS_0 {U : oS} : oStI U 1000 0 57 0 = wS U 0 (U.1 1059 0) (U.1 1060 0) (U.1 1061 0) (U.1 1062 0) := by
  refine oS_ext (fun t i k => ?_) (fun t i k => rfl)
  show (if t = 1000 ∧ i = 0 ∧ k = 57 then (0 : Int32) else U.1 t i k) = _
  rw [wS_1]
  by_cases g : t = 1000 ∧ i = 0 ∧ k = 57
  · rw [if_pos g, if_pos g]; rfl
  · rw [if_neg g, if_neg g]
    by_cases g : t = 1059 ∧ i = 0
    · rw [if_pos g, g.1, g.2]
    · rw [if_neg g]
      by_cases g : t = 1060 ∧ i = 0
      · rw [if_pos g, g.1, g.2]
      · rw [if_neg g]
        by_cases g : t = 1061 ∧ i = 0
        · rw [if_pos g, g.1, g.2]
        · rw [if_neg g]
          by_cases g : t = 1062 ∧ i = 0
          · rw [if_pos g, g.1, g.2]
          · rw [if_neg g]
theorem n13 (m i : Nat) : 13 * nI m + nI i = nI (13 * m + i) := by
  have h : ∀ m : Nat, 13 * nI m = nI (13 * m) := by
    intro m
    induction m with
    | zero => rfl
    | succ m ih =>
      rw [← nI_1, show 13 * (m + 1) = 13 * m + 13 by omega, ← nI_add, ← ih]
      have : nI 13 = 13 := rfl
      rw [this]
      grind
  rw [h, nI_add]
/-- what the reference knows while it lays its ways -/
def mH (U : oS) (L : Nat → Int32 → Int64 → Int32) (RS : Nat → Int32 → Int32 → Int32 → Int32) (fc : Nat → Nat → Int64) (T : Nat → Nat) (Q K : Nat) (kd : Nat → Nat) : Prop := U.1 1000 0 34 = nI Q ∧ opS T Q ∧ (∀ i, i < Q → U.1 1036 0 i = nI (T i)) ∧ U.1 1000 0 32 = nI K ∧ K ≤ 4 ∧ (∀ o, o < K → U.1 1034 0 o = nI (kd o) ∧ kd o < 8) ∧ (∀ k x w, srM U k x w = cvL (L k x w)) ∧ (∀ k s r a, rsB U k s r a = RS k s r a) ∧ ∀ t r i, i < Q → t < T i → r < 4 → U.2 1057 0 (4 * t + r) = fc t r
def gmO (L : Nat → Int32 → Int64 → Int32) (RS : Nat → Int32 → Int32 → Int32 → Int32) (fc : Nat → Nat → Int64) (T : Nat → Nat) (kd : Nat → Nat) (o w : Nat) : Int32 := bwV L RS fc (kd o) (T (pI (w / 4))) (T (pO (w / 4))) (w % 4)
def wyOK (L : Nat → Int32 → Int64 → Int32) (RS : Nat → Int32 → Int32 → Int32 → Int32) (fc : Nat → Nat → Int64) (T : Nat → Nat) (K : Nat) (kd : Nat → Nat) (n : Nat) (I O R G : Nat → Int32) : Prop := ∀ w, w < n → I w = nI (pI (w / 4)) ∧ O w = nI (pO (w / 4)) ∧ R w = nI (w % 4) ∧ ∀ o, o < K → G (13 * o + w) = gmO L RS fc T kd o w
theorem way71 {U : oS} {L : Nat → Int32 → Int64 → Int32} {RS : Nat → Int32 → Int32 → Int32 → Int32} {fc : Nat → Nat → Int64} {T : Nat → Nat} {Q K : Nat} {kd : Nat → Nat} (hM : mH U L RS fc T Q K kd) {n : Nat} {I O R G : Nat → Int32} (hn : n < 12) (hQ : pO (n / 4) < Q) (hI : I n = nI (pI (n / 4))) (hO : O n = nI (pO (n / 4))) (hR : R n = nI (n % 4)) (x y z : Int32) : ∃ G', oLp (f_X9_layWays_L71 x y z) oFu ((0 : Int32), wS U n I O R G) = some (wS U n I O R G') ∧ (∀ o, o < K → G' (13 * o + n) = gmO L RS fc T kd o n) ∧ ∀ o w, w < 13 → w ≠ n → G' (13 * o + w) = G (13 * o + w) := by
  obtain ⟨m1, ⟨o1, o2, o3⟩, m3, m4, m5, m6, m7, m8, m9⟩ := hM
  obtain ⟨p1, p2, p3, p4⟩ := pIO (p := n / 4) (by omega)
  have e : ∃ X, oLp (f_X9_layWays_L71 x y z) oFu ((0 : Int32), wS U n I O R G) = some X ∧ ∃ G', X = wS U n I O R G' ∧ (∀ o, o < K → G' (13 * o + n) = gmO L RS fc T kd o n) ∧ ∀ o w, w < 13 → w ≠ n → G' (13 * o + w) = G (13 * o + w) := by
    refine oLp_all (fun i s => ∃ G', s = (nI i, wS U n I O R G') ∧ (∀ o, o < i → G' (13 * o + n) = gmO L RS fc T kd o n) ∧ ∀ o w, w < 13 → w ≠ n → G' (13 * o + w) = G (13 * o + w)) (fun X => ∃ G', X = wS U n I O R G' ∧ (∀ o, o < K → G' (13 * o + n) = gmO L RS fc T kd o n) ∧ ∀ o w, w < 13 → w ≠ n → G' (13 * o + w) = G (13 * o + w)) K (by omega) ⟨G, rfl, fun o ho => absurd ho (Nat.not_lt_zero _), fun _ _ _ _ => rfl⟩ ?_ ?_
    · rintro i s hi ⟨G', rfl, g1, g2⟩
      obtain ⟨k1, k2⟩ := m6 i hi
      have ek : (wS U n I O R G').1 1034 0 (nI i).toNatClampNeg = nI (kd i) := by rw [ncl (by omega)]; exact k1
      have hlt := o3 _ _ p3 hQ
      have h40 := o2 _ hQ
      have bw := bw_M (Y := wS U n I O R G') (L := L) (RS := RS) (fc := fc) (k := kd i) (a := T (pI (n / 4))) (b := T (pO (n / 4))) (r := n % 4) (w := n) (p := pI (n / 4)) (q := pO (n / 4)) k2 (by omega) (by omega) h40 (by omega) (by omega) (by omega) hI (m3 _ (by omega)) hO (m3 _ hQ) hR (m7 _) (m8 _) (fun t ht => m9 t _ _ hQ ht (by omega))
      have bw : f_X9_bakesWell (nI (kd i)) (nI n) (wS U n I O R G') = some (gmO L RS fc T kd i n, wS U n I O R G') := bw
      refine ⟨(nI (i + 1), wS U n I O R (uI G' (13 * i + n) (gmO L RS fc T kd i n))), ?_, _, rfl, fun o ho => ?_, fun o w hw hwn => ?_⟩
      · show (if U.1 1000 0 32 ≤ nI i then _ else (if oIn (nI i) 4 then (f_X9_bakesWell ((wS U n I O R G').1 1034 0 (nI i).toNatClampNeg) (nI n) (wS U n I O R G')).bind _ else none)) = _
        rw [m4, if_neg (by rw [nI_leI (by omega) (by omega)]; omega), if_pos ((nin (by omega)).mpr (by omega)), ek, bw, Option.bind_some]
        show (if oIn (13 * nI i + nI n) 52 then (if oBl (gmO L RS fc T kd i n) then oLet (oStI (wS U n I O R G') 1062 0 (13 * nI i + nI n).toNatClampNeg (gmO L RS fc T kd i n)) _ else none) else none) = _
        rw [n13, if_pos ((nin (by omega)).mpr (by omega)), if_pos (show oBl (gmO L RS fc T kd i n) from bwV_01), oLet_eq, wS_sG (by omega), oLet_eq, nI_1]
      · unfold uI
        by_cases y : o = i
        · rw [y, if_pos rfl]
        · rw [if_neg (by omega)]; exact g1 o (by omega)
      · unfold uI
        rw [if_neg (by omega)]
        exact g2 o w hw hwn
    · rintro s ⟨G', rfl, g1, g2⟩
      refine ⟨_, ?_, G', rfl, g1, g2⟩
      show (if U.1 1000 0 32 ≤ nI K then _ else _) = _
      rw [m4, if_pos (by rw [i_le]; exact Int.le_refl _)]
  obtain ⟨X, e1, G', rfl, g1, g2⟩ := e
  exact ⟨G', e1, g1, g2⟩
theorem way33 {U : oS} {L : Nat → Int32 → Int64 → Int32} {RS : Nat → Int32 → Int32 → Int32 → Int32} {fc : Nat → Nat → Int64} {T : Nat → Nat} {Q K : Nat} {kd : Nat → Nat} (hM : mH U L RS fc T Q K kd) {p : Nat} {I O R G : Nat → Int32} (hp : p < 3) (hQ : pO p < Q) (hw : wyOK L RS fc T K kd (4 * p) I O R G) : ∃ I' O' R' G', oLp (f_X9_layWays_L33 (nI (pI p)) (nI (pO p))) oFu ((0 : Int32), wS U (4 * p) I O R G) = some (wS U (4 * p + 4) I' O' R' G') ∧ wyOK L RS fc T K kd (4 * p + 4) I' O' R' G' := by
  have e : ∃ X, oLp (f_X9_layWays_L33 (nI (pI p)) (nI (pO p))) oFu ((0 : Int32), wS U (4 * p) I O R G) = some X ∧ ∃ I' O' R' G', X = wS U (4 * p + 4) I' O' R' G' ∧ wyOK L RS fc T K kd (4 * p + 4) I' O' R' G' := by
    refine oLp_all (fun i s => ∃ I' O' R' G', s = (nI i, wS U (4 * p + i) I' O' R' G') ∧ wyOK L RS fc T K kd (4 * p + i) I' O' R' G') (fun X => ∃ I' O' R' G', X = wS U (4 * p + 4) I' O' R' G' ∧ wyOK L RS fc T K kd (4 * p + 4) I' O' R' G') 4 (by omega) ⟨I, O, R, G, rfl, hw⟩ ?_ ?_
    · rintro i s hi ⟨I', O', R', G', rfl, hw'⟩
      have d4 : (4 * p + i) / 4 = p := by omega
      have m4' : (4 * p + i) % 4 = i := by omega
      obtain ⟨G2, l1, l2, l3⟩ := way71 hM (n := 4 * p + i) (I := uI I' (4 * p + i) (nI (pI p))) (O := uI O' (4 * p + i) (nI (pO p))) (R := uI R' (4 * p + i) (nI i)) (G := G') (by omega) (by rw [d4]; exact hQ) (by rw [d4]; exact if_pos rfl) (by rw [d4]; exact if_pos rfl) (by rw [m4']; exact if_pos rfl) (nI (pI p)) (nI (pO p)) (nI i)
      have hin : oIn (nI (4 * p + i)) 13 := (nin (by omega)).mpr (by omega)
      refine ⟨(nI (i + 1), wS U (4 * p + (i + 1)) (uI I' (4 * p + i) (nI (pI p))) (uI O' (4 * p + i) (nI (pO p))) (uI R' (4 * p + i) (nI i)) G2), ?_, _, _, _, _, rfl, fun w hw2 => ?_⟩
      · show (if (4 : Int32) ≤ nI i then _ else (if oIn (nI (4 * p + i)) 13 then oLet (oStI (wS U (4 * p + i) I' O' R' G') 1059 0 (nI (4 * p + i)).toNatClampNeg (nI (pI p))) _ else none)) = _
        rw [if_neg (le4 hi), if_pos hin, wS_sI (by omega), oLet_eq]
        show (if oIn (nI (4 * p + i)) 13 then oLet (oStI (wS U (4 * p + i) (uI I' (4 * p + i) (nI (pI p))) O' R' G') 1060 0 (nI (4 * p + i)).toNatClampNeg (nI (pO p))) _ else none) = _
        rw [if_pos hin, wS_sO (by omega), oLet_eq]
        show (if oIn (nI (4 * p + i)) 13 then oLet (oStI (wS U (4 * p + i) (uI I' (4 * p + i) (nI (pI p))) (uI O' (4 * p + i) (nI (pO p))) R' G') 1061 0 (nI (4 * p + i)).toNatClampNeg (nI i)) _ else none) = _
        rw [if_pos hin, wS_sR (by omega), oLet_eq, l1, Option.bind_some, show (wS U (4 * p + i) (uI I' (4 * p + i) (nI (pI p))) (uI O' (4 * p + i) (nI (pO p))) (uI R' (4 * p + i) (nI i)) G2).1 1000 0 57 = nI (4 * p + i) from rfl, nI_1, wS_sn, oLet_eq, oLet_eq, nI_1]
        rfl
      · by_cases y : w = 4 * p + i
        · rw [y, d4, m4']
          refine ⟨if_pos rfl, if_pos rfl, if_pos rfl, fun o ho => l2 o ho⟩
        · obtain ⟨q1, q2, q3, q4⟩ := hw' w (by omega)
          refine ⟨by unfold uI; rw [if_neg y]; exact q1, by unfold uI; rw [if_neg y]; exact q2, by unfold uI; rw [if_neg y]; exact q3, fun o ho => ?_⟩
          rw [l3 o w (by omega) y]
          exact q4 o ho
    · rintro s ⟨I', O', R', G', rfl, hw'⟩
      exact ⟨_, rfl, I', O', R', G', rfl, hw'⟩
  obtain ⟨X, e1, I', O', R', G', rfl, hw'⟩ := e
  exact ⟨I', O', R', G', e1, hw'⟩
/-- the ways behind the openings below i -/
def nW (Q : Nat) : Nat → Nat
  | 0 => 0
  | i + 1 => nW Q i + (Q - (i + 1))
theorem nW_ok {Q i t : Nat} (h3 : Q ≤ 3) (hi : i < Q) (ht : t < Q - (i + 1)) : pI (nW Q i + t) = i ∧ pO (nW Q i + t) = i + 1 + t ∧ nW Q i + t < 3 := by
  rcases (by omega : Q = 2 ∨ Q = 3) with rfl | rfl
  · have : i = 0 := by omega
    have : t = 0 := by omega
    subst i; subst t
    decide
  · rcases (by omega : i = 0 ∨ i = 1) with rfl | rfl
    · rcases (by omega : t = 0 ∨ t = 1) with rfl | rfl <;> decide
    · have : t = 0 := by omega
      subst t
      decide
theorem nW_Q {Q : Nat} (h3 : Q ≤ 3) : 4 * nW Q Q = wyQ Q := by
  rcases (by omega : Q = 0 ∨ Q = 1 ∨ Q = 2 ∨ Q = 3) with rfl | rfl | rfl | rfl <;> rfl
theorem way23 {U : oS} {L : Nat → Int32 → Int64 → Int32} {RS : Nat → Int32 → Int32 → Int32 → Int32} {fc : Nat → Nat → Int64} {T : Nat → Nat} {Q K : Nat} {kd : Nat → Nat} (hM : mH U L RS fc T Q K kd) {i : Nat} {I O R G : Nat → Int32} (hi : i < Q) (hw : wyOK L RS fc T K kd (4 * nW Q i) I O R G) : ∃ I' O' R' G', oLp (f_X9_layWays_L23 (nI i)) oFu (nI (i + 1), wS U (4 * nW Q i) I O R G) = some (wS U (4 * nW Q (i + 1)) I' O' R' G') ∧ wyOK L RS fc T K kd (4 * nW Q (i + 1)) I' O' R' G' := by
  have hM' := hM
  obtain ⟨m1, ⟨o1, o2, o3⟩, -⟩ := hM'
  have e : ∃ X, oLp (f_X9_layWays_L23 (nI i)) oFu (nI (i + 1), wS U (4 * nW Q i) I O R G) = some X ∧ ∃ I' O' R' G', X = wS U (4 * nW Q (i + 1)) I' O' R' G' ∧ wyOK L RS fc T K kd (4 * nW Q (i + 1)) I' O' R' G' := by
    refine oLp_all (fun t s => ∃ I' O' R' G', s = (nI (i + 1 + t), wS U (4 * (nW Q i + t)) I' O' R' G') ∧ wyOK L RS fc T K kd (4 * (nW Q i + t)) I' O' R' G') (fun X => ∃ I' O' R' G', X = wS U (4 * nW Q (i + 1)) I' O' R' G' ∧ wyOK L RS fc T K kd (4 * nW Q (i + 1)) I' O' R' G') (Q - (i + 1)) (by omega) ⟨I, O, R, G, rfl, hw⟩ ?_ ?_
    · rintro t s ht ⟨I', O', R', G', rfl, hw'⟩
      obtain ⟨w1, w2, w3⟩ := nW_ok o1 hi ht
      obtain ⟨I2, O2, R2, G2, l1, l2⟩ := way33 hM (p := nW Q i + t) w3 (by omega) hw'
      rw [w1, w2] at l1
      refine ⟨(nI (i + 1 + (t + 1)), wS U (4 * (nW Q i + (t + 1))) I2 O2 R2 G2), ?_, I2, O2, R2, G2, rfl, l2⟩
      show (if U.1 1000 0 34 ≤ nI (i + 1 + t) then _ else _) = _
      rw [m1, if_neg (by rw [nI_leI (by omega) (by omega)]; omega), l1, Option.bind_some, oLet_eq, nI_1]
      rfl
    · rintro s ⟨I', O', R', G', rfl, hw'⟩
      refine ⟨_, ?_, I', O', R', G', rfl, hw'⟩
      show (if U.1 1000 0 34 ≤ nI (i + 1 + (Q - (i + 1))) then _ else _) = _
      rw [m1, if_pos (by rw [nI_leI (by omega) (by omega)]; omega)]
      rfl
  obtain ⟨X, e1, I', O', R', G', rfl, hw'⟩ := e
  exact ⟨I', O', R', G', e1, hw'⟩
theorem ways_M {U0 U : oS} {L : Nat → Int32 → Int64 → Int32} {RS : Nat → Int32 → Int32 → Int32 → Int32} {fc : Nat → Nat → Int64} {T : Nat → Nat} {Q K : Nat} {kd : Nat → Nat} (h0 : f_X9_layAhead U0 = some U) (hM : mH U L RS fc T Q K kd) : ∃ I O R G, f_X9_layWays U0 = some (wS U (wyQ Q) I O R G) ∧ wyOK L RS fc T K kd (wyQ Q) I O R G := by
  have hM' := hM
  obtain ⟨m1, ⟨o1, o2, o3⟩, -⟩ := hM'
  have e : ∃ X, oLp f_X9_layWays_L11 oFu ((0 : Int32), wS U 0 (U.1 1059 0) (U.1 1060 0) (U.1 1061 0) (U.1 1062 0)) = some X ∧ ∃ I O R G, X = wS U (4 * nW Q Q) I O R G ∧ wyOK L RS fc T K kd (4 * nW Q Q) I O R G := by
    refine oLp_all (fun i s => ∃ I O R G, s = (nI i, wS U (4 * nW Q i) I O R G) ∧ wyOK L RS fc T K kd (4 * nW Q i) I O R G) (fun X => ∃ I O R G, X = wS U (4 * nW Q Q) I O R G ∧ wyOK L RS fc T K kd (4 * nW Q Q) I O R G) Q (by omega) ⟨_, _, _, _, rfl, fun w hw => absurd hw (Nat.not_lt_zero _)⟩ ?_ ?_
    · rintro i s hi ⟨I, O, R, G, rfl, hw⟩
      obtain ⟨I2, O2, R2, G2, l1, l2⟩ := way23 hM hi hw
      refine ⟨(nI (i + 1), wS U (4 * nW Q (i + 1)) I2 O2 R2 G2), ?_, I2, O2, R2, G2, rfl, l2⟩
      show (if U.1 1000 0 34 ≤ nI i then _ else _) = _
      rw [m1, if_neg (by rw [nI_leI (by omega) (by omega)]; omega), oLet_eq, nI_1, l1, Option.bind_some, oLet_eq]
    · rintro s ⟨I, O, R, G, rfl, hw⟩
      refine ⟨_, ?_, I, O, R, G, rfl, hw⟩
      show (if U.1 1000 0 34 ≤ nI Q then _ else _) = _
      rw [m1, if_pos (by rw [i_le]; exact Int.le_refl _)]
  obtain ⟨X, e1, I, O, R, G, rfl, hw⟩ := e
  rw [nW_Q o1] at e1 hw
  refine ⟨I, O, R, G, ?_, hw⟩
  unfold f_X9_layWays
  rw [h0, Option.bind_some, oLet_eq, wS_0, e1, Option.bind_some]
