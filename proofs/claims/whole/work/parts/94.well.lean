/-! Whether an order bakes well between two openings -/
def pI (p : Nat) : Nat := if p = 2 then 1 else 0
def pO (p : Nat) : Nat := if p = 0 then 1 else 2
theorem pIO {p : Nat} (hp : p < 3) : oPIN p = nI (pI p) ∧ oPOUT p = nI (pO p) ∧ pI p < pO p ∧ pO p < 3 := by
  rcases (by omega : p = 0 ∨ p = 1 ∨ p = 2) with rfl | rfl | rfl <;> exact ⟨rfl, rfl, by decide, by decide⟩
theorem n_div {a b : Nat} (ha : a < 2147483648) (hb : b < 2147483648) (h0 : 0 < b) : nI a / nI b = nI (a / b) := by
  have : a / b ≤ a := Nat.div_le_self a b
  rw [i_eq, i_div (by rw [nT ha]; omega) (by rw [nT hb]; omega), nT ha, nT hb, nT (by omega)]
  omega
theorem n4d {a : Nat} (ha : a < 1000) : nI a / 4 = nI (a / 4) := n_div (a := a) (b := 4) (by omega) (by omega) (by omega)
theorem n4m {a : Nat} (ha : a < 1000) : nI a - nI (a / 4) * 4 = nI (a % 4) := by
  rw [← n4d ha]
  exact n_mod (a := a) (b := 4) (by omega) (by omega) (by omega)
theorem n_sub {a b : Nat} (h : a ≤ b) : nI b - nI a = nI (b - a) := by
  have : nI (b - a) + nI a = nI b := by rw [nI_add]; exact congrArg nI (by omega)
  rw [← this]
  grind
def rNs (L : Int32 → Int64 → Int32) (fc : Nat → Nat → Int64) (a r : Nat) (v : Int32) (n : Nat) : Int32 := cSum (fun j => if L (nI (j + 1)) (fc (a + j) r) = v then 1 else 0) n
def bwV (L : Nat → Int32 → Int64 → Int32) (RS : Nat → Int32 → Int32 → Int32 → Int32) (fc : Nat → Nat → Int64) (k a b r : Nat) : Int32 := if RS k (rNs (L k) fc a r 1 (b - a)) (rNs (L k) fc a r 0 (b - a)) (nI (b - a)) = 1 then 1 else 0
theorem bwV_01 {L : Nat → Int32 → Int64 → Int32} {RS : Nat → Int32 → Int32 → Int32 → Int32} {fc : Nat → Nat → Int64} {k a b r : Nat} : oBl (bwV L RS fc k a b r) := by
  unfold bwV
  by_cases g : RS k (rNs (L k) fc a r 1 (b - a)) (rNs (L k) fc a r 0 (b - a)) (nI (b - a)) = 1
  · rw [if_pos g]; exact Or.inr rfl
  · rw [if_neg g]; exact Or.inl rfl
theorem cv2' {v : Int32} : (if cvL v = 2 then (1 : Int32) else 0) = (if v = 1 then 1 else 0) := by
  rw [cv2]
  by_cases g : v = 0
  · rw [if_pos g, if_neg (by rw [g]; decide)]
  · rw [if_neg g]
theorem bwL_X {Y : oS} {L : Nat → Int32 → Int64 → Int32} {fc : Nat → Nat → Int64} {k a b r : Nat} (hk : k < 8) (hab : a ≤ b) (hb : b ≤ 40) (hr : r < 4) (hL : ∀ x w, lkX Y k x w = L k x w) (hfc : ∀ t, t < b → Y.2 603 0 (4 * t + r) = fc t r) : oLp (f_X5_bakesWell_L75 (nI k) (nI r) (nI a) (nI b)) oFu ((0 : Int32), (0 : Int32), nI a, Y) = some (rNs (L k) fc a r 0 (b - a), rNs (L k) fc a r 1 (b - a), Y) := by
  refine oLp_eq (fun i => (rNs (L k) fc a r 0 i, rNs (L k) fc a r 1 i, nI (a + i), Y)) _ (b - a) (by omega) rfl ?_ ?_
  · intro i hi
    have ek : Y.2 603 0 (nI (4 * (a + i) + r)).toNatClampNeg = fc (a + i) r := by rw [ncl (by omega)]; exact hfc (a + i) (by omega)
    have es : nI (a + i) - nI a + 1 = nI (i + 1) := by rw [n_sub (by omega), nI_1]; exact congrArg nI (by omega)
    show (if nI b ≤ nI (a + i) then _ else (if oIn (nI (a + i) * 4 + nI r) 160 then (f_X1_lookAt (nI k) (nI (a + i) - nI a + 1) (Y.2 603 0 (nI (a + i) * 4 + nI r).toNatClampNeg) Y).bind _ else none)) = _
    rw [if_neg (by rw [nI_leI (by omega) (by omega)]; omega), n4, if_pos ((nin (by omega)).mpr (by omega)), ek, es, lk_X hk, Option.bind_some, hL]
    generalize hv : L k (nI (i + 1)) (fc (a + i) r) = v
    show (if v = 0 then f_X5_bakesWell_K123 (nI k) (nI r) (nI a) (nI b) (rNs (L k) fc a r 1 i) (nI (a + i)) v (rNs (L k) fc a r 0 i) 1 Y else f_X5_bakesWell_K123 (nI k) (nI r) (nI a) (nI b) (rNs (L k) fc a r 1 i) (nI (a + i)) v (rNs (L k) fc a r 0 i) 0 Y) = some (Sum.inl (rNs (L k) fc a r 0 i + (if L k (nI (i + 1)) (fc (a + i) r) = 0 then 1 else 0), rNs (L k) fc a r 1 i + (if L k (nI (i + 1)) (fc (a + i) r) = 1 then 1 else 0), nI (a + i + 1), Y))
    rw [hv, if_2 (f := fun z => f_X5_bakesWell_K123 (nI k) (nI r) (nI a) (nI b) (rNs (L k) fc a r 1 i) (nI (a + i)) v (rNs (L k) fc a r 0 i) z Y)]
    unfold f_X5_bakesWell_K123
    rw [oLet_eq, if_2 (f := fun z => f_X5_bakesWell_K139 (nI k) (nI r) (nI a) (nI b) (rNs (L k) fc a r 0 i + if v = 0 then 1 else 0) (nI (a + i)) (rNs (L k) fc a r 1 i) z Y), ← nI_1]
    rfl
  · show (if nI b ≤ nI (a + (b - a)) then _ else _) = _
    rw [if_pos (by rw [nI_leI (by omega) (by omega)]; omega)]
def gdC (L : Nat → Int32 → Int64 → Int32) (RS : Nat → Int32 → Int32 → Int32 → Int32) (fc : Nat → Nat → Int64) (T : Nat → Nat) (Q : Nat) (pl : Int32) (k ch : Nat) : Int32 := if pO (ch / 4) < Q then (if pl ≤ oROOM (ch % 4) then bwV L RS fc k (T (pI (ch / 4))) (T (pO (ch / 4))) (ch % 4) else 0) else 0
/-- openings: Q of them, growing -/
def opS (T : Nat → Nat) (Q : Nat) : Prop := Q ≤ 3 ∧ (∀ i, i < Q → T i ≤ 40) ∧ ∀ i j, i < j → j < Q → T i < T j
set_option maxHeartbeats 1000000 in
theorem bw_X {Y : oS} {L : Nat → Int32 → Int64 → Int32} {RS : Nat → Int32 → Int32 → Int32 → Int32} {fc : Nat → Nat → Int64} {T : Nat → Nat} {Q k ch : Nat} (hk : k < 8) (hch : ch < 12) (hQ : Y.1 600 0 11 = nI Q) (hO : opS T Q) (hT : ∀ i, i < Q → Y.1 605 0 i = nI (T i)) (hL : ∀ x w, lkX Y k x w = L k x w) (hR : ∀ s r a, (if s ≤ Y.1 207 0 k then (if Y.1 203 0 k ≤ r then (if a ≤ Y.1 204 0 k then (1 : Int32) else 3) else 0) else 2) = RS k s r a) (hfc : ∀ t r i, i < Q → t < T i → r < 4 → Y.2 603 0 (4 * t + r) = fc t r) : f_X5_bakesWell (nI k) (nI ch) Y = some (gdC L RS fc T Q (Y.1 201 0 k) k ch, Y) := by
  obtain ⟨p1, p2, p3, p4⟩ := pIO (p := ch / 4) (by omega)
  obtain ⟨o1, o2, o3⟩ := hO
  have c1 : (nI (ch / 4)).toNatClampNeg = ch / 4 := ncl (by omega)
  have c2 : (nI (ch % 4)).toNatClampNeg = ch % 4 := ncl (by omega)
  have r1 : oPOUT (nI (ch / 4)).toNatClampNeg = nI (pO (ch / 4)) := by rw [c1]; exact p2
  have r2 : oPIN (nI (ch / 4)).toNatClampNeg = nI (pI (ch / 4)) := by rw [c1]; exact p1
  have r3 : oROOM (nI (ch % 4)).toNatClampNeg = oROOM (ch % 4) := by rw [c2]
  have r4 : Y.1 201 0 (nI k).toNatClampNeg = Y.1 201 0 k := by rw [ncl (by omega)]
  have i1 : oIn (nI (ch / 4)) 3 := (nin (by omega)).mpr (by omega)
  have i2 : oIn (nI (ch % 4)) 4 := (nin (by omega)).mpr (by omega)
  have i3 : oIn (nI k) 8 := (nin (by omega)).mpr hk
  have i4 : oIn (nI (pI (ch / 4))) 3 := (nin (by omega)).mpr (by omega)
  have i5 : oIn (nI (pO (ch / 4))) 3 := (nin (by omega)).mpr (by omega)
  unfold f_X5_bakesWell gdC
  rw [oLet_eq, oLet_eq, n4d (by omega), n4m (by omega), if_pos i1, r1, hQ, r3, r4, r2]
  by_cases g : pO (ch / 4) < Q
  · have t1 : Y.1 605 0 (nI (pI (ch / 4))).toNatClampNeg = nI (T (pI (ch / 4))) := by rw [ncl (by omega)]; exact hT _ (by omega)
    have t2 : Y.1 605 0 (nI (pO (ch / 4))).toNatClampNeg = nI (T (pO (ch / 4))) := by rw [ncl (by omega)]; exact hT _ g
    have hlt := o3 _ _ p3 g
    have h40 := o2 _ g
    rw [if_neg (by rw [nI_leI (by omega) (by omega)]; omega), if_pos i3, if_pos i2, if_pos g]
    by_cases g2 : Y.1 201 0 k ≤ oROOM (ch % 4)
    · rw [if_pos g2, if_pos g2, if_pos i1, if_pos i4, t1, oLet_eq, if_pos i1, if_pos i5, t2, oLet_eq, bwL_X hk (by omega) h40 (by omega) hL (fun t ht => hfc t _ _ g ht (by omega)), Option.bind_some, n_sub (by omega)]
      show (f_X1_resultOf (nI k) (nI (T (pO (ch / 4)) - T (pI (ch / 4)))) (rNs (L k) fc (T (pI (ch / 4))) (ch % 4) 0 (T (pO (ch / 4)) - T (pI (ch / 4)))) (rNs (L k) fc (T (pI (ch / 4))) (ch % 4) 1 (T (pO (ch / 4)) - T (pI (ch / 4)))) Y).bind _ = _
      rw [result_X hk, Option.bind_some, hR]
      unfold bwV
      by_cases g3 : RS k (rNs (L k) fc (T (pI (ch / 4))) (ch % 4) 1 (T (pO (ch / 4)) - T (pI (ch / 4)))) (rNs (L k) fc (T (pI (ch / 4))) (ch % 4) 0 (T (pO (ch / 4)) - T (pI (ch / 4)))) (nI (T (pO (ch / 4)) - T (pI (ch / 4)))) = 1
      · rw [if_pos g3, if_pos g3]
      · rw [if_neg g3, if_neg g3]
    · rw [if_neg g2, if_neg g2]
  · rw [if_pos (by rw [nI_leI (by omega) (by omega)]; omega), if_neg g]
theorem bwL_M {Y : oS} {L : Nat → Int32 → Int64 → Int32} {fc : Nat → Nat → Int64} {k a b r w : Nat} (hk : k < 8) (hw : w < 13) (hab : a ≤ b) (hb : b ≤ 40) (hr : r < 4) {q : Nat} (hq : q < 4) (h60 : Y.1 1060 0 w = nI q) (hqb : Y.1 1036 0 q = nI b) (h61 : Y.1 1061 0 w = nI r) (hL : ∀ x y, srM Y k x y = cvL (L k x y)) (hfc : ∀ t, t < b → Y.2 1057 0 (4 * t + r) = fc t r) : oLp (f_X9_bakesWell_L21 (nI k) (nI w)) oFu ((0 : Int32), (0 : Int32), (0 : Int32), nI a, Y) = some (rNs (L k) fc a r 1 (b - a), rNs (L k) fc a r 0 (b - a), nI (b - a), Y) := by
  have iw : oIn (nI w) 13 := (nin (by omega)).mpr hw
  have iq : oIn (nI q) 4 := (nin (by omega)).mpr hq
  have q1 : Y.1 1060 0 (nI w).toNatClampNeg = nI q := by rw [ncl (by omega)]; exact h60
  have q2 : Y.1 1036 0 (nI q).toNatClampNeg = nI b := by rw [ncl (by omega)]; exact hqb
  have q3 : Y.1 1061 0 (nI w).toNatClampNeg = nI r := by rw [ncl (by omega)]; exact h61
  refine oLp_eq (fun i => (rNs (L k) fc a r 1 i, rNs (L k) fc a r 0 i, nI i, nI (a + i), Y)) _ (b - a) (by omega) rfl ?_ ?_
  · intro i hi
    have ek : Y.2 1057 0 (nI (4 * (a + i) + r)).toNatClampNeg = fc (a + i) r := by rw [ncl (by omega)]; exact hfc (a + i) (by omega)
    show (if oIn (nI w) 13 then (if oIn (Y.1 1060 0 (nI w).toNatClampNeg) 4 then (if Y.1 1036 0 (Y.1 1060 0 (nI w).toNatClampNeg).toNatClampNeg ≤ nI (a + i) then _ else _) else none) else none) = _
    rw [if_pos iw, q1, if_pos iq, q2, if_neg (by rw [nI_leI (by omega) (by omega)]; omega), oLet_eq, if_pos iw, q3, n_40, if_pos ((nin (by omega)).mpr (by omega)), ek, nI_1, sr_M hk, Option.bind_some, hL]
    generalize hv : L k (nI (i + 1)) (fc (a + i) r) = v
    show (if cvL v = 2 then f_X9_bakesWell_K77 (nI k) (nI w) (rNs (L k) fc a r 0 i) (nI (i + 1)) (nI (a + i)) (cvL v) (rNs (L k) fc a r 1 i) 1 Y else f_X9_bakesWell_K77 (nI k) (nI w) (rNs (L k) fc a r 0 i) (nI (i + 1)) (nI (a + i)) (cvL v) (rNs (L k) fc a r 1 i) 0 Y) = some (Sum.inl (rNs (L k) fc a r 1 i + (if L k (nI (i + 1)) (fc (a + i) r) = 1 then 1 else 0), rNs (L k) fc a r 0 i + (if L k (nI (i + 1)) (fc (a + i) r) = 0 then 1 else 0), nI (i + 1), nI (a + i + 1), Y))
    rw [hv, if_2 (f := fun z => f_X9_bakesWell_K77 (nI k) (nI w) (rNs (L k) fc a r 0 i) (nI (i + 1)) (nI (a + i)) (cvL v) (rNs (L k) fc a r 1 i) z Y), cv2']
    unfold f_X9_bakesWell_K77
    rw [oLet_eq, if_2 (f := fun z => f_X9_bakesWell_K92 (nI k) (nI w) (rNs (L k) fc a r 1 i + if v = 1 then 1 else 0) (nI (i + 1)) (nI (a + i)) (rNs (L k) fc a r 0 i) z Y), cv1, ← nI_1 (a + i)]
    rfl
  · show (if oIn (nI w) 13 then (if oIn (Y.1 1060 0 (nI w).toNatClampNeg) 4 then (if Y.1 1036 0 (Y.1 1060 0 (nI w).toNatClampNeg).toNatClampNeg ≤ nI (a + (b - a)) then _ else _) else none) else none) = _
    rw [if_pos iw, q1, if_pos iq, q2, if_pos (by rw [nI_leI (by omega) (by omega)]; omega)]
theorem bw_M {Y : oS} {L : Nat → Int32 → Int64 → Int32} {RS : Nat → Int32 → Int32 → Int32 → Int32} {fc : Nat → Nat → Int64} {k a b r w p q : Nat} (hk : k < 8) (hw : w < 13) (hab : a ≤ b) (hb : b ≤ 40) (hr : r < 4) (hp : p < 4) (hq : q < 4) (h59 : Y.1 1059 0 w = nI p) (hpa : Y.1 1036 0 p = nI a) (h60 : Y.1 1060 0 w = nI q) (hqb : Y.1 1036 0 q = nI b) (h61 : Y.1 1061 0 w = nI r) (hL : ∀ x y, srM Y k x y = cvL (L k x y)) (hR : ∀ s r a, rsB Y k s r a = RS k s r a) (hfc : ∀ t, t < b → Y.2 1057 0 (4 * t + r) = fc t r) : f_X9_bakesWell (nI k) (nI w) Y = some (bwV L RS fc k a b r, Y) := by
  have iw : oIn (nI w) 13 := (nin (by omega)).mpr hw
  have ip : oIn (nI p) 4 := (nin (by omega)).mpr hp
  have q1 : Y.1 1059 0 (nI w).toNatClampNeg = nI p := by rw [ncl (by omega)]; exact h59
  have q2 : Y.1 1036 0 (nI p).toNatClampNeg = nI a := by rw [ncl (by omega)]; exact hpa
  unfold f_X9_bakesWell
  rw [if_pos iw, q1, if_pos ip, q2, oLet_eq, bwL_M hk hw hab hb hr hq h60 hqb h61 hL hfc, Option.bind_some]
  show (f_X9_resultOf (nI k) (rNs (L k) fc a r 1 (b - a)) (rNs (L k) fc a r 0 (b - a)) (nI (b - a)) Y).bind _ = _
  rw [result_M hk, Option.bind_some, hR]
  unfold bwV
  by_cases g3 : RS k (rNs (L k) fc a r 1 (b - a)) (rNs (L k) fc a r 0 (b - a)) (nI (b - a)) = 1
  · rw [if_pos g3, if_pos g3]
  · rw [if_neg g3, if_neg g3]
