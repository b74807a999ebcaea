/-! Whole division and remainders -/
theorem l_div {a b : Int64} (ha : 0 ≤ a.toInt) (hb : 0 < b.toInt) : (a / b).toInt = a.toInt / b.toInt := by
  have h1 : a.toInt / b.toInt ≤ a.toInt := Int.ediv_le_self _ ha
  have h2 : 0 ≤ a.toInt / b.toInt := Int.ediv_nonneg ha (by omega)
  have h3 := a.toInt_lt
  rw [Int64.toInt_div, Int.tdiv_eq_ediv_of_nonneg ha, bm64 (by omega) (by omega)]
theorem l_mod {a b : Int64} (ha : 0 ≤ a.toInt) (hb : 0 < b.toInt) : (a - a / b * b).toInt = a.toInt % b.toInt := by
  have e := l_div ha hb
  have h3 := a.toInt_lt
  have h4 : a.toInt % b.toInt = a.toInt - a.toInt / b.toInt * b.toInt := by rw [Int.emod_def, Int.mul_comm]
  have h5 : 0 ≤ a.toInt % b.toInt := Int.emod_nonneg _ (by omega)
  have h6 : 0 ≤ a.toInt / b.toInt * b.toInt := Int.mul_nonneg (Int.ediv_nonneg ha (by omega)) (by omega)
  have e2 : (a / b * b).toInt = a.toInt / b.toInt * b.toInt := by
    rw [l_mul (by rw [e]; omega) (by rw [e]; omega), e]
  rw [l_sub (by rw [e2]; omega) (by rw [e2]; omega), e2, h4]
theorem i_div {a b : Int32} (ha : 0 ≤ a.toInt) (hb : 0 < b.toInt) : (a / b).toInt = a.toInt / b.toInt := by
  have h1 : a.toInt / b.toInt ≤ a.toInt := Int.ediv_le_self _ ha
  have h2 : 0 ≤ a.toInt / b.toInt := Int.ediv_nonneg ha (by omega)
  have h3 := i_bd a
  rw [Int32.toInt_div, Int.tdiv_eq_ediv_of_nonneg ha, bm32 (by omega) (by omega)]
theorem i_mod {a b : Int32} (ha : 0 ≤ a.toInt) (hb : 0 < b.toInt) : (a - a / b * b).toInt = a.toInt % b.toInt := by
  have e := i_div ha hb
  have h3 := i_bd a
  have h4 : a.toInt % b.toInt = a.toInt - a.toInt / b.toInt * b.toInt := by rw [Int.emod_def, Int.mul_comm]
  have h5 : 0 ≤ a.toInt % b.toInt := Int.emod_nonneg _ (by omega)
  have h6 : 0 ≤ a.toInt / b.toInt * b.toInt := Int.mul_nonneg (Int.ediv_nonneg ha (by omega)) (by omega)
  have e2 : (a / b * b).toInt = a.toInt / b.toInt * b.toInt := by
    rw [i_mul (by rw [e]; omega) (by rw [e]; omega), e]
  rw [i_sub (by rw [e2]; omega) (by rw [e2]; omega), e2, h4]
theorem n_mod {a b : Nat} (ha : a < 2147483648) (hb : b < 2147483648) (h0 : 0 < b) : nI a - nI a / nI b * nI b = nI (a % b) := by
  have hlt : a % b < b := Nat.mod_lt _ h0
  rw [i_eq, i_mod (by rw [nT ha]; omega) (by rw [nT hb]; omega), nT ha, nT hb, nT (by omega)]
  omega
theorem an31 (x : Int64) (h : 0 ≤ x.toInt) : (x &&& 2147483647).toInt = x.toInt % 2147483648 := by
  have e1 := BitVec.toInt_eq_toNat_cond x.toBitVec
  have hl := x.toBitVec.isLt
  have hx0 : x.toBitVec.toInt = x.toInt := rfl
  have hx : (x.toBitVec.toNat : Int) = x.toInt := by
    rw [hx0] at e1
    by_cases g : 2 * x.toBitVec.toNat < 2 ^ 64
    · rw [if_pos g] at e1; omega
    · rw [if_neg g] at e1; omega
  have e2 : (x &&& 2147483647).toBitVec.toNat = x.toBitVec.toNat % 2147483648 := by
    rw [Int64.toBitVec_and, BitVec.toNat_and, show (2147483647 : Int64).toBitVec.toNat = 2 ^ 31 - 1 from rfl, Nat.and_two_pow_sub_one_eq_mod]
  have e3 := BitVec.toInt_eq_toNat_cond (x &&& 2147483647).toBitVec
  have hy0 : (x &&& 2147483647).toBitVec.toInt = (x &&& 2147483647).toInt := rfl
  rw [hy0, e2, if_pos (by omega)] at e3
  rw [e3]
  omega
theorem m31 {x : Int64} (h : 0 ≤ x.toInt) : x - x / 2147483648 * 2147483648 = x &&& 2147483647 := by
  rw [l_eq, an31 x h, l_mod h (by decide)]
  rfl
/-- the lots -/
def nx31 (d : Int64) : Int64 := (1103515245 * d + 12345) &&& 2147483647
def b31 (d : Int64) : Prop := 0 ≤ d.toInt ∧ d.toInt < 2147483648
theorem an31_b {x : Int64} (h : 0 ≤ x.toInt) : b31 (x &&& 2147483647) := by
  unfold b31
  rw [an31 x h]
  omega
theorem lcg0 {d : Int64} (h : b31 d) : 0 ≤ (1103515245 * d + 12345).toInt := by
  obtain ⟨h1, h2⟩ := h
  have e0 : (1103515245 : Int64).toInt = 1103515245 := rfl
  have e9 : (12345 : Int64).toInt = 12345 := rfl
  have e1 : (1103515245 * d).toInt = 1103515245 * d.toInt := by rw [l_mul (by rw [e0]; omega) (by rw [e0]; omega), e0]
  rw [l_add (by rw [e1, e9]; omega) (by rw [e1, e9]; omega), e1, e9]
  omega
theorem nx31_b {d : Int64} (h : b31 d) : b31 (nx31 d) := an31_b (lcg0 h)
def lotJ (d : Int64) (k : Nat) : Nat := (d.toInt / 65536 % (k + 1 : Nat)).toNat
theorem lotJ_lt (d : Int64) (k : Nat) : lotJ d k < k + 1 := by
  have h1 : d.toInt / 65536 % (k + 1 : Nat) < (k + 1 : Nat) := Int.emod_lt_of_pos _ (by omega)
  have h2 : 0 ≤ d.toInt / 65536 % (k + 1 : Nat) := Int.emod_nonneg _ (by omega)
  unfold lotJ
  omega
theorem lot_idx {d : Int64} {k : Nat} (h : b31 d) (hk : k < 100) : Int64.toInt32 ((d / 65536) - (d / 65536) / (Int32.toInt64 (nI k + 1)) * (Int32.toInt64 (nI k + 1))) = nI (lotJ d k) ∧ ¬ Int32.toInt64 (nI k + 1) = 0 := by
  have em : (Int32.toInt64 (nI k + 1)).toInt = (k + 1 : Nat) := by rw [i_long, nI_1, nT (by omega)]
  have eq : (d / 65536).toInt = d.toInt / 65536 := l_div h.1 (by decide)
  have hj := lotJ_lt d k
  have h2 : 0 ≤ d.toInt / 65536 % (k + 1 : Nat) := Int.emod_nonneg _ (by omega)
  have h0 := h.1
  refine ⟨?_, fun z => ?_⟩
  · rw [i_eq, Int64.toInt_toInt32, l_mod (by rw [eq]; omega) (by rw [em]; omega), em, eq, nT (by omega)]
    unfold lotJ at hj ⊢
    rw [bm32 (by omega) (by omega)]
    omega
  · rw [z] at em
    have : (0 : Int64).toInt = 0 := rfl
    omega
def lotR : Nat → Int64 → (Nat → Int32) → Nat → Int32
  | 0, _, p => p
  | k + 1, d, p => lotR k (nx31 d) (swR p (k + 1) (lotJ (nx31 d) (k + 1)))
theorem lotR_PR {s : Nat} : ∀ (k : Nat) (d : Int64) (p : Nat → Int32), k < s → PR s p → PR s (lotR k d p) := by
  intro k
  induction k with
  | zero => intro d p _ h; exact h
  | succ k ih =>
    intro d p hk h
    have := lotJ_lt (nx31 d) (k + 1)
    exact ih _ _ (by omega) (swR_PR h hk (by omega))
theorem lots_X {S : oS} {s : Nat} (hs : s ≤ 8) : ∀ (k : Nat) (d : Int64) (p : Nat → Int32) (n : Nat), k < s → k < n → b31 d → oLp f_X6_drawLots_L44 n (d, nI k, stR 705 S s p) = some (stR 705 S s (lotR k d p)) := by
  intro k
  induction k with
  | zero =>
    intro d p n _ hn _
    obtain ⟨m, rfl⟩ : ∃ m, n = m + 1 := ⟨n - 1, by omega⟩
    rfl
  | succ k ih =>
    intro d p n hk hn hd
    obtain ⟨m, rfl⟩ : ∃ m, n = m + 1 := ⟨n - 1, by omega⟩
    obtain ⟨e1, e2⟩ := lot_idx (k := k + 1) (nx31_b hd) (by omega)
    have hj := lotJ_lt (nx31 d) (k + 1)
    show (f_X6_drawLots_L44 (d, nI (k + 1), stR 705 S s p)).bind (oNx (oLp f_X6_drawLots_L44 m)) = _
    have : f_X6_drawLots_L44 (d, nI (k + 1), stR 705 S s p) = some (Sum.inl (nx31 d, nI k, stR 705 S s (swR p (k + 1) (lotJ (nx31 d) (k + 1))))) := by
      show (if nI (k + 1) < 1 then _ else (if ¬ (Int32.toInt64 (nI (k + 1) + (1 : Int32))) = 0 then (f_X6_exchange (nI (k + 1)) (Int64.toInt32 ((nx31 d / (65536 : Int64)) - (nx31 d / (65536 : Int64)) / (Int32.toInt64 (nI (k + 1) + (1 : Int32))) * (Int32.toInt64 (nI (k + 1) + (1 : Int32))))) (stR 705 S s p)).bind (fun zz7 => some (Sum.inl (nx31 d, nI (k + 1) + (-1 : Int32), zz7))) else none)) = _
      rw [if_neg (by rw [i_lt, nT (by omega)]; have : (1 : Int32).toInt = 1 := rfl; omega), if_pos e2, e1, exch_X hs hk (by omega), Option.bind_some, nPm]
    rw [this]
    exact ih _ _ m (by omega) (by omega) (nx31_b hd)
theorem lots_M {S : oS} {s : Nat} (w : Int32) (hs : s ≤ 8) (h37 : S.1 1000 0 37 = 1) : ∀ (k : Nat) (d : Int64) (p : Nat → Int32) (n : Nat), k < s → k < n → b31 d → oLp (f_X9_layRow_L62 w) n (d, nI k, stR 1065 S s p) = some (stR 1065 S s (lotR k d p)) := by
  intro k
  induction k with
  | zero =>
    intro d p n _ hn _
    obtain ⟨m, rfl⟩ : ∃ m, n = m + 1 := ⟨n - 1, by omega⟩
    rfl
  | succ k ih =>
    intro d p n hk hn hd
    obtain ⟨m, rfl⟩ : ∃ m, n = m + 1 := ⟨n - 1, by omega⟩
    obtain ⟨e1, e2⟩ := lot_idx (k := k + 1) (nx31_b hd) (by omega)
    have hj := lotJ_lt (nx31 d) (k + 1)
    have ed : (1103515245 * d + 12345) - (1103515245 * d + 12345) / 2147483648 * 2147483648 = nx31 d := m31 (lcg0 hd)
    show (f_X9_layRow_L62 w (d, nI (k + 1), stR 1065 S s p)).bind (oNx (oLp (f_X9_layRow_L62 w) m)) = _
    have : f_X9_layRow_L62 w (d, nI (k + 1), stR 1065 S s p) = some (Sum.inl (nx31 d, nI k, stR 1065 S s (swR p (k + 1) (lotJ (nx31 d) (k + 1))))) := by
      show (if nI (k + 1) < 1 then _ else (if S.1 1000 0 37 = 1 then oLet ((1103515245 * d + 12345) - (1103515245 * d + 12345) / 2147483648 * 2147483648) (fun zx6 => if ¬ (Int32.toInt64 (nI (k + 1) + (1 : Int32))) = 0 then (f_X9_change (nI (k + 1)) (Int64.toInt32 ((zx6 / (65536 : Int64)) - (zx6 / (65536 : Int64)) / (Int32.toInt64 (nI (k + 1) + (1 : Int32))) * (Int32.toInt64 (nI (k + 1) + (1 : Int32))))) (stR 1065 S s p)).bind (fun zz7 => some (Sum.inl (zx6, nI (k + 1) + (-1 : Int32), zz7))) else none) else _)) = _
      rw [if_neg (by rw [i_lt, nT (by omega)]; have : (1 : Int32).toInt = 1 := rfl; omega), if_pos h37, ed]
      show (if ¬ (Int32.toInt64 (nI (k + 1) + (1 : Int32))) = 0 then (f_X9_change (nI (k + 1)) (Int64.toInt32 ((nx31 d / (65536 : Int64)) - (nx31 d / (65536 : Int64)) / (Int32.toInt64 (nI (k + 1) + (1 : Int32))) * (Int32.toInt64 (nI (k + 1) + (1 : Int32))))) (stR 1065 S s p)).bind (fun zz7 => some (Sum.inl (nx31 d, nI (k + 1) + (-1 : Int32), zz7))) else none) = _
      rw [if_pos e2, e1, exch_M hs hk (by omega), Option.bind_some, nPm]
    rw [this]
    exact ih _ _ m (by omega) (by omega) (nx31_b hd)
