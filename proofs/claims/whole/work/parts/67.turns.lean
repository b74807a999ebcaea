/-! Turns: the row of a week, below its size s, is a permutation -/
def stR (t0 : Nat) (S : oS) (s : Nat) (p : Nat → Int32) : oS := (fun t j k => if t = t0 ∧ j = 0 ∧ k < s then p k else S.1 t j k, S.2)
theorem stR_1 {t0 : Nat} {S : oS} {s : Nat} {p : Nat → Int32} (t j k : Nat) : (stR t0 S s p).1 t j k = if t = t0 ∧ j = 0 ∧ k < s then p k else S.1 t j k := rfl
theorem stR_in {t0 : Nat} {S : oS} {s : Nat} {p : Nat → Int32} {k : Nat} (h : k < s) : (stR t0 S s p).1 t0 0 k = p k := by rw [stR_1, if_pos ⟨rfl, rfl, h⟩]
theorem stR_cg {t0 : Nat} {S : oS} {s : Nat} {p q : Nat → Int32} (h : ∀ k, k < s → p k = q k) : stR t0 S s p = stR t0 S s q := cmS_ext rfl (fun t j k => by
  rw [stR_1, stR_1]
  by_cases g : t = t0 ∧ j = 0 ∧ k < s
  · rw [if_pos g, if_pos g, h k g.2.2]
  · rw [if_neg g, if_neg g])
theorem stR_id {t0 : Nat} {S : oS} {s : Nat} : stR t0 S s (S.1 t0 0) = S := cmS_ext rfl (fun t j k => by
  rw [stR_1]
  by_cases g : t = t0 ∧ j = 0 ∧ k < s
  · rw [if_pos g, g.1, g.2.1]
  · rw [if_neg g])
theorem stR_st {t0 : Nat} {S : oS} {s : Nat} {p q : Nat → Int32} : stR t0 (stR t0 S s p) s q = stR t0 S s q := cmS_ext rfl (fun t j k => by
  rw [stR_1, stR_1, stR_1]
  by_cases g : t = t0 ∧ j = 0 ∧ k < s
  · rw [if_pos g, if_pos g]
  · rw [if_neg g, if_neg g, if_neg g])
/-- one more place written -/
theorem stR_up {t0 : Nat} {S : oS} {s a : Nat} {p : Nat → Int32} {v : Int32} (h : a < s) : oStI (stR t0 S s p) t0 0 a v = stR t0 S s (fun k => if k = a then v else p k) := cmS_ext rfl (fun t j k => by
  show (if t = t0 ∧ j = 0 ∧ k = a then v else (stR t0 S s p).1 t j k) = _
  rw [stR_1, stR_1]
  grind)
def PR (s : Nat) (p : Nat → Int32) : Prop := (∀ i, i < s → ∃ k, k < s ∧ p i = nI k) ∧ (∀ i j, i < s → j < s → p i = p j → i = j) ∧ ∀ k, k < s → ∃ i, i < s ∧ p i = nI k
theorem PR_perm {s : Nat} {p : Nat → Int32} (h : PR s p) (f g : Nat → Nat) (h1 : ∀ i, i < s → f i < s) (h2 : ∀ i, i < s → g i < s) (h3 : ∀ i, i < s → g (f i) = i) (h4 : ∀ i, i < s → f (g i) = i) : PR s (fun i => p (f i)) := by
  obtain ⟨a, b, c⟩ := h
  refine ⟨fun i hi => a _ (h1 i hi), fun i j hi hj e => ?_, fun k hk => ?_⟩
  · have := b _ _ (h1 i hi) (h1 j hj) e
    rw [← h3 i hi, ← h3 j hj, this]
  · obtain ⟨i, hi, e⟩ := c k hk
    exact ⟨g i, h2 i hi, by show p (f (g i)) = nI k; rw [h4 i hi]; exact e⟩
def swT (a b i : Nat) : Nat := if i = a then b else if i = b then a else i
def swR (p : Nat → Int32) (a b : Nat) : Nat → Int32 := fun i => p (swT a b i)
theorem swR_PR {s : Nat} {p : Nat → Int32} (h : PR s p) {a b : Nat} (ha : a < s) (hb : b < s) : PR s (swR p a b) := by
  refine PR_perm h (swT a b) (swT a b) ?_ ?_ ?_ ?_ <;> intro i hi <;> unfold swT <;> grind
def gvT (a b i : Nat) : Nat := if i = a then b else if a < i ∧ i ≤ b then i - 1 else if b ≤ i ∧ i < a then i + 1 else i
def gvR (p : Nat → Int32) (a b : Nat) : Nat → Int32 := fun i => p (gvT a b i)
theorem gvR_PR {s : Nat} {p : Nat → Int32} (h : PR s p) {a b : Nat} (ha : a < s) (hb : b < s) : PR s (gvR p a b) := by
  refine PR_perm h (gvT a b) (gvT b a) ?_ ?_ ?_ ?_ <;> intro i hi <;> unfold gvT <;> grind
theorem exch_X {S : oS} {s a b : Nat} {p : Nat → Int32} (hs : s ≤ 8) (ha : a < s) (hb : b < s) : f_X6_exchange (nI a) (nI b) (stR 705 S s p) = some (stR 705 S s (swR p a b)) := by
  have hia : oIn (nI a) 8 := (nin (by omega)).mpr (by omega)
  have hib : oIn (nI b) 8 := (nin (by omega)).mpr (by omega)
  unfold f_X6_exchange
  rw [if_pos hia]
  show (if oIn (nI b) 8 then _ else none) = _
  rw [if_pos hib, if_pos hia]
  show (if oIn (nI b) 8 then some (oStI (oStI (stR 705 S s p) 705 0 (nI a).toNatClampNeg ((stR 705 S s p).1 705 0 (nI b).toNatClampNeg)) 705 0 (nI b).toNatClampNeg ((stR 705 S s p).1 705 0 (nI a).toNatClampNeg)) else none) = _
  rw [if_pos hib, ncl (by omega), ncl (by omega), stR_in ha, stR_in hb, stR_up ha, stR_up hb]
  refine congrArg some (stR_cg (fun k hk => ?_))
  unfold swR swT
  grind
theorem exch_M {S : oS} {s a b : Nat} {p : Nat → Int32} (hs : s ≤ 8) (ha : a < s) (hb : b < s) : f_X9_change (nI a) (nI b) (stR 1065 S s p) = some (stR 1065 S s (swR p a b)) := by
  have hia : oIn (nI a) 8 := (nin (by omega)).mpr (by omega)
  have hib : oIn (nI b) 8 := (nin (by omega)).mpr (by omega)
  unfold f_X9_change
  rw [if_pos hia]
  show (if oIn (nI b) 8 then _ else none) = _
  rw [if_pos hib, if_pos hia]
  show (if oIn (nI b) 8 then some (oStI (oStI (stR 1065 S s p) 1065 0 (nI a).toNatClampNeg ((stR 1065 S s p).1 1065 0 (nI b).toNatClampNeg)) 1065 0 (nI b).toNatClampNeg ((stR 1065 S s p).1 1065 0 (nI a).toNatClampNeg)) else none) = _
  rw [if_pos hib, ncl (by omega), ncl (by omega), stR_in ha, stR_in hb, stR_up ha, stR_up hb]
  refine congrArg some (stR_cg (fun k hk => ?_))
  unfold swR swT
  grind
/-- the last place that holds v -/
def plR (p : Nat → Int32) (v : Int32) : Nat → Nat
  | 0 => 0
  | n + 1 => if p n = v then n else plR p v n
theorem plR_ok {p : Nat → Int32} {v : Int32} : ∀ n, (∃ i, i < n ∧ p i = v) → plR p v n < n ∧ p (plR p v n) = v := by
  intro n
  induction n with
  | zero => rintro ⟨i, hi, -⟩; exact absurd hi (Nat.not_lt_zero _)
  | succ n ih =>
    rintro ⟨i, hi, e⟩
    show (if p n = v then n else plR p v n) < n + 1 ∧ p (if p n = v then n else plR p v n) = v
    by_cases g : p n = v
    · rw [if_pos g]; exact ⟨by omega, g⟩
    · rw [if_neg g]
      have : i ≠ n := fun z => g (by rw [← z]; exact e)
      have := ih ⟨i, by omega, e⟩
      exact ⟨by omega, this.2⟩
theorem plR_PR {s : Nat} {p : Nat → Int32} (h : PR s p) {k : Nat} (hk : k < s) : plR p (nI k) s < s ∧ p (plR p (nI k) s) = nI k := plR_ok s (h.2.2 k hk)
theorem place_X {S : oS} {s : Nat} {p : Nat → Int32} (v : Int32) (hs : s ≤ 8) (h6 : S.1 700 0 6 = nI s) : f_X6_placeOf v (stR 705 S s p) = some (nI (plR p v s), stR 705 S s p) := by
  have e : oLp (f_X6_placeOf_L4 v) oFu ((0 : Int32), (0 : Int32), stR 705 S s p) = some (nI (plR p v s), stR 705 S s p) := by
    refine oLp_eq (fun i => (nI (plR p v i), nI i, stR 705 S s p)) _ s (by omega) rfl ?_ ?_
    · intro i hi
      have ei : (stR 705 S s p).1 705 0 (nI i).toNatClampNeg = p i := by rw [ncl (by omega), stR_in hi]
      show (if S.1 700 0 6 ≤ nI i then _ else _) = _
      rw [h6, if_neg (by rw [nI_leI (by omega) (by omega)]; omega), if_pos ((nin (by omega)).mpr (by omega)), ei]
      show _ = some (Sum.inl (nI (if p i = v then i else plR p v i), nI (i + 1), stR 705 S s p))
      by_cases g : p i = v
      · rw [if_pos g, if_pos g, ← nI_1]
        rfl
      · rw [if_neg g, if_neg g, ← nI_1]
        rfl
    · show (if S.1 700 0 6 ≤ nI s then _ else _) = _
      rw [h6, if_pos (by rw [i_le]; exact Int.le_refl _)]
  unfold f_X6_placeOf
  rw [e]
  rfl
theorem place_M {S : oS} {s k : Nat} {p : Nat → Int32} (hs : s ≤ 8) (h : PR s p) (hk : k < s) : f_X9_placeOf (nI k) (stR 1065 S s p) = some (nI (plR p (nI k) s), stR 1065 S s p) := by
  obtain ⟨q1, q2⟩ := plR_PR h hk
  have e : oLp (f_X9_placeOf_L2 (nI k)) oFu ((0 : Int32), stR 1065 S s p) = some (nI (plR p (nI k) s), stR 1065 S s p) := by
    refine oLp_eq (fun i => (nI i, stR 1065 S s p)) _ (plR p (nI k) s) (by omega) rfl ?_ ?_
    · intro i hi
      have ei : (stR 1065 S s p).1 1065 0 (nI i).toNatClampNeg = p i := by rw [ncl (by omega), stR_in (by omega)]
      show (if oIn (nI i) 8 then (if (stR 1065 S s p).1 1065 0 (nI i).toNatClampNeg = nI k then _ else _) else none) = _
      rw [if_pos ((nin (by omega)).mpr (by omega)), ei, if_neg (fun z => by have := h.2.1 i _ (by omega) q1 (z.trans q2.symm); omega), ← nI_1]
      rfl
    · have ei : (stR 1065 S s p).1 1065 0 (nI (plR p (nI k) s)).toNatClampNeg = nI k := by rw [ncl (by omega), stR_in (by omega), q2]
      show (if oIn (nI (plR p (nI k) s)) 8 then (if (stR 1065 S s p).1 1065 0 (nI (plR p (nI k) s)).toNatClampNeg = nI k then _ else _) else none) = _
      rw [if_pos ((nin (by omega)).mpr (by omega)), ei, if_pos rfl]
  unfold f_X9_placeOf
  rw [e]
  rfl
