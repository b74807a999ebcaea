/-! The reference goes through all plans by their numbers -/
def dS (V : oS) (D : Nat → Int32) (b : Int32) : oS := (fun t i k => if t = 1063 ∧ i = 0 then D k else if t = 1000 ∧ i = 0 ∧ k = 63 then b else V.1 t i k, V.2)
theorem dS_1 {V : oS} {D : Nat → Int32} {b : Int32} (t i k : Nat) : (dS V D b).1 t i k = if t = 1063 ∧ i = 0 then D k else if t = 1000 ∧ i = 0 ∧ k = 63 then b else V.1 t i k := rfl
theorem dS_sD {V : oS} {D : Nat → Int32} {b o c g v : Int32} {m : Nat} (hm : m < 1000) : oStI (cmS (dS V D b) o c g) 1063 0 (nI m).toNatClampNeg v = cmS (dS V (uI D m v) b) o c g := by
  rw [ncl (by omega)]
  refine oS_ext (fun t i k => ?_) (fun t i k => rfl)
  show (if t = 1063 ∧ i = 0 ∧ k = m then v else (cmS (dS V D b) o c g).1 t i k) = _
  rw [cmS_1, cmS_1, dS_1, dS_1]
  unfold uI
  grind (splits := 20)
theorem dS_sb {V : oS} {D : Nat → Int32} {b o c g v : Int32} : oStI (cmS (dS V D b) o c g) 1000 0 63 v = cmS (dS V D v) o c g := by
  refine oS_ext (fun t i k => ?_) (fun t i k => rfl)
  show (if t = 1000 ∧ i = 0 ∧ k = 63 then v else (cmS (dS V D b) o c g).1 t i k) = _
  rw [cmS_1, cmS_1, dS_1, dS_1]
  grind (splits := 20)
theorem dS_id {V : oS} : dS V (V.1 1063 0) (V.1 1000 0 63) = V := by
  refine oS_ext (fun t i k => ?_) (fun t i k => rfl)
  rw [dS_1]
  by_cases g : t = 1063 ∧ i = 0
  · rw [if_pos g, g.1, g.2]
  · rw [if_neg g]
    by_cases g : t = 1000 ∧ i = 0 ∧ k = 63
    · rw [if_pos g, g.1, g.2.1, g.2.2]
    · rw [if_neg g]
theorem cmS_id {V : oS} : cmS V (V.1 1000 0 53) (V.1 1000 0 54) (V.1 1000 0 55) = V := by
  refine oS_ext (fun t i k => ?_) (fun t i k => rfl)
  rw [cmS_1]
  by_cases g : t = 1000 ∧ i = 0 ∧ k = 55
  · rw [if_pos g, g.1, g.2.1, g.2.2]
  · rw [if_neg g]
    by_cases g : t = 1000 ∧ i = 0 ∧ k = 54
    · rw [if_pos g, g.1, g.2.1, g.2.2]
    · rw [if_neg g]
      by_cases g : t = 1000 ∧ i = 0 ∧ k = 53
      · rw [if_pos g, g.1, g.2.1, g.2.2]
      · rw [if_neg g]
def isG (W K : Nat) (G : Nat → Int32) (k : Nat) : Nat → Int32
  | 0 => 1
  | i + 1 => if isG W K G k i = 0 then 0 else if dg (W + 1) K k (K - (i + 1)) = W then 1 else if G (13 * (K - (i + 1)) + dg (W + 1) K k (K - (i + 1))) = 0 then 0 else 1
theorem isG_01 {W K : Nat} {G : Nat → Int32} {k : Nat} : ∀ i, oBl (isG W K G k i) := by
  intro i
  cases i with
  | zero => exact Or.inr rfl
  | succ i =>
    show oBl (if isG W K G k i = 0 then 0 else if dg (W + 1) K k (K - (i + 1)) = W then 1 else if G (13 * (K - (i + 1)) + dg (W + 1) K k (K - (i + 1))) = 0 then 0 else 1)
    by_cases z : isG W K G k i = 0
    · rw [if_pos z]; exact Or.inl rfl
    · rw [if_neg z]
      by_cases y : dg (W + 1) K k (K - (i + 1)) = W
      · rw [if_pos y]; exact Or.inr rfl
      · rw [if_neg y]
        by_cases x : G (13 * (K - (i + 1)) + dg (W + 1) K k (K - (i + 1))) = 0
        · rw [if_pos x]; exact Or.inl rfl
        · rw [if_neg x]; exact Or.inr rfl
theorem isG_ok {W K : Nat} {G : Nat → Int32} {k : Nat} : ∀ i, i ≤ K → ((isG W K G k i = 1 ∧ ∀ o, K - i ≤ o → o < K → dg (W + 1) K k o = W ∨ ¬ G (13 * o + dg (W + 1) K k o) = 0) ∨ (isG W K G k i = 0 ∧ ∃ o, o < K ∧ ¬ dg (W + 1) K k o = W ∧ G (13 * o + dg (W + 1) K k o) = 0)) := by
  intro i
  induction i with
  | zero => intro _; exact Or.inl ⟨rfl, fun o h1 h2 => by omega⟩
  | succ i ih =>
    intro hi
    show ((if isG W K G k i = 0 then (0 : Int32) else if dg (W + 1) K k (K - (i + 1)) = W then 1 else if G (13 * (K - (i + 1)) + dg (W + 1) K k (K - (i + 1))) = 0 then 0 else 1) = 1 ∧ _) ∨ ((if isG W K G k i = 0 then (0 : Int32) else if dg (W + 1) K k (K - (i + 1)) = W then 1 else if G (13 * (K - (i + 1)) + dg (W + 1) K k (K - (i + 1))) = 0 then 0 else 1) = 0 ∧ _)
    rcases ih (by omega) with ⟨h1, h2⟩ | ⟨h1, h2⟩
    · rw [if_neg (by rw [h1]; decide)]
      by_cases y : dg (W + 1) K k (K - (i + 1)) = W
      · rw [if_pos y]
        refine Or.inl ⟨rfl, fun o q1 q2 => ?_⟩
        by_cases x : o = K - (i + 1)
        · rw [x]; exact Or.inl y
        · exact h2 o (by omega) q2
      · rw [if_neg y]
        by_cases x : G (13 * (K - (i + 1)) + dg (W + 1) K k (K - (i + 1))) = 0
        · rw [if_pos x]
          exact Or.inr ⟨rfl, K - (i + 1), by omega, y, x⟩
        · rw [if_neg x]
          refine Or.inl ⟨rfl, fun o q1 q2 => ?_⟩
          by_cases w : o = K - (i + 1)
          · rw [w]; exact Or.inr x
          · exact h2 o (by omega) q2
    · rw [if_pos h1]
      exact Or.inr ⟨rfl, h2⟩
theorem dg_lt {W K k o : Nat} : dg (W + 1) K k o < W + 1 := Nat.mod_lt _ (by omega)
set_option maxHeartbeats 1000000 in
theorem given_M {V : oS} {W K k : Nat} {G : Nat → Int32} (hK : V.1 1000 0 32 = nI K) (hK4 : K ≤ 4) (hW : V.1 1000 0 57 = nI W) (hW12 : W ≤ 12) (hG : ∀ o w, o < K → w < W → V.1 1062 0 (13 * o + w) = G (13 * o + w)) (hk : k < 100000) (D : Nat → Int32) (b o c g : Int32) : ∃ D', f_X9_layGiven (nI k) (cmS (dS V D b) o c g) = some (isG W K G k K, cmS (dS V D' b) o c g) ∧ ∀ x, x < K → D' x = nI (dg (W + 1) K k x) := by
  have e : oLp f_X9_layGiven_L12 oFu (nI k, (1 : Int32), nI K - 1, cmS (dS V D b) o c g) = some (isG W K G k K, cmS (dS V (fun x => if K - K ≤ x ∧ x < K then nI (dg (W + 1) K k x) else D x) b) o c g) := by
    refine oLp_eq (fun i => (nI (k / (W + 1) ^ i), isG W K G k i, nI (K - i) - 1, cmS (dS V (fun x => if K - i ≤ x ∧ x < K then nI (dg (W + 1) K k x) else D x) b) o c g)) _ K (by omega) ?_ ?_ ?_
    · have : D = (fun x => if K - 0 ≤ x ∧ x < K then nI (dg (W + 1) K k x) else D x) := funext fun x => (if_neg (by omega)).symm
      show _ = (nI (k / (W + 1) ^ 0), (1 : Int32), nI (K - 0) - 1, cmS (dS V (fun x => if K - 0 ≤ x ∧ x < K then nI (dg (W + 1) K k x) else D x) b) o c g)
      rw [← this, Nat.pow_zero, Nat.div_one, Nat.sub_zero]
    · intro i hi
      obtain ⟨m, hm⟩ : ∃ m, K - i = m + 1 := ⟨K - i - 1, by omega⟩
      have hm2 : K - (i + 1) = m := by omega
      have hle : k / (W + 1) ^ i ≤ k := Nat.div_le_self _ _
      have hdg : k / (W + 1) ^ i % (W + 1) = dg (W + 1) K k m := by
        unfold dg
        rw [show K - 1 - m = i by omega]
      have hdl := dg_lt (W := W) (K := K) (k := k) (o := m)
      have hdv : k / (W + 1) ^ i / (W + 1) = k / (W + 1) ^ (i + 1) := by rw [Nat.div_div_eq_div_mul, ← Nat.pow_succ]
      have hB : ¬ (nI W + 1) = 0 := by rw [nI_1]; exact nI_ne0 (by omega) (by omega)
      have i4 : oIn (nI m) 4 := (nin (by omega)).mpr (by omega)
      have eD : uI (fun x => if m + 1 ≤ x ∧ x < K then nI (dg (W + 1) K k x) else D x) m (nI (dg (W + 1) K k m)) = (fun x => if m ≤ x ∧ x < K then nI (dg (W + 1) K k x) else D x) := funext fun x => by
        unfold uI
        by_cases y : x = m
        · rw [if_pos y, if_pos (by omega), y]
        · rw [if_neg y]
          show (if m + 1 ≤ x ∧ x < K then nI (dg (W + 1) K k x) else D x) = _
          by_cases w : m + 1 ≤ x ∧ x < K
          · rw [if_pos w, if_pos (by omega)]
          · rw [if_neg w, if_neg (by omega)]
      have key : ∀ (x : Int32) (Y : oS), x = isG W K G k (i + 1) → f_X9_layGiven_K85 (nI (k / (W + 1) ^ (i + 1))) (nI m) x Y = some (Sum.inl (nI (k / (W + 1) ^ (i + 1)), isG W K G k (i + 1), nI m - 1, Y)) := by
        intro x Y hx
        unfold f_X9_layGiven_K85
        rw [oLet_eq, hx, show nI m + -1 = nI m - 1 by grind]
      have hx : isG W K G k (i + 1) = if isG W K G k i = 0 then 0 else if dg (W + 1) K k m = W then 1 else if G (13 * m + dg (W + 1) K k m) = 0 then 0 else 1 := by
        show (if isG W K G k i = 0 then 0 else if dg (W + 1) K k (K - (i + 1)) = W then 1 else if G (13 * (K - (i + 1)) + dg (W + 1) K k (K - (i + 1))) = 0 then 0 else 1) = _
        rw [hm2]
      show f_X9_layGiven_L12 (nI (k / (W + 1) ^ i), isG W K G k i, nI (K - i) - 1, cmS (dS V (fun x => if K - i ≤ x ∧ x < K then nI (dg (W + 1) K k x) else D x) b) o c g) = some (Sum.inl (nI (k / (W + 1) ^ (i + 1)), isG W K G k (i + 1), nI (K - (i + 1)) - 1, cmS (dS V (fun x => if K - (i + 1) ≤ x ∧ x < K then nI (dg (W + 1) K k x) else D x) b) o c g))
      rw [hm, hm2, nPr]
      show (if nI m < 0 then _ else (if ¬ (V.1 1000 0 57 + 1) = 0 then (if oIn (nI m) 4 then oLet (oStI (cmS (dS V (fun x => if m + 1 ≤ x ∧ x < K then nI (dg (W + 1) K k x) else D x) b) o c g) 1063 0 (nI m).toNatClampNeg (nI (k / (W + 1) ^ i) - nI (k / (W + 1) ^ i) / (V.1 1000 0 57 + 1) * (V.1 1000 0 57 + 1))) _ else none) else none)) = _
      rw [if_neg (nI_pos (by omega)), hW, if_pos hB, if_pos i4, nI_1, n_mod (by omega) (by omega) (by omega), hdg, dS_sD (by omega), eD, oLet_eq]
      generalize hY : cmS (dS V (fun x => if m ≤ x ∧ x < K then nI (dg (W + 1) K k x) else D x) b) o c g = Y
      have y57 : Y.1 1000 0 57 = nI W := by rw [← hY]; exact hW
      have y63 : Y.1 1063 0 (nI m).toNatClampNeg = nI (dg (W + 1) K k m) := by
        rw [ncl (by omega), ← hY]
        show (if m ≤ m ∧ m < K then nI (dg (W + 1) K k m) else D m) = _
        rw [if_pos (by omega)]
      have y62 : dg (W + 1) K k m < W → Y.1 1062 0 (nI (13 * m + dg (W + 1) K k m)).toNatClampNeg = G (13 * m + dg (W + 1) K k m) := fun hlt => by
        rw [ncl (by omega), ← hY]
        exact hG m _ (by omega) hlt
      rw [y57, y63, nI_1, if_pos (nI_ne0 (by omega) (by omega)), n_div (by omega) (by omega) (by omega), hdv, oLet_eq, if_pos i4, if_pos i4, n13, if_pos ((nin (by omega)).mpr (by omega))]
      by_cases z : isG W K G k i = 0
      · rw [if_pos z]
        exact key 0 Y (by rw [hx, if_pos z])
      · rw [if_neg z]
        by_cases y : dg (W + 1) K k m = W
        · rw [if_pos (by rw [y])]
          exact key 1 Y (by rw [hx, if_neg z, if_pos y])
        · rw [if_neg (by rw [nI_eq (by omega) (by omega)]; exact y), y62 (by omega)]
          by_cases x : G (13 * m + dg (W + 1) K k m) = 0
          · rw [if_pos x]
            exact key 0 Y (by rw [hx, if_neg z, if_neg y, if_pos x])
          · rw [if_neg x]
            exact key 1 Y (by rw [hx, if_neg z, if_neg y, if_neg x])
    · show f_X9_layGiven_L12 (nI (k / (W + 1) ^ K), isG W K G k K, nI (K - K) - 1, _) = _
      rw [Nat.sub_self]
      rfl
  refine ⟨fun x => if K - K ≤ x ∧ x < K then nI (dg (W + 1) K k x) else D x, ?_, fun x hx => if_pos (by omega)⟩
  unfold f_X9_layGiven
  rw [oLet_eq]
  show (oLp f_X9_layGiven_L12 oFu (nI k, (1 : Int32), V.1 1000 0 32 - 1, cmS (dS V D b) o c g)).bind _ = _
  rw [hK, e, Option.bind_some, if_pos (isG_01 K)]
theorem baked_M {Y : oS} {W K : Nat} {g : Nat → Nat} (hK : Y.1 1000 0 32 = nI K) (hK4 : K ≤ 4) (hW : Y.1 1000 0 57 = nI W) (hW12 : W ≤ 12) (hg : ∀ o, o < K → Y.1 1063 0 o = nI (g o) ∧ g o ≤ 12) : f_X9_bakedMany Y = some (nI (cntP W g K), Y) := by
  have e : oLp f_X9_bakedMany_L4 oFu ((0 : Int32), (0 : Int32), Y) = some (nI (cntP W g K), Y) := by
    refine oLp_eq (fun i => (nI (cntP W g i), nI i, Y)) _ K (by omega) rfl ?_ ?_
    · intro i hi
      obtain ⟨g1, g2⟩ := hg i hi
      have ek : Y.1 1063 0 (nI i).toNatClampNeg = nI (g i) := by rw [ncl (by omega)]; exact g1
      show (if Y.1 1000 0 32 ≤ nI i then _ else (if oIn (nI i) 4 then (if Y.1 1063 0 (nI i).toNatClampNeg = Y.1 1000 0 57 then some (Sum.inl (nI (cntP W g i) + 0, nI i + 1, Y)) else some (Sum.inl (nI (cntP W g i) + 1, nI i + 1, Y))) else none)) = some (Sum.inl (nI (cntP W g i + (if g i = W then 0 else 1)), nI (i + 1), Y))
      rw [hK, if_neg (by rw [nI_leI (by omega) (by omega)]; omega), if_pos ((nin (by omega)).mpr (by omega)), ek, hW, nI_1, nI_1, Int32.add_zero]
      by_cases z : g i = W
      · rw [if_pos (by rw [z]), if_pos z]
        rfl
      · rw [if_neg (by rw [nI_eq (by omega) (by omega)]; exact z), if_neg z]
    · show (if Y.1 1000 0 32 ≤ nI K then _ else _) = _
      rw [hK, if_pos (by rw [i_le]; exact Int.le_refl _)]
  unfold f_X9_bakedMany
  rw [e, Option.bind_some]
