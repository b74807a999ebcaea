/-! No heat is ever below 0, and their sum grows by the fire alone -/
def okH (h : Nat → Int64) (M : Int) : Prop := (∀ k, k < 12 → 0 ≤ (h k).toInt) ∧ hSum h 12 ≤ M
theorem hSum_cg {h g : Nat → Int64} : ∀ {n : Nat}, (∀ k, k < n → h k = g k) → hSum h n = hSum g n := by
  intro n
  induction n with
  | zero => intro _; rfl
  | succ n ih =>
    intro e
    show hSum h n + (h n).toInt = hSum g n + (g n).toInt
    rw [ih (fun k hk => e k (by omega)), e n (by omega)]
theorem okH_cg {h g : Nat → Int64} {M : Int} (e : ∀ k, k < 12 → h k = g k) (H : okH h M) : okH g M := ⟨fun k hk => by rw [← e k hk]; exact H.1 k hk, by rw [← hSum_cg e]; exact H.2⟩
theorem hSum_up {h : Nat → Int64} {k : Nat} {x : Int64} : ∀ n : Nat, hSum (uL h k x) n = hSum h n + (if k < n then x.toInt - (h k).toInt else 0) := by
  intro n
  induction n with
  | zero => rw [if_neg (by omega)]; rfl
  | succ n ih =>
    show hSum (uL h k x) n + (uL h k x n).toInt = hSum h n + (h n).toInt + _
    rw [ih]
    by_cases g : n = k
    · subst g
      rw [uL_y, if_neg (by omega), if_pos (by omega)]
      omega
    · rw [uL_n g]
      by_cases g2 : k < n
      · rw [if_pos g2, if_pos (by omega)]
        omega
      · rw [if_neg g2, if_neg (by omega)]
        omega
theorem hSum_k {h : Nat → Int64} {k : Nat} : ∀ n : Nat, (∀ i, i < n → 0 ≤ (h i).toInt) → 0 ≤ hSum h n ∧ (k < n → (h k).toInt ≤ hSum h n) := by
  intro n
  induction n with
  | zero => intro _; exact ⟨Int.le_refl _, fun z => absurd z (Nat.not_lt_zero _)⟩
  | succ n ih =>
    intro H
    obtain ⟨a, b⟩ := ih (fun i hi => H i (by omega))
    have hn := H n (by omega)
    show 0 ≤ hSum h n + (h n).toInt ∧ (k < n + 1 → (h k).toInt ≤ hSum h n + (h n).toInt)
    refine ⟨by omega, fun hk => ?_⟩
    by_cases g : k = n
    · subst g; omega
    · have := b (by omega)
      omega
theorem okH_k {h : Nat → Int64} {M : Int} (H : okH h M) {k : Nat} (hk : k < 12) : 0 ≤ (h k).toInt ∧ (h k).toInt ≤ M := ⟨H.1 k hk, by have := (hSum_k (k := k) 12 H.1).2 hk; have := H.2; omega⟩
theorem ok_set {h : Nat → Int64} {M : Int} (H : okH h M) {k : Nat} (hk : k < 12) {x : Int64} (hx : 0 ≤ x.toInt) : okH (uL h k x) (M + (x.toInt - (h k).toInt)) := by
  refine ⟨fun i hi => ?_, ?_⟩
  · by_cases g : i = k
    · subst g; rw [uL_y]; exact hx
    · rw [uL_n g]; exact H.1 i hi
  · rw [hSum_up, if_pos hk]
    have := H.2
    omega
theorem ok_le {h : Nat → Int64} {M N : Int} (H : okH h M) (hMN : M ≤ N) : okH h N := ⟨H.1, by have := H.2; omega⟩
theorem ok_add {h : Nat → Int64} {M : Int} (H : okH h M) {k : Nat} (hk : k < 12) {v : Int64} (hv : 0 ≤ v.toInt) (hM : M + v.toInt ≤ 1000000000000) : okH (uL h k (h k + v)) (M + v.toInt) := by
  have a := okH_k H hk
  have e : (h k + v).toInt = (h k).toInt + v.toInt := l_add (by omega) (by omega)
  have := ok_set H hk (x := h k + v) (by omega)
  exact ok_le this (by omega)
theorem ok_sub {h : Nat → Int64} {M : Int} (H : okH h M) {k : Nat} (hk : k < 12) {v : Int64} (hv : 0 ≤ v.toInt) (hv2 : v.toInt ≤ (h k).toInt) (hM : M ≤ 1000000000000) : okH (uL h k (h k - v)) M := by
  have a := okH_k H hk
  have e : (h k - v).toInt = (h k).toInt - v.toInt := l_sub (by omega) (by omega)
  have := ok_set H hk (x := h k - v) (by omega)
  exact ok_le this (by omega)
theorem d10 {x : Int64} (h : 0 ≤ x.toInt) : (x / 10).toInt = x.toInt / 10 := l_div h (by decide)
theorem d30 {x : Int64} (h : 0 ≤ x.toInt) : (x / 30).toInt = x.toInt / 30 := l_div h (by decide)
theorem d60 {x : Int64} (h : 0 ≤ x.toInt) : (x / 60).toInt = x.toInt / 60 := l_div h (by decide)
theorem d4 {x : Int64} (h : 0 ≤ x.toInt) : (x / 4).toInt = x.toInt / 4 := l_div h (by decide)
theorem d2 {x : Int64} (h : 0 ≤ x.toInt) : (x / 2).toInt = x.toInt / 2 := l_div h (by decide)
theorem l0 : (0 : Int64).toInt = 0 := rfl
theorem l1 : (1 : Int64).toInt = 1 := rfl
theorem l2 : (2 : Int64).toInt = 2 := rfl
theorem l25 : (25 : Int64).toInt = 25 := rfl
theorem l90 : (90 : Int64).toInt = 90 := rfl
theorem i0 : (0 : Int32).toInt = 0 := rfl
theorem i1 : (1 : Int32).toInt = 1 := rfl
theorem i2 : (2 : Int32).toInt = 2 := rfl
theorem cl0_nn {v : Int64} (h : 0 ≤ v.toInt) : cl0 v = v := by
  unfold cl0
  by_cases g : v ≤ 0
  · rw [if_pos g, l_eq, l0]
    rw [l_le, l0] at g
    omega
  · rw [if_neg g]
theorem dr_b {h : Nat → Int64} {d : Nat → Int32} {r : Nat} (hh : 0 ≤ (h (3 * r)).toInt) (hM : (h (3 * r)).toInt ≤ 1000000000000) (hd : rg (d r) 0 1000) : 0 ≤ (dr h d r).toInt ∧ 25 * (dr h d r).toInt ≤ (h (3 * r)).toInt ∧ (dr h d r).toInt ≤ (d r).toInt ∧ (25 * dr h d r).toInt = 25 * (dr h d r).toInt := by
  have key : ∀ x : Int64, 0 ≤ x.toInt → 25 * x.toInt ≤ (h (3 * r)).toInt → x.toInt ≤ (d r).toInt → 0 ≤ x.toInt ∧ 25 * x.toInt ≤ (h (3 * r)).toInt ∧ x.toInt ≤ (d r).toInt ∧ (25 * x).toInt = 25 * x.toInt := fun x a b c => ⟨a, b, c, by rw [l_mul (by rw [l25]; omega) (by rw [l25]; omega), l25]⟩
  have hd0 := hd.1
  have hd1 := hd.2
  unfold dr
  by_cases g1 : d r ≤ 0
  · rw [if_pos g1]
    exact key 0 (by rw [l0]; omega) (by rw [l0]; omega) (by rw [l0]; omega)
  · rw [if_neg g1]
    by_cases g2 : h (3 * r) / 10 < 90
    · rw [if_pos g2]
      exact key 0 (by rw [l0]; omega) (by rw [l0]; omega) (by rw [l0]; omega)
    · rw [if_neg g2]
      rw [l_lt, d10 hh, l90] at g2
      have e1 : (h (3 * r) / 10 - 90).toInt = (h (3 * r)).toInt / 10 - 90 := by rw [l_sub (by rw [d10 hh, l90]; omega) (by rw [d10 hh, l90]; omega), d10 hh, l90]
      have e2 : ((h (3 * r) / 10 - 90) / 4).toInt = ((h (3 * r)).toInt / 10 - 90) / 4 := by rw [d4 (by rw [e1]; omega), e1]
      have e3 : ((h (3 * r) / 10 - 90) / 4 + 1).toInt = ((h (3 * r)).toInt / 10 - 90) / 4 + 1 := by rw [l_add (by rw [e2, l1]; omega) (by rw [e2, l1]; omega), e2, l1]
      have e4 := i_long (d r)
      unfold oMinL
      by_cases g3 : Int32.toInt64 (d r) < (h (3 * r) / 10 - 90) / 4 + 1
      · rw [if_pos g3]
        rw [l_lt, e3, e4] at g3
        exact key _ (by omega) (by omega) (by omega)
      · rw [if_neg g3]
        rw [l_lt, e3, e4] at g3
        exact key _ (by omega) (by omega) (by omega)
theorem ok_dry {h : Nat → Int64} {d : Nat → Int32} {M : Int} (H : okH h M) (hM : M ≤ 1000000000000) (hd : ∀ r, r < 4 → rg (d r) 0 1000) : ∀ i, i ≤ 4 → okH (dryH h d i) M := by
  intro i
  induction i with
  | zero =>
    intro _
    exact okH_cg (fun k hk => by unfold dryH; rw [if_neg (by omega)]) H
  | succ i ih =>
    intro hi
    have H0 := ih (by omega)
    have a := okH_k H (k := 3 * i) (by omega)
    obtain ⟨b1, b2, b3, b4⟩ := dr_b (d := d) (r := i) a.1 (by omega) (hd i (by omega))
    have e0 : dryH h d i (3 * i) = h (3 * i) := by unfold dryH; rw [if_neg (by omega)]
    have := ok_sub H0 (k := 3 * i) (by omega) (v := 25 * dr h d i) (by omega) (by rw [e0]; omega) hM
    rw [e0] at this
    exact okH_cg (fun k _ => dryH_s k) this
theorem dryD_b {h : Nat → Int64} {d : Nat → Int32} {M : Int} (H : okH h M) (hM : M ≤ 1000000000000) (hd : ∀ r, r < 4 → rg (d r) 0 1000) : ∀ r, r < 4 → rg (dryD h d 4 r) 0 1000 := by
  intro r hr
  have a := okH_k H (k := 3 * r) (by omega)
  obtain ⟨b1, b2, b3, b4⟩ := dr_b (d := d) (r := r) a.1 (by omega) (hd r hr)
  have c := hd r hr
  have c1 := c.1
  have c2 := c.2
  have e : (Int64.toInt32 (dr h d r)).toInt = (dr h d r).toInt := by rw [Int64.toInt_toInt32, bm32 (by omega) (by omega)]
  unfold dryD
  rw [if_pos hr]
  unfold rg
  rw [i_sub (by rw [e]; omega) (by rw [e]; omega), e]
  omega
/-- a small number times a heat -/
theorem tm {t x : Int64} (h0 : 0 ≤ t.toInt) (h6 : t.toInt ≤ 6) (hx : -1000000000000000 ≤ x.toInt) (hx2 : x.toInt ≤ 1000000000000000) : (0 ≤ x.toInt → 0 ≤ (t * x).toInt ∧ (t * x).toInt ≤ 6 * x.toInt) ∧ (x.toInt ≤ 0 → 6 * x.toInt ≤ (t * x).toInt ∧ (t * x).toInt ≤ 0) := by
  rcases (by omega : t.toInt = 0 ∨ t.toInt = 1 ∨ t.toInt = 2 ∨ t.toInt = 3 ∨ t.toInt = 4 ∨ t.toInt = 5 ∨ t.toInt = 6) with e | e | e | e | e | e | e <;> rw [l_mul (by rw [e]; omega) (by rw [e]; omega), e] <;> omega
theorem cl0_mul {t x : Int64} (h0 : 0 ≤ t.toInt) (h6 : t.toInt ≤ 6) (hx : -1000000000000000 ≤ x.toInt) (hx2 : x.toInt ≤ 1000000000000000) : cl0 (t * x) = t * oMaxL 0 x := by
  obtain ⟨a, b⟩ := tm h0 h6 hx hx2
  unfold oMaxL
  by_cases g : x < 0
  · rw [if_pos g]
    rw [l_lt, l0] at g
    have := b (by omega)
    have e : t * 0 = 0 := by grind
    unfold cl0
    rw [if_pos (by rw [l_le, l0]; omega), e]
  · rw [if_neg g]
    rw [l_lt, l0] at g
    exact cl0_nn (a (by omega)).1
theorem max_b {t x : Int64} {B : Int} (h0 : 0 ≤ t.toInt) (h6 : t.toInt ≤ 6) (hx : -1000000000000000 ≤ x.toInt) (hx2 : x.toInt ≤ B) (hB : 0 ≤ B) (hB2 : B ≤ 1000000000000000) : 0 ≤ (t * oMaxL 0 x).toInt ∧ (t * oMaxL 0 x).toInt ≤ 6 * B := by
  unfold oMaxL
  by_cases g : x < 0
  · rw [if_pos g, show t * 0 = 0 by grind, l0]
    omega
  · rw [if_neg g]
    rw [l_lt, l0] at g
    have := (tm h0 h6 hx (by omega)).1 (by omega)
    omega
