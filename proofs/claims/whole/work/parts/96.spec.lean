/-! Plans as numbers: digits, what is valid, what is best so far -/
def num (B : Nat) (g : Nat → Nat) : Nat → Nat
  | 0 => 0
  | i + 1 => num B g i * B + g i
def dg (B K k o : Nat) : Nat := k / B ^ (K - 1 - o) % B
theorem dg_pre {B K o k : Nat} {g : Nat → Nat} (ho : o ≤ K) (hg : ∀ i, i < o → g i < B) (hk : k / B ^ (K - o) = num B g o) : ∀ i, i < o → dg B K k i = g i := by
  have up : ∀ d j, j + d = o → k / B ^ (K - j) = num B g j := by
    intro d
    induction d with
    | zero =>
      intro j hj
      have : j = o := by omega
      rw [this]; exact hk
    | succ d ih =>
      intro j hj
      have h1 := ih (j + 1) (by omega)
      have hB := hg j (by omega)
      have e : B ^ (K - j) = B ^ (K - (j + 1)) * B := by rw [← Nat.pow_succ]; exact congrArg (fun z => B ^ z) (by omega)
      rw [e, ← Nat.div_div_eq_div_mul, h1]
      show (num B g j * B + g j) / B = num B g j
      rw [Nat.add_comm, Nat.add_mul_div_right _ _ (by omega), Nat.div_eq_of_lt hB, Nat.zero_add]
  intro i hi
  have h1 := up (o - (i + 1)) (i + 1) (by omega)
  have hB := hg i hi
  unfold dg
  rw [show K - 1 - i = K - (i + 1) by omega, h1]
  show (num B g i * B + g i) % B = g i
  rw [Nat.add_comm, Nat.add_mul_mod_self_right, Nat.mod_eq_of_lt hB]
theorem iv_div {k p q : Nat} (h1 : p * q ≤ k) (h2 : k < (p + 1) * q) : k / q = p := by
  have hq : 0 < q := by
    rcases Nat.eq_zero_or_pos q with z | z
    · rw [z] at h2; omega
    · exact z
  rw [Nat.div_eq_iff hq]
  rw [Nat.add_mul] at h2
  omega
/-- in which spans and rings a choice stands -/
def ctb (W w s r : Nat) : Nat := if w < W ∧ w % 4 = r ∧ pI (w / 4) ≤ s ∧ s < pO (w / 4) then 1 else 0
def sm (W : Nat) (x g : Nat → Nat) (s r : Nat) : Nat → Nat
  | 0 => 0
  | o + 1 => sm W x g s r o + ctb W (g o) s r * x o
def us (W : Nat) (on cr bg g : Nat → Nat) (s r n : Nat) : Nat := sm W bg g s r n + (sm W on g s r n - sm W cr g s r n)
def kdK (on cr bg : Nat → Nat) (K : Nat) : Prop := ∀ o, o < K → (on o = 1 ∧ cr o = 0 ∧ bg o = 0) ∨ (on o = 0 ∧ cr o ≤ 1 ∧ 2 ≤ bg o ∧ bg o ≤ 3)
theorem us_mono {W : Nat} {on cr bg g : Nat → Nat} {s r K : Nat} (hk : kdK on cr bg K) : ∀ d n, n + d ≤ K → us W on cr bg g s r n ≤ us W on cr bg g s r (n + d) := by
  intro d
  induction d with
  | zero => intro n _; exact Nat.le_refl _
  | succ d ih =>
    intro n hn
    refine Nat.le_trans (ih n (by omega)) ?_
    have h := hk (n + d) (by omega)
    show sm W bg g s r (n + d) + (sm W on g s r (n + d) - sm W cr g s r (n + d)) ≤ (sm W bg g s r (n + d) + ctb W (g (n + d)) s r * bg (n + d)) + ((sm W on g s r (n + d) + ctb W (g (n + d)) s r * on (n + d)) - (sm W cr g s r (n + d) + ctb W (g (n + d)) s r * cr (n + d)))
    have hc : ctb W (g (n + d)) s r = 0 ∨ ctb W (g (n + d)) s r = 1 := by
      unfold ctb
      by_cases z : g (n + d) < W ∧ g (n + d) % 4 = r ∧ pI (g (n + d) / 4) ≤ s ∧ s < pO (g (n + d) / 4)
      · rw [if_pos z]; exact Or.inr rfl
      · rw [if_neg z]; exact Or.inl rfl
    rcases hc with z | z <;> rw [z] <;> omega
theorem sm_cg {W : Nat} {x g h : Nat → Nat} {s r : Nat} : ∀ n, (∀ i, i < n → g i = h i) → sm W x g s r n = sm W x h s r n := by
  intro n
  induction n with
  | zero => intro _; rfl
  | succ n ih =>
    intro e
    show sm W x g s r n + ctb W (g n) s r * x n = sm W x h s r n + ctb W (h n) s r * x n
    rw [ih (fun i hi => e i (by omega)), e n (by omega)]
theorem us_cg {W : Nat} {on cr bg g h : Nat → Nat} {s r n : Nat} (e : ∀ i, i < n → g i = h i) : us W on cr bg g s r n = us W on cr bg h s r n := by
  unfold us
  rw [sm_cg n e, sm_cg n e, sm_cg n e]
/-- small sums -/
theorem sm_le {W : Nat} {x g : Nat → Nat} {s r K : Nat} (hx : ∀ o, o < K → x o ≤ 3) : ∀ n, n ≤ K → sm W x g s r n ≤ 3 * n := by
  intro n
  induction n with
  | zero => intro _; exact Nat.le_refl _
  | succ n ih =>
    intro hn
    have h1 := ih (by omega)
    have h2 := hx n (by omega)
    show sm W x g s r n + ctb W (g n) s r * x n ≤ 3 * (n + 1)
    unfold ctb
    by_cases z : g n < W ∧ g n % 4 = r ∧ pI (g n / 4) ≤ s ∧ s < pO (g n / 4)
    · rw [if_pos z]; omega
    · rw [if_neg z]; omega
def rmN (r : Nat) : Nat := if r = 0 then 2 else if r = 1 then 3 else 4
def vldP (W : Nat) (gd : Nat → Nat → Int32) (on cr bg : Nat → Nat) (g : Nat → Nat) (n : Nat) : Prop := (∀ o, o < n → g o = W ∨ (g o < W ∧ ¬ gd o (g o) = 0)) ∧ ∀ s r, s < 2 → r < 4 → us W on cr bg g s r n ≤ rmN r
theorem vldP_cg {W : Nat} {gd : Nat → Nat → Int32} {on cr bg g h : Nat → Nat} {n : Nat} (e : ∀ i, i < n → g i = h i) (H : vldP W gd on cr bg g n) : vldP W gd on cr bg h n := ⟨fun o ho => by rw [← e o ho]; exact H.1 o ho, fun s r hs hr => by rw [← us_cg e]; exact H.2 s r hs hr⟩
theorem vldP_dn {W : Nat} {gd : Nat → Nat → Int32} {on cr bg g : Nat → Nat} {n K : Nat} (hk : kdK on cr bg K) (hn : n ≤ K) (H : vldP W gd on cr bg g K) : vldP W gd on cr bg g n := ⟨fun o ho => H.1 o (by omega), fun s r hs hr => by
  have := us_mono (W := W) (g := g) (s := s) (r := r) hk (K - n) n (by omega)
  rw [show n + (K - n) = K by omega] at this
  exact Nat.le_trans this (H.2 s r hs hr)⟩
def cntP (W : Nat) (g : Nat → Nat) : Nat → Nat
  | 0 => 0
  | o + 1 => cntP W g o + (if g o = W then 0 else 1)
theorem cntP_cg {W : Nat} {g h : Nat → Nat} : ∀ n, (∀ i, i < n → g i = h i) → cntP W g n = cntP W h n := by
  intro n
  induction n with
  | zero => intro _; rfl
  | succ n ih =>
    intro e
    show cntP W g n + (if g n = W then 0 else 1) = cntP W h n + (if h n = W then 0 else 1)
    rw [ih (fun i hi => e i (by omega)), e n (by omega)]
theorem cntP_le {W : Nat} {g : Nat → Nat} : ∀ n, cntP W g n ≤ n := by
  intro n
  induction n with
  | zero => exact Nat.le_refl _
  | succ n ih =>
    show cntP W g n + (if g n = W then 0 else 1) ≤ n + 1
    by_cases z : g n = W
    · rw [if_pos z]; omega
    · rw [if_neg z]; omega
/-- no plan bakes more than the hope says -/
theorem hope_ok {W K : Nat} {gd : Nat → Nat → Int32} {on cr bg g : Nat → Nat} (hW : W ≤ 12) (H : vldP W gd on cr bg g K) : ∀ e, e ≤ K → cntP W g K ≤ cntP W g (K - e) + hpE gd K e := by
  intro e
  induction e with
  | zero => intro _; exact Nat.le_refl _
  | succ e ih =>
    intro he
    have h1 := ih (by omega)
    obtain ⟨m, hm⟩ : ∃ m, K - e = m + 1 := ⟨K - e - 1, by omega⟩
    have hm2 : K - (e + 1) = m := by omega
    rw [hm] at h1
    rw [hm2]
    have h1 : cntP W g K ≤ cntP W g m + (if g m = W then 0 else 1) + hpE gd K e := h1
    show cntP W g K ≤ cntP W g m + (hpE gd K e + ahN gd (K - (e + 1)))
    rw [hm2]
    rcases H.1 m (by omega) with z | ⟨z, y⟩
    · rw [if_pos z] at h1; omega
    · rw [if_neg (by omega)] at h1
      have : ahN gd m = 1 := by
        unfold ahN
        rw [if_neg (anyG_0 y 12 (by omega))]
      omega
def Bsf (V : Nat → Prop) (C : Nat → Nat) (x : Nat) (m : Int) (z : Nat) : Prop := (m = -1 ∧ ∀ k, k < x → ¬ V k) ∨ (z < x ∧ V z ∧ m = C z ∧ (∀ k, k < x → V k → C k ≤ C z) ∧ ∀ k, k < z → V k → C k < C z)
theorem Bsf_sk {V : Nat → Prop} {C : Nat → Nat} {x y : Nat} {m : Int} {z : Nat} (h : Bsf V C x m z) (hxy : x ≤ y) (hk : ∀ k, x ≤ k → k < y → V k → (C k : Int) ≤ m) : Bsf V C y m z := by
  rcases h with ⟨h1, h2⟩ | ⟨h1, h2, h3, h4, h5⟩
  · refine Or.inl ⟨h1, fun k hky hv => ?_⟩
    by_cases g : k < x
    · exact h2 k g hv
    · have := hk k (by omega) hky hv
      omega
  · refine Or.inr ⟨by omega, h2, h3, fun k hky hv => ?_, h5⟩
    by_cases g : k < x
    · exact h4 k g hv
    · have := hk k (by omega) hky hv
      omega
theorem Bsf_up {V : Nat → Prop} {C : Nat → Nat} {x : Nat} {m : Int} {z : Nat} (h : Bsf V C x m z) (hv : V x) (hc : m < C x) : Bsf V C (x + 1) (C x) x := by
  refine Or.inr ⟨by omega, hv, rfl, fun k hk vk => ?_, fun k hk vk => ?_⟩
  · by_cases g : k = x
    · rw [g]; exact Nat.le_refl _
    · rcases h with ⟨h1, h2⟩ | ⟨h1, h2, h3, h4, h5⟩
      · exact absurd vk (h2 k (by omega))
      · have := h4 k (by omega) vk
        omega
  · rcases h with ⟨h1, h2⟩ | ⟨h1, h2, h3, h4, h5⟩
    · exact absurd vk (h2 k (by omega))
    · have := h4 k (by omega) vk
      omega
theorem Bsf_u {V : Nat → Prop} {C : Nat → Nat} {x : Nat} {m m' : Int} {z z' : Nat} (h : Bsf V C x m z) (h' : Bsf V C x m' z') : m = m' ∧ (m ≠ -1 → z = z') := by
  rcases h with ⟨h1, h2⟩ | ⟨h1, h2, h3, h4, h5⟩
  · rcases h' with ⟨i1, i2⟩ | ⟨i1, i2, i3, i4, i5⟩
    · exact ⟨by rw [h1, i1], fun n => absurd h1 n⟩
    · exact absurd i2 (h2 z' i1)
  · rcases h' with ⟨i1, i2⟩ | ⟨i1, i2, i3, i4, i5⟩
    · exact absurd h2 (i2 z h1)
    · have a := h4 z' i1 i2
      have b := i4 z h1 h2
      have e : C z = C z' := by omega
      refine ⟨by omega, fun _ => ?_⟩
      rcases Nat.lt_trichotomy z z' with y | y | y
      · have := i5 z y h2; omega
      · exact y
      · have := h5 z' y i2; omega
