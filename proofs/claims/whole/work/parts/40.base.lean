/-! The pure proof: loops, numbers -/
theorem oLp_iter {σ ρ : Type} {b : σ → Option (σ ⊕ ρ)} (f : Nat → σ) (r : ρ) : ∀ (N : Nat), (∀ i, i < N → b (f i) = some (Sum.inl (f (i + 1)))) → b (f N) = some (Sum.inr r) → ∀ n, N < n → oLp b n (f 0) = some r := by
  intro N
  induction N generalizing f with
  | zero =>
    intro _ he n hn
    obtain ⟨m, rfl⟩ : ∃ m, n = m + 1 := ⟨n - 1, by omega⟩
    show (b (f 0)).bind (oNx (oLp b m)) = some r
    rw [he]
    rfl
  | succ N ih =>
    intro hs he n hn
    obtain ⟨m, rfl⟩ : ∃ m, n = m + 1 := ⟨n - 1, by omega⟩
    show (b (f 0)).bind (oNx (oLp b m)) = some r
    rw [hs 0 (by omega)]
    exact ih (fun i => f (i + 1)) (fun i hi => hs (i + 1) (by omega)) he m (by omega)
theorem oLp_inv {σ ρ : Type} {b : σ → Option (σ ⊕ ρ)} (I : Nat → σ → Prop) (Q : ρ → Prop) : ∀ (N n : Nat) (i : Nat) (s : σ), I i s → N - i < n → i ≤ N → (∀ i s, i < N → I i s → (∃ s', b s = some (Sum.inl s') ∧ I (i + 1) s') ∨ ∃ r, b s = some (Sum.inr r) ∧ Q r) → (∀ s, I N s → ∃ r, b s = some (Sum.inr r) ∧ Q r) → ∃ r, oLp b n s = some r ∧ Q r := by
  intro N n
  induction n with
  | zero => intro i s _ h; exact absurd h (Nat.not_lt_zero _)
  | succ n ih =>
    intro i s hI hn hi hs he
    have go : ∀ r, b s = some (Sum.inr r) → Q r → ∃ r, oLp b (n + 1) s = some r ∧ Q r := by
      intro r hr hq
      refine ⟨r, ?_, hq⟩
      show (b s).bind (oNx (oLp b n)) = some r
      rw [hr]
      rfl
    rcases Nat.lt_or_ge i N with h | h
    · rcases hs i s h hI with ⟨s', h1, h2⟩ | ⟨r, h1, h2⟩
      · obtain ⟨r, h3, h4⟩ := ih (i + 1) s' h2 (by omega) (by omega) hs he
        refine ⟨r, ?_, h4⟩
        show (b s).bind (oNx (oLp b n)) = some r
        rw [h1]
        exact h3
      · exact go r h1 h2
    · have e : i = N := by omega
      subst e
      obtain ⟨r, h1, h2⟩ := he s hI
      exact go r h1 h2
/-- a loop that is known to go just N times -/
theorem oLp_all {σ ρ : Type} {b : σ → Option (σ ⊕ ρ)} (I : Nat → σ → Prop) (Q : ρ → Prop) (N : Nat) (hN : N < 100000) {s : σ} (h0 : I 0 s) (hs : ∀ i s, i < N → I i s → ∃ s', b s = some (Sum.inl s') ∧ I (i + 1) s') (he : ∀ s, I N s → ∃ r, b s = some (Sum.inr r) ∧ Q r) : ∃ r, oLp b oFu s = some r ∧ Q r :=
  oLp_inv I Q N oFu 0 s h0 (by show N - 0 < 100000; omega) (by omega) (fun i s h1 h2 => Or.inl (hs i s h1 h2)) he
theorem oLp_eq {σ ρ : Type} {b : σ → Option (σ ⊕ ρ)} (f : Nat → σ) (r : ρ) (N : Nat) (hN : N < 100000) {s : σ} (h0 : s = f 0) (hs : ∀ i, i < N → b (f i) = some (Sum.inl (f (i + 1)))) (he : b (f N) = some (Sum.inr r)) : oLp b oFu s = some r := by
  subst h0
  exact oLp_iter f r N hs he oFu hN
/-- numbers in a range -/
def rg (x : Int32) (a b : Int) : Prop := a ≤ x.toInt ∧ x.toInt ≤ b
theorem i_lt {a b : Int32} : a < b ↔ a.toInt < b.toInt := Int32.lt_iff_toInt_lt
theorem i_le {a b : Int32} : a ≤ b ↔ a.toInt ≤ b.toInt := Int32.le_iff_toInt_le
theorem i_eq {a b : Int32} : a = b ↔ a.toInt = b.toInt := Int32.toInt_inj.symm
theorem l_lt {a b : Int64} : a < b ↔ a.toInt < b.toInt := Int64.lt_iff_toInt_lt
theorem l_le {a b : Int64} : a ≤ b ↔ a.toInt ≤ b.toInt := Int64.le_iff_toInt_le
theorem l_eq {a b : Int64} : a = b ↔ a.toInt = b.toInt := Int64.toInt_inj.symm
theorem i_clamp (x : Int32) : x.toNatClampNeg = x.toInt.toNat := rfl
theorem i_bd (x : Int32) : -2147483648 ≤ x.toInt ∧ x.toInt ≤ 2147483647 := ⟨by have := x.le_toInt; simpa using this, by have := x.toInt_lt; omega⟩
theorem bm32 {x : Int} (h1 : -2147483648 ≤ x) (h2 : x ≤ 2147483647) : x.bmod (2 ^ 32) = x := by
  rw [Int.bmod_eq_of_le] <;> omega
theorem bm64 {x : Int} (h1 : -9223372036854775808 ≤ x) (h2 : x ≤ 9223372036854775807) : x.bmod (2 ^ 64) = x := by
  rw [Int.bmod_eq_of_le] <;> omega
theorem i_add {a b : Int32} (h1 : -2147483648 ≤ a.toInt + b.toInt) (h2 : a.toInt + b.toInt ≤ 2147483647) : (a + b).toInt = a.toInt + b.toInt := by rw [Int32.toInt_add, bm32 h1 h2]
theorem i_sub {a b : Int32} (h1 : -2147483648 ≤ a.toInt - b.toInt) (h2 : a.toInt - b.toInt ≤ 2147483647) : (a - b).toInt = a.toInt - b.toInt := by rw [Int32.toInt_sub, bm32 h1 h2]
theorem i_mul {a b : Int32} (h1 : -2147483648 ≤ a.toInt * b.toInt) (h2 : a.toInt * b.toInt ≤ 2147483647) : (a * b).toInt = a.toInt * b.toInt := by rw [Int32.toInt_mul, bm32 h1 h2]
theorem l_add {a b : Int64} (h1 : -9223372036854775808 ≤ a.toInt + b.toInt) (h2 : a.toInt + b.toInt ≤ 9223372036854775807) : (a + b).toInt = a.toInt + b.toInt := by rw [Int64.toInt_add, bm64 h1 h2]
theorem l_sub {a b : Int64} (h1 : -9223372036854775808 ≤ a.toInt - b.toInt) (h2 : a.toInt - b.toInt ≤ 9223372036854775807) : (a - b).toInt = a.toInt - b.toInt := by rw [Int64.toInt_sub, bm64 h1 h2]
theorem l_mul {a b : Int64} (h1 : -9223372036854775808 ≤ a.toInt * b.toInt) (h2 : a.toInt * b.toInt ≤ 9223372036854775807) : (a * b).toInt = a.toInt * b.toInt := by rw [Int64.toInt_mul, bm64 h1 h2]
theorem i_long (a : Int32) : a.toInt64.toInt = a.toInt := Int32.toInt_toInt64 a
theorem oIn_rg {i : Int32} {n : Nat} : oIn i n ↔ 0 ≤ i.toInt ∧ i.toInt < n := by
  show ¬ (i < 0 ∨ n ≤ i.toInt.toNat) ↔ _
  rw [i_lt, show (0 : Int32).toInt = 0 from rfl]
  omega
/-- a small whole number as an index -/
theorem i_nat {x : Int32} (h : 0 ≤ x.toInt) : x = nI x.toInt.toNat := by
  have := i_bd x
  rw [i_eq, nI_toInt (by omega)]
  omega
