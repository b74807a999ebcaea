/-! the notes -/
theorem n4 (m i : Nat) : nI m * 4 + nI i = nI (4 * m + i) := by
  rw [show (4 : Int32) = nI 4 from rfl, pk_mul, nI_add, Nat.mul_comm]
theorem n4' (m i : Nat) : 4 * nI m + nI i = nI (4 * m + i) := by rw [Int32.mul_comm, n4]
theorem wk_nat {w c : Int32} {m : Int} (hc : c.toInt = m) (hw : 0 ≤ w ∧ w ≤ c) : ∃ k : Nat, (k : Int) ≤ m ∧ w = nI k := by
  have a := rg_of (m := 0) (n := m) rfl hc hw
  exact ⟨w.toInt.toNat, by have := a.1; have := a.2; omega, i_nat a.1⟩
def bI (p : Prop) [Decidable p] : Int32 := if p then 1 else 0
theorem bI_n {p : Prop} [Decidable p] (h : ¬ p) : bI p = 0 := if_neg h
theorem bI_y {p : Prop} [Decidable p] (h : p) : bI p = 1 := if_pos h
def wellS (N : Nat → Int32) (k : Nat) : Int32 := bI (N k = 1)
theorem well_ok (S : oS) : f_X0_wellNotes S = some (cSum (wellS (S.1 101 0)) 244, S) := by
  unfold f_X0_wellNotes
  have e : oLp f_X0_wellNotes_L4 oFu ((0 : Int32), (0 : Int32), S) = some (cSum (wellS (S.1 101 0)) 244, S) := by
    refine oLp_eq (fun i => (cSum (wellS (S.1 101 0)) i, nI i, S)) _ 244 (by decide) rfl ?_ rfl
    intro i hi
    show (if (244 : Int32) ≤ nI i then _ else _) = _
    rw [if_neg (by rw [nle (m := 244) rfl (by omega)]; omega), if_pos ((nin (by omega)).mpr hi), ncl (by omega)]
    by_cases h : S.1 101 0 i = 1
    · rw [if_pos h]
      show some (Sum.inl (_ + 1, nI i + 1, S)) = some (Sum.inl (_ + bI (S.1 101 0 i = 1), nI (i + 1), S))
      rw [bI_y h, nI_1]
    · rw [if_neg h]
      show some (Sum.inl (_ + 0, nI i + 1, S)) = some (Sum.inl (_ + bI (S.1 101 0 i = 1), nI (i + 1), S))
      rw [bI_n h, nI_1]
  rw [e]
  rfl
def knownS (N : Nat → Int32) (k : Nat) : Int32 := bI (¬ N k = 0)
theorem known_ok (S : oS) : f_X0_knownNotes S = some (cSum (knownS (S.1 101 0)) 244, S) := by
  unfold f_X0_knownNotes
  have e : oLp f_X0_knownNotes_L4 oFu ((0 : Int32), (0 : Int32), S) = some (cSum (knownS (S.1 101 0)) 244, S) := by
    refine oLp_eq (fun i => (cSum (knownS (S.1 101 0)) i, nI i, S)) _ 244 (by decide) rfl ?_ rfl
    intro i hi
    show (if (244 : Int32) ≤ nI i then _ else _) = _
    rw [if_neg (by rw [nle (m := 244) rfl (by omega)]; omega), if_pos ((nin (by omega)).mpr hi), ncl (by omega)]
    by_cases h : S.1 101 0 i = 0
    · rw [if_pos h]
      show some (Sum.inl (_ + 0, nI i + 1, S)) = some (Sum.inl (_ + bI (¬ S.1 101 0 i = 0), nI (i + 1), S))
      rw [bI_n (fun z => z h), nI_1]
    · rw [if_neg h]
      show some (Sum.inl (_ + 1, nI i + 1, S)) = some (Sum.inl (_ + bI (¬ S.1 101 0 i = 0), nI (i + 1), S))
      rw [bI_y h, nI_1]
  rw [e]
  rfl
/-- the notes of week m: how many of its first i rings are known -/
theorem notesOf_ok (S : oS) (hN : ∀ k, 0 ≤ (S.1 1046 0 k).toInt) (m : Nat) (hm : m < 61) : f_X9_notesOf (nI m) S = some (cSum (fun i => knownS (S.1 1046 0) (4 * m + i)) 4, S) := by
  unfold f_X9_notesOf
  have e : oLp (f_X9_notesOf_L4 (nI m)) oFu ((0 : Int32), (0 : Int32), S) = some (cSum (fun i => knownS (S.1 1046 0) (4 * m + i)) 4, S) := by
    refine oLp_eq (fun i => (cSum (fun i => knownS (S.1 1046 0) (4 * m + i)) i, nI i, S)) _ 4 (by decide) rfl ?_ rfl
    intro i hi
    show (if (4 : Int32) ≤ nI i then _ else _) = _
    rw [if_neg (by rw [nle (m := 4) rfl (by omega)]; omega), n4', if_pos ((nin (by omega)).mpr (by omega)), ncl (by omega)]
    by_cases h : S.1 1046 0 (4 * m + i) = 0
    · rw [if_pos (by rw [h]; decide)]
      show some (Sum.inl (_ + 0, nI i + 1, S)) = some (Sum.inl (_ + bI (¬ S.1 1046 0 (4 * m + i) = 0), nI (i + 1), S))
      rw [bI_n (fun z => z h), nI_1]
    · rw [if_neg (by
        rw [i_le]
        have := hN (4 * m + i)
        have h2 : ¬ (S.1 1046 0 (4 * m + i)).toInt = 0 := fun z => h (i_eq.mpr z)
        show ¬ _ ≤ (0 : Int)
        omega)]
      show some (Sum.inl (_ + 1, nI i + 1, S)) = some (Sum.inl (_ + bI (¬ S.1 1046 0 (4 * m + i) = 0), nI (i + 1), S))
      rw [bI_y h, nI_1]
  rw [e]
  rfl
/-- a week is lost: its first i rings -/
def wipe (t m : Nat) (S : oS) : Nat → oS
  | 0 => S
  | i + 1 => oStI (wipe t m S i) t 0 (4 * m + i) 0
theorem wipe_t {t m : Nat} {S : oS} : ∀ (i k : Nat), (wipe t m S i).1 t 0 k = if 4 * m ≤ k ∧ k < 4 * m + i then 0 else S.1 t 0 k := by
  intro i
  induction i with
  | zero => intro k; rw [if_neg (by omega)]; rfl
  | succ i ih =>
    intro k
    show (if t = t ∧ 0 = 0 ∧ k = 4 * m + i then 0 else (wipe t m S i).1 t 0 k) = _
    rw [ih k]
    by_cases h1 : k = 4 * m + i
    · rw [if_pos ⟨rfl, rfl, h1⟩, if_pos (by omega)]
    · rw [if_neg (fun z => h1 z.2.2)]
      by_cases h2 : 4 * m ≤ k ∧ k < 4 * m + i
      · rw [if_pos h2, if_pos (by omega)]
      · rw [if_neg h2, if_neg (by omega)]
theorem forget_ok (S : oS) (m : Nat) (hm : m < 61) : f_X0_forget (nI m) S = some (cSum (fun i => knownS (S.1 101 0) (4 * m + i)) 4, wipe 101 m S 4) := by
  unfold f_X0_forget
  have e : oLp (f_X0_forget_L4 (nI m)) oFu ((0 : Int32), (0 : Int32), S) = some (cSum (fun i => knownS (S.1 101 0) (4 * m + i)) 4, wipe 101 m S 4) := by
    refine oLp_eq (fun i => (cSum (fun i => knownS (S.1 101 0) (4 * m + i)) i, nI i, wipe 101 m S i)) _ 4 (by decide) rfl ?_ rfl
    intro i hi
    have ei : (wipe 101 m S i).1 101 0 (4 * m + i) = S.1 101 0 (4 * m + i) := by rw [wipe_t, if_neg (by omega)]
    show (if (4 : Int32) ≤ nI i then _ else _) = _
    rw [if_neg (by rw [nle (m := 4) rfl (by omega)]; omega), n4, if_pos ((nin (by omega)).mpr (by omega)), ncl (by omega), ei]
    have fin : ∀ z : Int32, z = bI (¬ S.1 101 0 (4 * m + i) = 0) → f_X0_forget_K28 (nI m) (nI i) (cSum (fun i => knownS (S.1 101 0) (4 * m + i)) i) z (wipe 101 m S i) = some (Sum.inl (cSum (fun i => knownS (S.1 101 0) (4 * m + i)) (i + 1), nI (i + 1), wipe 101 m S (i + 1))) := by
      intro z hz
      unfold f_X0_forget_K28
      show (if oIn (nI m * 4 + nI i) 244 then _ else none) = _
      rw [n4, if_pos ((nin (by omega)).mpr (by omega)), ncl (by omega), hz]
      show some (Sum.inl (_, nI i + 1, _)) = _
      rw [nI_1]
      rfl
    by_cases h : S.1 101 0 (4 * m + i) = 0
    · rw [if_pos h]
      exact fin 0 (bI_n (fun z => z h)).symm
    · rw [if_neg h]
      exact fin 1 (bI_y h).symm
  rw [e]
  rfl
theorem loseM_ok (S : oS) (hN : ∀ k, 0 ≤ (S.1 1046 0 k).toInt) (m : Nat) (hm : m < 61) : f_X9_lose (nI m) S = some (cSum (fun i => knownS (S.1 1046 0) (4 * m + i)) 4, wipe 1046 m S 4) := by
  have hw : (0 : Int32) ≤ nI m ∧ nI m ≤ 60 := ⟨by rw [i_le, nT (by omega)]; show (0 : Int) ≤ _; omega, by rw [i_le, nT (by omega)]; show _ ≤ (60 : Int); omega⟩
  simp only [f_X9_lose, wkM, Option.bind_some, if_pos hw, if10, notesOf_ok S hN m hm]
  have e : ∀ c, oLp (f_X9_lose_L18 (nI m) c) oFu ((0 : Int32), S) = some (wipe 1046 m S 4) := by
    intro c
    refine oLp_eq (fun i => (nI i, wipe 1046 m S i)) _ 4 (by decide) rfl ?_ rfl
    intro i hi
    show (if (4 : Int32) ≤ nI i then _ else _) = _
    rw [if_neg (by rw [nle (m := 4) rfl (by omega)]; omega), n4', if_pos ((nin (by omega)).mpr (by omega)), ncl (by omega)]
    show some (Sum.inl (nI i + 1, _)) = _
    rw [nI_1]
    rfl
  rw [e]
  rfl
theorem wipe_f {t m : Nat} {S : oS} : ∀ (i t' j : Nat), t' ≠ t → (wipe t m S i).1 t' j = S.1 t' j := by
  intro i
  induction i with
  | zero => intro t' j _; rfl
  | succ i ih =>
    intro t' j h
    rw [← ih t' j h]
    exact oStI_ne (fun z => h z.1)
theorem wipe_2 {t m : Nat} {S : oS} : ∀ (i : Nat), (wipe t m S i).2 = S.2 := by
  intro i
  induction i with
  | zero => rfl
  | succ i ih => rw [← ih]; rfl
