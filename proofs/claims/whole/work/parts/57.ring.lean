/-! the reference counts a ring's loaves anew -/
def cmS (S : oS) (o c g : Int32) : oS := oStI (oStI (oStI S 1000 0 53 o) 1000 0 54 c) 1000 0 55 g
theorem cmS_1 {S : oS} {o c g : Int32} (t j k : Nat) : (cmS S o c g).1 t j k = if t = 1000 ∧ j = 0 ∧ k = 55 then g else if t = 1000 ∧ j = 0 ∧ k = 54 then c else if t = 1000 ∧ j = 0 ∧ k = 53 then o else S.1 t j k := rfl
theorem cmS_ext {S T : oS} (h2 : T.2 = S.2) (h : ∀ t j k, T.1 t j k = S.1 t j k) : T = S := Prod.ext (funext fun t => funext fun j => funext fun k => h t j k) h2
theorem cmS_g (S : oS) (o c g g' : Int32) : oStI (cmS S o c g) 1000 0 55 g' = cmS S o c g' := by
  refine cmS_ext rfl (fun t j k => ?_)
  show (if t = 1000 ∧ j = 0 ∧ k = 55 then g' else (cmS S o c g).1 t j k) = _
  rw [cmS_1, cmS_1]
  by_cases h : t = 1000 ∧ j = 0 ∧ k = 55
  · rw [if_pos h, if_pos h]
  · rw [if_neg h, if_neg h, if_neg h]
theorem cmS_c (S : oS) (o c g c' : Int32) : oStI (cmS S o c g) 1000 0 54 c' = cmS S o c' g := by
  refine cmS_ext rfl (fun t j k => ?_)
  show (if t = 1000 ∧ j = 0 ∧ k = 54 then c' else (cmS S o c g).1 t j k) = _
  rw [cmS_1, cmS_1]
  by_cases h : t = 1000 ∧ j = 0 ∧ k = 54
  · rw [if_pos h, if_neg (fun z => by have := z.2.2; have := h.2.2; omega), if_pos h]
  · rw [if_neg h, if_neg h, if_neg h]
theorem cmS_o (S : oS) (o c g o' : Int32) : oStI (cmS S o c g) 1000 0 53 o' = cmS S o' c g := by
  refine cmS_ext rfl (fun t j k => ?_)
  show (if t = 1000 ∧ j = 0 ∧ k = 53 then o' else (cmS S o c g).1 t j k) = _
  rw [cmS_1, cmS_1]
  by_cases h : t = 1000 ∧ j = 0 ∧ k = 53
  · rw [if_pos h, if_neg (fun z => by have := z.2.2; have := h.2.2; omega), if_neg (fun z => by have := z.2.2; have := h.2.2; omega), if_pos h]
  · rw [if_neg h, if_neg h, if_neg h]
def mOn (S : oS) (k : Nat) : Int32 := if S.1 1015 0 k = 1 then 1 else 0
def mCr (S : oS) (k : Nat) : Int32 := if S.1 1016 0 k = 0 then 0 else 1
def mBg (S : oS) (k : Nat) : Int32 := if 1 < S.1 1015 0 k then S.1 1015 0 k else 0
theorem countKind_ok {S : oS} {k : Nat} {o c g : Int32} (hk : k < 8) : f_X9_countKind (nI k) (cmS S o c g) = some (cmS S (o + mOn S k) (c + mCr S k) (g + mBg S k)) := by
  have hin : oIn (nI k) 8 := (nin (by omega)).mpr hk
  have a1 : ∀ o c g : Int32, (cmS S o c g).1 1015 0 (nI k).toNatClampNeg = S.1 1015 0 k := fun o c g => by rw [ncl (by omega)]; rfl
  have a2 : ∀ o c g : Int32, (cmS S o c g).1 1016 0 (nI k).toNatClampNeg = S.1 1016 0 k := fun o c g => by rw [ncl (by omega)]; rfl
  have K43 : ∀ (o x y : Int32), f_X9_countKind_K43 (nI k) x y (cmS S o c g) = some (cmS S o (x + y) (g + mBg S k)) := by
    intro o x y
    unfold f_X9_countKind_K43 f_X9_countKind_K72
    show (if oIn (nI k) 8 then _ else none) = _
    rw [if_pos hin, cmS_c, a1]
    unfold mBg
    by_cases h : S.1 1015 0 k ≤ 1
    · rw [if_pos h, if_neg (by rw [i_lt]; rw [i_le] at h; omega)]
      show some (oStI (cmS S o (x + y) g) 1000 0 55 (g + 0)) = _
      rw [cmS_g]
    · rw [if_neg h, if_pos hin, if_pos (by rw [i_lt]; rw [i_le] at h; omega)]
      show some (oStI (cmS S o (x + y) g) 1000 0 55 (g + S.1 1015 0 k)) = _
      rw [cmS_g]
  have K20 : ∀ (x y : Int32), f_X9_countKind_K20 (nI k) x y (cmS S o c g) = some (cmS S (x + y) (c + mCr S k) (g + mBg S k)) := by
    intro x y
    unfold f_X9_countKind_K20
    show (if oIn (nI k) 8 then _ else none) = _
    rw [if_pos hin, cmS_o, a2]
    unfold mCr
    by_cases h : S.1 1016 0 k = 0
    · rw [if_pos h, if_pos h]
      exact K43 (x + y) c 0
    · rw [if_neg h, if_neg h]
      exact K43 (x + y) c 1
  unfold f_X9_countKind
  rw [if_pos hin, a1]
  unfold mOn
  by_cases h : S.1 1015 0 k = 1
  · rw [if_pos h, if_pos h]
    exact K20 o 1
  · rw [if_neg h, if_neg h]
    exact K20 o 0
/-- a term of a ring's sum, but for one loaf -/
def lB (F : Nat → Int32) (but : Int32) (l : Nat) : Int32 := if nI l = but then 0 else F l
theorem l_parts {S : oS} {q : Int32} {l : Nat} (h : S.1 1027 0 l = q) : lOne S q l = mOn S (S.1 1026 0 l).toNatClampNeg ∧ lCro S q l = mCr S (S.1 1026 0 l).toNatClampNeg ∧ lBig S q l = mBg S (S.1 1026 0 l).toNatClampNeg := by
  unfold lOne lCro lBig mOn mCr mBg
  rw [if_pos h, if_pos h, if_pos h]
  exact ⟨rfl, rfl, rfl⟩
theorem countRing_ok {S : oS} {q but : Int32} {c : Nat} (hc : S.1 1000 0 24 = nI c) (h2 : c ≤ 200) (hk : ∀ l, l < c → ∃ k : Nat, k < 8 ∧ S.1 1026 0 l = nI k) : f_X9_countRing q but S = some (cmS S (cSum (lB (lOne S q) but) c) (cSum (lB (lCro S q) but) c) (cSum (lB (lBig S q) but) c)) := by
  unfold f_X9_countRing f_X9_countNone
  show (oLp (f_X9_countRing_L6 q but) oFu ((0 : Int32), cmS S 0 0 0)).bind _ = _
  have e : oLp (f_X9_countRing_L6 q but) oFu ((0 : Int32), cmS S 0 0 0) = some (cmS S (cSum (lB (lOne S q) but) c) (cSum (lB (lCro S q) but) c) (cSum (lB (lBig S q) but) c)) := by
    refine oLp_eq (fun i => (nI i, cmS S (cSum (lB (lOne S q) but) i) (cSum (lB (lCro S q) but) i) (cSum (lB (lBig S q) but) i))) _ c (by omega) rfl ?_ ?_
    · intro i hi
      have hin : oIn (nI i) 200 := (nin (by omega)).mpr (by omega)
      have a1 : (cmS S (cSum (lB (lOne S q) but) i) (cSum (lB (lCro S q) but) i) (cSum (lB (lBig S q) but) i)).1 1027 0 (nI i).toNatClampNeg = S.1 1027 0 i := by rw [ncl (by omega)]; rfl
      have a2 : (cmS S (cSum (lB (lOne S q) but) i) (cSum (lB (lCro S q) but) i) (cSum (lB (lBig S q) but) i)).1 1026 0 (nI i).toNatClampNeg = S.1 1026 0 i := by rw [ncl (by omega)]; rfl
      show (if S.1 1000 0 24 ≤ nI i then _ else _) = _
      rw [hc, if_neg (by rw [nI_leI (by omega) (by omega)]; omega), if_pos hin, a1]
      have same : lB (lOne S q) but i = 0 → lB (lCro S q) but i = 0 → lB (lBig S q) but i = 0 → (some (Sum.inl (nI i + 1, cmS S (cSum (lB (lOne S q) but) i) (cSum (lB (lCro S q) but) i) (cSum (lB (lBig S q) but) i))) : Option ((Int32 × oS) ⊕ oS)) = some (Sum.inl (nI (i + 1), cmS S (cSum (lB (lOne S q) but) i + lB (lOne S q) but i) (cSum (lB (lCro S q) but) i + lB (lCro S q) but i) (cSum (lB (lBig S q) but) i + lB (lBig S q) but i))) := by
        intro z1 z2 z3
        rw [z1, z2, z3, Int32.add_zero, Int32.add_zero, Int32.add_zero, nI_1]
      by_cases h : S.1 1027 0 i = q
      · rw [if_pos h]
        by_cases hb : nI i = but
        · rw [if_pos hb]
          exact same (if_pos hb) (if_pos hb) (if_pos hb)
        · rw [if_neg hb, if_pos hin, a2]
          obtain ⟨k, k1, k2⟩ := hk i hi
          obtain ⟨p1, p2, p3⟩ := l_parts h
          rw [k2, ncl (by omega)] at p1 p2 p3
          rw [k2, countKind_ok k1]
          show some (Sum.inl (nI i + 1, _)) = some (Sum.inl (nI (i + 1), cmS S (cSum (lB (lOne S q) but) i + lB (lOne S q) but i) (cSum (lB (lCro S q) but) i + lB (lCro S q) but i) (cSum (lB (lBig S q) but) i + lB (lBig S q) but i)))
          have b1 : lB (lOne S q) but i = mOn S k := (if_neg hb).trans p1
          have b2 : lB (lCro S q) but i = mCr S k := (if_neg hb).trans p2
          have b3 : lB (lBig S q) but i = mBg S k := (if_neg hb).trans p3
          rw [b1, b2, b3, nI_1]
      · rw [if_neg h]
        have z : ∀ F : Nat → Int32, F i = 0 → lB F but i = 0 := fun F hF => by
          unfold lB
          by_cases hb : nI i = but
          · rw [if_pos hb]
          · rw [if_neg hb, hF]
        exact same (z _ (if_neg h)) (z _ (if_neg h)) (z _ (if_neg h))
    · show (if S.1 1000 0 24 ≤ nI c then _ else _) = _
      rw [hc, if_pos (by rw [i_le]; exact Int.le_refl _)]
  rw [e]
  rfl
theorem used_ok {S : oS} {o c g : Int32} : f_X9_used (cmS S o c g) = some (usM g o c, cmS S o c g) := by
  unfold f_X9_used f_X9_used_K28 usM
  show (if o ≤ c then some (g + 0, _) else some (g + (o - c), _)) = _
  by_cases h : o ≤ c
  · rw [if_pos h, if_pos h]
  · rw [if_neg h, if_neg h]
theorem roomOf_ok {q : Nat} (S : oS) (hq : q < 4) : f_X9_roomOf (nI q) S = some (oROOM q, S) := by
  have : q = 0 ∨ q = 1 ∨ q = 2 ∨ q = 3 := by omega
  rcases this with rfl | rfl | rfl | rfl <;> rfl
theorem cSum_01 {F : Nat → Int32} : ∀ n : Nat, n ≤ 900 → (∀ k, k < n → F k = 0 ∨ F k = 1) → rg (cSum F n) 0 n := by
  intro n
  induction n with
  | zero => intro _ _; exact (show rg (0 : Int32) 0 0 from ⟨by decide, by decide⟩)
  | succ n ih =>
    intro hn h
    obtain ⟨a, b⟩ := ih (by omega) (fun k hk => h k (by omega))
    show rg (cSum F n + F n) 0 ((n + 1 : Nat) : Int)
    rcases h n (by omega) with z | z
    · rw [z, Int32.add_zero]; exact ⟨a, by omega⟩
    · have e : (cSum F n + F n).toInt = (cSum F n).toInt + 1 := by rw [z]; exact i_add (by show _ ≤ _ + (1 : Int); omega) (by show _ + (1 : Int) ≤ _; omega)
      exact ⟨by omega, by omega⟩
