/-! loads: what stands in a ring -/
def ldS (S : oS) (j : Nat) (b o c : Int32) : oS := oStI (oStI (oStI S 300 j 0 b) 300 j 1 o) 300 j 2 c
theorem ldS_1 {S : oS} {j : Nat} {b o c : Int32} (t j' k : Nat) : (ldS S j b o c).1 t j' k = if t = 300 ∧ j' = j then (if k = 2 then c else if k = 1 then o else if k = 0 then b else S.1 t j' k) else S.1 t j' k := by
  simp only [ldS, oStI]
  by_cases h : t = 300 ∧ j' = j
  · by_cases h2 : k = 2
    · simp [h, h2]
    · by_cases h1 : k = 1
      · simp [h, h1]
      · by_cases h0 : k = 0
        · simp [h, h0]
        · simp [h, h0, h1, h2]
  · have a : ∀ q, ¬ (t = 300 ∧ j' = j ∧ k = q) := fun q z => h ⟨z.1, z.2.1⟩
    simp [a, h]
theorem ldS_eq {S T : oS} {j : Nat} {b o c : Int32} (h2 : T.2 = S.2) (h : ∀ t j' k, T.1 t j' k = if t = 300 ∧ j' = j then (if k = 2 then c else if k = 1 then o else if k = 0 then b else S.1 t j' k) else S.1 t j' k) : T = ldS S j b o c := by
  refine Prod.ext (funext fun t => funext fun j' => funext fun k => ?_) h2
  rw [h, ldS_1]
theorem ldS_self (S : oS) (j : Nat) : ldS S j (S.1 300 j 0) (S.1 300 j 1) (S.1 300 j 2) = S := by
  refine (ldS_eq rfl (fun t j' k => ?_)).symm
  by_cases h : t = 300 ∧ j' = j
  · rw [if_pos h, h.1, h.2]
    by_cases h2 : k = 2
    · rw [if_pos h2, h2]
    · by_cases h1 : k = 1
      · rw [if_neg h2, if_pos h1, h1]
      · by_cases h0 : k = 0
        · rw [if_neg h2, if_neg h1, if_pos h0, h0]
        · rw [if_neg h2, if_neg h1, if_neg h0]
  · rw [if_neg h]
theorem ldS_ldS (S : oS) (j : Nat) (b o c b' o' c' : Int32) : ldS (ldS S j b o c) j b' o' c' = ldS S j b' o' c' := by
  refine ldS_eq rfl (fun t j' k => ?_)
  rw [ldS_1, ldS_1]
  by_cases h : t = 300 ∧ j' = j
  · rw [if_pos h, if_pos h, if_pos h]
    by_cases h2 : k = 2
    · rw [if_pos h2, if_pos h2]
    · by_cases h1 : k = 1
      · rw [if_neg h2, if_pos h1, if_neg h2, if_pos h1]
      · by_cases h0 : k = 0
        · rw [if_neg h2, if_neg h1, if_pos h0, if_neg h2, if_neg h1, if_pos h0]
        · simp [h0, h1, h2]
  · rw [if_neg h, if_neg h, if_neg h]
def kBg (S : oS) (k : Nat) : Int32 := if S.1 201 0 k = 1 then 0 else S.1 201 0 k
def kOn (S : oS) (k : Nat) : Int32 := if S.1 201 0 k = 1 then 1 else 0
def kCr (S : oS) (k : Nat) : Int32 := if S.1 202 0 k = 0 then 0 else 1
theorem change_ok {S : oS} {j k : Nat} {t : Int32} (hk : k < 8) : f_X2_change j (nI k) t S = some (ldS S j (S.1 300 j 0 + t * kBg S k) (S.1 300 j 1 + t * kOn S k) (S.1 300 j 2 + t * kCr S k)) := by
  have hin : oIn (nI k) 8 := (nin (by omega)).mpr hk
  have e1 : S.1 201 0 (nI k).toNatClampNeg = S.1 201 0 k := by rw [ncl (by omega)]
  have fin : ∀ b o : Int32, f_X2_change_K40 j (nI k) t (ldS S j b o (S.1 300 j 2)) = some (ldS S j b o (S.1 300 j 2 + t * kCr S k)) := by
    intro b o
    unfold f_X2_change_K40
    rw [if_pos hin]
    have e2 : (ldS S j b o (S.1 300 j 2)).1 202 0 (nI k).toNatClampNeg = S.1 202 0 k := by rw [ncl (by omega)]; rfl
    have e3 : (ldS S j b o (S.1 300 j 2)).1 300 j 2 = S.1 300 j 2 := by rw [ldS_1, if_pos ⟨rfl, rfl⟩, if_pos rfl]
    rw [e2]
    unfold kCr
    by_cases h : S.1 202 0 k = 0
    · rw [if_pos h, if_pos h]
      congr 2
      grind
    · rw [if_neg h, if_neg h]
      show some (oStI (ldS S j b o (S.1 300 j 2)) 300 j 2 ((ldS S j b o (S.1 300 j 2)).1 300 j 2 + t)) = _
      rw [e3]
      congr 1
      refine ldS_eq rfl (fun t' j' k' => ?_)
      show (if t' = 300 ∧ j' = j ∧ k' = 2 then S.1 300 j 2 + t else (ldS S j b o (S.1 300 j 2)).1 t' j' k') = _
      rw [ldS_1]
      by_cases h1 : t' = 300 ∧ j' = j
      · by_cases h2 : k' = 2
        · rw [if_pos ⟨h1.1, h1.2, h2⟩, if_pos h1, if_pos h2]
          grind
        · rw [if_neg (fun z => h2 z.2.2), if_pos h1, if_neg h2, if_pos h1, if_neg h2]
      · rw [if_neg (fun z => h1 ⟨z.1, z.2.1⟩), if_neg h1, if_neg h1]
  unfold f_X2_change
  rw [if_pos hin, e1]
  unfold kBg kOn
  by_cases h : S.1 201 0 k = 1
  · rw [if_pos h, if_pos h, if_pos h]
    show f_X2_change_K40 j (nI k) t (oStI S 300 j 1 (S.1 300 j 1 + t)) = _
    have e : oStI S 300 j 1 (S.1 300 j 1 + t) = ldS S j (S.1 300 j 0 + t * 0) (S.1 300 j 1 + t * 1) (S.1 300 j 2) := by
      refine ldS_eq rfl (fun t' j' k' => ?_)
      show (if t' = 300 ∧ j' = j ∧ k' = 1 then S.1 300 j 1 + t else S.1 t' j' k') = _
      by_cases h1 : t' = 300 ∧ j' = j
      · rw [if_pos h1, h1.1, h1.2]
        by_cases q1 : k' = 1
        · rw [if_pos ⟨rfl, rfl, q1⟩, q1]
          simp
        · rw [if_neg (fun z => q1 z.2.2)]
          by_cases q2 : k' = 2
          · rw [if_pos q2, q2]
          · by_cases q0 : k' = 0
            · rw [if_neg q2, if_neg q1, if_pos q0, q0]
              simp
            · rw [if_neg q2, if_neg q1, if_neg q0]
      · rw [if_neg (fun z => h1 ⟨z.1, z.2.1⟩), if_neg h1]
    rw [e, fin]
  · rw [if_neg h, if_neg h, if_neg h, if_pos hin]
    show f_X2_change_K40 j (nI k) t (oStI S 300 j 0 (S.1 300 j 0 + t * S.1 201 0 k)) = _
    have e : oStI S 300 j 0 (S.1 300 j 0 + t * S.1 201 0 k) = ldS S j (S.1 300 j 0 + t * S.1 201 0 k) (S.1 300 j 1 + t * 0) (S.1 300 j 2) := by
      refine ldS_eq rfl (fun t' j' k' => ?_)
      show (if t' = 300 ∧ j' = j ∧ k' = 0 then S.1 300 j 0 + t * S.1 201 0 k else S.1 t' j' k') = _
      by_cases h1 : t' = 300 ∧ j' = j
      · rw [if_pos h1, h1.1, h1.2]
        by_cases q0 : k' = 0
        · rw [if_pos ⟨rfl, rfl, q0⟩, q0]
          simp
        · rw [if_neg (fun z => q0 z.2.2)]
          by_cases q2 : k' = 2
          · rw [if_pos q2, q2]
          · by_cases q1 : k' = 1
            · rw [if_neg q2, if_pos q1, q1]
              simp
            · rw [if_neg q2, if_neg q1, if_neg q0]
      · rw [if_neg (fun z => h1 ⟨z.1, z.2.1⟩), if_neg h1]
    rw [e, fin]
/-- places used, by both sides' words -/
def usX (b o c : Int32) : Int32 := b + oMaxI 0 (o - c)
def usM (b o c : Int32) : Int32 := if o ≤ c then b + 0 else b + (o - c)
theorem us_eq {b o c : Int32} (ho : rg o 0 1000) (hc : rg c 0 1000) : usX b o c = usM b o c := by
  obtain ⟨o1, o2⟩ := ho
  obtain ⟨c1, c2⟩ := hc
  have e : (o - c).toInt = o.toInt - c.toInt := i_sub (by omega) (by omega)
  unfold usX usM oMaxI
  by_cases h : o ≤ c
  · rw [if_pos h, if_neg (by rw [i_lt, e]; rw [i_le] at h; show ¬ (0 : Int) < _; omega)]
  · rw [if_neg h, if_pos (by rw [i_lt, e]; rw [i_le] at h; show (0 : Int) < _; omega)]
theorem usedWith_ok {S : oS} {k q : Nat} {t : Int32} (hk : k < 8) (hq : q < 4) : f_X3_usedWith (nI k) (nI q) t S = some (usX (S.1 300 q 0 + t * kBg S k) (S.1 300 q 1 + t * kOn S k) (S.1 300 q 2 + t * kCr S k), S) := by
  unfold f_X3_usedWith
  rw [if_pos ((nin (by omega)).mpr hq)]
  show (f_X2_change (0 + (nI q).toNatClampNeg) (nI k) t S).bind _ = _
  have e0 : 0 + (nI q).toNatClampNeg = q := by rw [ncl (by omega)]; omega
  rw [e0, change_ok hk, Option.bind_some]
  unfold f_X2_used
  rw [Option.bind_some, change_ok hk, Option.bind_some]
  have r0 : ∀ b o c : Int32, (ldS S q b o c).1 300 q 0 = b := fun b o c => by rw [ldS_1, if_pos ⟨rfl, rfl⟩]; rfl
  have r1 : ∀ b o c : Int32, (ldS S q b o c).1 300 q 1 = o := fun b o c => by rw [ldS_1, if_pos ⟨rfl, rfl⟩]; rfl
  have r2 : ∀ b o c : Int32, (ldS S q b o c).1 300 q 2 = c := fun b o c => by rw [ldS_1, if_pos ⟨rfl, rfl⟩]; rfl
  show some (_, ldS (ldS S q _ _ _) q _ _ _) = _
  rw [ldS_ldS, r0, r1, r2]
  have k0 : ∀ b o c : Int32, kBg (ldS S q b o c) k = kBg S k := fun _ _ _ => rfl
  have k1 : ∀ b o c : Int32, kOn (ldS S q b o c) k = kOn S k := fun _ _ _ => rfl
  have k2 : ∀ b o c : Int32, kCr (ldS S q b o c) k = kCr S k := fun _ _ _ => rfl
  rw [k0, k1, k2]
  have a : ∀ x y : Int32, x + t * y + -t * y = x := fun x y => by grind
  rw [a, a, a, ldS_self]
  rfl
