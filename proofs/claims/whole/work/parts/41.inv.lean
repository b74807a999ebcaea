/-! What holds between two calls of the law: the class's cells and the reference's say the same -/
def hSum (h : Nat → Int64) : Nat → Int
  | 0 => 0
  | k + 1 => hSum h k + (h k).toInt
def iMas (n : Nat) (S : oS) : Prop :=
  (S.1 500 0 7 = S.1 1000 0 0 ∧ rg (S.1 1000 0 0) 0 40) ∧
  (∀ k, S.1 502 0 k = S.1 1003 0 k ∧ rg (S.1 1003 0 k) 0 1000) ∧
  (∀ k, S.1 503 0 k = S.1 1004 0 k ∧ rg (S.1 1004 0 k) 0 4) ∧
  (S.1 500 0 6 = S.1 1000 0 4 ∧ rg (S.1 1000 0 4) 0 2) ∧
  (S.1 500 0 5 = S.1 1000 0 5 ∧ rg (S.1 1000 0 5) 0 30) ∧
  (∀ k, S.1 504 0 k = S.1 1007 0 k ∧ rg (S.1 1007 0 k) 0 50) ∧
  (∀ k, S.1 505 0 k = S.1 1008 0 k ∧ rg (S.1 1008 0 k) 0 60) ∧
  (∀ k, k < 12 → S.2 501 0 k = S.2 1002 0 k ∧ 0 ≤ (S.2 1002 0 k).toInt) ∧
  hSum (S.2 1002 0) 12 ≤ 4000 + 600000 * n ∧
  S.2 500 0 8 = S.2 1000 0 8 ∧ S.2 500 0 9 = S.2 1000 0 9
def iSpa (S : oS) : Prop := ∀ k : Nat, (S.1 1019 0 k).toInt ≤ (S.1 1020 0 k).toInt ∧ (S.1 1023 0 k).toInt ≤ (S.1 1024 0 k).toInt
def iDoo (S : oS) : Prop := S.1 900 0 7 = S.1 1000 0 11 ∧ S.1 400 0 12 = S.1 1000 0 12 ∧ oBl (S.1 1000 0 12) ∧ S.2 400 0 11 = S.2 1000 0 10 ∧ iSpa S
def iKin (S : oS) : Prop :=
  (S.1 200 0 10 = S.1 1000 0 13 ∧ rg (S.1 1000 0 13) 0 8) ∧
  (∀ k, S.1 201 0 k = S.1 1015 0 k ∧ S.1 202 0 k = S.1 1016 0 k ∧ S.1 203 0 k = S.1 1017 0 k ∧ S.1 204 0 k = S.1 1018 0 k ∧ S.1 205 0 k = S.1 1019 0 k ∧ S.1 206 0 k = S.1 1020 0 k ∧ S.1 207 0 k = S.1 1021 0 k ∧ S.1 208 0 k = S.1 1022 0 k ∧ S.1 209 0 k = S.1 1023 0 k ∧ S.1 210 0 k = S.1 1024 0 k) ∧
  (∀ k : Nat, (S.1 1000 0 13).toInt ≤ k → S.1 1022 0 k = 0) ∧
  ∀ k : Nat, oBl (S.1 1016 0 k) ∧ ((k : Int) < (S.1 1000 0 13).toInt → rg (S.1 1015 0 k) 1 3 ∧ (S.1 1016 0 k = 1 → 2 ≤ (S.1 1015 0 k).toInt))
def iPla (S : oS) : Prop :=
  (S.1 600 0 10 = S.1 1000 0 32 ∧ rg (S.1 1000 0 32) 0 4) ∧
  (S.1 600 0 11 = S.1 1000 0 34 ∧ rg (S.1 1000 0 34) 0 3) ∧
  (∀ k : Nat, (k : Int) < (S.1 1000 0 32).toInt → S.1 604 0 k = S.1 1034 0 k ∧ 0 ≤ (S.1 1034 0 k).toInt ∧ (S.1 1034 0 k).toInt < (S.1 1000 0 13).toInt) ∧
  (∀ k : Nat, (k : Int) < (S.1 1000 0 34).toInt → S.1 605 0 k = S.1 1036 0 k ∧ rg (S.1 1036 0 k) k 40) ∧
  (∀ k : Nat, (k : Int) + 1 < (S.1 1000 0 34).toInt → (S.1 1036 0 k).toInt < (S.1 1036 0 (k + 1)).toInt) ∧
  ∀ j k : Nat, 4 ≤ j → j < 12 → k < 3 → S.1 300 j k = 0
def iTur (S : oS) : Prop :=
  (S.1 700 0 5 = S.1 1000 0 40 ∧ rg (S.1 1000 0 40) 0 30) ∧
  (S.1 700 0 6 = S.1 1000 0 36 ∧ rg (S.1 1000 0 36) 2 8) ∧
  (S.1 700 0 7 = S.1 1000 0 37 ∧ oBl (S.1 1000 0 37)) ∧
  (S.1 700 0 8 = S.1 1000 0 38 ∧ 0 ≤ (S.1 1000 0 38).toInt) ∧
  (S.1 700 0 9 = S.1 1000 0 39 ∧ rg (S.1 1000 0 39) 1 8) ∧
  (∀ k : Nat, (k : Int) < (S.1 1000 0 40).toInt → S.1 701 0 k = S.1 1042 0 k ∧ S.1 702 0 k = S.1 1043 0 k ∧ S.1 703 0 k = S.1 1044 0 k ∧ S.1 704 0 k = S.1 1045 0 k ∧ 0 ≤ (S.1 1043 0 k).toInt ∧ (S.1 1043 0 k).toInt < (S.1 1000 0 36).toInt ∧ 0 ≤ (S.1 1044 0 k).toInt ∧ (S.1 1044 0 k).toInt < (S.1 1000 0 36).toInt ∧ S.1 1043 0 k ≠ S.1 1044 0 k ∧ oBl (S.1 1045 0 k))
def iBoo (S : oS) : Prop :=
  (∀ k, S.1 101 0 k = S.1 1046 0 k ∧ rg (S.1 1046 0 k) 0 3) ∧
  (S.1 100 0 3 = S.1 1000 0 46 ∧ rg (S.1 1000 0 46) 0 10) ∧
  ∀ k : Nat, (k : Int) < (S.1 1000 0 46).toInt → S.1 102 0 k = S.1 1048 0 k ∧ S.1 103 0 k = S.1 1049 0 k ∧ rg (S.1 1048 0 k) 0 3 ∧ rg (S.1 1049 0 k) 0 60
/-- sums over the loaves -/
def cSum (f : Nat → Int32) : Nat → Int32
  | 0 => 0
  | k + 1 => cSum f k + f k
def lIn (S : oS) (l : Nat) : Int32 := if S.1 1027 0 l = -1 then 0 else 1
def lBig (S : oS) (q : Int32) (l : Nat) : Int32 := if S.1 1027 0 l = q then (if 1 < S.1 1015 0 (S.1 1026 0 l).toNatClampNeg then S.1 1015 0 (S.1 1026 0 l).toNatClampNeg else 0) else 0
def lOne (S : oS) (q : Int32) (l : Nat) : Int32 := if S.1 1027 0 l = q then (if S.1 1015 0 (S.1 1026 0 l).toNatClampNeg = 1 then 1 else 0) else 0
def lCro (S : oS) (q : Int32) (l : Nat) : Int32 := if S.1 1027 0 l = q then (if S.1 1016 0 (S.1 1026 0 l).toNatClampNeg = 0 then 0 else 1) else 0
def iLoa (S : oS) : Prop :=
  (S.1 400 0 8 = S.1 1000 0 24 ∧ rg (S.1 1000 0 24) 0 200) ∧
  (∀ k, S.1 403 0 k = S.1 1026 0 k ∧ S.1 404 0 k = S.1 1027 0 k ∧ S.1 405 0 k = S.1 1028 0 k ∧ S.1 406 0 k = S.1 1029 0 k ∧ S.1 407 0 k = S.1 1030 0 k ∧ S.1 408 0 k = S.1 1031 0 k) ∧
  S.1 400 0 10 = S.1 1000 0 31 ∧
  (∀ k : Nat, (k : Int) < (S.1 1000 0 24).toInt → 0 ≤ (S.1 1026 0 k).toInt ∧ (S.1 1026 0 k).toInt < (S.1 1000 0 13).toInt ∧ rg (S.1 1027 0 k) (-1) 3) ∧
  (S.1 400 0 9 = cSum (lIn S) (S.1 1000 0 24).toInt.toNat ∧ rg (S.1 400 0 9) 0 12) ∧
  ∀ q : Nat, q < 4 → S.1 300 q 0 = cSum (lBig S (nI q)) (S.1 1000 0 24).toInt.toNat ∧ S.1 300 q 1 = cSum (lOne S (nI q)) (S.1 1000 0 24).toInt.toNat ∧ S.1 300 q 2 = cSum (lCro S (nI q)) (S.1 1000 0 24).toInt.toNat
def Inv (n : Nat) (S : oS) : Prop := iMas n S ∧ iDoo S ∧ iKin S ∧ iLoa S ∧ iPla S ∧ iTur S ∧ iBoo S
def oPair (n : Nat) (fx fm : oS → Option (Int32 × oS)) : Prop := ∀ S, Inv n S → ∃ r S1 S2, fx S = some (r, S1) ∧ fm S1 = some (r, S2) ∧ Inv (n + 1) S2
def oPairL (n : Nat) (fx fm : oS → Option (Int64 × oS)) : Prop := ∀ S, Inv n S → ∃ r S1 S2, fx S = some (r, S1) ∧ fm S1 = some (r, S2) ∧ Inv (n + 1) S2
theorem iMas.up {n : Nat} {S : oS} (h : iMas n S) : iMas (n + 1) S := by
  obtain ⟨a, b, c, d, e, f, g, i, j, k⟩ := h
  exact ⟨a, b, c, d, e, f, g, i, by omega, k⟩
theorem Inv.up {n : Nat} {S : oS} (h : Inv n S) : Inv (n + 1) S := ⟨h.1.up, h.2⟩
/-- guards -/
theorem wX (a b c : Int32) (S : oS) : f_X8_within a b c S = some (if b ≤ a ∧ a ≤ c then 1 else 0, S) := by
  unfold f_X8_within
  by_cases h1 : a < b
  · rw [if_pos h1, if_neg (fun h => by rw [i_lt] at h1; rw [i_le] at h; omega)]
  · rw [if_neg h1]
    by_cases h2 : c < a
    · rw [if_pos h2, if_neg (fun h => by rw [i_lt] at h2; rw [i_le, i_le] at h; omega)]
    · rw [if_neg h2, if_pos ⟨by rw [i_lt] at h1; rw [i_le]; omega, by rw [i_lt] at h2; rw [i_le]; omega⟩]
theorem wM (a b c : Int32) (S : oS) : f_X9_in a b c S = some (if b ≤ a ∧ a ≤ c then 1 else 0, S) := wX a b c S
theorem rgX (a : Int32) (S : oS) : f_X8_isRing a S = some (if 0 ≤ a ∧ a ≤ 3 then 1 else 0, S) := by
  unfold f_X8_isRing
  rw [wX]
  by_cases h : (0 : Int32) ≤ a ∧ a ≤ 3 <;> simp [h]
theorem rgM (a : Int32) (S : oS) : f_X9_isRing a S = some (if 0 ≤ a ∧ a ≤ 3 then 1 else 0, S) := by
  unfold f_X9_isRing
  rw [wM]
  by_cases h : (0 : Int32) ≤ a ∧ a ≤ 3 <;> simp [h]
theorem wkX (a : Int32) (S : oS) : f_X8_isWeek a S = some (if 0 ≤ a ∧ a ≤ 60 then 1 else 0, S) := by
  unfold f_X8_isWeek
  rw [wX]
  by_cases h : (0 : Int32) ≤ a ∧ a ≤ 60 <;> simp [h]
theorem wkM (a : Int32) (S : oS) : f_X9_isWeek a S = some (if 0 ≤ a ∧ a ≤ 60 then 1 else 0, S) := by
  unfold f_X9_isWeek
  rw [wM]
  by_cases h : (0 : Int32) ≤ a ∧ a ≤ 60 <;> simp [h]
