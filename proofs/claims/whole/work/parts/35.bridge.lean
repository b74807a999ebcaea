def oAl : List (Nat × Nat) := [(900, 0), (500, 0), (501, 0), (502, 0), (503, 0), (504, 0), (505, 0), (200, 0), (201, 0), (202, 0), (203, 0), (204, 0), (205, 0), (206, 0), (207, 0), (208, 0), (209, 0), (210, 0), (400, 0), (402, 0), (403, 0), (404, 0), (405, 0), (406, 0), (407, 0), (408, 0), (300, 0), (300, 1), (300, 2), (300, 3), (600, 0), (500, 1), (501, 1), (502, 1), (503, 1), (504, 1), (505, 1), (603, 0), (604, 0), (605, 0), (606, 0), (607, 0), (608, 0), (609, 0), (610, 0), (300, 4), (300, 5), (300, 6), (300, 7), (300, 8), (300, 9), (300, 10), (300, 11), (800, 0), (500, 2), (501, 2), (502, 2), (503, 2), (504, 2), (505, 2), (500, 3), (501, 3), (502, 3), (503, 3), (504, 3), (505, 3), (700, 0), (701, 0), (702, 0), (703, 0), (704, 0), (705, 0), (100, 0), (101, 0), (102, 0), (103, 0), (1000, 0), (1002, 0), (1003, 0), (1004, 0), (1007, 0), (1008, 0), (1015, 0), (1016, 0), (1017, 0), (1018, 0), (1019, 0), (1020, 0), (1021, 0), (1022, 0), (1023, 0), (1024, 0), (1026, 0), (1027, 0), (1028, 0), (1029, 0), (1030, 0), (1031, 0), (1034, 0), (1036, 0), (1042, 0), (1043, 0), (1044, 0), (1045, 0), (1046, 0), (1048, 0), (1049, 0), (1050, 0), (1051, 0), (1052, 0), (1057, 0), (1059, 0), (1060, 0), (1061, 0), (1062, 0), (1063, 0), (1065, 0)]
def kWs (cA : Nat → ClassId) (z : Nat → Nat) : va_W := [(z 0, .inr (8, [.ref (z 1), .ref (z 7), .ref (z 18), .ref (z 30), .ref (z 53), .ref (z 66), .ref (z 72), .int 0])),
  (z 1, .inr (4, [.ref (z 2), .ref (z 3), .ref (z 4), .ref (z 5), .ref (z 6), .int 0, .int 0, .int 10, .long 0, .long 0])),
  (z 2, .inl (cA 1, 12, .inr (.inl (oHe 12)))),
  (z 3, .inl (cA 0, 4, .inl (fun _ => 0))),
  (z 4, .inl (cA 0, 4, .inl (fun _ => 0))),
  (z 5, .inl (cA 0, 30, .inl (fun _ => 0))),
  (z 6, .inl (cA 0, 30, .inl (fun _ => 0))),
  (z 7, .inr (1, [.ref (z 8), .ref (z 9), .ref (z 10), .ref (z 11), .ref (z 12), .ref (z 13), .ref (z 14), .ref (z 15), .ref (z 16), .ref (z 17), .int 0])),
  (z 8, .inl (cA 0, 8, .inl (fun _ => 0))),
  (z 9, .inl (cA 2, 8, .inl (fun _ => 0))),
  (z 10, .inl (cA 0, 8, .inl (fun _ => 0))),
  (z 11, .inl (cA 0, 8, .inl (fun _ => 0))),
  (z 12, .inl (cA 0, 8, .inl (fun _ => 0))),
  (z 13, .inl (cA 0, 8, .inl (fun _ => 0))),
  (z 14, .inl (cA 0, 8, .inl (fun _ => 0))),
  (z 15, .inl (cA 0, 8, .inl (fun _ => 0))),
  (z 16, .inl (cA 0, 8, .inl (fun _ => 0))),
  (z 17, .inl (cA 0, 8, .inl (fun _ => 0))),
  (z 18, .inr (3, [.ref (z 7), .ref (z 19), .ref (z 20), .ref (z 21), .ref (z 22), .ref (z 23), .ref (z 24), .ref (z 25), .int 0, .int 0, .int 0, .long 0, .int 0])),
  (z 19, .inl (cA 3, 4, .inr (.inr (.inr (.inr (va_up (va_up (va_up (va_up (fun _ => none) 0 (some (z 26))) 1 (some (z 27))) 2 (some (z 28))) 3 (some (z 29)))))))),
  (z 20, .inl (cA 0, 200, .inl (fun _ => 0))),
  (z 21, .inl (cA 0, 200, .inl (fun _ => 0))),
  (z 22, .inl (cA 0, 200, .inl (fun _ => 0))),
  (z 23, .inl (cA 0, 200, .inl (fun _ => 0))),
  (z 24, .inl (cA 0, 200, .inl (fun _ => 0))),
  (z 25, .inl (cA 0, 200, .inl (fun _ => 0))),
  (z 26, .inr (2, [.int 0, .int 0, .int 0])),
  (z 27, .inr (2, [.int 0, .int 0, .int 0])),
  (z 28, .inr (2, [.int 0, .int 0, .int 0])),
  (z 29, .inr (2, [.int 0, .int 0, .int 0])),
  (z 30, .inr (5, [.ref (z 7), .ref (z 31), .ref (z 37), .ref (z 38), .ref (z 39), .ref (z 40), .ref (z 41), .ref (z 42), .ref (z 43), .ref (z 44), .int 0, .int 0, .int 0, .int 0, .int 0])),
  (z 31, .inr (4, [.ref (z 32), .ref (z 33), .ref (z 34), .ref (z 35), .ref (z 36), .int 0, .int 0, .int 10, .long 0, .long 0])),
  (z 32, .inl (cA 1, 12, .inr (.inl (oHe 12)))),
  (z 33, .inl (cA 0, 4, .inl (fun _ => 0))),
  (z 34, .inl (cA 0, 4, .inl (fun _ => 0))),
  (z 35, .inl (cA 0, 30, .inl (fun _ => 0))),
  (z 36, .inl (cA 0, 30, .inl (fun _ => 0))),
  (z 37, .inl (cA 1, 160, .inr (.inl (oHe 0)))),
  (z 38, .inl (cA 0, 4, .inl (fun _ => 0))),
  (z 39, .inl (cA 0, 3, .inl (fun _ => 0))),
  (z 40, .inl (cA 2, 48, .inl (fun _ => 0))),
  (z 41, .inl (cA 0, 5, .inl (fun _ => 0))),
  (z 42, .inl (cA 3, 8, .inr (.inr (.inr (.inr (va_up (va_up (va_up (va_up (va_up (va_up (va_up (va_up (fun _ => none) 0 (some (z 45))) 1 (some (z 46))) 2 (some (z 47))) 3 (some (z 48))) 4 (some (z 49))) 5 (some (z 50))) 6 (some (z 51))) 7 (some (z 52)))))))),
  (z 43, .inl (cA 0, 4, .inl (fun _ => 0))),
  (z 44, .inl (cA 0, 4, .inl (fun _ => 0))),
  (z 45, .inr (2, [.int 0, .int 0, .int 0])),
  (z 46, .inr (2, [.int 0, .int 0, .int 0])),
  (z 47, .inr (2, [.int 0, .int 0, .int 0])),
  (z 48, .inr (2, [.int 0, .int 0, .int 0])),
  (z 49, .inr (2, [.int 0, .int 0, .int 0])),
  (z 50, .inr (2, [.int 0, .int 0, .int 0])),
  (z 51, .inr (2, [.int 0, .int 0, .int 0])),
  (z 52, .inr (2, [.int 0, .int 0, .int 0])),
  (z 53, .inr (7, [.ref (z 54), .ref (z 60)])),
  (z 54, .inr (4, [.ref (z 55), .ref (z 56), .ref (z 57), .ref (z 58), .ref (z 59), .int 0, .int 0, .int 10, .long 0, .long 0])),
  (z 55, .inl (cA 1, 12, .inr (.inl (oHe 12)))),
  (z 56, .inl (cA 0, 4, .inl (fun _ => 0))),
  (z 57, .inl (cA 0, 4, .inl (fun _ => 0))),
  (z 58, .inl (cA 0, 30, .inl (fun _ => 0))),
  (z 59, .inl (cA 0, 30, .inl (fun _ => 0))),
  (z 60, .inr (4, [.ref (z 61), .ref (z 62), .ref (z 63), .ref (z 64), .ref (z 65), .int 0, .int 0, .int 10, .long 0, .long 0])),
  (z 61, .inl (cA 1, 12, .inr (.inl (oHe 12)))),
  (z 62, .inl (cA 0, 4, .inl (fun _ => 0))),
  (z 63, .inl (cA 0, 4, .inl (fun _ => 0))),
  (z 64, .inl (cA 0, 30, .inl (fun _ => 0))),
  (z 65, .inl (cA 0, 30, .inl (fun _ => 0))),
  (z 66, .inr (6, [.ref (z 67), .ref (z 68), .ref (z 69), .ref (z 70), .ref (z 71), .int 0, .int 4, .int 0, .int 0, .int 3])),
  (z 67, .inl (cA 0, 30, .inl (fun _ => 0))),
  (z 68, .inl (cA 0, 30, .inl (fun _ => 0))),
  (z 69, .inl (cA 0, 30, .inl (fun _ => 0))),
  (z 70, .inl (cA 2, 30, .inl (fun _ => 0))),
  (z 71, .inl (cA 0, 8, .inl (fun _ => 0))),
  (z 72, .inr (0, [.ref (z 73), .ref (z 74), .ref (z 75), .int 0, .int 0, .int 0, .int 0, .int 0])),
  (z 73, .inl (cA 0, 244, .inl (fun _ => 0))),
  (z 74, .inl (cA 0, 10, .inl (fun _ => 0))),
  (z 75, .inl (cA 0, 10, .inl (fun _ => 0))),
  (z 76, .inr (9, [.int 10, .ref (z 77), .ref (z 78), .ref (z 79), .int 0, .int 0, .ref (z 80), .ref (z 81), .long 0, .long 0, .long 0, .int 0, .int 0, .int 0, .ref (z 82), .ref (z 83), .ref (z 84), .ref (z 85), .ref (z 86), .ref (z 87), .ref (z 88), .ref (z 89), .ref (z 90), .ref (z 91), .int 0, .ref (z 92), .ref (z 93), .ref (z 94), .ref (z 95), .ref (z 96), .ref (z 97), .int 0, .int 0, .ref (z 98), .int 0, .ref (z 99), .int 4, .int 0, .int 0, .int 3, .int 0, .ref (z 100), .ref (z 101), .ref (z 102), .ref (z 103), .ref (z 104), .int 0, .ref (z 105), .ref (z 106), .ref (z 107), .ref (z 108), .ref (z 109), .long 0, .int 0, .int 0, .int 0, .ref (z 110), .int 0, .ref (z 111), .ref (z 112), .ref (z 113), .ref (z 114), .ref (z 115), .int 0, .ref (z 116)])),
  (z 77, .inl (cA 1, 12, .inr (.inl (oHe 12)))),
  (z 78, .inl (cA 0, 4, .inl (fun _ => 0))),
  (z 79, .inl (cA 0, 4, .inl (fun _ => 0))),
  (z 80, .inl (cA 0, 30, .inl (fun _ => 0))),
  (z 81, .inl (cA 0, 30, .inl (fun _ => 0))),
  (z 82, .inl (cA 0, 8, .inl (fun _ => 0))),
  (z 83, .inl (cA 2, 8, .inl (fun _ => 0))),
  (z 84, .inl (cA 0, 8, .inl (fun _ => 0))),
  (z 85, .inl (cA 0, 8, .inl (fun _ => 0))),
  (z 86, .inl (cA 0, 8, .inl (fun _ => 0))),
  (z 87, .inl (cA 0, 8, .inl (fun _ => 0))),
  (z 88, .inl (cA 0, 8, .inl (fun _ => 0))),
  (z 89, .inl (cA 0, 8, .inl (fun _ => 0))),
  (z 90, .inl (cA 0, 8, .inl (fun _ => 0))),
  (z 91, .inl (cA 0, 8, .inl (fun _ => 0))),
  (z 92, .inl (cA 0, 200, .inl (fun _ => 0))),
  (z 93, .inl (cA 0, 200, .inl (fun _ => 0))),
  (z 94, .inl (cA 0, 200, .inl (fun _ => 0))),
  (z 95, .inl (cA 0, 200, .inl (fun _ => 0))),
  (z 96, .inl (cA 0, 200, .inl (fun _ => 0))),
  (z 97, .inl (cA 0, 200, .inl (fun _ => 0))),
  (z 98, .inl (cA 0, 4, .inl (fun _ => 0))),
  (z 99, .inl (cA 0, 4, .inl (fun _ => 0))),
  (z 100, .inl (cA 0, 30, .inl (fun _ => 0))),
  (z 101, .inl (cA 0, 30, .inl (fun _ => 0))),
  (z 102, .inl (cA 0, 30, .inl (fun _ => 0))),
  (z 103, .inl (cA 2, 30, .inl (fun _ => 0))),
  (z 104, .inl (cA 0, 244, .inl (fun _ => 0))),
  (z 105, .inl (cA 0, 10, .inl (fun _ => 0))),
  (z 106, .inl (cA 0, 10, .inl (fun _ => 0))),
  (z 107, .inl (cA 1, 12, .inr (.inl (oHe 0)))),
  (z 108, .inl (cA 1, 12, .inr (.inl (oHe 0)))),
  (z 109, .inl (cA 0, 4, .inl (fun _ => 0))),
  (z 110, .inl (cA 1, 164, .inr (.inl (oHe 0)))),
  (z 111, .inl (cA 0, 13, .inl (fun _ => 0))),
  (z 112, .inl (cA 0, 13, .inl (fun _ => 0))),
  (z 113, .inl (cA 0, 13, .inl (fun _ => 0))),
  (z 114, .inl (cA 2, 52, .inl (fun _ => 0))),
  (z 115, .inl (cA 0, 4, .inl (fun _ => 0))),
  (z 116, .inl (cA 0, 8, .inl (fun _ => 0)))]
def kAd (z sA : Nat → Nat) : Nat → Nat → Nat := fun t j => if 2000 ≤ t then sA (t - 2000) else z (oAl.idxOf (t, j))
def oS0 : oS := (fun t _ k => if t = 500 ∧ k = 7 then 10 else if t = 700 ∧ k = 6 then 4 else if t = 700 ∧ k = 9 then 3 else if t = 1000 ∧ k = 0 then 10 else if t = 1000 ∧ k = 36 then 4 else if t = 1000 ∧ k = 39 then 3 else 0, fun t _ k => if t = 501 ∨ t = 1002 then oHe 12 k else 0)
theorem kAd_at {z sA : Nat → Nat} {t j i : Nat} (h : oAl.idxOf (t, j) = i) (ht : t < 2000) : kAd z sA t j = z i := by
  unfold kAd
  rw [if_neg (by omega), h]
theorem oAl_all : ∀ q ∈ oIds, q ∈ oAl ∧ q.1 < 2000 := by decide +kernel
theorem kWs_at (cA : Nat → ClassId) (z : Nat → Nat) : ∀ i, i < 117 → ∃ e, (kWs cA z)[i]? = some (z i, e) := (lt_s (lt_s (lt_s (lt_s (lt_s (lt_s (lt_s (lt_s (lt_s (lt_s (lt_s (lt_s (lt_s (lt_s (lt_s (lt_s (lt_s (lt_s (lt_s (lt_s (lt_s (lt_s (lt_s (lt_s (lt_s (lt_s (lt_s (lt_s (lt_s (lt_s (lt_s (lt_s (lt_s (lt_s (lt_s (lt_s (lt_s (lt_s (lt_s (lt_s (lt_s (lt_s (lt_s (lt_s (lt_s (lt_s (lt_s (lt_s (lt_s (lt_s (lt_s (lt_s (lt_s (lt_s (lt_s (lt_s (lt_s (lt_s (lt_s (lt_s (lt_s (lt_s (lt_s (lt_s (lt_s (lt_s (lt_s (lt_s (lt_s (lt_s (lt_s (lt_s (lt_s (lt_s (lt_s (lt_s (lt_s (lt_s (lt_s (lt_s (lt_s (lt_s (lt_s (lt_s (lt_s (lt_s (lt_s (lt_s (lt_s (lt_s (lt_s (lt_s (lt_s (lt_s (lt_s (lt_s (lt_s (lt_s (lt_s (lt_s (lt_s (lt_s (lt_s (lt_s (lt_s (lt_s (lt_s (lt_s (lt_s (lt_s (lt_s (lt_s (lt_s (lt_s (lt_s (lt_s (lt_s lt_0 ⟨_, rfl⟩) ⟨_, rfl⟩) ⟨_, rfl⟩) ⟨_, rfl⟩) ⟨_, rfl⟩) ⟨_, rfl⟩) ⟨_, rfl⟩) ⟨_, rfl⟩) ⟨_, rfl⟩) ⟨_, rfl⟩) ⟨_, rfl⟩) ⟨_, rfl⟩) ⟨_, rfl⟩) ⟨_, rfl⟩) ⟨_, rfl⟩) ⟨_, rfl⟩) ⟨_, rfl⟩) ⟨_, rfl⟩) ⟨_, rfl⟩) ⟨_, rfl⟩) ⟨_, rfl⟩) ⟨_, rfl⟩) ⟨_, rfl⟩) ⟨_, rfl⟩) ⟨_, rfl⟩) ⟨_, rfl⟩) ⟨_, rfl⟩) ⟨_, rfl⟩) ⟨_, rfl⟩) ⟨_, rfl⟩) ⟨_, rfl⟩) ⟨_, rfl⟩) ⟨_, rfl⟩) ⟨_, rfl⟩) ⟨_, rfl⟩) ⟨_, rfl⟩) ⟨_, rfl⟩) ⟨_, rfl⟩) ⟨_, rfl⟩) ⟨_, rfl⟩) ⟨_, rfl⟩) ⟨_, rfl⟩) ⟨_, rfl⟩) ⟨_, rfl⟩) ⟨_, rfl⟩) ⟨_, rfl⟩) ⟨_, rfl⟩) ⟨_, rfl⟩) ⟨_, rfl⟩) ⟨_, rfl⟩) ⟨_, rfl⟩) ⟨_, rfl⟩) ⟨_, rfl⟩) ⟨_, rfl⟩) ⟨_, rfl⟩) ⟨_, rfl⟩) ⟨_, rfl⟩) ⟨_, rfl⟩) ⟨_, rfl⟩) ⟨_, rfl⟩) ⟨_, rfl⟩) ⟨_, rfl⟩) ⟨_, rfl⟩) ⟨_, rfl⟩) ⟨_, rfl⟩) ⟨_, rfl⟩) ⟨_, rfl⟩) ⟨_, rfl⟩) ⟨_, rfl⟩) ⟨_, rfl⟩) ⟨_, rfl⟩) ⟨_, rfl⟩) ⟨_, rfl⟩) ⟨_, rfl⟩) ⟨_, rfl⟩) ⟨_, rfl⟩) ⟨_, rfl⟩) ⟨_, rfl⟩) ⟨_, rfl⟩) ⟨_, rfl⟩) ⟨_, rfl⟩) ⟨_, rfl⟩) ⟨_, rfl⟩) ⟨_, rfl⟩) ⟨_, rfl⟩) ⟨_, rfl⟩) ⟨_, rfl⟩) ⟨_, rfl⟩) ⟨_, rfl⟩) ⟨_, rfl⟩) ⟨_, rfl⟩) ⟨_, rfl⟩) ⟨_, rfl⟩) ⟨_, rfl⟩) ⟨_, rfl⟩) ⟨_, rfl⟩) ⟨_, rfl⟩) ⟨_, rfl⟩) ⟨_, rfl⟩) ⟨_, rfl⟩) ⟨_, rfl⟩) ⟨_, rfl⟩) ⟨_, rfl⟩) ⟨_, rfl⟩) ⟨_, rfl⟩) ⟨_, rfl⟩) ⟨_, rfl⟩) ⟨_, rfl⟩) ⟨_, rfl⟩) ⟨_, rfl⟩) ⟨_, rfl⟩) ⟨_, rfl⟩) ⟨_, rfl⟩) ⟨_, rfl⟩) ⟨_, rfl⟩) ⟨_, rfl⟩) ⟨_, rfl⟩)
theorem kAd_in {cA : Nat → ClassId} {z sA : Nat → Nat} {A : Nat → Prop} (hD : va_D A (kWs cA z)) {t j : Nat} (h : j < oCnt t) : A (kAd z sA t j) := by
  obtain ⟨h1, h2⟩ := oAl_all _ (oIds_mem h)
  rw [kAd_at rfl h2]
  obtain ⟨e, he⟩ := kWs_at cA z (oAl.idxOf (t, j)) (List.idxOf_lt_length_of_mem h1)
  exact hD.2 _ _ he
theorem kInj {D : va_G} {cA : Nat → ClassId} {z sA : Nat → Nat} {A : Nat → Prop} (hD : va_D A (kWs cA z)) : oInj (D, kAd z sA, cA) := by
  intro t j t' j' h h' he
  obtain ⟨h1, h2⟩ := oAl_all _ (oIds_mem h)
  obtain ⟨g1, g2⟩ := oAl_all _ (oIds_mem h')
  have he : kAd z sA t j = kAd z sA t' j' := he
  rw [kAd_at rfl h2, kAd_at rfl g2] at he
  obtain ⟨e, q1⟩ := kWs_at cA z (oAl.idxOf (t, j)) (List.idxOf_lt_length_of_mem h1)
  obtain ⟨e', q2⟩ := kWs_at cA z (oAl.idxOf (t', j')) (List.idxOf_lt_length_of_mem g1)
  have e3 := hD.1 _ _ _ _ q1 q2 he
  have a1 := List.getElem_idxOf (List.idxOf_lt_length_of_mem h1)
  have a2 := List.getElem_idxOf (List.idxOf_lt_length_of_mem g1)
  have a3 : (t, j) = (t', j') := by
    rw [← a1, ← a2]
    congr 1
  exact ⟨congrArg Prod.fst a3, congrArg Prod.snd a3⟩
theorem arrV_cg {c : ClassId} {N : Nat} {f g : Nat → Value} (h : ∀ j, j < N → f j = g j) : arrV c N f = arrV c N g := by
  unfold arrV
  have : (fun j : Fin N => f j.val) = fun j : Fin N => g j.val := funext fun j => h j.val j.isLt
  rw [this]
theorem kObj {D : va_G} {G : oG} {H : Heap} {t j ci N a a' : Nat} {C : String} {Tt : u_T} {fs : List Value} {S : oS} (h : va_at D vwCl (a, .inr (ci, fs)) H) (ha : a' = a) (hk : oKd t = (1, ci, N)) (hc : vwCl[ci]? = some (C, Tt, N)) (hf : ∀ k, k < N → vp_V fs k = oFv G S t j k) : va_at D vwCl (a', oCell G S t j) H := by
  subst ha
  rw [oCell_obj hk]
  obtain ⟨r, h1, h2⟩ := h
  have hr : r = (C, Tt, N) := Option.some.inj (h1.symm.trans hc)
  subst hr
  refine ⟨_, hc, h2.to (fun k hk => ?_)⟩
  rw [hf k hk]
  show _ = (((List.range N).map (oFv G S t j)).getD k .null)
  rw [List.getD_eq_getElem?_getD, oGetV hk]
  rfl
theorem kArr {D : va_G} {H : Heap} {a a' : Nat} {x : ClassId × vp_A} {c : va_E} (h : va_at D vwCl (a, .inl x) H) (ha : a' = a) (hc : c = .inl x) : va_at D vwCl (a', c) H := by
  subst ha
  subst hc
  exact h
theorem kLds {D : va_G} {G : oG} {S : oS} {H : Heap} {t j n b a a' : Nat} {f : Nat → Option Nat} (h : va_at D vwCl (a, .inl (G.2.2 3, n, .inr (.inr (.inr (.inr f))))) H) (ha : a' = a) (hk : oKd t = (5, n, b)) (hf : ∀ i, i < n → f i = some (G.2.1 300 (b + i))) : va_at D vwCl (a', oCell G S t j) H := by
  subst ha
  rw [oCell_R hk]
  have h : H[a']? = some (vp_cell (G.2.2 3) (n, .inr (.inr (.inr (.inr f))))) := h
  show H[a']? = some (vp_cell (G.2.2 3) (n, .inr (.inr (.inr (.inr _)))))
  rw [h, vp_cell_q, vp_cell_q, arrV_cg (fun i hi => by rw [hf i hi])]
theorem po_900_0 : oAl.idxOf (900, 0) = 0 := by decide +kernel
theorem po_500_0 : oAl.idxOf (500, 0) = 1 := by decide +kernel
theorem po_501_0 : oAl.idxOf (501, 0) = 2 := by decide +kernel
theorem po_502_0 : oAl.idxOf (502, 0) = 3 := by decide +kernel
theorem po_503_0 : oAl.idxOf (503, 0) = 4 := by decide +kernel
theorem po_504_0 : oAl.idxOf (504, 0) = 5 := by decide +kernel
theorem po_505_0 : oAl.idxOf (505, 0) = 6 := by decide +kernel
theorem po_200_0 : oAl.idxOf (200, 0) = 7 := by decide +kernel
theorem po_201_0 : oAl.idxOf (201, 0) = 8 := by decide +kernel
theorem po_202_0 : oAl.idxOf (202, 0) = 9 := by decide +kernel
theorem po_203_0 : oAl.idxOf (203, 0) = 10 := by decide +kernel
theorem po_204_0 : oAl.idxOf (204, 0) = 11 := by decide +kernel
theorem po_205_0 : oAl.idxOf (205, 0) = 12 := by decide +kernel
theorem po_206_0 : oAl.idxOf (206, 0) = 13 := by decide +kernel
theorem po_207_0 : oAl.idxOf (207, 0) = 14 := by decide +kernel
theorem po_208_0 : oAl.idxOf (208, 0) = 15 := by decide +kernel
theorem po_209_0 : oAl.idxOf (209, 0) = 16 := by decide +kernel
theorem po_210_0 : oAl.idxOf (210, 0) = 17 := by decide +kernel
theorem po_400_0 : oAl.idxOf (400, 0) = 18 := by decide +kernel
theorem po_402_0 : oAl.idxOf (402, 0) = 19 := by decide +kernel
theorem po_403_0 : oAl.idxOf (403, 0) = 20 := by decide +kernel
theorem po_404_0 : oAl.idxOf (404, 0) = 21 := by decide +kernel
theorem po_405_0 : oAl.idxOf (405, 0) = 22 := by decide +kernel
theorem po_406_0 : oAl.idxOf (406, 0) = 23 := by decide +kernel
theorem po_407_0 : oAl.idxOf (407, 0) = 24 := by decide +kernel
theorem po_408_0 : oAl.idxOf (408, 0) = 25 := by decide +kernel
theorem po_300_0 : oAl.idxOf (300, 0) = 26 := by decide +kernel
theorem po_300_1 : oAl.idxOf (300, 1) = 27 := by decide +kernel
theorem po_300_2 : oAl.idxOf (300, 2) = 28 := by decide +kernel
theorem po_300_3 : oAl.idxOf (300, 3) = 29 := by decide +kernel
theorem po_600_0 : oAl.idxOf (600, 0) = 30 := by decide +kernel
theorem po_500_1 : oAl.idxOf (500, 1) = 31 := by decide +kernel
theorem po_501_1 : oAl.idxOf (501, 1) = 32 := by decide +kernel
theorem po_502_1 : oAl.idxOf (502, 1) = 33 := by decide +kernel
theorem po_503_1 : oAl.idxOf (503, 1) = 34 := by decide +kernel
theorem po_504_1 : oAl.idxOf (504, 1) = 35 := by decide +kernel
theorem po_505_1 : oAl.idxOf (505, 1) = 36 := by decide +kernel
theorem po_603_0 : oAl.idxOf (603, 0) = 37 := by decide +kernel
theorem po_604_0 : oAl.idxOf (604, 0) = 38 := by decide +kernel
theorem po_605_0 : oAl.idxOf (605, 0) = 39 := by decide +kernel
theorem po_606_0 : oAl.idxOf (606, 0) = 40 := by decide +kernel
theorem po_607_0 : oAl.idxOf (607, 0) = 41 := by decide +kernel
theorem po_608_0 : oAl.idxOf (608, 0) = 42 := by decide +kernel
theorem po_609_0 : oAl.idxOf (609, 0) = 43 := by decide +kernel
theorem po_610_0 : oAl.idxOf (610, 0) = 44 := by decide +kernel
theorem po_300_4 : oAl.idxOf (300, 4) = 45 := by decide +kernel
theorem po_300_5 : oAl.idxOf (300, 5) = 46 := by decide +kernel
theorem po_300_6 : oAl.idxOf (300, 6) = 47 := by decide +kernel
theorem po_300_7 : oAl.idxOf (300, 7) = 48 := by decide +kernel
theorem po_300_8 : oAl.idxOf (300, 8) = 49 := by decide +kernel
theorem po_300_9 : oAl.idxOf (300, 9) = 50 := by decide +kernel
theorem po_300_10 : oAl.idxOf (300, 10) = 51 := by decide +kernel
theorem po_300_11 : oAl.idxOf (300, 11) = 52 := by decide +kernel
theorem po_800_0 : oAl.idxOf (800, 0) = 53 := by decide +kernel
theorem po_500_2 : oAl.idxOf (500, 2) = 54 := by decide +kernel
theorem po_501_2 : oAl.idxOf (501, 2) = 55 := by decide +kernel
theorem po_502_2 : oAl.idxOf (502, 2) = 56 := by decide +kernel
theorem po_503_2 : oAl.idxOf (503, 2) = 57 := by decide +kernel
theorem po_504_2 : oAl.idxOf (504, 2) = 58 := by decide +kernel
theorem po_505_2 : oAl.idxOf (505, 2) = 59 := by decide +kernel
theorem po_500_3 : oAl.idxOf (500, 3) = 60 := by decide +kernel
theorem po_501_3 : oAl.idxOf (501, 3) = 61 := by decide +kernel
theorem po_502_3 : oAl.idxOf (502, 3) = 62 := by decide +kernel
theorem po_503_3 : oAl.idxOf (503, 3) = 63 := by decide +kernel
theorem po_504_3 : oAl.idxOf (504, 3) = 64 := by decide +kernel
theorem po_505_3 : oAl.idxOf (505, 3) = 65 := by decide +kernel
theorem po_700_0 : oAl.idxOf (700, 0) = 66 := by decide +kernel
theorem po_701_0 : oAl.idxOf (701, 0) = 67 := by decide +kernel
theorem po_702_0 : oAl.idxOf (702, 0) = 68 := by decide +kernel
theorem po_703_0 : oAl.idxOf (703, 0) = 69 := by decide +kernel
theorem po_704_0 : oAl.idxOf (704, 0) = 70 := by decide +kernel
theorem po_705_0 : oAl.idxOf (705, 0) = 71 := by decide +kernel
theorem po_100_0 : oAl.idxOf (100, 0) = 72 := by decide +kernel
theorem po_101_0 : oAl.idxOf (101, 0) = 73 := by decide +kernel
theorem po_102_0 : oAl.idxOf (102, 0) = 74 := by decide +kernel
theorem po_103_0 : oAl.idxOf (103, 0) = 75 := by decide +kernel
theorem po_1000_0 : oAl.idxOf (1000, 0) = 76 := by decide +kernel
theorem po_1002_0 : oAl.idxOf (1002, 0) = 77 := by decide +kernel
theorem po_1003_0 : oAl.idxOf (1003, 0) = 78 := by decide +kernel
theorem po_1004_0 : oAl.idxOf (1004, 0) = 79 := by decide +kernel
theorem po_1007_0 : oAl.idxOf (1007, 0) = 80 := by decide +kernel
theorem po_1008_0 : oAl.idxOf (1008, 0) = 81 := by decide +kernel
theorem po_1015_0 : oAl.idxOf (1015, 0) = 82 := by decide +kernel
theorem po_1016_0 : oAl.idxOf (1016, 0) = 83 := by decide +kernel
theorem po_1017_0 : oAl.idxOf (1017, 0) = 84 := by decide +kernel
theorem po_1018_0 : oAl.idxOf (1018, 0) = 85 := by decide +kernel
theorem po_1019_0 : oAl.idxOf (1019, 0) = 86 := by decide +kernel
theorem po_1020_0 : oAl.idxOf (1020, 0) = 87 := by decide +kernel
theorem po_1021_0 : oAl.idxOf (1021, 0) = 88 := by decide +kernel
theorem po_1022_0 : oAl.idxOf (1022, 0) = 89 := by decide +kernel
theorem po_1023_0 : oAl.idxOf (1023, 0) = 90 := by decide +kernel
theorem po_1024_0 : oAl.idxOf (1024, 0) = 91 := by decide +kernel
theorem po_1026_0 : oAl.idxOf (1026, 0) = 92 := by decide +kernel
theorem po_1027_0 : oAl.idxOf (1027, 0) = 93 := by decide +kernel
theorem po_1028_0 : oAl.idxOf (1028, 0) = 94 := by decide +kernel
theorem po_1029_0 : oAl.idxOf (1029, 0) = 95 := by decide +kernel
theorem po_1030_0 : oAl.idxOf (1030, 0) = 96 := by decide +kernel
theorem po_1031_0 : oAl.idxOf (1031, 0) = 97 := by decide +kernel
theorem po_1034_0 : oAl.idxOf (1034, 0) = 98 := by decide +kernel
theorem po_1036_0 : oAl.idxOf (1036, 0) = 99 := by decide +kernel
theorem po_1042_0 : oAl.idxOf (1042, 0) = 100 := by decide +kernel
theorem po_1043_0 : oAl.idxOf (1043, 0) = 101 := by decide +kernel
theorem po_1044_0 : oAl.idxOf (1044, 0) = 102 := by decide +kernel
theorem po_1045_0 : oAl.idxOf (1045, 0) = 103 := by decide +kernel
theorem po_1046_0 : oAl.idxOf (1046, 0) = 104 := by decide +kernel
theorem po_1048_0 : oAl.idxOf (1048, 0) = 105 := by decide +kernel
theorem po_1049_0 : oAl.idxOf (1049, 0) = 106 := by decide +kernel
theorem po_1050_0 : oAl.idxOf (1050, 0) = 107 := by decide +kernel
theorem po_1051_0 : oAl.idxOf (1051, 0) = 108 := by decide +kernel
theorem po_1052_0 : oAl.idxOf (1052, 0) = 109 := by decide +kernel
theorem po_1057_0 : oAl.idxOf (1057, 0) = 110 := by decide +kernel
theorem po_1059_0 : oAl.idxOf (1059, 0) = 111 := by decide +kernel
theorem po_1060_0 : oAl.idxOf (1060, 0) = 112 := by decide +kernel
theorem po_1061_0 : oAl.idxOf (1061, 0) = 113 := by decide +kernel
theorem po_1062_0 : oAl.idxOf (1062, 0) = 114 := by decide +kernel
theorem po_1063_0 : oAl.idxOf (1063, 0) = 115 := by decide +kernel
theorem po_1065_0 : oAl.idxOf (1065, 0) = 116 := by decide +kernel
theorem k_forall {P : Nat × Nat → Prop} (h : ∀ q ∈ oIds, P q) : ∀ (t j : Nat), j < oCnt t → P (t, j) := fun t j hj => h _ (oIds_mem hj)
theorem oIds_eq : oIds = [(100, 0), (101, 0), (102, 0), (103, 0), (200, 0), (201, 0), (202, 0), (203, 0), (204, 0), (205, 0), (206, 0), (207, 0), (208, 0), (209, 0), (210, 0), (300, 0), (300, 1), (300, 2), (300, 3), (300, 4), (300, 5), (300, 6), (300, 7), (300, 8), (300, 9), (300, 10), (300, 11), (400, 0), (402, 0), (403, 0), (404, 0), (405, 0), (406, 0), (407, 0), (408, 0), (500, 0), (500, 1), (500, 2), (500, 3), (501, 0), (501, 1), (501, 2), (501, 3), (502, 0), (502, 1), (502, 2), (502, 3), (503, 0), (503, 1), (503, 2), (503, 3), (504, 0), (504, 1), (504, 2), (504, 3), (505, 0), (505, 1), (505, 2), (505, 3), (600, 0), (603, 0), (604, 0), (605, 0), (606, 0), (607, 0), (608, 0), (609, 0), (610, 0), (700, 0), (701, 0), (702, 0), (703, 0), (704, 0), (705, 0), (800, 0), (900, 0), (1000, 0), (1002, 0), (1003, 0), (1004, 0), (1007, 0), (1008, 0), (1015, 0), (1016, 0), (1017, 0), (1018, 0), (1019, 0), (1020, 0), (1021, 0), (1022, 0), (1023, 0), (1024, 0), (1026, 0), (1027, 0), (1028, 0), (1029, 0), (1030, 0), (1031, 0), (1034, 0), (1036, 0), (1042, 0), (1043, 0), (1044, 0), (1045, 0), (1046, 0), (1048, 0), (1049, 0), (1050, 0), (1051, 0), (1052, 0), (1057, 0), (1059, 0), (1060, 0), (1061, 0), (1062, 0), (1063, 0), (1065, 0)] := by decide +kernel
set_option maxRecDepth 100000 in
set_option maxHeartbeats 1000000 in
theorem kb_900_0 {D : va_G} {cA : Nat → ClassId} {z sA : Nat → Nat} {H : Heap} (hP : va_P D vwCl (kWs cA z) H) : va_at D vwCl (kAd z sA 900 0, oCell (D, kAd z sA, cA) oS0 900 0) H := 
  kObj (G := (D, kAd z sA, cA)) (hP 0 _ rfl) (kAd_at po_900_0 (by decide)) kd_900 rfl (lt_s (lt_s (lt_s (lt_s (lt_s (lt_s (lt_s (lt_s lt_0 (by unfold oFv; rw [ft_900_0]; show _ = Value.ref (kAd z sA 500 0); rw [kAd_at po_500_0 (by decide)]; rfl)) (by unfold oFv; rw [ft_900_1]; show _ = Value.ref (kAd z sA 200 0); rw [kAd_at po_200_0 (by decide)]; rfl)) (by unfold oFv; rw [ft_900_2]; show _ = Value.ref (kAd z sA 400 0); rw [kAd_at po_400_0 (by decide)]; rfl)) (by unfold oFv; rw [ft_900_3]; show _ = Value.ref (kAd z sA 600 0); rw [kAd_at po_600_0 (by decide)]; rfl)) (by unfold oFv; rw [ft_900_4]; show _ = Value.ref (kAd z sA 800 0); rw [kAd_at po_800_0 (by decide)]; rfl)) (by unfold oFv; rw [ft_900_5]; show _ = Value.ref (kAd z sA 700 0); rw [kAd_at po_700_0 (by decide)]; rfl)) (by unfold oFv; rw [ft_900_6]; show _ = Value.ref (kAd z sA 100 0); rw [kAd_at po_100_0 (by decide)]; rfl)) (by unfold oFv; rw [ft_900_7]; rfl))
set_option maxRecDepth 100000 in
set_option maxHeartbeats 1000000 in
theorem kb_500_0 {D : va_G} {cA : Nat → ClassId} {z sA : Nat → Nat} {H : Heap} (hP : va_P D vwCl (kWs cA z) H) : va_at D vwCl (kAd z sA 500 0, oCell (D, kAd z sA, cA) oS0 500 0) H := 
  kObj (G := (D, kAd z sA, cA)) (hP 1 _ rfl) (kAd_at po_500_0 (by decide)) kd_500 rfl (lt_s (lt_s (lt_s (lt_s (lt_s (lt_s (lt_s (lt_s (lt_s (lt_s lt_0 (by unfold oFv; rw [ft_500_0]; show _ = Value.ref (kAd z sA 501 0); rw [kAd_at po_501_0 (by decide)]; rfl)) (by unfold oFv; rw [ft_500_1]; show _ = Value.ref (kAd z sA 502 0); rw [kAd_at po_502_0 (by decide)]; rfl)) (by unfold oFv; rw [ft_500_2]; show _ = Value.ref (kAd z sA 503 0); rw [kAd_at po_503_0 (by decide)]; rfl)) (by unfold oFv; rw [ft_500_3]; show _ = Value.ref (kAd z sA 504 0); rw [kAd_at po_504_0 (by decide)]; rfl)) (by unfold oFv; rw [ft_500_4]; show _ = Value.ref (kAd z sA 505 0); rw [kAd_at po_505_0 (by decide)]; rfl)) (by unfold oFv; rw [ft_500_5]; rfl)) (by unfold oFv; rw [ft_500_6]; rfl)) (by unfold oFv; rw [ft_500_7]; rfl)) (by unfold oFv; rw [ft_500_8]; rfl)) (by unfold oFv; rw [ft_500_9]; rfl))
set_option maxRecDepth 100000 in
set_option maxHeartbeats 1000000 in
theorem kb_501_0 {D : va_G} {cA : Nat → ClassId} {z sA : Nat → Nat} {H : Heap} (hP : va_P D vwCl (kWs cA z) H) : va_at D vwCl (kAd z sA 501 0, oCell (D, kAd z sA, cA) oS0 501 0) H := kArr (hP 2 _ rfl) (kAd_at po_501_0 (by decide)) (by rw [oCell_L kd_501]; rfl)
set_option maxRecDepth 100000 in
set_option maxHeartbeats 1000000 in
theorem kb_502_0 {D : va_G} {cA : Nat → ClassId} {z sA : Nat → Nat} {H : Heap} (hP : va_P D vwCl (kWs cA z) H) : va_at D vwCl (kAd z sA 502 0, oCell (D, kAd z sA, cA) oS0 502 0) H := kArr (hP 3 _ rfl) (kAd_at po_502_0 (by decide)) (by rw [oCell_I kd_502]; rfl)
set_option maxRecDepth 100000 in
set_option maxHeartbeats 1000000 in
theorem kb_503_0 {D : va_G} {cA : Nat → ClassId} {z sA : Nat → Nat} {H : Heap} (hP : va_P D vwCl (kWs cA z) H) : va_at D vwCl (kAd z sA 503 0, oCell (D, kAd z sA, cA) oS0 503 0) H := kArr (hP 4 _ rfl) (kAd_at po_503_0 (by decide)) (by rw [oCell_I kd_503]; rfl)
set_option maxRecDepth 100000 in
set_option maxHeartbeats 1000000 in
theorem kb_504_0 {D : va_G} {cA : Nat → ClassId} {z sA : Nat → Nat} {H : Heap} (hP : va_P D vwCl (kWs cA z) H) : va_at D vwCl (kAd z sA 504 0, oCell (D, kAd z sA, cA) oS0 504 0) H := kArr (hP 5 _ rfl) (kAd_at po_504_0 (by decide)) (by rw [oCell_I kd_504]; rfl)
set_option maxRecDepth 100000 in
set_option maxHeartbeats 1000000 in
theorem kb_505_0 {D : va_G} {cA : Nat → ClassId} {z sA : Nat → Nat} {H : Heap} (hP : va_P D vwCl (kWs cA z) H) : va_at D vwCl (kAd z sA 505 0, oCell (D, kAd z sA, cA) oS0 505 0) H := kArr (hP 6 _ rfl) (kAd_at po_505_0 (by decide)) (by rw [oCell_I kd_505]; rfl)
set_option maxRecDepth 100000 in
set_option maxHeartbeats 1000000 in
theorem kb_200_0 {D : va_G} {cA : Nat → ClassId} {z sA : Nat → Nat} {H : Heap} (hP : va_P D vwCl (kWs cA z) H) : va_at D vwCl (kAd z sA 200 0, oCell (D, kAd z sA, cA) oS0 200 0) H := 
  kObj (G := (D, kAd z sA, cA)) (hP 7 _ rfl) (kAd_at po_200_0 (by decide)) kd_200 rfl (lt_s (lt_s (lt_s (lt_s (lt_s (lt_s (lt_s (lt_s (lt_s (lt_s (lt_s lt_0 (by unfold oFv; rw [ft_200_0]; show _ = Value.ref (kAd z sA 201 0); rw [kAd_at po_201_0 (by decide)]; rfl)) (by unfold oFv; rw [ft_200_1]; show _ = Value.ref (kAd z sA 202 0); rw [kAd_at po_202_0 (by decide)]; rfl)) (by unfold oFv; rw [ft_200_2]; show _ = Value.ref (kAd z sA 203 0); rw [kAd_at po_203_0 (by decide)]; rfl)) (by unfold oFv; rw [ft_200_3]; show _ = Value.ref (kAd z sA 204 0); rw [kAd_at po_204_0 (by decide)]; rfl)) (by unfold oFv; rw [ft_200_4]; show _ = Value.ref (kAd z sA 205 0); rw [kAd_at po_205_0 (by decide)]; rfl)) (by unfold oFv; rw [ft_200_5]; show _ = Value.ref (kAd z sA 206 0); rw [kAd_at po_206_0 (by decide)]; rfl)) (by unfold oFv; rw [ft_200_6]; show _ = Value.ref (kAd z sA 207 0); rw [kAd_at po_207_0 (by decide)]; rfl)) (by unfold oFv; rw [ft_200_7]; show _ = Value.ref (kAd z sA 208 0); rw [kAd_at po_208_0 (by decide)]; rfl)) (by unfold oFv; rw [ft_200_8]; show _ = Value.ref (kAd z sA 209 0); rw [kAd_at po_209_0 (by decide)]; rfl)) (by unfold oFv; rw [ft_200_9]; show _ = Value.ref (kAd z sA 210 0); rw [kAd_at po_210_0 (by decide)]; rfl)) (by unfold oFv; rw [ft_200_10]; rfl))
set_option maxRecDepth 100000 in
set_option maxHeartbeats 1000000 in
theorem kb_201_0 {D : va_G} {cA : Nat → ClassId} {z sA : Nat → Nat} {H : Heap} (hP : va_P D vwCl (kWs cA z) H) : va_at D vwCl (kAd z sA 201 0, oCell (D, kAd z sA, cA) oS0 201 0) H := kArr (hP 8 _ rfl) (kAd_at po_201_0 (by decide)) (by rw [oCell_I kd_201]; rfl)
set_option maxRecDepth 100000 in
set_option maxHeartbeats 1000000 in
theorem kb_202_0 {D : va_G} {cA : Nat → ClassId} {z sA : Nat → Nat} {H : Heap} (hP : va_P D vwCl (kWs cA z) H) : va_at D vwCl (kAd z sA 202 0, oCell (D, kAd z sA, cA) oS0 202 0) H := kArr (hP 9 _ rfl) (kAd_at po_202_0 (by decide)) (by rw [oCell_Z kd_202]; rfl)
set_option maxRecDepth 100000 in
set_option maxHeartbeats 1000000 in
theorem kb_203_0 {D : va_G} {cA : Nat → ClassId} {z sA : Nat → Nat} {H : Heap} (hP : va_P D vwCl (kWs cA z) H) : va_at D vwCl (kAd z sA 203 0, oCell (D, kAd z sA, cA) oS0 203 0) H := kArr (hP 10 _ rfl) (kAd_at po_203_0 (by decide)) (by rw [oCell_I kd_203]; rfl)
set_option maxRecDepth 100000 in
set_option maxHeartbeats 1000000 in
theorem kb_204_0 {D : va_G} {cA : Nat → ClassId} {z sA : Nat → Nat} {H : Heap} (hP : va_P D vwCl (kWs cA z) H) : va_at D vwCl (kAd z sA 204 0, oCell (D, kAd z sA, cA) oS0 204 0) H := kArr (hP 11 _ rfl) (kAd_at po_204_0 (by decide)) (by rw [oCell_I kd_204]; rfl)
set_option maxRecDepth 100000 in
set_option maxHeartbeats 1000000 in
theorem kb_205_0 {D : va_G} {cA : Nat → ClassId} {z sA : Nat → Nat} {H : Heap} (hP : va_P D vwCl (kWs cA z) H) : va_at D vwCl (kAd z sA 205 0, oCell (D, kAd z sA, cA) oS0 205 0) H := kArr (hP 12 _ rfl) (kAd_at po_205_0 (by decide)) (by rw [oCell_I kd_205]; rfl)
set_option maxRecDepth 100000 in
set_option maxHeartbeats 1000000 in
theorem kb_206_0 {D : va_G} {cA : Nat → ClassId} {z sA : Nat → Nat} {H : Heap} (hP : va_P D vwCl (kWs cA z) H) : va_at D vwCl (kAd z sA 206 0, oCell (D, kAd z sA, cA) oS0 206 0) H := kArr (hP 13 _ rfl) (kAd_at po_206_0 (by decide)) (by rw [oCell_I kd_206]; rfl)
set_option maxRecDepth 100000 in
set_option maxHeartbeats 1000000 in
theorem kb_207_0 {D : va_G} {cA : Nat → ClassId} {z sA : Nat → Nat} {H : Heap} (hP : va_P D vwCl (kWs cA z) H) : va_at D vwCl (kAd z sA 207 0, oCell (D, kAd z sA, cA) oS0 207 0) H := kArr (hP 14 _ rfl) (kAd_at po_207_0 (by decide)) (by rw [oCell_I kd_207]; rfl)
set_option maxRecDepth 100000 in
set_option maxHeartbeats 1000000 in
theorem kb_208_0 {D : va_G} {cA : Nat → ClassId} {z sA : Nat → Nat} {H : Heap} (hP : va_P D vwCl (kWs cA z) H) : va_at D vwCl (kAd z sA 208 0, oCell (D, kAd z sA, cA) oS0 208 0) H := kArr (hP 15 _ rfl) (kAd_at po_208_0 (by decide)) (by rw [oCell_I kd_208]; rfl)
set_option maxRecDepth 100000 in
set_option maxHeartbeats 1000000 in
theorem kb_209_0 {D : va_G} {cA : Nat → ClassId} {z sA : Nat → Nat} {H : Heap} (hP : va_P D vwCl (kWs cA z) H) : va_at D vwCl (kAd z sA 209 0, oCell (D, kAd z sA, cA) oS0 209 0) H := kArr (hP 16 _ rfl) (kAd_at po_209_0 (by decide)) (by rw [oCell_I kd_209]; rfl)
set_option maxRecDepth 100000 in
set_option maxHeartbeats 1000000 in
theorem kb_210_0 {D : va_G} {cA : Nat → ClassId} {z sA : Nat → Nat} {H : Heap} (hP : va_P D vwCl (kWs cA z) H) : va_at D vwCl (kAd z sA 210 0, oCell (D, kAd z sA, cA) oS0 210 0) H := kArr (hP 17 _ rfl) (kAd_at po_210_0 (by decide)) (by rw [oCell_I kd_210]; rfl)
set_option maxRecDepth 100000 in
set_option maxHeartbeats 1000000 in
theorem kb_400_0 {D : va_G} {cA : Nat → ClassId} {z sA : Nat → Nat} {H : Heap} (hP : va_P D vwCl (kWs cA z) H) : va_at D vwCl (kAd z sA 400 0, oCell (D, kAd z sA, cA) oS0 400 0) H := 
  kObj (G := (D, kAd z sA, cA)) (hP 18 _ rfl) (kAd_at po_400_0 (by decide)) kd_400 rfl (lt_s (lt_s (lt_s (lt_s (lt_s (lt_s (lt_s (lt_s (lt_s (lt_s (lt_s (lt_s (lt_s lt_0 (by unfold oFv; rw [ft_400_0]; show _ = Value.ref (kAd z sA 200 0); rw [kAd_at po_200_0 (by decide)]; rfl)) (by unfold oFv; rw [ft_400_1]; show _ = Value.ref (kAd z sA 402 0); rw [kAd_at po_402_0 (by decide)]; rfl)) (by unfold oFv; rw [ft_400_2]; show _ = Value.ref (kAd z sA 403 0); rw [kAd_at po_403_0 (by decide)]; rfl)) (by unfold oFv; rw [ft_400_3]; show _ = Value.ref (kAd z sA 404 0); rw [kAd_at po_404_0 (by decide)]; rfl)) (by unfold oFv; rw [ft_400_4]; show _ = Value.ref (kAd z sA 405 0); rw [kAd_at po_405_0 (by decide)]; rfl)) (by unfold oFv; rw [ft_400_5]; show _ = Value.ref (kAd z sA 406 0); rw [kAd_at po_406_0 (by decide)]; rfl)) (by unfold oFv; rw [ft_400_6]; show _ = Value.ref (kAd z sA 407 0); rw [kAd_at po_407_0 (by decide)]; rfl)) (by unfold oFv; rw [ft_400_7]; show _ = Value.ref (kAd z sA 408 0); rw [kAd_at po_408_0 (by decide)]; rfl)) (by unfold oFv; rw [ft_400_8]; rfl)) (by unfold oFv; rw [ft_400_9]; rfl)) (by unfold oFv; rw [ft_400_10]; rfl)) (by unfold oFv; rw [ft_400_11]; rfl)) (by unfold oFv; rw [ft_400_12]; rfl))
set_option maxRecDepth 100000 in
set_option maxHeartbeats 1000000 in
theorem kb_402_0 {D : va_G} {cA : Nat → ClassId} {z sA : Nat → Nat} {H : Heap} (hP : va_P D vwCl (kWs cA z) H) : va_at D vwCl (kAd z sA 402 0, oCell (D, kAd z sA, cA) oS0 402 0) H := 
  kLds (G := (D, kAd z sA, cA)) (hP 19 _ rfl) (kAd_at po_402_0 (by decide)) kd_402 (lt_s (lt_s (lt_s (lt_s lt_0 (by show _ = some (kAd z sA 300 0); rw [kAd_at po_300_0 (by decide)]; rfl)) (by show _ = some (kAd z sA 300 1); rw [kAd_at po_300_1 (by decide)]; rfl)) (by show _ = some (kAd z sA 300 2); rw [kAd_at po_300_2 (by decide)]; rfl)) (by show _ = some (kAd z sA 300 3); rw [kAd_at po_300_3 (by decide)]; rfl))
set_option maxRecDepth 100000 in
set_option maxHeartbeats 1000000 in
theorem kb_403_0 {D : va_G} {cA : Nat → ClassId} {z sA : Nat → Nat} {H : Heap} (hP : va_P D vwCl (kWs cA z) H) : va_at D vwCl (kAd z sA 403 0, oCell (D, kAd z sA, cA) oS0 403 0) H := kArr (hP 20 _ rfl) (kAd_at po_403_0 (by decide)) (by rw [oCell_I kd_403]; rfl)
set_option maxRecDepth 100000 in
set_option maxHeartbeats 1000000 in
theorem kb_404_0 {D : va_G} {cA : Nat → ClassId} {z sA : Nat → Nat} {H : Heap} (hP : va_P D vwCl (kWs cA z) H) : va_at D vwCl (kAd z sA 404 0, oCell (D, kAd z sA, cA) oS0 404 0) H := kArr (hP 21 _ rfl) (kAd_at po_404_0 (by decide)) (by rw [oCell_I kd_404]; rfl)
set_option maxRecDepth 100000 in
set_option maxHeartbeats 1000000 in
theorem kb_405_0 {D : va_G} {cA : Nat → ClassId} {z sA : Nat → Nat} {H : Heap} (hP : va_P D vwCl (kWs cA z) H) : va_at D vwCl (kAd z sA 405 0, oCell (D, kAd z sA, cA) oS0 405 0) H := kArr (hP 22 _ rfl) (kAd_at po_405_0 (by decide)) (by rw [oCell_I kd_405]; rfl)
set_option maxRecDepth 100000 in
set_option maxHeartbeats 1000000 in
theorem kb_406_0 {D : va_G} {cA : Nat → ClassId} {z sA : Nat → Nat} {H : Heap} (hP : va_P D vwCl (kWs cA z) H) : va_at D vwCl (kAd z sA 406 0, oCell (D, kAd z sA, cA) oS0 406 0) H := kArr (hP 23 _ rfl) (kAd_at po_406_0 (by decide)) (by rw [oCell_I kd_406]; rfl)
set_option maxRecDepth 100000 in
set_option maxHeartbeats 1000000 in
theorem kb_407_0 {D : va_G} {cA : Nat → ClassId} {z sA : Nat → Nat} {H : Heap} (hP : va_P D vwCl (kWs cA z) H) : va_at D vwCl (kAd z sA 407 0, oCell (D, kAd z sA, cA) oS0 407 0) H := kArr (hP 24 _ rfl) (kAd_at po_407_0 (by decide)) (by rw [oCell_I kd_407]; rfl)
set_option maxRecDepth 100000 in
set_option maxHeartbeats 1000000 in
theorem kb_408_0 {D : va_G} {cA : Nat → ClassId} {z sA : Nat → Nat} {H : Heap} (hP : va_P D vwCl (kWs cA z) H) : va_at D vwCl (kAd z sA 408 0, oCell (D, kAd z sA, cA) oS0 408 0) H := kArr (hP 25 _ rfl) (kAd_at po_408_0 (by decide)) (by rw [oCell_I kd_408]; rfl)
set_option maxRecDepth 100000 in
set_option maxHeartbeats 1000000 in
theorem kb_300_0 {D : va_G} {cA : Nat → ClassId} {z sA : Nat → Nat} {H : Heap} (hP : va_P D vwCl (kWs cA z) H) : va_at D vwCl (kAd z sA 300 0, oCell (D, kAd z sA, cA) oS0 300 0) H := 
  kObj (G := (D, kAd z sA, cA)) (hP 26 _ rfl) (kAd_at po_300_0 (by decide)) kd_300 rfl (lt_s (lt_s (lt_s lt_0 (by unfold oFv; rw [ft_300_0]; rfl)) (by unfold oFv; rw [ft_300_1]; rfl)) (by unfold oFv; rw [ft_300_2]; rfl))
set_option maxRecDepth 100000 in
set_option maxHeartbeats 1000000 in
theorem kb_300_1 {D : va_G} {cA : Nat → ClassId} {z sA : Nat → Nat} {H : Heap} (hP : va_P D vwCl (kWs cA z) H) : va_at D vwCl (kAd z sA 300 1, oCell (D, kAd z sA, cA) oS0 300 1) H := 
  kObj (G := (D, kAd z sA, cA)) (hP 27 _ rfl) (kAd_at po_300_1 (by decide)) kd_300 rfl (lt_s (lt_s (lt_s lt_0 (by unfold oFv; rw [ft_300_0]; rfl)) (by unfold oFv; rw [ft_300_1]; rfl)) (by unfold oFv; rw [ft_300_2]; rfl))
set_option maxRecDepth 100000 in
set_option maxHeartbeats 1000000 in
theorem kb_300_2 {D : va_G} {cA : Nat → ClassId} {z sA : Nat → Nat} {H : Heap} (hP : va_P D vwCl (kWs cA z) H) : va_at D vwCl (kAd z sA 300 2, oCell (D, kAd z sA, cA) oS0 300 2) H := 
  kObj (G := (D, kAd z sA, cA)) (hP 28 _ rfl) (kAd_at po_300_2 (by decide)) kd_300 rfl (lt_s (lt_s (lt_s lt_0 (by unfold oFv; rw [ft_300_0]; rfl)) (by unfold oFv; rw [ft_300_1]; rfl)) (by unfold oFv; rw [ft_300_2]; rfl))
set_option maxRecDepth 100000 in
set_option maxHeartbeats 1000000 in
theorem kb_300_3 {D : va_G} {cA : Nat → ClassId} {z sA : Nat → Nat} {H : Heap} (hP : va_P D vwCl (kWs cA z) H) : va_at D vwCl (kAd z sA 300 3, oCell (D, kAd z sA, cA) oS0 300 3) H := 
  kObj (G := (D, kAd z sA, cA)) (hP 29 _ rfl) (kAd_at po_300_3 (by decide)) kd_300 rfl (lt_s (lt_s (lt_s lt_0 (by unfold oFv; rw [ft_300_0]; rfl)) (by unfold oFv; rw [ft_300_1]; rfl)) (by unfold oFv; rw [ft_300_2]; rfl))
set_option maxRecDepth 100000 in
set_option maxHeartbeats 1000000 in
theorem kb_600_0 {D : va_G} {cA : Nat → ClassId} {z sA : Nat → Nat} {H : Heap} (hP : va_P D vwCl (kWs cA z) H) : va_at D vwCl (kAd z sA 600 0, oCell (D, kAd z sA, cA) oS0 600 0) H := 
  kObj (G := (D, kAd z sA, cA)) (hP 30 _ rfl) (kAd_at po_600_0 (by decide)) kd_600 rfl (lt_s (lt_s (lt_s (lt_s (lt_s (lt_s (lt_s (lt_s (lt_s (lt_s (lt_s (lt_s (lt_s (lt_s (lt_s lt_0 (by unfold oFv; rw [ft_600_0]; show _ = Value.ref (kAd z sA 200 0); rw [kAd_at po_200_0 (by decide)]; rfl)) (by unfold oFv; rw [ft_600_1]; show _ = Value.ref (kAd z sA 500 1); rw [kAd_at po_500_1 (by decide)]; rfl)) (by unfold oFv; rw [ft_600_2]; show _ = Value.ref (kAd z sA 603 0); rw [kAd_at po_603_0 (by decide)]; rfl)) (by unfold oFv; rw [ft_600_3]; show _ = Value.ref (kAd z sA 604 0); rw [kAd_at po_604_0 (by decide)]; rfl)) (by unfold oFv; rw [ft_600_4]; show _ = Value.ref (kAd z sA 605 0); rw [kAd_at po_605_0 (by decide)]; rfl)) (by unfold oFv; rw [ft_600_5]; show _ = Value.ref (kAd z sA 606 0); rw [kAd_at po_606_0 (by decide)]; rfl)) (by unfold oFv; rw [ft_600_6]; show _ = Value.ref (kAd z sA 607 0); rw [kAd_at po_607_0 (by decide)]; rfl)) (by unfold oFv; rw [ft_600_7]; show _ = Value.ref (kAd z sA 608 0); rw [kAd_at po_608_0 (by decide)]; rfl)) (by unfold oFv; rw [ft_600_8]; show _ = Value.ref (kAd z sA 609 0); rw [kAd_at po_609_0 (by decide)]; rfl)) (by unfold oFv; rw [ft_600_9]; show _ = Value.ref (kAd z sA 610 0); rw [kAd_at po_610_0 (by decide)]; rfl)) (by unfold oFv; rw [ft_600_10]; rfl)) (by unfold oFv; rw [ft_600_11]; rfl)) (by unfold oFv; rw [ft_600_12]; rfl)) (by unfold oFv; rw [ft_600_13]; rfl)) (by unfold oFv; rw [ft_600_14]; rfl))
set_option maxRecDepth 100000 in
set_option maxHeartbeats 1000000 in
theorem kb_500_1 {D : va_G} {cA : Nat → ClassId} {z sA : Nat → Nat} {H : Heap} (hP : va_P D vwCl (kWs cA z) H) : va_at D vwCl (kAd z sA 500 1, oCell (D, kAd z sA, cA) oS0 500 1) H := 
  kObj (G := (D, kAd z sA, cA)) (hP 31 _ rfl) (kAd_at po_500_1 (by decide)) kd_500 rfl (lt_s (lt_s (lt_s (lt_s (lt_s (lt_s (lt_s (lt_s (lt_s (lt_s lt_0 (by unfold oFv; rw [ft_500_0]; show _ = Value.ref (kAd z sA 501 1); rw [kAd_at po_501_1 (by decide)]; rfl)) (by unfold oFv; rw [ft_500_1]; show _ = Value.ref (kAd z sA 502 1); rw [kAd_at po_502_1 (by decide)]; rfl)) (by unfold oFv; rw [ft_500_2]; show _ = Value.ref (kAd z sA 503 1); rw [kAd_at po_503_1 (by decide)]; rfl)) (by unfold oFv; rw [ft_500_3]; show _ = Value.ref (kAd z sA 504 1); rw [kAd_at po_504_1 (by decide)]; rfl)) (by unfold oFv; rw [ft_500_4]; show _ = Value.ref (kAd z sA 505 1); rw [kAd_at po_505_1 (by decide)]; rfl)) (by unfold oFv; rw [ft_500_5]; rfl)) (by unfold oFv; rw [ft_500_6]; rfl)) (by unfold oFv; rw [ft_500_7]; rfl)) (by unfold oFv; rw [ft_500_8]; rfl)) (by unfold oFv; rw [ft_500_9]; rfl))
set_option maxRecDepth 100000 in
set_option maxHeartbeats 1000000 in
theorem kb_501_1 {D : va_G} {cA : Nat → ClassId} {z sA : Nat → Nat} {H : Heap} (hP : va_P D vwCl (kWs cA z) H) : va_at D vwCl (kAd z sA 501 1, oCell (D, kAd z sA, cA) oS0 501 1) H := kArr (hP 32 _ rfl) (kAd_at po_501_1 (by decide)) (by rw [oCell_L kd_501]; rfl)
set_option maxRecDepth 100000 in
set_option maxHeartbeats 1000000 in
theorem kb_502_1 {D : va_G} {cA : Nat → ClassId} {z sA : Nat → Nat} {H : Heap} (hP : va_P D vwCl (kWs cA z) H) : va_at D vwCl (kAd z sA 502 1, oCell (D, kAd z sA, cA) oS0 502 1) H := kArr (hP 33 _ rfl) (kAd_at po_502_1 (by decide)) (by rw [oCell_I kd_502]; rfl)
set_option maxRecDepth 100000 in
set_option maxHeartbeats 1000000 in
theorem kb_503_1 {D : va_G} {cA : Nat → ClassId} {z sA : Nat → Nat} {H : Heap} (hP : va_P D vwCl (kWs cA z) H) : va_at D vwCl (kAd z sA 503 1, oCell (D, kAd z sA, cA) oS0 503 1) H := kArr (hP 34 _ rfl) (kAd_at po_503_1 (by decide)) (by rw [oCell_I kd_503]; rfl)
set_option maxRecDepth 100000 in
set_option maxHeartbeats 1000000 in
theorem kb_504_1 {D : va_G} {cA : Nat → ClassId} {z sA : Nat → Nat} {H : Heap} (hP : va_P D vwCl (kWs cA z) H) : va_at D vwCl (kAd z sA 504 1, oCell (D, kAd z sA, cA) oS0 504 1) H := kArr (hP 35 _ rfl) (kAd_at po_504_1 (by decide)) (by rw [oCell_I kd_504]; rfl)
set_option maxRecDepth 100000 in
set_option maxHeartbeats 1000000 in
theorem kb_505_1 {D : va_G} {cA : Nat → ClassId} {z sA : Nat → Nat} {H : Heap} (hP : va_P D vwCl (kWs cA z) H) : va_at D vwCl (kAd z sA 505 1, oCell (D, kAd z sA, cA) oS0 505 1) H := kArr (hP 36 _ rfl) (kAd_at po_505_1 (by decide)) (by rw [oCell_I kd_505]; rfl)
set_option maxRecDepth 100000 in
set_option maxHeartbeats 1000000 in
theorem kb_603_0 {D : va_G} {cA : Nat → ClassId} {z sA : Nat → Nat} {H : Heap} (hP : va_P D vwCl (kWs cA z) H) : va_at D vwCl (kAd z sA 603 0, oCell (D, kAd z sA, cA) oS0 603 0) H := kArr (hP 37 _ rfl) (kAd_at po_603_0 (by decide)) (by rw [oCell_L kd_603]; rfl)
set_option maxRecDepth 100000 in
set_option maxHeartbeats 1000000 in
theorem kb_604_0 {D : va_G} {cA : Nat → ClassId} {z sA : Nat → Nat} {H : Heap} (hP : va_P D vwCl (kWs cA z) H) : va_at D vwCl (kAd z sA 604 0, oCell (D, kAd z sA, cA) oS0 604 0) H := kArr (hP 38 _ rfl) (kAd_at po_604_0 (by decide)) (by rw [oCell_I kd_604]; rfl)
set_option maxRecDepth 100000 in
set_option maxHeartbeats 1000000 in
theorem kb_605_0 {D : va_G} {cA : Nat → ClassId} {z sA : Nat → Nat} {H : Heap} (hP : va_P D vwCl (kWs cA z) H) : va_at D vwCl (kAd z sA 605 0, oCell (D, kAd z sA, cA) oS0 605 0) H := kArr (hP 39 _ rfl) (kAd_at po_605_0 (by decide)) (by rw [oCell_I kd_605]; rfl)
set_option maxRecDepth 100000 in
set_option maxHeartbeats 1000000 in
theorem kb_606_0 {D : va_G} {cA : Nat → ClassId} {z sA : Nat → Nat} {H : Heap} (hP : va_P D vwCl (kWs cA z) H) : va_at D vwCl (kAd z sA 606 0, oCell (D, kAd z sA, cA) oS0 606 0) H := kArr (hP 40 _ rfl) (kAd_at po_606_0 (by decide)) (by rw [oCell_Z kd_606]; rfl)
set_option maxRecDepth 100000 in
set_option maxHeartbeats 1000000 in
theorem kb_607_0 {D : va_G} {cA : Nat → ClassId} {z sA : Nat → Nat} {H : Heap} (hP : va_P D vwCl (kWs cA z) H) : va_at D vwCl (kAd z sA 607 0, oCell (D, kAd z sA, cA) oS0 607 0) H := kArr (hP 41 _ rfl) (kAd_at po_607_0 (by decide)) (by rw [oCell_I kd_607]; rfl)
set_option maxRecDepth 100000 in
set_option maxHeartbeats 1000000 in
theorem kb_608_0 {D : va_G} {cA : Nat → ClassId} {z sA : Nat → Nat} {H : Heap} (hP : va_P D vwCl (kWs cA z) H) : va_at D vwCl (kAd z sA 608 0, oCell (D, kAd z sA, cA) oS0 608 0) H := 
  kLds (G := (D, kAd z sA, cA)) (hP 42 _ rfl) (kAd_at po_608_0 (by decide)) kd_608 (lt_s (lt_s (lt_s (lt_s (lt_s (lt_s (lt_s (lt_s lt_0 (by show _ = some (kAd z sA 300 4); rw [kAd_at po_300_4 (by decide)]; rfl)) (by show _ = some (kAd z sA 300 5); rw [kAd_at po_300_5 (by decide)]; rfl)) (by show _ = some (kAd z sA 300 6); rw [kAd_at po_300_6 (by decide)]; rfl)) (by show _ = some (kAd z sA 300 7); rw [kAd_at po_300_7 (by decide)]; rfl)) (by show _ = some (kAd z sA 300 8); rw [kAd_at po_300_8 (by decide)]; rfl)) (by show _ = some (kAd z sA 300 9); rw [kAd_at po_300_9 (by decide)]; rfl)) (by show _ = some (kAd z sA 300 10); rw [kAd_at po_300_10 (by decide)]; rfl)) (by show _ = some (kAd z sA 300 11); rw [kAd_at po_300_11 (by decide)]; rfl))
set_option maxRecDepth 100000 in
set_option maxHeartbeats 1000000 in
theorem kb_609_0 {D : va_G} {cA : Nat → ClassId} {z sA : Nat → Nat} {H : Heap} (hP : va_P D vwCl (kWs cA z) H) : va_at D vwCl (kAd z sA 609 0, oCell (D, kAd z sA, cA) oS0 609 0) H := kArr (hP 43 _ rfl) (kAd_at po_609_0 (by decide)) (by rw [oCell_I kd_609]; rfl)
set_option maxRecDepth 100000 in
set_option maxHeartbeats 1000000 in
theorem kb_610_0 {D : va_G} {cA : Nat → ClassId} {z sA : Nat → Nat} {H : Heap} (hP : va_P D vwCl (kWs cA z) H) : va_at D vwCl (kAd z sA 610 0, oCell (D, kAd z sA, cA) oS0 610 0) H := kArr (hP 44 _ rfl) (kAd_at po_610_0 (by decide)) (by rw [oCell_I kd_610]; rfl)
set_option maxRecDepth 100000 in
set_option maxHeartbeats 1000000 in
theorem kb_300_4 {D : va_G} {cA : Nat → ClassId} {z sA : Nat → Nat} {H : Heap} (hP : va_P D vwCl (kWs cA z) H) : va_at D vwCl (kAd z sA 300 4, oCell (D, kAd z sA, cA) oS0 300 4) H := 
  kObj (G := (D, kAd z sA, cA)) (hP 45 _ rfl) (kAd_at po_300_4 (by decide)) kd_300 rfl (lt_s (lt_s (lt_s lt_0 (by unfold oFv; rw [ft_300_0]; rfl)) (by unfold oFv; rw [ft_300_1]; rfl)) (by unfold oFv; rw [ft_300_2]; rfl))
set_option maxRecDepth 100000 in
set_option maxHeartbeats 1000000 in
theorem kb_300_5 {D : va_G} {cA : Nat → ClassId} {z sA : Nat → Nat} {H : Heap} (hP : va_P D vwCl (kWs cA z) H) : va_at D vwCl (kAd z sA 300 5, oCell (D, kAd z sA, cA) oS0 300 5) H := 
  kObj (G := (D, kAd z sA, cA)) (hP 46 _ rfl) (kAd_at po_300_5 (by decide)) kd_300 rfl (lt_s (lt_s (lt_s lt_0 (by unfold oFv; rw [ft_300_0]; rfl)) (by unfold oFv; rw [ft_300_1]; rfl)) (by unfold oFv; rw [ft_300_2]; rfl))
set_option maxRecDepth 100000 in
set_option maxHeartbeats 1000000 in
theorem kb_300_6 {D : va_G} {cA : Nat → ClassId} {z sA : Nat → Nat} {H : Heap} (hP : va_P D vwCl (kWs cA z) H) : va_at D vwCl (kAd z sA 300 6, oCell (D, kAd z sA, cA) oS0 300 6) H := 
  kObj (G := (D, kAd z sA, cA)) (hP 47 _ rfl) (kAd_at po_300_6 (by decide)) kd_300 rfl (lt_s (lt_s (lt_s lt_0 (by unfold oFv; rw [ft_300_0]; rfl)) (by unfold oFv; rw [ft_300_1]; rfl)) (by unfold oFv; rw [ft_300_2]; rfl))
set_option maxRecDepth 100000 in
set_option maxHeartbeats 1000000 in
theorem kb_300_7 {D : va_G} {cA : Nat → ClassId} {z sA : Nat → Nat} {H : Heap} (hP : va_P D vwCl (kWs cA z) H) : va_at D vwCl (kAd z sA 300 7, oCell (D, kAd z sA, cA) oS0 300 7) H := 
  kObj (G := (D, kAd z sA, cA)) (hP 48 _ rfl) (kAd_at po_300_7 (by decide)) kd_300 rfl (lt_s (lt_s (lt_s lt_0 (by unfold oFv; rw [ft_300_0]; rfl)) (by unfold oFv; rw [ft_300_1]; rfl)) (by unfold oFv; rw [ft_300_2]; rfl))
set_option maxRecDepth 100000 in
set_option maxHeartbeats 1000000 in
theorem kb_300_8 {D : va_G} {cA : Nat → ClassId} {z sA : Nat → Nat} {H : Heap} (hP : va_P D vwCl (kWs cA z) H) : va_at D vwCl (kAd z sA 300 8, oCell (D, kAd z sA, cA) oS0 300 8) H := 
  kObj (G := (D, kAd z sA, cA)) (hP 49 _ rfl) (kAd_at po_300_8 (by decide)) kd_300 rfl (lt_s (lt_s (lt_s lt_0 (by unfold oFv; rw [ft_300_0]; rfl)) (by unfold oFv; rw [ft_300_1]; rfl)) (by unfold oFv; rw [ft_300_2]; rfl))
set_option maxRecDepth 100000 in
set_option maxHeartbeats 1000000 in
theorem kb_300_9 {D : va_G} {cA : Nat → ClassId} {z sA : Nat → Nat} {H : Heap} (hP : va_P D vwCl (kWs cA z) H) : va_at D vwCl (kAd z sA 300 9, oCell (D, kAd z sA, cA) oS0 300 9) H := 
  kObj (G := (D, kAd z sA, cA)) (hP 50 _ rfl) (kAd_at po_300_9 (by decide)) kd_300 rfl (lt_s (lt_s (lt_s lt_0 (by unfold oFv; rw [ft_300_0]; rfl)) (by unfold oFv; rw [ft_300_1]; rfl)) (by unfold oFv; rw [ft_300_2]; rfl))
set_option maxRecDepth 100000 in
set_option maxHeartbeats 1000000 in
theorem kb_300_10 {D : va_G} {cA : Nat → ClassId} {z sA : Nat → Nat} {H : Heap} (hP : va_P D vwCl (kWs cA z) H) : va_at D vwCl (kAd z sA 300 10, oCell (D, kAd z sA, cA) oS0 300 10) H := 
  kObj (G := (D, kAd z sA, cA)) (hP 51 _ rfl) (kAd_at po_300_10 (by decide)) kd_300 rfl (lt_s (lt_s (lt_s lt_0 (by unfold oFv; rw [ft_300_0]; rfl)) (by unfold oFv; rw [ft_300_1]; rfl)) (by unfold oFv; rw [ft_300_2]; rfl))
set_option maxRecDepth 100000 in
set_option maxHeartbeats 1000000 in
theorem kb_300_11 {D : va_G} {cA : Nat → ClassId} {z sA : Nat → Nat} {H : Heap} (hP : va_P D vwCl (kWs cA z) H) : va_at D vwCl (kAd z sA 300 11, oCell (D, kAd z sA, cA) oS0 300 11) H := 
  kObj (G := (D, kAd z sA, cA)) (hP 52 _ rfl) (kAd_at po_300_11 (by decide)) kd_300 rfl (lt_s (lt_s (lt_s lt_0 (by unfold oFv; rw [ft_300_0]; rfl)) (by unfold oFv; rw [ft_300_1]; rfl)) (by unfold oFv; rw [ft_300_2]; rfl))
set_option maxRecDepth 100000 in
set_option maxHeartbeats 1000000 in
theorem kb_800_0 {D : va_G} {cA : Nat → ClassId} {z sA : Nat → Nat} {H : Heap} (hP : va_P D vwCl (kWs cA z) H) : va_at D vwCl (kAd z sA 800 0, oCell (D, kAd z sA, cA) oS0 800 0) H := 
  kObj (G := (D, kAd z sA, cA)) (hP 53 _ rfl) (kAd_at po_800_0 (by decide)) kd_800 rfl (lt_s (lt_s lt_0 (by unfold oFv; rw [ft_800_0]; show _ = Value.ref (kAd z sA 500 2); rw [kAd_at po_500_2 (by decide)]; rfl)) (by unfold oFv; rw [ft_800_1]; show _ = Value.ref (kAd z sA 500 3); rw [kAd_at po_500_3 (by decide)]; rfl))
set_option maxRecDepth 100000 in
set_option maxHeartbeats 1000000 in
theorem kb_500_2 {D : va_G} {cA : Nat → ClassId} {z sA : Nat → Nat} {H : Heap} (hP : va_P D vwCl (kWs cA z) H) : va_at D vwCl (kAd z sA 500 2, oCell (D, kAd z sA, cA) oS0 500 2) H := 
  kObj (G := (D, kAd z sA, cA)) (hP 54 _ rfl) (kAd_at po_500_2 (by decide)) kd_500 rfl (lt_s (lt_s (lt_s (lt_s (lt_s (lt_s (lt_s (lt_s (lt_s (lt_s lt_0 (by unfold oFv; rw [ft_500_0]; show _ = Value.ref (kAd z sA 501 2); rw [kAd_at po_501_2 (by decide)]; rfl)) (by unfold oFv; rw [ft_500_1]; show _ = Value.ref (kAd z sA 502 2); rw [kAd_at po_502_2 (by decide)]; rfl)) (by unfold oFv; rw [ft_500_2]; show _ = Value.ref (kAd z sA 503 2); rw [kAd_at po_503_2 (by decide)]; rfl)) (by unfold oFv; rw [ft_500_3]; show _ = Value.ref (kAd z sA 504 2); rw [kAd_at po_504_2 (by decide)]; rfl)) (by unfold oFv; rw [ft_500_4]; show _ = Value.ref (kAd z sA 505 2); rw [kAd_at po_505_2 (by decide)]; rfl)) (by unfold oFv; rw [ft_500_5]; rfl)) (by unfold oFv; rw [ft_500_6]; rfl)) (by unfold oFv; rw [ft_500_7]; rfl)) (by unfold oFv; rw [ft_500_8]; rfl)) (by unfold oFv; rw [ft_500_9]; rfl))
set_option maxRecDepth 100000 in
set_option maxHeartbeats 1000000 in
theorem kb_501_2 {D : va_G} {cA : Nat → ClassId} {z sA : Nat → Nat} {H : Heap} (hP : va_P D vwCl (kWs cA z) H) : va_at D vwCl (kAd z sA 501 2, oCell (D, kAd z sA, cA) oS0 501 2) H := kArr (hP 55 _ rfl) (kAd_at po_501_2 (by decide)) (by rw [oCell_L kd_501]; rfl)
set_option maxRecDepth 100000 in
set_option maxHeartbeats 1000000 in
theorem kb_502_2 {D : va_G} {cA : Nat → ClassId} {z sA : Nat → Nat} {H : Heap} (hP : va_P D vwCl (kWs cA z) H) : va_at D vwCl (kAd z sA 502 2, oCell (D, kAd z sA, cA) oS0 502 2) H := kArr (hP 56 _ rfl) (kAd_at po_502_2 (by decide)) (by rw [oCell_I kd_502]; rfl)
set_option maxRecDepth 100000 in
set_option maxHeartbeats 1000000 in
theorem kb_503_2 {D : va_G} {cA : Nat → ClassId} {z sA : Nat → Nat} {H : Heap} (hP : va_P D vwCl (kWs cA z) H) : va_at D vwCl (kAd z sA 503 2, oCell (D, kAd z sA, cA) oS0 503 2) H := kArr (hP 57 _ rfl) (kAd_at po_503_2 (by decide)) (by rw [oCell_I kd_503]; rfl)
set_option maxRecDepth 100000 in
set_option maxHeartbeats 1000000 in
theorem kb_504_2 {D : va_G} {cA : Nat → ClassId} {z sA : Nat → Nat} {H : Heap} (hP : va_P D vwCl (kWs cA z) H) : va_at D vwCl (kAd z sA 504 2, oCell (D, kAd z sA, cA) oS0 504 2) H := kArr (hP 58 _ rfl) (kAd_at po_504_2 (by decide)) (by rw [oCell_I kd_504]; rfl)
set_option maxRecDepth 100000 in
set_option maxHeartbeats 1000000 in
theorem kb_505_2 {D : va_G} {cA : Nat → ClassId} {z sA : Nat → Nat} {H : Heap} (hP : va_P D vwCl (kWs cA z) H) : va_at D vwCl (kAd z sA 505 2, oCell (D, kAd z sA, cA) oS0 505 2) H := kArr (hP 59 _ rfl) (kAd_at po_505_2 (by decide)) (by rw [oCell_I kd_505]; rfl)
set_option maxRecDepth 100000 in
set_option maxHeartbeats 1000000 in
theorem kb_500_3 {D : va_G} {cA : Nat → ClassId} {z sA : Nat → Nat} {H : Heap} (hP : va_P D vwCl (kWs cA z) H) : va_at D vwCl (kAd z sA 500 3, oCell (D, kAd z sA, cA) oS0 500 3) H := 
  kObj (G := (D, kAd z sA, cA)) (hP 60 _ rfl) (kAd_at po_500_3 (by decide)) kd_500 rfl (lt_s (lt_s (lt_s (lt_s (lt_s (lt_s (lt_s (lt_s (lt_s (lt_s lt_0 (by unfold oFv; rw [ft_500_0]; show _ = Value.ref (kAd z sA 501 3); rw [kAd_at po_501_3 (by decide)]; rfl)) (by unfold oFv; rw [ft_500_1]; show _ = Value.ref (kAd z sA 502 3); rw [kAd_at po_502_3 (by decide)]; rfl)) (by unfold oFv; rw [ft_500_2]; show _ = Value.ref (kAd z sA 503 3); rw [kAd_at po_503_3 (by decide)]; rfl)) (by unfold oFv; rw [ft_500_3]; show _ = Value.ref (kAd z sA 504 3); rw [kAd_at po_504_3 (by decide)]; rfl)) (by unfold oFv; rw [ft_500_4]; show _ = Value.ref (kAd z sA 505 3); rw [kAd_at po_505_3 (by decide)]; rfl)) (by unfold oFv; rw [ft_500_5]; rfl)) (by unfold oFv; rw [ft_500_6]; rfl)) (by unfold oFv; rw [ft_500_7]; rfl)) (by unfold oFv; rw [ft_500_8]; rfl)) (by unfold oFv; rw [ft_500_9]; rfl))
set_option maxRecDepth 100000 in
set_option maxHeartbeats 1000000 in
theorem kb_501_3 {D : va_G} {cA : Nat → ClassId} {z sA : Nat → Nat} {H : Heap} (hP : va_P D vwCl (kWs cA z) H) : va_at D vwCl (kAd z sA 501 3, oCell (D, kAd z sA, cA) oS0 501 3) H := kArr (hP 61 _ rfl) (kAd_at po_501_3 (by decide)) (by rw [oCell_L kd_501]; rfl)
set_option maxRecDepth 100000 in
set_option maxHeartbeats 1000000 in
theorem kb_502_3 {D : va_G} {cA : Nat → ClassId} {z sA : Nat → Nat} {H : Heap} (hP : va_P D vwCl (kWs cA z) H) : va_at D vwCl (kAd z sA 502 3, oCell (D, kAd z sA, cA) oS0 502 3) H := kArr (hP 62 _ rfl) (kAd_at po_502_3 (by decide)) (by rw [oCell_I kd_502]; rfl)
set_option maxRecDepth 100000 in
set_option maxHeartbeats 1000000 in
theorem kb_503_3 {D : va_G} {cA : Nat → ClassId} {z sA : Nat → Nat} {H : Heap} (hP : va_P D vwCl (kWs cA z) H) : va_at D vwCl (kAd z sA 503 3, oCell (D, kAd z sA, cA) oS0 503 3) H := kArr (hP 63 _ rfl) (kAd_at po_503_3 (by decide)) (by rw [oCell_I kd_503]; rfl)
set_option maxRecDepth 100000 in
set_option maxHeartbeats 1000000 in
theorem kb_504_3 {D : va_G} {cA : Nat → ClassId} {z sA : Nat → Nat} {H : Heap} (hP : va_P D vwCl (kWs cA z) H) : va_at D vwCl (kAd z sA 504 3, oCell (D, kAd z sA, cA) oS0 504 3) H := kArr (hP 64 _ rfl) (kAd_at po_504_3 (by decide)) (by rw [oCell_I kd_504]; rfl)
set_option maxRecDepth 100000 in
set_option maxHeartbeats 1000000 in
theorem kb_505_3 {D : va_G} {cA : Nat → ClassId} {z sA : Nat → Nat} {H : Heap} (hP : va_P D vwCl (kWs cA z) H) : va_at D vwCl (kAd z sA 505 3, oCell (D, kAd z sA, cA) oS0 505 3) H := kArr (hP 65 _ rfl) (kAd_at po_505_3 (by decide)) (by rw [oCell_I kd_505]; rfl)
set_option maxRecDepth 100000 in
set_option maxHeartbeats 1000000 in
theorem kb_700_0 {D : va_G} {cA : Nat → ClassId} {z sA : Nat → Nat} {H : Heap} (hP : va_P D vwCl (kWs cA z) H) : va_at D vwCl (kAd z sA 700 0, oCell (D, kAd z sA, cA) oS0 700 0) H := 
  kObj (G := (D, kAd z sA, cA)) (hP 66 _ rfl) (kAd_at po_700_0 (by decide)) kd_700 rfl (lt_s (lt_s (lt_s (lt_s (lt_s (lt_s (lt_s (lt_s (lt_s (lt_s lt_0 (by unfold oFv; rw [ft_700_0]; show _ = Value.ref (kAd z sA 701 0); rw [kAd_at po_701_0 (by decide)]; rfl)) (by unfold oFv; rw [ft_700_1]; show _ = Value.ref (kAd z sA 702 0); rw [kAd_at po_702_0 (by decide)]; rfl)) (by unfold oFv; rw [ft_700_2]; show _ = Value.ref (kAd z sA 703 0); rw [kAd_at po_703_0 (by decide)]; rfl)) (by unfold oFv; rw [ft_700_3]; show _ = Value.ref (kAd z sA 704 0); rw [kAd_at po_704_0 (by decide)]; rfl)) (by unfold oFv; rw [ft_700_4]; show _ = Value.ref (kAd z sA 705 0); rw [kAd_at po_705_0 (by decide)]; rfl)) (by unfold oFv; rw [ft_700_5]; rfl)) (by unfold oFv; rw [ft_700_6]; rfl)) (by unfold oFv; rw [ft_700_7]; rfl)) (by unfold oFv; rw [ft_700_8]; rfl)) (by unfold oFv; rw [ft_700_9]; rfl))
set_option maxRecDepth 100000 in
set_option maxHeartbeats 1000000 in
theorem kb_701_0 {D : va_G} {cA : Nat → ClassId} {z sA : Nat → Nat} {H : Heap} (hP : va_P D vwCl (kWs cA z) H) : va_at D vwCl (kAd z sA 701 0, oCell (D, kAd z sA, cA) oS0 701 0) H := kArr (hP 67 _ rfl) (kAd_at po_701_0 (by decide)) (by rw [oCell_I kd_701]; rfl)
set_option maxRecDepth 100000 in
set_option maxHeartbeats 1000000 in
theorem kb_702_0 {D : va_G} {cA : Nat → ClassId} {z sA : Nat → Nat} {H : Heap} (hP : va_P D vwCl (kWs cA z) H) : va_at D vwCl (kAd z sA 702 0, oCell (D, kAd z sA, cA) oS0 702 0) H := kArr (hP 68 _ rfl) (kAd_at po_702_0 (by decide)) (by rw [oCell_I kd_702]; rfl)
set_option maxRecDepth 100000 in
set_option maxHeartbeats 1000000 in
theorem kb_703_0 {D : va_G} {cA : Nat → ClassId} {z sA : Nat → Nat} {H : Heap} (hP : va_P D vwCl (kWs cA z) H) : va_at D vwCl (kAd z sA 703 0, oCell (D, kAd z sA, cA) oS0 703 0) H := kArr (hP 69 _ rfl) (kAd_at po_703_0 (by decide)) (by rw [oCell_I kd_703]; rfl)
set_option maxRecDepth 100000 in
set_option maxHeartbeats 1000000 in
theorem kb_704_0 {D : va_G} {cA : Nat → ClassId} {z sA : Nat → Nat} {H : Heap} (hP : va_P D vwCl (kWs cA z) H) : va_at D vwCl (kAd z sA 704 0, oCell (D, kAd z sA, cA) oS0 704 0) H := kArr (hP 70 _ rfl) (kAd_at po_704_0 (by decide)) (by rw [oCell_Z kd_704]; rfl)
set_option maxRecDepth 100000 in
set_option maxHeartbeats 1000000 in
theorem kb_705_0 {D : va_G} {cA : Nat → ClassId} {z sA : Nat → Nat} {H : Heap} (hP : va_P D vwCl (kWs cA z) H) : va_at D vwCl (kAd z sA 705 0, oCell (D, kAd z sA, cA) oS0 705 0) H := kArr (hP 71 _ rfl) (kAd_at po_705_0 (by decide)) (by rw [oCell_I kd_705]; rfl)
set_option maxRecDepth 100000 in
set_option maxHeartbeats 1000000 in
theorem kb_100_0 {D : va_G} {cA : Nat → ClassId} {z sA : Nat → Nat} {H : Heap} (hP : va_P D vwCl (kWs cA z) H) : va_at D vwCl (kAd z sA 100 0, oCell (D, kAd z sA, cA) oS0 100 0) H := 
  kObj (G := (D, kAd z sA, cA)) (hP 72 _ rfl) (kAd_at po_100_0 (by decide)) kd_100 rfl (lt_s (lt_s (lt_s (lt_s (lt_s (lt_s (lt_s (lt_s lt_0 (by unfold oFv; rw [ft_100_0]; show _ = Value.ref (kAd z sA 101 0); rw [kAd_at po_101_0 (by decide)]; rfl)) (by unfold oFv; rw [ft_100_1]; show _ = Value.ref (kAd z sA 102 0); rw [kAd_at po_102_0 (by decide)]; rfl)) (by unfold oFv; rw [ft_100_2]; show _ = Value.ref (kAd z sA 103 0); rw [kAd_at po_103_0 (by decide)]; rfl)) (by unfold oFv; rw [ft_100_3]; rfl)) (by unfold oFv; rw [ft_100_4]; rfl)) (by unfold oFv; rw [ft_100_5]; rfl)) (by unfold oFv; rw [ft_100_6]; rfl)) (by unfold oFv; rw [ft_100_7]; rfl))
set_option maxRecDepth 100000 in
set_option maxHeartbeats 1000000 in
theorem kb_101_0 {D : va_G} {cA : Nat → ClassId} {z sA : Nat → Nat} {H : Heap} (hP : va_P D vwCl (kWs cA z) H) : va_at D vwCl (kAd z sA 101 0, oCell (D, kAd z sA, cA) oS0 101 0) H := kArr (hP 73 _ rfl) (kAd_at po_101_0 (by decide)) (by rw [oCell_I kd_101]; rfl)
set_option maxRecDepth 100000 in
set_option maxHeartbeats 1000000 in
theorem kb_102_0 {D : va_G} {cA : Nat → ClassId} {z sA : Nat → Nat} {H : Heap} (hP : va_P D vwCl (kWs cA z) H) : va_at D vwCl (kAd z sA 102 0, oCell (D, kAd z sA, cA) oS0 102 0) H := kArr (hP 74 _ rfl) (kAd_at po_102_0 (by decide)) (by rw [oCell_I kd_102]; rfl)
set_option maxRecDepth 100000 in
set_option maxHeartbeats 1000000 in
theorem kb_103_0 {D : va_G} {cA : Nat → ClassId} {z sA : Nat → Nat} {H : Heap} (hP : va_P D vwCl (kWs cA z) H) : va_at D vwCl (kAd z sA 103 0, oCell (D, kAd z sA, cA) oS0 103 0) H := kArr (hP 75 _ rfl) (kAd_at po_103_0 (by decide)) (by rw [oCell_I kd_103]; rfl)
set_option maxRecDepth 100000 in
set_option maxHeartbeats 1000000 in
theorem kb_1000_0 {D : va_G} {cA : Nat → ClassId} {z sA : Nat → Nat} {H : Heap} (hP : va_P D vwCl (kWs cA z) H) : va_at D vwCl (kAd z sA 1000 0, oCell (D, kAd z sA, cA) oS0 1000 0) H := 
  kObj (G := (D, kAd z sA, cA)) (hP 76 _ rfl) (kAd_at po_1000_0 (by decide)) kd_1000 rfl (lt_s (lt_s (lt_s (lt_s (lt_s (lt_s (lt_s (lt_s (lt_s (lt_s (lt_s (lt_s (lt_s (lt_s (lt_s (lt_s (lt_s (lt_s (lt_s (lt_s (lt_s (lt_s (lt_s (lt_s (lt_s (lt_s (lt_s (lt_s (lt_s (lt_s (lt_s (lt_s (lt_s (lt_s (lt_s (lt_s (lt_s (lt_s (lt_s (lt_s (lt_s (lt_s (lt_s (lt_s (lt_s (lt_s (lt_s (lt_s (lt_s (lt_s (lt_s (lt_s (lt_s (lt_s (lt_s (lt_s (lt_s (lt_s (lt_s (lt_s (lt_s (lt_s (lt_s (lt_s (lt_s lt_0 (by unfold oFv; rw [ft_1000_0]; rfl)) (by unfold oFv; rw [ft_1000_1]; show _ = Value.ref (kAd z sA 1002 0); rw [kAd_at po_1002_0 (by decide)]; rfl)) (by unfold oFv; rw [ft_1000_2]; show _ = Value.ref (kAd z sA 1003 0); rw [kAd_at po_1003_0 (by decide)]; rfl)) (by unfold oFv; rw [ft_1000_3]; show _ = Value.ref (kAd z sA 1004 0); rw [kAd_at po_1004_0 (by decide)]; rfl)) (by unfold oFv; rw [ft_1000_4]; rfl)) (by unfold oFv; rw [ft_1000_5]; rfl)) (by unfold oFv; rw [ft_1000_6]; show _ = Value.ref (kAd z sA 1007 0); rw [kAd_at po_1007_0 (by decide)]; rfl)) (by unfold oFv; rw [ft_1000_7]; show _ = Value.ref (kAd z sA 1008 0); rw [kAd_at po_1008_0 (by decide)]; rfl)) (by unfold oFv; rw [ft_1000_8]; rfl)) (by unfold oFv; rw [ft_1000_9]; rfl)) (by unfold oFv; rw [ft_1000_10]; rfl)) (by unfold oFv; rw [ft_1000_11]; rfl)) (by unfold oFv; rw [ft_1000_12]; rfl)) (by unfold oFv; rw [ft_1000_13]; rfl)) (by unfold oFv; rw [ft_1000_14]; show _ = Value.ref (kAd z sA 1015 0); rw [kAd_at po_1015_0 (by decide)]; rfl)) (by unfold oFv; rw [ft_1000_15]; show _ = Value.ref (kAd z sA 1016 0); rw [kAd_at po_1016_0 (by decide)]; rfl)) (by unfold oFv; rw [ft_1000_16]; show _ = Value.ref (kAd z sA 1017 0); rw [kAd_at po_1017_0 (by decide)]; rfl)) (by unfold oFv; rw [ft_1000_17]; show _ = Value.ref (kAd z sA 1018 0); rw [kAd_at po_1018_0 (by decide)]; rfl)) (by unfold oFv; rw [ft_1000_18]; show _ = Value.ref (kAd z sA 1019 0); rw [kAd_at po_1019_0 (by decide)]; rfl)) (by unfold oFv; rw [ft_1000_19]; show _ = Value.ref (kAd z sA 1020 0); rw [kAd_at po_1020_0 (by decide)]; rfl)) (by unfold oFv; rw [ft_1000_20]; show _ = Value.ref (kAd z sA 1021 0); rw [kAd_at po_1021_0 (by decide)]; rfl)) (by unfold oFv; rw [ft_1000_21]; show _ = Value.ref (kAd z sA 1022 0); rw [kAd_at po_1022_0 (by decide)]; rfl)) (by unfold oFv; rw [ft_1000_22]; show _ = Value.ref (kAd z sA 1023 0); rw [kAd_at po_1023_0 (by decide)]; rfl)) (by unfold oFv; rw [ft_1000_23]; show _ = Value.ref (kAd z sA 1024 0); rw [kAd_at po_1024_0 (by decide)]; rfl)) (by unfold oFv; rw [ft_1000_24]; rfl)) (by unfold oFv; rw [ft_1000_25]; show _ = Value.ref (kAd z sA 1026 0); rw [kAd_at po_1026_0 (by decide)]; rfl)) (by unfold oFv; rw [ft_1000_26]; show _ = Value.ref (kAd z sA 1027 0); rw [kAd_at po_1027_0 (by decide)]; rfl)) (by unfold oFv; rw [ft_1000_27]; show _ = Value.ref (kAd z sA 1028 0); rw [kAd_at po_1028_0 (by decide)]; rfl)) (by unfold oFv; rw [ft_1000_28]; show _ = Value.ref (kAd z sA 1029 0); rw [kAd_at po_1029_0 (by decide)]; rfl)) (by unfold oFv; rw [ft_1000_29]; show _ = Value.ref (kAd z sA 1030 0); rw [kAd_at po_1030_0 (by decide)]; rfl)) (by unfold oFv; rw [ft_1000_30]; show _ = Value.ref (kAd z sA 1031 0); rw [kAd_at po_1031_0 (by decide)]; rfl)) (by unfold oFv; rw [ft_1000_31]; rfl)) (by unfold oFv; rw [ft_1000_32]; rfl)) (by unfold oFv; rw [ft_1000_33]; show _ = Value.ref (kAd z sA 1034 0); rw [kAd_at po_1034_0 (by decide)]; rfl)) (by unfold oFv; rw [ft_1000_34]; rfl)) (by unfold oFv; rw [ft_1000_35]; show _ = Value.ref (kAd z sA 1036 0); rw [kAd_at po_1036_0 (by decide)]; rfl)) (by unfold oFv; rw [ft_1000_36]; rfl)) (by unfold oFv; rw [ft_1000_37]; rfl)) (by unfold oFv; rw [ft_1000_38]; rfl)) (by unfold oFv; rw [ft_1000_39]; rfl)) (by unfold oFv; rw [ft_1000_40]; rfl)) (by unfold oFv; rw [ft_1000_41]; show _ = Value.ref (kAd z sA 1042 0); rw [kAd_at po_1042_0 (by decide)]; rfl)) (by unfold oFv; rw [ft_1000_42]; show _ = Value.ref (kAd z sA 1043 0); rw [kAd_at po_1043_0 (by decide)]; rfl)) (by unfold oFv; rw [ft_1000_43]; show _ = Value.ref (kAd z sA 1044 0); rw [kAd_at po_1044_0 (by decide)]; rfl)) (by unfold oFv; rw [ft_1000_44]; show _ = Value.ref (kAd z sA 1045 0); rw [kAd_at po_1045_0 (by decide)]; rfl)) (by unfold oFv; rw [ft_1000_45]; show _ = Value.ref (kAd z sA 1046 0); rw [kAd_at po_1046_0 (by decide)]; rfl)) (by unfold oFv; rw [ft_1000_46]; rfl)) (by unfold oFv; rw [ft_1000_47]; show _ = Value.ref (kAd z sA 1048 0); rw [kAd_at po_1048_0 (by decide)]; rfl)) (by unfold oFv; rw [ft_1000_48]; show _ = Value.ref (kAd z sA 1049 0); rw [kAd_at po_1049_0 (by decide)]; rfl)) (by unfold oFv; rw [ft_1000_49]; show _ = Value.ref (kAd z sA 1050 0); rw [kAd_at po_1050_0 (by decide)]; rfl)) (by unfold oFv; rw [ft_1000_50]; show _ = Value.ref (kAd z sA 1051 0); rw [kAd_at po_1051_0 (by decide)]; rfl)) (by unfold oFv; rw [ft_1000_51]; show _ = Value.ref (kAd z sA 1052 0); rw [kAd_at po_1052_0 (by decide)]; rfl)) (by unfold oFv; rw [ft_1000_52]; rfl)) (by unfold oFv; rw [ft_1000_53]; rfl)) (by unfold oFv; rw [ft_1000_54]; rfl)) (by unfold oFv; rw [ft_1000_55]; rfl)) (by unfold oFv; rw [ft_1000_56]; show _ = Value.ref (kAd z sA 1057 0); rw [kAd_at po_1057_0 (by decide)]; rfl)) (by unfold oFv; rw [ft_1000_57]; rfl)) (by unfold oFv; rw [ft_1000_58]; show _ = Value.ref (kAd z sA 1059 0); rw [kAd_at po_1059_0 (by decide)]; rfl)) (by unfold oFv; rw [ft_1000_59]; show _ = Value.ref (kAd z sA 1060 0); rw [kAd_at po_1060_0 (by decide)]; rfl)) (by unfold oFv; rw [ft_1000_60]; show _ = Value.ref (kAd z sA 1061 0); rw [kAd_at po_1061_0 (by decide)]; rfl)) (by unfold oFv; rw [ft_1000_61]; show _ = Value.ref (kAd z sA 1062 0); rw [kAd_at po_1062_0 (by decide)]; rfl)) (by unfold oFv; rw [ft_1000_62]; show _ = Value.ref (kAd z sA 1063 0); rw [kAd_at po_1063_0 (by decide)]; rfl)) (by unfold oFv; rw [ft_1000_63]; rfl)) (by unfold oFv; rw [ft_1000_64]; show _ = Value.ref (kAd z sA 1065 0); rw [kAd_at po_1065_0 (by decide)]; rfl))
set_option maxRecDepth 100000 in
set_option maxHeartbeats 1000000 in
theorem kb_1002_0 {D : va_G} {cA : Nat → ClassId} {z sA : Nat → Nat} {H : Heap} (hP : va_P D vwCl (kWs cA z) H) : va_at D vwCl (kAd z sA 1002 0, oCell (D, kAd z sA, cA) oS0 1002 0) H := kArr (hP 77 _ rfl) (kAd_at po_1002_0 (by decide)) (by rw [oCell_L kd_1002]; rfl)
set_option maxRecDepth 100000 in
set_option maxHeartbeats 1000000 in
theorem kb_1003_0 {D : va_G} {cA : Nat → ClassId} {z sA : Nat → Nat} {H : Heap} (hP : va_P D vwCl (kWs cA z) H) : va_at D vwCl (kAd z sA 1003 0, oCell (D, kAd z sA, cA) oS0 1003 0) H := kArr (hP 78 _ rfl) (kAd_at po_1003_0 (by decide)) (by rw [oCell_I kd_1003]; rfl)
set_option maxRecDepth 100000 in
set_option maxHeartbeats 1000000 in
theorem kb_1004_0 {D : va_G} {cA : Nat → ClassId} {z sA : Nat → Nat} {H : Heap} (hP : va_P D vwCl (kWs cA z) H) : va_at D vwCl (kAd z sA 1004 0, oCell (D, kAd z sA, cA) oS0 1004 0) H := kArr (hP 79 _ rfl) (kAd_at po_1004_0 (by decide)) (by rw [oCell_I kd_1004]; rfl)
set_option maxRecDepth 100000 in
set_option maxHeartbeats 1000000 in
theorem kb_1007_0 {D : va_G} {cA : Nat → ClassId} {z sA : Nat → Nat} {H : Heap} (hP : va_P D vwCl (kWs cA z) H) : va_at D vwCl (kAd z sA 1007 0, oCell (D, kAd z sA, cA) oS0 1007 0) H := kArr (hP 80 _ rfl) (kAd_at po_1007_0 (by decide)) (by rw [oCell_I kd_1007]; rfl)
set_option maxRecDepth 100000 in
set_option maxHeartbeats 1000000 in
theorem kb_1008_0 {D : va_G} {cA : Nat → ClassId} {z sA : Nat → Nat} {H : Heap} (hP : va_P D vwCl (kWs cA z) H) : va_at D vwCl (kAd z sA 1008 0, oCell (D, kAd z sA, cA) oS0 1008 0) H := kArr (hP 81 _ rfl) (kAd_at po_1008_0 (by decide)) (by rw [oCell_I kd_1008]; rfl)
set_option maxRecDepth 100000 in
set_option maxHeartbeats 1000000 in
theorem kb_1015_0 {D : va_G} {cA : Nat → ClassId} {z sA : Nat → Nat} {H : Heap} (hP : va_P D vwCl (kWs cA z) H) : va_at D vwCl (kAd z sA 1015 0, oCell (D, kAd z sA, cA) oS0 1015 0) H := kArr (hP 82 _ rfl) (kAd_at po_1015_0 (by decide)) (by rw [oCell_I kd_1015]; rfl)
set_option maxRecDepth 100000 in
set_option maxHeartbeats 1000000 in
theorem kb_1016_0 {D : va_G} {cA : Nat → ClassId} {z sA : Nat → Nat} {H : Heap} (hP : va_P D vwCl (kWs cA z) H) : va_at D vwCl (kAd z sA 1016 0, oCell (D, kAd z sA, cA) oS0 1016 0) H := kArr (hP 83 _ rfl) (kAd_at po_1016_0 (by decide)) (by rw [oCell_Z kd_1016]; rfl)
set_option maxRecDepth 100000 in
set_option maxHeartbeats 1000000 in
theorem kb_1017_0 {D : va_G} {cA : Nat → ClassId} {z sA : Nat → Nat} {H : Heap} (hP : va_P D vwCl (kWs cA z) H) : va_at D vwCl (kAd z sA 1017 0, oCell (D, kAd z sA, cA) oS0 1017 0) H := kArr (hP 84 _ rfl) (kAd_at po_1017_0 (by decide)) (by rw [oCell_I kd_1017]; rfl)
set_option maxRecDepth 100000 in
set_option maxHeartbeats 1000000 in
theorem kb_1018_0 {D : va_G} {cA : Nat → ClassId} {z sA : Nat → Nat} {H : Heap} (hP : va_P D vwCl (kWs cA z) H) : va_at D vwCl (kAd z sA 1018 0, oCell (D, kAd z sA, cA) oS0 1018 0) H := kArr (hP 85 _ rfl) (kAd_at po_1018_0 (by decide)) (by rw [oCell_I kd_1018]; rfl)
set_option maxRecDepth 100000 in
set_option maxHeartbeats 1000000 in
theorem kb_1019_0 {D : va_G} {cA : Nat → ClassId} {z sA : Nat → Nat} {H : Heap} (hP : va_P D vwCl (kWs cA z) H) : va_at D vwCl (kAd z sA 1019 0, oCell (D, kAd z sA, cA) oS0 1019 0) H := kArr (hP 86 _ rfl) (kAd_at po_1019_0 (by decide)) (by rw [oCell_I kd_1019]; rfl)
set_option maxRecDepth 100000 in
set_option maxHeartbeats 1000000 in
theorem kb_1020_0 {D : va_G} {cA : Nat → ClassId} {z sA : Nat → Nat} {H : Heap} (hP : va_P D vwCl (kWs cA z) H) : va_at D vwCl (kAd z sA 1020 0, oCell (D, kAd z sA, cA) oS0 1020 0) H := kArr (hP 87 _ rfl) (kAd_at po_1020_0 (by decide)) (by rw [oCell_I kd_1020]; rfl)
set_option maxRecDepth 100000 in
set_option maxHeartbeats 1000000 in
theorem kb_1021_0 {D : va_G} {cA : Nat → ClassId} {z sA : Nat → Nat} {H : Heap} (hP : va_P D vwCl (kWs cA z) H) : va_at D vwCl (kAd z sA 1021 0, oCell (D, kAd z sA, cA) oS0 1021 0) H := kArr (hP 88 _ rfl) (kAd_at po_1021_0 (by decide)) (by rw [oCell_I kd_1021]; rfl)
set_option maxRecDepth 100000 in
set_option maxHeartbeats 1000000 in
theorem kb_1022_0 {D : va_G} {cA : Nat → ClassId} {z sA : Nat → Nat} {H : Heap} (hP : va_P D vwCl (kWs cA z) H) : va_at D vwCl (kAd z sA 1022 0, oCell (D, kAd z sA, cA) oS0 1022 0) H := kArr (hP 89 _ rfl) (kAd_at po_1022_0 (by decide)) (by rw [oCell_I kd_1022]; rfl)
set_option maxRecDepth 100000 in
set_option maxHeartbeats 1000000 in
theorem kb_1023_0 {D : va_G} {cA : Nat → ClassId} {z sA : Nat → Nat} {H : Heap} (hP : va_P D vwCl (kWs cA z) H) : va_at D vwCl (kAd z sA 1023 0, oCell (D, kAd z sA, cA) oS0 1023 0) H := kArr (hP 90 _ rfl) (kAd_at po_1023_0 (by decide)) (by rw [oCell_I kd_1023]; rfl)
set_option maxRecDepth 100000 in
set_option maxHeartbeats 1000000 in
theorem kb_1024_0 {D : va_G} {cA : Nat → ClassId} {z sA : Nat → Nat} {H : Heap} (hP : va_P D vwCl (kWs cA z) H) : va_at D vwCl (kAd z sA 1024 0, oCell (D, kAd z sA, cA) oS0 1024 0) H := kArr (hP 91 _ rfl) (kAd_at po_1024_0 (by decide)) (by rw [oCell_I kd_1024]; rfl)
set_option maxRecDepth 100000 in
set_option maxHeartbeats 1000000 in
theorem kb_1026_0 {D : va_G} {cA : Nat → ClassId} {z sA : Nat → Nat} {H : Heap} (hP : va_P D vwCl (kWs cA z) H) : va_at D vwCl (kAd z sA 1026 0, oCell (D, kAd z sA, cA) oS0 1026 0) H := kArr (hP 92 _ rfl) (kAd_at po_1026_0 (by decide)) (by rw [oCell_I kd_1026]; rfl)
set_option maxRecDepth 100000 in
set_option maxHeartbeats 1000000 in
theorem kb_1027_0 {D : va_G} {cA : Nat → ClassId} {z sA : Nat → Nat} {H : Heap} (hP : va_P D vwCl (kWs cA z) H) : va_at D vwCl (kAd z sA 1027 0, oCell (D, kAd z sA, cA) oS0 1027 0) H := kArr (hP 93 _ rfl) (kAd_at po_1027_0 (by decide)) (by rw [oCell_I kd_1027]; rfl)
set_option maxRecDepth 100000 in
set_option maxHeartbeats 1000000 in
theorem kb_1028_0 {D : va_G} {cA : Nat → ClassId} {z sA : Nat → Nat} {H : Heap} (hP : va_P D vwCl (kWs cA z) H) : va_at D vwCl (kAd z sA 1028 0, oCell (D, kAd z sA, cA) oS0 1028 0) H := kArr (hP 94 _ rfl) (kAd_at po_1028_0 (by decide)) (by rw [oCell_I kd_1028]; rfl)
set_option maxRecDepth 100000 in
set_option maxHeartbeats 1000000 in
theorem kb_1029_0 {D : va_G} {cA : Nat → ClassId} {z sA : Nat → Nat} {H : Heap} (hP : va_P D vwCl (kWs cA z) H) : va_at D vwCl (kAd z sA 1029 0, oCell (D, kAd z sA, cA) oS0 1029 0) H := kArr (hP 95 _ rfl) (kAd_at po_1029_0 (by decide)) (by rw [oCell_I kd_1029]; rfl)
set_option maxRecDepth 100000 in
set_option maxHeartbeats 1000000 in
theorem kb_1030_0 {D : va_G} {cA : Nat → ClassId} {z sA : Nat → Nat} {H : Heap} (hP : va_P D vwCl (kWs cA z) H) : va_at D vwCl (kAd z sA 1030 0, oCell (D, kAd z sA, cA) oS0 1030 0) H := kArr (hP 96 _ rfl) (kAd_at po_1030_0 (by decide)) (by rw [oCell_I kd_1030]; rfl)
set_option maxRecDepth 100000 in
set_option maxHeartbeats 1000000 in
theorem kb_1031_0 {D : va_G} {cA : Nat → ClassId} {z sA : Nat → Nat} {H : Heap} (hP : va_P D vwCl (kWs cA z) H) : va_at D vwCl (kAd z sA 1031 0, oCell (D, kAd z sA, cA) oS0 1031 0) H := kArr (hP 97 _ rfl) (kAd_at po_1031_0 (by decide)) (by rw [oCell_I kd_1031]; rfl)
set_option maxRecDepth 100000 in
set_option maxHeartbeats 1000000 in
theorem kb_1034_0 {D : va_G} {cA : Nat → ClassId} {z sA : Nat → Nat} {H : Heap} (hP : va_P D vwCl (kWs cA z) H) : va_at D vwCl (kAd z sA 1034 0, oCell (D, kAd z sA, cA) oS0 1034 0) H := kArr (hP 98 _ rfl) (kAd_at po_1034_0 (by decide)) (by rw [oCell_I kd_1034]; rfl)
set_option maxRecDepth 100000 in
set_option maxHeartbeats 1000000 in
theorem kb_1036_0 {D : va_G} {cA : Nat → ClassId} {z sA : Nat → Nat} {H : Heap} (hP : va_P D vwCl (kWs cA z) H) : va_at D vwCl (kAd z sA 1036 0, oCell (D, kAd z sA, cA) oS0 1036 0) H := kArr (hP 99 _ rfl) (kAd_at po_1036_0 (by decide)) (by rw [oCell_I kd_1036]; rfl)
set_option maxRecDepth 100000 in
set_option maxHeartbeats 1000000 in
theorem kb_1042_0 {D : va_G} {cA : Nat → ClassId} {z sA : Nat → Nat} {H : Heap} (hP : va_P D vwCl (kWs cA z) H) : va_at D vwCl (kAd z sA 1042 0, oCell (D, kAd z sA, cA) oS0 1042 0) H := kArr (hP 100 _ rfl) (kAd_at po_1042_0 (by decide)) (by rw [oCell_I kd_1042]; rfl)
set_option maxRecDepth 100000 in
set_option maxHeartbeats 1000000 in
theorem kb_1043_0 {D : va_G} {cA : Nat → ClassId} {z sA : Nat → Nat} {H : Heap} (hP : va_P D vwCl (kWs cA z) H) : va_at D vwCl (kAd z sA 1043 0, oCell (D, kAd z sA, cA) oS0 1043 0) H := kArr (hP 101 _ rfl) (kAd_at po_1043_0 (by decide)) (by rw [oCell_I kd_1043]; rfl)
set_option maxRecDepth 100000 in
set_option maxHeartbeats 1000000 in
theorem kb_1044_0 {D : va_G} {cA : Nat → ClassId} {z sA : Nat → Nat} {H : Heap} (hP : va_P D vwCl (kWs cA z) H) : va_at D vwCl (kAd z sA 1044 0, oCell (D, kAd z sA, cA) oS0 1044 0) H := kArr (hP 102 _ rfl) (kAd_at po_1044_0 (by decide)) (by rw [oCell_I kd_1044]; rfl)
set_option maxRecDepth 100000 in
set_option maxHeartbeats 1000000 in
theorem kb_1045_0 {D : va_G} {cA : Nat → ClassId} {z sA : Nat → Nat} {H : Heap} (hP : va_P D vwCl (kWs cA z) H) : va_at D vwCl (kAd z sA 1045 0, oCell (D, kAd z sA, cA) oS0 1045 0) H := kArr (hP 103 _ rfl) (kAd_at po_1045_0 (by decide)) (by rw [oCell_Z kd_1045]; rfl)
set_option maxRecDepth 100000 in
set_option maxHeartbeats 1000000 in
theorem kb_1046_0 {D : va_G} {cA : Nat → ClassId} {z sA : Nat → Nat} {H : Heap} (hP : va_P D vwCl (kWs cA z) H) : va_at D vwCl (kAd z sA 1046 0, oCell (D, kAd z sA, cA) oS0 1046 0) H := kArr (hP 104 _ rfl) (kAd_at po_1046_0 (by decide)) (by rw [oCell_I kd_1046]; rfl)
set_option maxRecDepth 100000 in
set_option maxHeartbeats 1000000 in
theorem kb_1048_0 {D : va_G} {cA : Nat → ClassId} {z sA : Nat → Nat} {H : Heap} (hP : va_P D vwCl (kWs cA z) H) : va_at D vwCl (kAd z sA 1048 0, oCell (D, kAd z sA, cA) oS0 1048 0) H := kArr (hP 105 _ rfl) (kAd_at po_1048_0 (by decide)) (by rw [oCell_I kd_1048]; rfl)
set_option maxRecDepth 100000 in
set_option maxHeartbeats 1000000 in
theorem kb_1049_0 {D : va_G} {cA : Nat → ClassId} {z sA : Nat → Nat} {H : Heap} (hP : va_P D vwCl (kWs cA z) H) : va_at D vwCl (kAd z sA 1049 0, oCell (D, kAd z sA, cA) oS0 1049 0) H := kArr (hP 106 _ rfl) (kAd_at po_1049_0 (by decide)) (by rw [oCell_I kd_1049]; rfl)
set_option maxRecDepth 100000 in
set_option maxHeartbeats 1000000 in
theorem kb_1050_0 {D : va_G} {cA : Nat → ClassId} {z sA : Nat → Nat} {H : Heap} (hP : va_P D vwCl (kWs cA z) H) : va_at D vwCl (kAd z sA 1050 0, oCell (D, kAd z sA, cA) oS0 1050 0) H := kArr (hP 107 _ rfl) (kAd_at po_1050_0 (by decide)) (by rw [oCell_L kd_1050]; rfl)
set_option maxRecDepth 100000 in
set_option maxHeartbeats 1000000 in
theorem kb_1051_0 {D : va_G} {cA : Nat → ClassId} {z sA : Nat → Nat} {H : Heap} (hP : va_P D vwCl (kWs cA z) H) : va_at D vwCl (kAd z sA 1051 0, oCell (D, kAd z sA, cA) oS0 1051 0) H := kArr (hP 108 _ rfl) (kAd_at po_1051_0 (by decide)) (by rw [oCell_L kd_1051]; rfl)
set_option maxRecDepth 100000 in
set_option maxHeartbeats 1000000 in
theorem kb_1052_0 {D : va_G} {cA : Nat → ClassId} {z sA : Nat → Nat} {H : Heap} (hP : va_P D vwCl (kWs cA z) H) : va_at D vwCl (kAd z sA 1052 0, oCell (D, kAd z sA, cA) oS0 1052 0) H := kArr (hP 109 _ rfl) (kAd_at po_1052_0 (by decide)) (by rw [oCell_I kd_1052]; rfl)
set_option maxRecDepth 100000 in
set_option maxHeartbeats 1000000 in
theorem kb_1057_0 {D : va_G} {cA : Nat → ClassId} {z sA : Nat → Nat} {H : Heap} (hP : va_P D vwCl (kWs cA z) H) : va_at D vwCl (kAd z sA 1057 0, oCell (D, kAd z sA, cA) oS0 1057 0) H := kArr (hP 110 _ rfl) (kAd_at po_1057_0 (by decide)) (by rw [oCell_L kd_1057]; rfl)
set_option maxRecDepth 100000 in
set_option maxHeartbeats 1000000 in
theorem kb_1059_0 {D : va_G} {cA : Nat → ClassId} {z sA : Nat → Nat} {H : Heap} (hP : va_P D vwCl (kWs cA z) H) : va_at D vwCl (kAd z sA 1059 0, oCell (D, kAd z sA, cA) oS0 1059 0) H := kArr (hP 111 _ rfl) (kAd_at po_1059_0 (by decide)) (by rw [oCell_I kd_1059]; rfl)
set_option maxRecDepth 100000 in
set_option maxHeartbeats 1000000 in
theorem kb_1060_0 {D : va_G} {cA : Nat → ClassId} {z sA : Nat → Nat} {H : Heap} (hP : va_P D vwCl (kWs cA z) H) : va_at D vwCl (kAd z sA 1060 0, oCell (D, kAd z sA, cA) oS0 1060 0) H := kArr (hP 112 _ rfl) (kAd_at po_1060_0 (by decide)) (by rw [oCell_I kd_1060]; rfl)
set_option maxRecDepth 100000 in
set_option maxHeartbeats 1000000 in
theorem kb_1061_0 {D : va_G} {cA : Nat → ClassId} {z sA : Nat → Nat} {H : Heap} (hP : va_P D vwCl (kWs cA z) H) : va_at D vwCl (kAd z sA 1061 0, oCell (D, kAd z sA, cA) oS0 1061 0) H := kArr (hP 113 _ rfl) (kAd_at po_1061_0 (by decide)) (by rw [oCell_I kd_1061]; rfl)
set_option maxRecDepth 100000 in
set_option maxHeartbeats 1000000 in
theorem kb_1062_0 {D : va_G} {cA : Nat → ClassId} {z sA : Nat → Nat} {H : Heap} (hP : va_P D vwCl (kWs cA z) H) : va_at D vwCl (kAd z sA 1062 0, oCell (D, kAd z sA, cA) oS0 1062 0) H := kArr (hP 114 _ rfl) (kAd_at po_1062_0 (by decide)) (by rw [oCell_Z kd_1062]; rfl)
set_option maxRecDepth 100000 in
set_option maxHeartbeats 1000000 in
theorem kb_1063_0 {D : va_G} {cA : Nat → ClassId} {z sA : Nat → Nat} {H : Heap} (hP : va_P D vwCl (kWs cA z) H) : va_at D vwCl (kAd z sA 1063 0, oCell (D, kAd z sA, cA) oS0 1063 0) H := kArr (hP 115 _ rfl) (kAd_at po_1063_0 (by decide)) (by rw [oCell_I kd_1063]; rfl)
set_option maxRecDepth 100000 in
set_option maxHeartbeats 1000000 in
theorem kb_1065_0 {D : va_G} {cA : Nat → ClassId} {z sA : Nat → Nat} {H : Heap} (hP : va_P D vwCl (kWs cA z) H) : va_at D vwCl (kAd z sA 1065 0, oCell (D, kAd z sA, cA) oS0 1065 0) H := kArr (hP 116 _ rfl) (kAd_at po_1065_0 (by decide)) (by rw [oCell_I kd_1065]; rfl)
set_option maxRecDepth 100000 in
theorem k_bridge {D : va_G} {cA : Nat → ClassId} {z sA : Nat → Nat} {H : Heap} (hP : va_P D vwCl (kWs cA z) H) : va_P D vwCl (oWs (D, kAd z sA, cA) oS0) H := by
  have h : ∀ q ∈ oIds, va_at D vwCl (kAd z sA q.1 q.2, oCell (D, kAd z sA, cA) oS0 q.1 q.2) H := by
    rw [oIds_eq]
    exact List.forall_mem_cons.mpr ⟨kb_100_0 hP, List.forall_mem_cons.mpr ⟨kb_101_0 hP, List.forall_mem_cons.mpr ⟨kb_102_0 hP, List.forall_mem_cons.mpr ⟨kb_103_0 hP, List.forall_mem_cons.mpr ⟨kb_200_0 hP, List.forall_mem_cons.mpr ⟨kb_201_0 hP, List.forall_mem_cons.mpr ⟨kb_202_0 hP, List.forall_mem_cons.mpr ⟨kb_203_0 hP, List.forall_mem_cons.mpr ⟨kb_204_0 hP, List.forall_mem_cons.mpr ⟨kb_205_0 hP, List.forall_mem_cons.mpr ⟨kb_206_0 hP, List.forall_mem_cons.mpr ⟨kb_207_0 hP, List.forall_mem_cons.mpr ⟨kb_208_0 hP, List.forall_mem_cons.mpr ⟨kb_209_0 hP, List.forall_mem_cons.mpr ⟨kb_210_0 hP, List.forall_mem_cons.mpr ⟨kb_300_0 hP, List.forall_mem_cons.mpr ⟨kb_300_1 hP, List.forall_mem_cons.mpr ⟨kb_300_2 hP, List.forall_mem_cons.mpr ⟨kb_300_3 hP, List.forall_mem_cons.mpr ⟨kb_300_4 hP, List.forall_mem_cons.mpr ⟨kb_300_5 hP, List.forall_mem_cons.mpr ⟨kb_300_6 hP, List.forall_mem_cons.mpr ⟨kb_300_7 hP, List.forall_mem_cons.mpr ⟨kb_300_8 hP, List.forall_mem_cons.mpr ⟨kb_300_9 hP, List.forall_mem_cons.mpr ⟨kb_300_10 hP, List.forall_mem_cons.mpr ⟨kb_300_11 hP, List.forall_mem_cons.mpr ⟨kb_400_0 hP, List.forall_mem_cons.mpr ⟨kb_402_0 hP, List.forall_mem_cons.mpr ⟨kb_403_0 hP, List.forall_mem_cons.mpr ⟨kb_404_0 hP, List.forall_mem_cons.mpr ⟨kb_405_0 hP, List.forall_mem_cons.mpr ⟨kb_406_0 hP, List.forall_mem_cons.mpr ⟨kb_407_0 hP, List.forall_mem_cons.mpr ⟨kb_408_0 hP, List.forall_mem_cons.mpr ⟨kb_500_0 hP, List.forall_mem_cons.mpr ⟨kb_500_1 hP, List.forall_mem_cons.mpr ⟨kb_500_2 hP, List.forall_mem_cons.mpr ⟨kb_500_3 hP, List.forall_mem_cons.mpr ⟨kb_501_0 hP, List.forall_mem_cons.mpr ⟨kb_501_1 hP, List.forall_mem_cons.mpr ⟨kb_501_2 hP, List.forall_mem_cons.mpr ⟨kb_501_3 hP, List.forall_mem_cons.mpr ⟨kb_502_0 hP, List.forall_mem_cons.mpr ⟨kb_502_1 hP, List.forall_mem_cons.mpr ⟨kb_502_2 hP, List.forall_mem_cons.mpr ⟨kb_502_3 hP, List.forall_mem_cons.mpr ⟨kb_503_0 hP, List.forall_mem_cons.mpr ⟨kb_503_1 hP, List.forall_mem_cons.mpr ⟨kb_503_2 hP, List.forall_mem_cons.mpr ⟨kb_503_3 hP, List.forall_mem_cons.mpr ⟨kb_504_0 hP, List.forall_mem_cons.mpr ⟨kb_504_1 hP, List.forall_mem_cons.mpr ⟨kb_504_2 hP, List.forall_mem_cons.mpr ⟨kb_504_3 hP, List.forall_mem_cons.mpr ⟨kb_505_0 hP, List.forall_mem_cons.mpr ⟨kb_505_1 hP, List.forall_mem_cons.mpr ⟨kb_505_2 hP, List.forall_mem_cons.mpr ⟨kb_505_3 hP, List.forall_mem_cons.mpr ⟨kb_600_0 hP, List.forall_mem_cons.mpr ⟨kb_603_0 hP, List.forall_mem_cons.mpr ⟨kb_604_0 hP, List.forall_mem_cons.mpr ⟨kb_605_0 hP, List.forall_mem_cons.mpr ⟨kb_606_0 hP, List.forall_mem_cons.mpr ⟨kb_607_0 hP, List.forall_mem_cons.mpr ⟨kb_608_0 hP, List.forall_mem_cons.mpr ⟨kb_609_0 hP, List.forall_mem_cons.mpr ⟨kb_610_0 hP, List.forall_mem_cons.mpr ⟨kb_700_0 hP, List.forall_mem_cons.mpr ⟨kb_701_0 hP, List.forall_mem_cons.mpr ⟨kb_702_0 hP, List.forall_mem_cons.mpr ⟨kb_703_0 hP, List.forall_mem_cons.mpr ⟨kb_704_0 hP, List.forall_mem_cons.mpr ⟨kb_705_0 hP, List.forall_mem_cons.mpr ⟨kb_800_0 hP, List.forall_mem_cons.mpr ⟨kb_900_0 hP, List.forall_mem_cons.mpr ⟨kb_1000_0 hP, List.forall_mem_cons.mpr ⟨kb_1002_0 hP, List.forall_mem_cons.mpr ⟨kb_1003_0 hP, List.forall_mem_cons.mpr ⟨kb_1004_0 hP, List.forall_mem_cons.mpr ⟨kb_1007_0 hP, List.forall_mem_cons.mpr ⟨kb_1008_0 hP, List.forall_mem_cons.mpr ⟨kb_1015_0 hP, List.forall_mem_cons.mpr ⟨kb_1016_0 hP, List.forall_mem_cons.mpr ⟨kb_1017_0 hP, List.forall_mem_cons.mpr ⟨kb_1018_0 hP, List.forall_mem_cons.mpr ⟨kb_1019_0 hP, List.forall_mem_cons.mpr ⟨kb_1020_0 hP, List.forall_mem_cons.mpr ⟨kb_1021_0 hP, List.forall_mem_cons.mpr ⟨kb_1022_0 hP, List.forall_mem_cons.mpr ⟨kb_1023_0 hP, List.forall_mem_cons.mpr ⟨kb_1024_0 hP, List.forall_mem_cons.mpr ⟨kb_1026_0 hP, List.forall_mem_cons.mpr ⟨kb_1027_0 hP, List.forall_mem_cons.mpr ⟨kb_1028_0 hP, List.forall_mem_cons.mpr ⟨kb_1029_0 hP, List.forall_mem_cons.mpr ⟨kb_1030_0 hP, List.forall_mem_cons.mpr ⟨kb_1031_0 hP, List.forall_mem_cons.mpr ⟨kb_1034_0 hP, List.forall_mem_cons.mpr ⟨kb_1036_0 hP, List.forall_mem_cons.mpr ⟨kb_1042_0 hP, List.forall_mem_cons.mpr ⟨kb_1043_0 hP, List.forall_mem_cons.mpr ⟨kb_1044_0 hP, List.forall_mem_cons.mpr ⟨kb_1045_0 hP, List.forall_mem_cons.mpr ⟨kb_1046_0 hP, List.forall_mem_cons.mpr ⟨kb_1048_0 hP, List.forall_mem_cons.mpr ⟨kb_1049_0 hP, List.forall_mem_cons.mpr ⟨kb_1050_0 hP, List.forall_mem_cons.mpr ⟨kb_1051_0 hP, List.forall_mem_cons.mpr ⟨kb_1052_0 hP, List.forall_mem_cons.mpr ⟨kb_1057_0 hP, List.forall_mem_cons.mpr ⟨kb_1059_0 hP, List.forall_mem_cons.mpr ⟨kb_1060_0 hP, List.forall_mem_cons.mpr ⟨kb_1061_0 hP, List.forall_mem_cons.mpr ⟨kb_1062_0 hP, List.forall_mem_cons.mpr ⟨kb_1063_0 hP, List.forall_mem_cons.mpr ⟨kb_1065_0 hP, fun _ h => absurd h List.not_mem_nil⟩⟩⟩⟩⟩⟩⟩⟩⟩⟩⟩⟩⟩⟩⟩⟩⟩⟩⟩⟩⟩⟩⟩⟩⟩⟩⟩⟩⟩⟩⟩⟩⟩⟩⟩⟩⟩⟩⟩⟩⟩⟩⟩⟩⟩⟩⟩⟩⟩⟩⟩⟩⟩⟩⟩⟩⟩⟩⟩⟩⟩⟩⟩⟩⟩⟩⟩⟩⟩⟩⟩⟩⟩⟩⟩⟩⟩⟩⟩⟩⟩⟩⟩⟩⟩⟩⟩⟩⟩⟩⟩⟩⟩⟩⟩⟩⟩⟩⟩⟩⟩⟩⟩⟩⟩⟩⟩⟩⟩⟩⟩⟩⟩⟩⟩⟩⟩
  intro k q hq
  unfold oWs at hq
  rw [List.getElem?_map] at hq
  cases e : oIds[k]? with
  | none => rw [e] at hq; cases hq
  | some w =>
    rw [e] at hq
    cases hq
    exact h w (List.mem_of_getElem? e)
