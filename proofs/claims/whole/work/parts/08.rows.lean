section
variable {X : oX} {M : oM} {pc : Nat} {lv lv1 : List (Nat × oV)} {st : List oV} {S : oS}
theorem o_iadd {x y : Int32} (hd : decode M.2.1 pc = .ok (.iadd, 1)) (kk : oVv X M (pc + 1) lv (oi (x + y) :: st) S) : oVv X M pc lv (oi y :: oi x :: st) S := by
  obtain ⟨⟨p, l, e, R, s⟩, ⟨m, args, below, meth, c⟩, ⟨cells, slots, Q⟩, G, r⟩ := X
  intro hO H locs ls hl hP hS
  exact lv_iadd hO.1 hO.2.1 hd (kk hO H locs ls hl hP hS)
theorem o_isub {x y : Int32} (hd : decode M.2.1 pc = .ok (.isub, 1)) (kk : oVv X M (pc + 1) lv (oi (x - y) :: st) S) : oVv X M pc lv (oi y :: oi x :: st) S := by
  obtain ⟨⟨p, l, e, R, s⟩, ⟨m, args, below, meth, c⟩, ⟨cells, slots, Q⟩, G, r⟩ := X
  intro hO H locs ls hl hP hS
  exact lv_isub hO.1 hO.2.1 hd (kk hO H locs ls hl hP hS)
theorem o_imul {x y : Int32} (hd : decode M.2.1 pc = .ok (.imul, 1)) (kk : oVv X M (pc + 1) lv (oi (x * y) :: st) S) : oVv X M pc lv (oi y :: oi x :: st) S := by
  obtain ⟨⟨p, l, e, R, s⟩, ⟨m, args, below, meth, c⟩, ⟨cells, slots, Q⟩, G, r⟩ := X
  intro hO H locs ls hl hP hS
  exact lv_imul hO.1 hO.2.1 hd (kk hO H locs ls hl hP hS)
theorem o_iand {x y : Int32} (hd : decode M.2.1 pc = .ok (.iand, 1)) (kk : oVv X M (pc + 1) lv (oi (x &&& y) :: st) S) : oVv X M pc lv (oi y :: oi x :: st) S := by
  obtain ⟨⟨p, l, e, R, s⟩, ⟨m, args, below, meth, c⟩, ⟨cells, slots, Q⟩, G, r⟩ := X
  intro hO H locs ls hl hP hS
  exact lv_iand hO.1 hO.2.1 hd (kk hO H locs ls hl hP hS)
theorem o_ladd {x y : Int64} (hd : decode M.2.1 pc = .ok (.ladd, 1)) (kk : oVv X M (pc + 1) lv (ol (x + y) :: st) S) : oVv X M pc lv (ol y :: ol x :: st) S := by
  obtain ⟨⟨p, l, e, R, s⟩, ⟨m, args, below, meth, c⟩, ⟨cells, slots, Q⟩, G, r⟩ := X
  intro hO H locs ls hl hP hS
  exact lv_ladd hO.1 hO.2.1 hd (kk hO H locs ls hl hP hS)
theorem o_lsub {x y : Int64} (hd : decode M.2.1 pc = .ok (.lsub, 1)) (kk : oVv X M (pc + 1) lv (ol (x - y) :: st) S) : oVv X M pc lv (ol y :: ol x :: st) S := by
  obtain ⟨⟨p, l, e, R, s⟩, ⟨m, args, below, meth, c⟩, ⟨cells, slots, Q⟩, G, r⟩ := X
  intro hO H locs ls hl hP hS
  exact lv_lsub hO.1 hO.2.1 hd (kk hO H locs ls hl hP hS)
theorem o_lmul {x y : Int64} (hd : decode M.2.1 pc = .ok (.lmul, 1)) (kk : oVv X M (pc + 1) lv (ol (x * y) :: st) S) : oVv X M pc lv (ol y :: ol x :: st) S := by
  obtain ⟨⟨p, l, e, R, s⟩, ⟨m, args, below, meth, c⟩, ⟨cells, slots, Q⟩, G, r⟩ := X
  intro hO H locs ls hl hP hS
  exact lv_lmul hO.1 hO.2.1 hd (kk hO H locs ls hl hP hS)
theorem o_land {x y : Int64} (hd : decode M.2.1 pc = .ok (.land, 1)) (kk : oVv X M (pc + 1) lv (ol (x &&& y) :: st) S) : oVv X M pc lv (ol y :: ol x :: st) S := by
  obtain ⟨⟨p, l, e, R, s⟩, ⟨m, args, below, meth, c⟩, ⟨cells, slots, Q⟩, G, r⟩ := X
  intro hO H locs ls hl hP hS
  exact lv_land hO.1 hO.2.1 hd (kk hO H locs ls hl hP hS)
theorem o_idiv {x y : Int32} (hd : decode M.2.1 pc = .ok (.idiv, 1)) (hne : ¬ y = 0) (kk : oVv X M (pc + 1) lv (oi (x / y) :: st) S) : oVv X M pc lv (oi y :: oi x :: st) S := by
  obtain ⟨⟨p, l, e, R, s⟩, ⟨m, args, below, meth, c⟩, ⟨cells, slots, Q⟩, G, r⟩ := X
  intro hO H locs ls hl hP hS
  exact lv_idiv hO.1 hO.2.1 hd hne (kk hO H locs ls hl hP hS)
theorem o_irem {x y : Int32} (hd : decode M.2.1 pc = .ok (.irem, 1)) (hne : ¬ y = 0) (kk : oVv X M (pc + 1) lv (oi (x - x / y * y) :: st) S) : oVv X M pc lv (oi y :: oi x :: st) S := by
  obtain ⟨⟨p, l, e, R, s⟩, ⟨m, args, below, meth, c⟩, ⟨cells, slots, Q⟩, G, r⟩ := X
  intro hO H locs ls hl hP hS
  exact lv_irem hO.1 hO.2.1 hd hne (kk hO H locs ls hl hP hS)
theorem o_ldiv {x y : Int64} (hd : decode M.2.1 pc = .ok (.ldiv, 1)) (hne : ¬ y = 0) (kk : oVv X M (pc + 1) lv (ol (x / y) :: st) S) : oVv X M pc lv (ol y :: ol x :: st) S := by
  obtain ⟨⟨p, l, e, R, s⟩, ⟨m, args, below, meth, c⟩, ⟨cells, slots, Q⟩, G, r⟩ := X
  intro hO H locs ls hl hP hS
  exact lv_ldiv hO.1 hO.2.1 hd hne (kk hO H locs ls hl hP hS)
theorem o_lrem {x y : Int64} (hd : decode M.2.1 pc = .ok (.lrem, 1)) (hne : ¬ y = 0) (kk : oVv X M (pc + 1) lv (ol (x - x / y * y) :: st) S) : oVv X M pc lv (ol y :: ol x :: st) S := by
  obtain ⟨⟨p, l, e, R, s⟩, ⟨m, args, below, meth, c⟩, ⟨cells, slots, Q⟩, G, r⟩ := X
  intro hO H locs ls hl hP hS
  exact lv_lrem hO.1 hO.2.1 hd hne (kk hO H locs ls hl hP hS)
theorem o_ineg {x : Int32} (hd : decode M.2.1 pc = .ok (.ineg, 1)) (kk : oVv X M (pc + 1) lv (oi (-x) :: st) S) : oVv X M pc lv (oi x :: st) S := by
  obtain ⟨⟨p, l, e, R, s⟩, ⟨m, args, below, meth, c⟩, ⟨cells, slots, Q⟩, G, r⟩ := X
  intro hO H locs ls hl hP hS
  exact lv_ineg hO.1 hO.2.1 hd (kk hO H locs ls hl hP hS)
theorem o_i2l {x : Int32} (hd : decode M.2.1 pc = .ok (.i2l, 1)) (kk : oVv X M (pc + 1) lv (ol x.toInt64 :: st) S) : oVv X M pc lv (oi x :: st) S := by
  obtain ⟨⟨p, l, e, R, s⟩, ⟨m, args, below, meth, c⟩, ⟨cells, slots, Q⟩, G, r⟩ := X
  intro hO H locs ls hl hP hS
  exact lv_i2l hO.1 hO.2.1 hd rfl (kk hO H locs ls hl hP hS)
theorem o_l2i {x : Int64} (hd : decode M.2.1 pc = .ok (.l2i, 1)) (kk : oVv X M (pc + 1) lv (oi x.toInt32 :: st) S) : oVv X M pc lv (ol x :: st) S := by
  obtain ⟨⟨p, l, e, R, s⟩, ⟨m, args, below, meth, c⟩, ⟨cells, slots, Q⟩, G, r⟩ := X
  intro hO H locs ls hl hP hS
  exact lv_l2i hO.1 hO.2.1 hd rfl (kk hO H locs ls hl hP hS)
theorem o_iconst {n : Int} {v : Int32} (hd : decode M.2.1 pc = .ok (.iconst n, 1)) (hv : Int32.ofInt n = v) (kk : oVv X M (pc + 1) lv (oi v :: st) S) : oVv X M pc lv st S := by
  obtain ⟨⟨p, l, e, R, s⟩, ⟨m, args, below, meth, c⟩, ⟨cells, slots, Q⟩, G, r⟩ := X
  intro hO H locs ls hl hP hS
  exact lv_iconst hO.1 hO.2.1 hd hv (kk hO H locs ls hl hP hS)
theorem o_bipush {n : Int} {v : Int32} (hd : decode M.2.1 pc = .ok (.bipush n, 2)) (hv : (Int8.ofInt n).toInt32 = v) (kk : oVv X M (pc + 2) lv (oi v :: st) S) : oVv X M pc lv st S := by
  obtain ⟨⟨p, l, e, R, s⟩, ⟨m, args, below, meth, c⟩, ⟨cells, slots, Q⟩, G, r⟩ := X
  intro hO H locs ls hl hP hS
  exact lv_bipush hO.1 hO.2.1 hd hv (kk hO H locs ls hl hP hS)
theorem o_sipush {n : Int} {v : Int32} (hd : decode M.2.1 pc = .ok (.sipush n, 3)) (hv : (Int16.ofInt n).toInt32 = v) (kk : oVv X M (pc + 3) lv (oi v :: st) S) : oVv X M pc lv st S := by
  obtain ⟨⟨p, l, e, R, s⟩, ⟨m, args, below, meth, c⟩, ⟨cells, slots, Q⟩, G, r⟩ := X
  intro hO H locs ls hl hP hS
  exact lv_sipush hO.1 hO.2.1 hd hv (kk hO H locs ls hl hP hS)
theorem o_lconst {n : Fin 2} {v : Int64} (hd : decode M.2.1 pc = .ok (.lconst n, 1)) (hv : Int64.ofNat n.val = v) (kk : oVv X M (pc + 1) lv (ol v :: st) S) : oVv X M pc lv st S := by
  obtain ⟨⟨p, l, e, R, s⟩, ⟨m, args, below, meth, c⟩, ⟨cells, slots, Q⟩, G, r⟩ := X
  intro hO H locs ls hl hP hS
  exact lv_lconst hO.1 hO.2.1 hd hv (kk hO H locs ls hl hP hS)
theorem o_ldc2 {idx : Nat} {v : Int64} (hd : decode M.2.1 pc = .ok (.ldc2_w idx, 3)) (hw : oW (.constantLong M.1 idx v)) (kk : oVv X M (pc + 3) lv (ol v :: st) S) : oVv X M pc lv st S := by
  obtain ⟨⟨p, l, e, R, s⟩, ⟨m, args, below, meth, c⟩, ⟨cells, slots, Q⟩, G, r⟩ := X
  intro hO H locs ls hl hP hS
  exact lv_ldc2 hO.1 hO.2.1 hO.2.2.2.2.1 (hO.2.2.2.2.2.1 _ hw) hd (kk hO H locs ls hl hP hS)
theorem o_dup {v : oV} (hd : decode M.2.1 pc = .ok (.dup, 1)) (hv : oCat v = 1) (kk : oVv X M (pc + 1) lv (v :: v :: st) S) : oVv X M pc lv (v :: st) S := by
  obtain ⟨⟨p, l, e, R, s⟩, ⟨m, args, below, meth, c⟩, ⟨cells, slots, Q⟩, G, r⟩ := X
  intro hO H locs ls hl hP hS
  exact lv_dup hO.1 hO.2.1 hd (by rw [oc_cat]; exact hv) (kk hO H locs ls hl hP hS)
theorem o_dup2 {v w : oV} (hd : decode M.2.1 pc = .ok (.dup2, 1)) (hv : oCat v = 1) (hw : oCat w = 1) (kk : oVv X M (pc + 1) lv (v :: w :: v :: w :: st) S) : oVv X M pc lv (v :: w :: st) S := by
  obtain ⟨⟨p, l, e, R, s⟩, ⟨m, args, below, meth, c⟩, ⟨cells, slots, Q⟩, G, r⟩ := X
  intro hO H locs ls hl hP hS
  exact lv_dup2_11 hO.1 hO.2.1 hd (by rw [oc_cat]; exact hv) (by rw [oc_cat]; exact hw) (kk hO H locs ls hl hP hS)
theorem o_pop {v : oV} (hd : decode M.2.1 pc = .ok (.pop, 1)) (hv : oCat v = 1) (kk : oVv X M (pc + 1) lv st S) : oVv X M pc lv (v :: st) S := by
  obtain ⟨⟨p, l, e, R, s⟩, ⟨m, args, below, meth, c⟩, ⟨cells, slots, Q⟩, G, r⟩ := X
  intro hO H locs ls hl hP hS
  exact lv_pop hO.1 hO.2.1 hd (by rw [oc_cat]; exact hv) (kk hO H locs ls hl hP hS)
theorem oLc_at {ad : Nat → Nat → Nat} {ls : Array Slot} {nL : Nat} (hl : lv_has ls nL (oLc ad lv)) (q : Nat) {i : Nat} {v : oV} (h : lv[q]? = some (i, v)) : ls[i]? = some (.val (oc ad v)) := by
  refine lv_at hl q ?_
  unfold oLc
  rw [List.getElem?_map, h]
  rfl
theorem oLc_sub {ad : Nat → Nat → Nat} {ls : Array Slot} {nL : Nat} {l : List (Nat × Value)} (hl : lv_has ls nL l) (h : ∀ q ∈ oLc ad lv1, q ∈ l) : lv_has ls nL (oLc ad lv1) := ⟨hl.1, hl.2.1, fun q hq => hl.2.2 q (h q hq)⟩
theorem oSet1_mem {ad : Nat → Nat → Nat} {i : Nat} {v : oV} : ∀ q ∈ oLc ad (oSet1 lv i v), q ∈ (i, oc ad v) :: (oLc ad lv).filter (fun q => !(q.1 == i) && !(q.1 + 1 == i && q.2.category == 2)) := by
  intro q hq
  obtain ⟨w, hw, rfl⟩ := List.mem_map.mp hq
  unfold oSet1 at hw
  rcases List.mem_append.mp hw with hw | hw
  · obtain ⟨h1, h2⟩ := List.mem_filter.mp hw
    refine List.mem_cons_of_mem _ (List.mem_filter.mpr ⟨List.mem_map.mpr ⟨w, h1, rfl⟩, ?_⟩)
    simp only [oc_cat]
    have h3 : w.1 < i := by
      have := (Bool.and_eq_true_iff.mp h2).1
      simpa [Nat.blt_eq] using this
    have h4 := (Bool.and_eq_true_iff.mp h2).2
    have h5 : (w.1 == i) = false := by simp; omega
    have h8 : ¬ (w.1 + 1 = i ∧ oCat w.2 = 2) := by
      intro hh
      rw [hh.1, hh.2] at h4
      simp [Nat.beq_refl] at h4
    have h9 : (w.1 + 1 == i && oCat w.2 == 2) = false := by
      cases hh : (w.1 + 1 == i && oCat w.2 == 2) with
      | false => rfl
      | true => exact absurd (by simpa using hh) h8
    rw [h5, h9]
    rfl
  · rcases List.mem_cons.mp hw with hw | hw
    · rw [hw]
      exact List.mem_cons_self
    · obtain ⟨h1, h2⟩ := List.mem_filter.mp hw
      refine List.mem_cons_of_mem _ (List.mem_filter.mpr ⟨List.mem_map.mpr ⟨w, h1, rfl⟩, ?_⟩)
      have h3 : i < w.1 := by simpa [Nat.blt_eq] using h2
      have h5 : (w.1 == i) = false := by simp; omega
      have h6 : (w.1 + 1 == i) = false := by simp; omega
      simp only [h5, h6]
      rfl
theorem oSet2_mem {ad : Nat → Nat → Nat} {i : Nat} {v : oV} : ∀ q ∈ oLc ad (oSet2 lv i v), q ∈ (i, oc ad v) :: (oLc ad lv).filter (fun q => !(q.1 == i) && (!(q.1 == i + 1) && !(q.1 + 1 == i && q.2.category == 2))) := by
  intro q hq
  obtain ⟨w, hw, rfl⟩ := List.mem_map.mp hq
  unfold oSet2 at hw
  rcases List.mem_append.mp hw with hw | hw
  · obtain ⟨h1, h2⟩ := List.mem_filter.mp hw
    refine List.mem_cons_of_mem _ (List.mem_filter.mpr ⟨List.mem_map.mpr ⟨w, h1, rfl⟩, ?_⟩)
    simp only [oc_cat]
    have h3 : w.1 < i := by
      have := (Bool.and_eq_true_iff.mp h2).1
      simpa [Nat.blt_eq] using this
    have h4 := (Bool.and_eq_true_iff.mp h2).2
    have h5 : (w.1 == i) = false := by simp; omega
    have h6 : (w.1 == i + 1) = false := by simp; omega
    have h8 : ¬ (w.1 + 1 = i ∧ oCat w.2 = 2) := by
      intro hh
      rw [hh.1, hh.2] at h4
      simp [Nat.beq_refl] at h4
    have h9 : (w.1 + 1 == i && oCat w.2 == 2) = false := by
      cases hh : (w.1 + 1 == i && oCat w.2 == 2) with
      | false => rfl
      | true => exact absurd (by simpa using hh) h8
    rw [h5, h6, h9]
    rfl
  · rcases List.mem_cons.mp hw with hw | hw
    · rw [hw]
      exact List.mem_cons_self
    · obtain ⟨h1, h2⟩ := List.mem_filter.mp hw
      refine List.mem_cons_of_mem _ (List.mem_filter.mpr ⟨List.mem_map.mpr ⟨w, h1, rfl⟩, ?_⟩)
      have h3 : i + 1 < w.1 := by simpa [Nat.blt_eq] using h2
      have h5 : (w.1 == i) = false := by simp; omega
      have h6 : (w.1 + 1 == i) = false := by simp; omega
      have h7 : (w.1 == i + 1) = false := by simp; omega
      simp only [h5, h6, h7]
      rfl
theorem o_iload_n {k : Fin 4} {i : Nat} {x : Int32} (hd : decode M.2.1 pc = .ok (.iload_n k, 1)) (hi : (k : Nat) = i) (q : Nat) (h : lv[q]? = some (i, oi x)) (kk : oVv X M (pc + 1) lv (oi x :: st) S) : oVv X M pc lv st S := by
  obtain ⟨⟨p, l, e, R, s⟩, ⟨m, args, below, meth, c⟩, ⟨cells, slots, Q⟩, G, r⟩ := X
  intro hO H locs ls hl hP hS
  exact lv_iload_n hO.1 hO.2.1 hd hi (oLc_at hl q h) (kk hO H locs ls hl hP hS)
theorem o_iload {i : Nat} {x : Int32} (hd : decode M.2.1 pc = .ok (.iload i, 2)) (q : Nat) (h : lv[q]? = some (i, oi x)) (kk : oVv X M (pc + 2) lv (oi x :: st) S) : oVv X M pc lv st S := by
  obtain ⟨⟨p, l, e, R, s⟩, ⟨m, args, below, meth, c⟩, ⟨cells, slots, Q⟩, G, r⟩ := X
  intro hO H locs ls hl hP hS
  exact lv_iload hO.1 hO.2.1 hd (oLc_at hl q h) (kk hO H locs ls hl hP hS)
theorem o_lload_n {k : Fin 4} {i : Nat} {x : Int64} (hd : decode M.2.1 pc = .ok (.lload_n k, 1)) (hi : (k : Nat) = i) (q : Nat) (h : lv[q]? = some (i, ol x)) (kk : oVv X M (pc + 1) lv (ol x :: st) S) : oVv X M pc lv st S := by
  obtain ⟨⟨p, l, e, R, s⟩, ⟨m, args, below, meth, c⟩, ⟨cells, slots, Q⟩, G, r⟩ := X
  intro hO H locs ls hl hP hS
  exact lv_lload_n hO.1 hO.2.1 hd hi (oLc_at hl q h) (kk hO H locs ls hl hP hS)
theorem o_lload {i : Nat} {x : Int64} (hd : decode M.2.1 pc = .ok (.lload i, 2)) (q : Nat) (h : lv[q]? = some (i, ol x)) (kk : oVv X M (pc + 2) lv (ol x :: st) S) : oVv X M pc lv st S := by
  obtain ⟨⟨p, l, e, R, s⟩, ⟨m, args, below, meth, c⟩, ⟨cells, slots, Q⟩, G, r⟩ := X
  intro hO H locs ls hl hP hS
  exact lv_lload hO.1 hO.2.1 hd (oLc_at hl q h) (kk hO H locs ls hl hP hS)
theorem o_aload_n {k : Fin 4} {i t j : Nat} (hd : decode M.2.1 pc = .ok (.aload_n k, 1)) (hi : (k : Nat) = i) (q : Nat) (h : lv[q]? = some (i, orf t j)) (kk : oVv X M (pc + 1) lv (orf t j :: st) S) : oVv X M pc lv st S := by
  obtain ⟨⟨p, l, e, R, s⟩, ⟨m, args, below, meth, c⟩, ⟨cells, slots, Q⟩, G, r⟩ := X
  intro hO H locs ls hl hP hS
  exact lv_aload_n hO.1 hO.2.1 hd hi (oLc_at hl q h) (kk hO H locs ls hl hP hS)
theorem o_aload {i t j : Nat} (hd : decode M.2.1 pc = .ok (.aload i, 2)) (q : Nat) (h : lv[q]? = some (i, orf t j)) (kk : oVv X M (pc + 2) lv (orf t j :: st) S) : oVv X M pc lv st S := by
  obtain ⟨⟨p, l, e, R, s⟩, ⟨m, args, below, meth, c⟩, ⟨cells, slots, Q⟩, G, r⟩ := X
  intro hO H locs ls hl hP hS
  exact lv_aload hO.1 hO.2.1 hd (oLc_at hl q h) (kk hO H locs ls hl hP hS)
theorem o_istore_n {k : Fin 4} {i : Nat} {x : Int32} (hd : decode M.2.1 pc = .ok (.istore_n k, 1)) (hi : (k : Nat) = i) (hn : i < M.2.2.1) (hs : oSet1 lv i (oi x) = lv1) (kk : oVv X M (pc + 1) lv1 st S) : oVv X M pc lv ((oi x) :: st) S := by
  obtain ⟨⟨p, l, e, R, s⟩, ⟨m, args, below, meth, c⟩, ⟨cells, slots, Q⟩, G, r⟩ := X
  intro hO H locs ls hl hP hS
  subst hs
  exact lv_istore_n hO.1 hO.2.1 hd hi hl hn rfl (fun ls hl => kk hO H locs ls (oLc_sub hl oSet1_mem) hP hS)
theorem o_istore {i : Nat} {x : Int32} (hd : decode M.2.1 pc = .ok (.istore i, 2)) (hn : i < M.2.2.1) (hs : oSet1 lv i (oi x) = lv1) (kk : oVv X M (pc + 2) lv1 st S) : oVv X M pc lv ((oi x) :: st) S := by
  obtain ⟨⟨p, l, e, R, s⟩, ⟨m, args, below, meth, c⟩, ⟨cells, slots, Q⟩, G, r⟩ := X
  intro hO H locs ls hl hP hS
  subst hs
  exact lv_istore hO.1 hO.2.1 hd hl hn rfl (fun ls hl => kk hO H locs ls (oLc_sub hl oSet1_mem) hP hS)
theorem o_lstore_n {k : Fin 4} {i : Nat} {x : Int64} (hd : decode M.2.1 pc = .ok (.lstore_n k, 1)) (hi : (k : Nat) = i) (hn : i + 1 < M.2.2.1) (hs : oSet2 lv i (ol x) = lv1) (kk : oVv X M (pc + 1) lv1 st S) : oVv X M pc lv ((ol x) :: st) S := by
  obtain ⟨⟨p, l, e, R, s⟩, ⟨m, args, below, meth, c⟩, ⟨cells, slots, Q⟩, G, r⟩ := X
  intro hO H locs ls hl hP hS
  subst hs
  exact lv_lstore_n hO.1 hO.2.1 hd hi hl hn rfl (fun ls hl => kk hO H locs ls (oLc_sub hl oSet2_mem) hP hS)
theorem o_lstore {i : Nat} {x : Int64} (hd : decode M.2.1 pc = .ok (.lstore i, 2)) (hn : i + 1 < M.2.2.1) (hs : oSet2 lv i (ol x) = lv1) (kk : oVv X M (pc + 2) lv1 st S) : oVv X M pc lv ((ol x) :: st) S := by
  obtain ⟨⟨p, l, e, R, s⟩, ⟨m, args, below, meth, c⟩, ⟨cells, slots, Q⟩, G, r⟩ := X
  intro hO H locs ls hl hP hS
  subst hs
  exact lv_lstore hO.1 hO.2.1 hd hl hn rfl (fun ls hl => kk hO H locs ls (oLc_sub hl oSet2_mem) hP hS)
theorem o_astore_n {k : Fin 4} {i : Nat} {t j : Nat} (hd : decode M.2.1 pc = .ok (.astore_n k, 1)) (hi : (k : Nat) = i) (hn : i < M.2.2.1) (hs : oSet1 lv i (orf t j) = lv1) (kk : oVv X M (pc + 1) lv1 st S) : oVv X M pc lv ((orf t j) :: st) S := by
  obtain ⟨⟨p, l, e, R, s⟩, ⟨m, args, below, meth, c⟩, ⟨cells, slots, Q⟩, G, r⟩ := X
  intro hO H locs ls hl hP hS
  subst hs
  exact lv_astore_n hO.1 hO.2.1 hd hi hl hn rfl (fun ls hl => kk hO H locs ls (oLc_sub hl oSet1_mem) hP hS)
theorem o_astore {i : Nat} {t j : Nat} (hd : decode M.2.1 pc = .ok (.astore i, 2)) (hn : i < M.2.2.1) (hs : oSet1 lv i (orf t j) = lv1) (kk : oVv X M (pc + 2) lv1 st S) : oVv X M pc lv ((orf t j) :: st) S := by
  obtain ⟨⟨p, l, e, R, s⟩, ⟨m, args, below, meth, c⟩, ⟨cells, slots, Q⟩, G, r⟩ := X
  intro hO H locs ls hl hP hS
  subst hs
  exact lv_astore hO.1 hO.2.1 hd hl hn rfl (fun ls hl => kk hO H locs ls (oLc_sub hl oSet1_mem) hP hS)
theorem o_iinc {i : Nat} {n : Int} {x v : Int32} (hd : decode M.2.1 pc = .ok (.iinc i n, 3)) (q : Nat) (h : lv[q]? = some (i, oi x)) (hv : x + Int32.ofInt n = v) (hn : i < M.2.2.1) (hs : oSet1 lv i (oi v) = lv1) (kk : oVv X M (pc + 3) lv1 st S) : oVv X M pc lv st S := by
  obtain ⟨⟨p, l, e, R, s⟩, ⟨m, args, below, meth, c⟩, ⟨cells, slots, Q⟩, G, r⟩ := X
  intro hO H locs ls hl hP hS
  subst hs
  have h1 : (oLc G.2.1 lv)[q]? = some (i, .int x) := by
    unfold oLc
    rw [List.getElem?_map, h]
    rfl
  exact lv_iinc hO.1 hO.2.1 hd hl h1 hv hn rfl (fun ls hl => kk hO H locs ls (oLc_sub hl oSet1_mem) hP hS)
theorem o_weak (ks : List Nat) (h : ks.filterMap (fun k => lv[k]?) = lv1) (kk : oVv X M pc lv1 st S) : oVv X M pc lv st S := by
  obtain ⟨⟨p, l, e, R, s⟩, ⟨m, args, below, meth, c⟩, ⟨cells, slots, Q⟩, G, r⟩ := X
  intro hO H locs ls hl hP hS
  subst h
  refine kk hO H locs ls (oLc_sub hl ?_) hP hS
  intro q hq
  obtain ⟨w, hw, rfl⟩ := List.mem_map.mp hq
  obtain ⟨k, -, hk⟩ := List.mem_filterMap.mp hw
  exact List.mem_map.mpr ⟨w, List.mem_of_getElem? hk, rfl⟩
theorem o_icmp_eq {x y : Int32} {off : Int} (tgt : Nat) (hd : decode M.2.1 pc = .ok (.if_icmp .eq off, 3)) (ht : (pc : Int) + off = (tgt : Int)) (kt : x = y → oVv X M tgt lv st S) (kf : ¬ (x = y) → oVv X M (pc + 3) lv st S) : oVv X M pc lv (oi y :: oi x :: st) S := by
  obtain ⟨⟨p, l, e, R, s⟩, ⟨m, args, below, meth, c⟩, ⟨cells, slots, Q⟩, G, r⟩ := X
  intro hO H locs ls hl hP hS
  exact lv_icmp_eq hO.1 hO.2.1 hd ht (fun h => kt h hO H locs ls hl hP hS) (fun h => kf h hO H locs ls hl hP hS)
theorem o_if_eq {x : Int32} {off : Int} (tgt : Nat) (hd : decode M.2.1 pc = .ok (.ifCond .eq off, 3)) (ht : (pc : Int) + off = (tgt : Int)) (kt : x = 0 → oVv X M tgt lv st S) (kf : ¬ (x = 0) → oVv X M (pc + 3) lv st S) : oVv X M pc lv (oi x :: st) S := by
  obtain ⟨⟨p, l, e, R, s⟩, ⟨m, args, below, meth, c⟩, ⟨cells, slots, Q⟩, G, r⟩ := X
  intro hO H locs ls hl hP hS
  exact lv_if_eq hO.1 hO.2.1 hd ht (fun h => kt h hO H locs ls hl hP hS) (fun h => kf h hO H locs ls hl hP hS)
theorem o_lcmp_eq {x y : Int64} {off : Int} (tgt : Nat) (hd0 : decode M.2.1 pc = .ok (.lcmp, 1)) (hd : decode M.2.1 (pc + 1) = .ok (.ifCond .eq off, 3)) (ht : ((pc + 1 : Nat) : Int) + off = (tgt : Int)) (kt : x = y → oVv X M tgt lv st S) (kf : ¬ (x = y) → oVv X M (pc + 4) lv st S) : oVv X M pc lv (ol y :: ol x :: st) S := by
  obtain ⟨⟨p, l, e, R, s⟩, ⟨m, args, below, meth, c⟩, ⟨cells, slots, Q⟩, G, r⟩ := X
  intro hO H locs ls hl hP hS
  exact W.lcmp hO.1 hO.2.1 hd0 (lv_if_eq hO.1 hO.2.1 hd ht (fun h => kt ((lg_cmp_eq x y).mp h) hO H locs ls hl hP hS) (fun h => kf (fun z => h ((lg_cmp_eq x y).mpr z)) hO H locs ls hl hP hS))
theorem o_icmp_ne {x y : Int32} {off : Int} (tgt : Nat) (hd : decode M.2.1 pc = .ok (.if_icmp .ne off, 3)) (ht : (pc : Int) + off = (tgt : Int)) (kt : ¬ (x = y) → oVv X M tgt lv st S) (kf : x = y → oVv X M (pc + 3) lv st S) : oVv X M pc lv (oi y :: oi x :: st) S := by
  obtain ⟨⟨p, l, e, R, s⟩, ⟨m, args, below, meth, c⟩, ⟨cells, slots, Q⟩, G, r⟩ := X
  intro hO H locs ls hl hP hS
  exact lv_icmp_ne hO.1 hO.2.1 hd ht (fun h => kt h hO H locs ls hl hP hS) (fun h => kf h hO H locs ls hl hP hS)
theorem o_if_ne {x : Int32} {off : Int} (tgt : Nat) (hd : decode M.2.1 pc = .ok (.ifCond .ne off, 3)) (ht : (pc : Int) + off = (tgt : Int)) (kt : ¬ (x = 0) → oVv X M tgt lv st S) (kf : x = 0 → oVv X M (pc + 3) lv st S) : oVv X M pc lv (oi x :: st) S := by
  obtain ⟨⟨p, l, e, R, s⟩, ⟨m, args, below, meth, c⟩, ⟨cells, slots, Q⟩, G, r⟩ := X
  intro hO H locs ls hl hP hS
  exact lv_if_ne hO.1 hO.2.1 hd ht (fun h => kt h hO H locs ls hl hP hS) (fun h => kf h hO H locs ls hl hP hS)
theorem o_lcmp_ne {x y : Int64} {off : Int} (tgt : Nat) (hd0 : decode M.2.1 pc = .ok (.lcmp, 1)) (hd : decode M.2.1 (pc + 1) = .ok (.ifCond .ne off, 3)) (ht : ((pc + 1 : Nat) : Int) + off = (tgt : Int)) (kt : ¬ (x = y) → oVv X M tgt lv st S) (kf : x = y → oVv X M (pc + 4) lv st S) : oVv X M pc lv (ol y :: ol x :: st) S := by
  obtain ⟨⟨p, l, e, R, s⟩, ⟨m, args, below, meth, c⟩, ⟨cells, slots, Q⟩, G, r⟩ := X
  intro hO H locs ls hl hP hS
  exact W.lcmp hO.1 hO.2.1 hd0 (lv_if_ne hO.1 hO.2.1 hd ht (fun h => kt (fun z => h ((lg_cmp_eq x y).mpr z)) hO H locs ls hl hP hS) (fun h => kf ((lg_cmp_eq x y).mp h) hO H locs ls hl hP hS))
theorem o_icmp_lt {x y : Int32} {off : Int} (tgt : Nat) (hd : decode M.2.1 pc = .ok (.if_icmp .lt off, 3)) (ht : (pc : Int) + off = (tgt : Int)) (kt : x < y → oVv X M tgt lv st S) (kf : ¬ (x < y) → oVv X M (pc + 3) lv st S) : oVv X M pc lv (oi y :: oi x :: st) S := by
  obtain ⟨⟨p, l, e, R, s⟩, ⟨m, args, below, meth, c⟩, ⟨cells, slots, Q⟩, G, r⟩ := X
  intro hO H locs ls hl hP hS
  exact lv_icmp_lt hO.1 hO.2.1 hd ht (fun h => kt h hO H locs ls hl hP hS) (fun h => kf h hO H locs ls hl hP hS)
theorem o_if_lt {x : Int32} {off : Int} (tgt : Nat) (hd : decode M.2.1 pc = .ok (.ifCond .lt off, 3)) (ht : (pc : Int) + off = (tgt : Int)) (kt : x < 0 → oVv X M tgt lv st S) (kf : ¬ (x < 0) → oVv X M (pc + 3) lv st S) : oVv X M pc lv (oi x :: st) S := by
  obtain ⟨⟨p, l, e, R, s⟩, ⟨m, args, below, meth, c⟩, ⟨cells, slots, Q⟩, G, r⟩ := X
  intro hO H locs ls hl hP hS
  exact lv_if_lt hO.1 hO.2.1 hd ht (fun h => kt h hO H locs ls hl hP hS) (fun h => kf h hO H locs ls hl hP hS)
theorem o_lcmp_lt {x y : Int64} {off : Int} (tgt : Nat) (hd0 : decode M.2.1 pc = .ok (.lcmp, 1)) (hd : decode M.2.1 (pc + 1) = .ok (.ifCond .lt off, 3)) (ht : ((pc + 1 : Nat) : Int) + off = (tgt : Int)) (kt : x < y → oVv X M tgt lv st S) (kf : ¬ (x < y) → oVv X M (pc + 4) lv st S) : oVv X M pc lv (ol y :: ol x :: st) S := by
  obtain ⟨⟨p, l, e, R, s⟩, ⟨m, args, below, meth, c⟩, ⟨cells, slots, Q⟩, G, r⟩ := X
  intro hO H locs ls hl hP hS
  exact W.lcmp hO.1 hO.2.1 hd0 (lv_if_lt hO.1 hO.2.1 hd ht (fun h => kt ((lg_cmp_lt x y).mp h) hO H locs ls hl hP hS) (fun h => kf (fun z => h ((lg_cmp_lt x y).mpr z)) hO H locs ls hl hP hS))
theorem o_icmp_ge {x y : Int32} {off : Int} (tgt : Nat) (hd : decode M.2.1 pc = .ok (.if_icmp .ge off, 3)) (ht : (pc : Int) + off = (tgt : Int)) (kt : y ≤ x → oVv X M tgt lv st S) (kf : ¬ (y ≤ x) → oVv X M (pc + 3) lv st S) : oVv X M pc lv (oi y :: oi x :: st) S := by
  obtain ⟨⟨p, l, e, R, s⟩, ⟨m, args, below, meth, c⟩, ⟨cells, slots, Q⟩, G, r⟩ := X
  intro hO H locs ls hl hP hS
  exact lv_icmp_ge hO.1 hO.2.1 hd ht (fun h => kt h hO H locs ls hl hP hS) (fun h => kf h hO H locs ls hl hP hS)
theorem o_if_ge {x : Int32} {off : Int} (tgt : Nat) (hd : decode M.2.1 pc = .ok (.ifCond .ge off, 3)) (ht : (pc : Int) + off = (tgt : Int)) (kt : 0 ≤ x → oVv X M tgt lv st S) (kf : ¬ (0 ≤ x) → oVv X M (pc + 3) lv st S) : oVv X M pc lv (oi x :: st) S := by
  obtain ⟨⟨p, l, e, R, s⟩, ⟨m, args, below, meth, c⟩, ⟨cells, slots, Q⟩, G, r⟩ := X
  intro hO H locs ls hl hP hS
  exact lv_if_ge hO.1 hO.2.1 hd ht (fun h => kt h hO H locs ls hl hP hS) (fun h => kf h hO H locs ls hl hP hS)
theorem o_lcmp_ge {x y : Int64} {off : Int} (tgt : Nat) (hd0 : decode M.2.1 pc = .ok (.lcmp, 1)) (hd : decode M.2.1 (pc + 1) = .ok (.ifCond .ge off, 3)) (ht : ((pc + 1 : Nat) : Int) + off = (tgt : Int)) (kt : y ≤ x → oVv X M tgt lv st S) (kf : ¬ (y ≤ x) → oVv X M (pc + 4) lv st S) : oVv X M pc lv (ol y :: ol x :: st) S := by
  obtain ⟨⟨p, l, e, R, s⟩, ⟨m, args, below, meth, c⟩, ⟨cells, slots, Q⟩, G, r⟩ := X
  intro hO H locs ls hl hP hS
  exact W.lcmp hO.1 hO.2.1 hd0 (lv_if_ge hO.1 hO.2.1 hd ht (fun h => kt ((lg_cmp_ge x y).mp h) hO H locs ls hl hP hS) (fun h => kf (fun z => h ((lg_cmp_ge x y).mpr z)) hO H locs ls hl hP hS))
theorem o_icmp_gt {x y : Int32} {off : Int} (tgt : Nat) (hd : decode M.2.1 pc = .ok (.if_icmp .gt off, 3)) (ht : (pc : Int) + off = (tgt : Int)) (kt : y < x → oVv X M tgt lv st S) (kf : ¬ (y < x) → oVv X M (pc + 3) lv st S) : oVv X M pc lv (oi y :: oi x :: st) S := by
  obtain ⟨⟨p, l, e, R, s⟩, ⟨m, args, below, meth, c⟩, ⟨cells, slots, Q⟩, G, r⟩ := X
  intro hO H locs ls hl hP hS
  exact lv_icmp_gt hO.1 hO.2.1 hd ht (fun h => kt h hO H locs ls hl hP hS) (fun h => kf h hO H locs ls hl hP hS)
theorem o_if_gt {x : Int32} {off : Int} (tgt : Nat) (hd : decode M.2.1 pc = .ok (.ifCond .gt off, 3)) (ht : (pc : Int) + off = (tgt : Int)) (kt : 0 < x → oVv X M tgt lv st S) (kf : ¬ (0 < x) → oVv X M (pc + 3) lv st S) : oVv X M pc lv (oi x :: st) S := by
  obtain ⟨⟨p, l, e, R, s⟩, ⟨m, args, below, meth, c⟩, ⟨cells, slots, Q⟩, G, r⟩ := X
  intro hO H locs ls hl hP hS
  exact lv_if_gt hO.1 hO.2.1 hd ht (fun h => kt h hO H locs ls hl hP hS) (fun h => kf h hO H locs ls hl hP hS)
theorem o_lcmp_gt {x y : Int64} {off : Int} (tgt : Nat) (hd0 : decode M.2.1 pc = .ok (.lcmp, 1)) (hd : decode M.2.1 (pc + 1) = .ok (.ifCond .gt off, 3)) (ht : ((pc + 1 : Nat) : Int) + off = (tgt : Int)) (kt : y < x → oVv X M tgt lv st S) (kf : ¬ (y < x) → oVv X M (pc + 4) lv st S) : oVv X M pc lv (ol y :: ol x :: st) S := by
  obtain ⟨⟨p, l, e, R, s⟩, ⟨m, args, below, meth, c⟩, ⟨cells, slots, Q⟩, G, r⟩ := X
  intro hO H locs ls hl hP hS
  exact W.lcmp hO.1 hO.2.1 hd0 (lv_if_gt hO.1 hO.2.1 hd ht (fun h => kt ((lg_cmp_gt x y).mp h) hO H locs ls hl hP hS) (fun h => kf (fun z => h ((lg_cmp_gt x y).mpr z)) hO H locs ls hl hP hS))
theorem o_icmp_le {x y : Int32} {off : Int} (tgt : Nat) (hd : decode M.2.1 pc = .ok (.if_icmp .le off, 3)) (ht : (pc : Int) + off = (tgt : Int)) (kt : x ≤ y → oVv X M tgt lv st S) (kf : ¬ (x ≤ y) → oVv X M (pc + 3) lv st S) : oVv X M pc lv (oi y :: oi x :: st) S := by
  obtain ⟨⟨p, l, e, R, s⟩, ⟨m, args, below, meth, c⟩, ⟨cells, slots, Q⟩, G, r⟩ := X
  intro hO H locs ls hl hP hS
  exact lv_icmp_le hO.1 hO.2.1 hd ht (fun h => kt h hO H locs ls hl hP hS) (fun h => kf h hO H locs ls hl hP hS)
theorem o_if_le {x : Int32} {off : Int} (tgt : Nat) (hd : decode M.2.1 pc = .ok (.ifCond .le off, 3)) (ht : (pc : Int) + off = (tgt : Int)) (kt : x ≤ 0 → oVv X M tgt lv st S) (kf : ¬ (x ≤ 0) → oVv X M (pc + 3) lv st S) : oVv X M pc lv (oi x :: st) S := by
  obtain ⟨⟨p, l, e, R, s⟩, ⟨m, args, below, meth, c⟩, ⟨cells, slots, Q⟩, G, r⟩ := X
  intro hO H locs ls hl hP hS
  exact lv_if_le hO.1 hO.2.1 hd ht (fun h => kt h hO H locs ls hl hP hS) (fun h => kf h hO H locs ls hl hP hS)
theorem o_lcmp_le {x y : Int64} {off : Int} (tgt : Nat) (hd0 : decode M.2.1 pc = .ok (.lcmp, 1)) (hd : decode M.2.1 (pc + 1) = .ok (.ifCond .le off, 3)) (ht : ((pc + 1 : Nat) : Int) + off = (tgt : Int)) (kt : x ≤ y → oVv X M tgt lv st S) (kf : ¬ (x ≤ y) → oVv X M (pc + 4) lv st S) : oVv X M pc lv (ol y :: ol x :: st) S := by
  obtain ⟨⟨p, l, e, R, s⟩, ⟨m, args, below, meth, c⟩, ⟨cells, slots, Q⟩, G, r⟩ := X
  intro hO H locs ls hl hP hS
  exact W.lcmp hO.1 hO.2.1 hd0 (lv_if_le hO.1 hO.2.1 hd ht (fun h => kt ((lg_cmp_le x y).mp h) hO H locs ls hl hP hS) (fun h => kf (fun z => h ((lg_cmp_le x y).mpr z)) hO H locs ls hl hP hS))
theorem o_goto {off : Int} (tgt : Nat) (hd : decode M.2.1 pc = .ok (.goto off, 3)) (ht : (pc : Int) + off = (tgt : Int)) (kk : oVv X M tgt lv st S) : oVv X M pc lv st S := by
  obtain ⟨⟨p, l, e, R, s⟩, ⟨m, args, below, meth, c⟩, ⟨cells, slots, Q⟩, G, r⟩ := X
  intro hO H locs ls hl hP hS
  exact lv_goto hO.1 hO.2.1 hd ht (kk hO H locs ls hl hP hS)
theorem o_tabIn {dflt lo hi : Int} {offs : Array Int} {len : Nat} {x : Int32} {off : Int} (tgt : Nat) (hd : decode M.2.1 pc = .ok (.tableswitch dflt lo hi offs, len)) (h1 : ¬ x.toInt < lo) (h2 : ¬ hi < x.toInt) (ho : offs[(x.toInt - lo).toNat]? = some off) (ht : (pc : Int) + off = (tgt : Int)) (kk : oVv X M tgt lv st S) : oVv X M pc lv (oi x :: st) S := by
  obtain ⟨⟨p, l, e, R, s⟩, ⟨m, args, below, meth, c⟩, ⟨cells, slots, Q⟩, G, r⟩ := X
  intro hO H locs ls hl hP hS
  exact lv_tableIn hO.1 hO.2.1 hd h1 h2 ho ht (kk hO H locs ls hl hP hS)
theorem o_tabOut {dflt lo hi : Int} {offs : Array Int} {len : Nat} {x : Int32} (tgt : Nat) (hd : decode M.2.1 pc = .ok (.tableswitch dflt lo hi offs, len)) (h : x.toInt < lo ∨ hi < x.toInt) (ht : (pc : Int) + dflt = (tgt : Int)) (kk : oVv X M tgt lv st S) : oVv X M pc lv (oi x :: st) S := by
  obtain ⟨⟨p, l, e, R, s⟩, ⟨m, args, below, meth, c⟩, ⟨cells, slots, Q⟩, G, r⟩ := X
  intro hO H locs ls hl hP hS
  exact lv_tableOut hO.1 hO.2.1 hd h ht (kk hO H locs ls hl hP hS)
end
