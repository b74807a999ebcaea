section
variable {X : oX} {M : oM} {pc : Nat} {lv : List (Nat × oV)} {st : List oV} {S : oS}
/-- what the tables say of a field, seen from a class's constant pool -/
def oFd (own : String) (idx t k : Nat) : Prop := ∃ (ci : Nat) (C : String) (T : u_T) (N : Nat), oKd t = (1, ci, N) ∧ vwCl[ci]? = some (C, T, N) ∧ k < N ∧ oW (.fieldLink own idx (T k).1 (T k).2.1 (T k).2.2.1) ∧ ∀ w ∈ u_ws C T N, oW w
/-- a field that may be written -/
def oFp (t k : Nat) (ty : FieldType) : Prop := ∃ (ci : Nat) (C : String) (T : u_T) (N : Nat) (ty0 : Nat → FieldType), oKd t = (1, ci, N) ∧ vwCl[ci]? = some (C, T, N) ∧ (T k).2.2.2 = false ∧ parseFieldDescriptor (T k).2.2.1 = some ty ∧ (∀ k, k < N → parseFieldDescriptor (T k).2.2.1 = some (ty0 k)) ∧ ∀ a, a < N → ∀ b, b < N → a ≠ b → (T a).2.1 ≠ (T b).2.1
theorem oCell_obj {G : oG} {S : oS} {t j ci N : Nat} (h : oKd t = (1, ci, N)) : oCell G S t j = .inr (ci, (List.range N).map (oFv G S t j)) := by
  unfold oCell
  rw [h]
  rfl
theorem oCell_I {G : oG} {S : oS} {t j n b : Nat} (h : oKd t = (2, n, b)) : oCell G S t j = .inl (G.2.2 0, n, .inl (S.1 t j)) := by
  unfold oCell
  rw [h]
  rfl
theorem oCell_L {G : oG} {S : oS} {t j n b : Nat} (h : oKd t = (3, n, b)) : oCell G S t j = .inl (G.2.2 1, n, .inr (.inl (S.2 t j))) := by
  unfold oCell
  rw [h]
  rfl
theorem oCell_Z {G : oG} {S : oS} {t j n b : Nat} (h : oKd t = (4, n, b)) : oCell G S t j = .inl (G.2.2 2, n, .inl (S.1 t j)) := by
  unfold oCell
  rw [h]
  rfl
theorem oCell_R {G : oG} {S : oS} {t j n b : Nat} (h : oKd t = (5, n, b)) : oCell G S t j = .inl (G.2.2 3, n, .inr (.inr (.inr (.inr (fun i => some (G.2.1 300 (b + i))))))) := by
  unfold oCell
  rw [h]
  rfl
theorem oCell_eq {G : oG} {S S' : oS} {t j : Nat} (h1 : S'.1 t j = S.1 t j) (h2 : S'.2 t j = S.2 t j) : oCell G S' t j = oCell G S t j := by
  have h3 : oFv G S' t j = oFv G S t j := by
    funext k
    unfold oFv
    rw [h1, h2]
  unfold oCell
  rw [h1, h2, h3]
theorem oStI_ne {t j k t' j' : Nat} {x : Int32} (h : ¬ (t' = t ∧ j' = j)) : (oStI S t j k x).1 t' j' = S.1 t' j' := by
  funext k'
  show (if t' = t ∧ j' = j ∧ k' = k then x else S.1 t' j' k') = _
  rw [if_neg (fun z => h ⟨z.1, z.2.1⟩)]
theorem oStL_ne {t j k t' j' : Nat} {x : Int64} (h : ¬ (t' = t ∧ j' = j)) : (oStL S t j k x).2 t' j' = S.2 t' j' := by
  funext k'
  show (if t' = t ∧ j' = j ∧ k' = k then x else S.2 t' j' k') = _
  rw [if_neg (fun z => h ⟨z.1, z.2.1⟩)]
theorem oStI_row {t j k : Nat} {x : Int32} : (oStI S t j k x).1 t j = upd (S.1 t j) k x := by
  funext k'
  show (if t = t ∧ j = j ∧ k' = k then x else S.1 t j k') = if k' = k then x else S.1 t j k'
  by_cases h : k' = k
  · rw [if_pos ⟨rfl, rfl, h⟩, if_pos h]
  · rw [if_neg (fun z => h z.2.2), if_neg h]
theorem oStL_row {t j k : Nat} {x : Int64} : (oStL S t j k x).2 t j = vp_updL (S.2 t j) k x := by
  funext k'
  show (if t = t ∧ j = j ∧ k' = k then x else S.2 t j k') = if k' = k then x else S.2 t j k'
  by_cases h : k' = k
  · rw [if_pos ⟨rfl, rfl, h⟩, if_pos h]
  · rw [if_neg (fun z => h z.2.2), if_neg h]
theorem oGetV {N k : Nat} {f : Nat → Value} (h : k < N) : ((List.range N).map f)[k]? = some (f k) := by
  rw [List.getElem?_map, List.getElem?_range h]
  rfl
theorem oSetV {N k : Nat} {f g : Nat → Value} {v : Value} (h : k < N) (h1 : g k = v) (h2 : ∀ i, i ≠ k → g i = f i) : ((List.range N).map f).set k v = (List.range N).map g := by
  apply List.ext_getElem?
  intro i
  by_cases hi : k = i
  · subst hi
    rw [List.getElem?_set_self (by simpa using h), oGetV h, h1]
  · rw [List.getElem?_set_ne hi]
    by_cases hl : i < N
    · rw [oGetV hl, oGetV hl, h2 i (fun z => hi z.symm)]
    · rw [List.getElem?_eq_none (by simp; omega), List.getElem?_eq_none (by simp; omega)]
/-- reading a field: its value as the world has it -/
theorem o_get {idx t j k : Nat} {v : oV} (f : oFd M.1 idx t k) (hj : j < oCnt t) (hv : ∀ G : oG, oFv G S t j k = oc G.2.1 v) (hd : decode M.2.1 pc = .ok (.getfield idx, 3)) (kk : oVv X M (pc + 3) lv (v :: st) S) : oVv X M pc lv (orf t j :: st) S := by
  obtain ⟨⟨p, l, e, R, s⟩, ⟨m, args, below, meth, c⟩, ⟨cells, slots, Q⟩, G, r⟩ := X
  intro hO H locs ls hl hP hS
  obtain ⟨ci, C, T, N, h1, h2, h3, h4, h5⟩ := f
  obtain ⟨q0, -, hq⟩ := oWs_at hj
  have he := hq G S
  rw [oCell_obj h1] at he
  exact va_get (D := G.1) (T := T) (N := N) hO.1 hO.2.1 hO.2.2.2.2.2.1 h5 hO.2.2.2.2.1 hO.2.2.2.2.2.2.1.1 hP q0 he h2 k h3 (hO.2.2.2.2.2.1 _ h4) (fun _ h9 => h9) (v := oc G.2.1 v) (by rw [oGetV h3, hv G]) hd (kk hO H locs ls hl hP hS)
theorem o_getI {idx t j k : Nat} (f : oFd M.1 idx t k) (hf : oFt t k = (0, 0, 0, 0)) (hj : j < oCnt t) (hd : decode M.2.1 pc = .ok (.getfield idx, 3)) (kk : oVv X M (pc + 3) lv (oi (S.1 t j k) :: st) S) : oVv X M pc lv (orf t j :: st) S :=
  o_get f hj (fun G => by unfold oFv; rw [hf]; rfl) hd kk
theorem o_getL {idx t j k : Nat} (f : oFd M.1 idx t k) (hf : oFt t k = (1, 0, 0, 0)) (hj : j < oCnt t) (hd : decode M.2.1 pc = .ok (.getfield idx, 3)) (kk : oVv X M (pc + 3) lv (ol (S.2 t j k) :: st) S) : oVv X M pc lv (orf t j :: st) S :=
  o_get f hj (fun G => by unfold oFv; rw [hf]; rfl) hd kk
/-- an array of the object's own, or a fixed object -/
theorem o_getA {idx t j k t1 : Nat} (f : oFd M.1 idx t k) (hf : oFt t k = (2, t1, 1, 0)) (hj : j < oCnt t) (hd : decode M.2.1 pc = .ok (.getfield idx, 3)) (kk : oVv X M (pc + 3) lv (orf t1 j :: st) S) : oVv X M pc lv (orf t j :: st) S :=
  o_get f hj (fun G => by unfold oFv; rw [hf]; show Value.ref (G.2.1 t1 (1 * j + 0)) = Value.ref (G.2.1 t1 j); rw [Nat.one_mul, Nat.add_zero]) hd kk
theorem o_getF {idx t j k t1 b : Nat} (f : oFd M.1 idx t k) (hf : oFt t k = (2, t1, 0, b)) (hj : j < oCnt t) (hd : decode M.2.1 pc = .ok (.getfield idx, 3)) (kk : oVv X M (pc + 3) lv (orf t1 b :: st) S) : oVv X M pc lv (orf t j :: st) S :=
  o_get f hj (fun G => by unfold oFv; rw [hf]; show Value.ref (G.2.1 t1 (0 * j + b)) = Value.ref (G.2.1 t1 b); rw [Nat.zero_mul, Nat.zero_add]) hd kk
theorem o_putI {idx t j k : Nat} {x : Int32} {ty : FieldType} (f : oFd M.1 idx t k) (fp : oFp t k ty) (hf : oFt t k = (0, 0, 0, 0)) (hn : narrow ty (.int x) = .int x) (hfit : fits ty (.int x) = true) (hj : j < oCnt t) (hd : decode M.2.1 pc = .ok (.putfield idx, 3)) (kk : oVv X M (pc + 3) lv st (oStI S t j k x)) : oVv X M pc lv (oi x :: orf t j :: st) S := by
  obtain ⟨⟨p, l, e, R, s⟩, ⟨m, args, below, meth, c⟩, ⟨cells, slots, Q⟩, G, r⟩ := X
  intro hO H locs ls hl hP hS
  obtain ⟨ci, C, T, N, h1, h2, h3, h4, h5⟩ := f
  obtain ⟨ci', C', T', N', ty0, g1, g2, g3, g4, g5, g6⟩ := fp
  have e1 : (1, ci, N) = (1, ci', N') := h1.symm.trans g1
  cases e1
  have e2 : (C, T, N) = (C', T', N) := Option.some.inj (h2.symm.trans g2)
  cases e2
  obtain ⟨q0, hq0, hq⟩ := oWs_at hj
  have he := hq G S
  rw [oCell_obj h1] at he
  have hc : Sum.inr (ci, ((List.range N).map (oFv G S t j)).set k (.int x)) = oCell G (oStI S t j k x) t j := by
    rw [oCell_obj h1, oSetV (g := oFv G (oStI S t j k x) t j) h3]
    · unfold oFv
      rw [hf, oStI_row]
      show Value.int (if k = k then x else _) = _
      rw [if_pos rfl]
    · intro i hi
      unfold oFv
      rw [oStI_row, show upd (S.1 t j) k x i = S.1 t j i from if_neg hi]
      rfl
  have hset := oWs_set (G := G) (S := S) hq0 hc (fun t' j' hne => oCell_eq (oStI_ne hne) rfl)
  refine va_put (D := G.1) (T := T) (N := N) hO.1 hO.2.1 hO.2.2.2.2.2.1 h5 ty0 g5 g6 hO.2.2.2.2.1 hO.2.2.2.2.2.2.1.1 hP (oWs_D hO.2.2.2.2.2.2.2 S) hS q0 he h2 k h3 (hO.2.2.2.2.2.1 _ h4) (fun _ h9 => h9) g3 g4 hn hfit (by simpa using h3) hd (fun H1 locs1 hP1 _ hS1 => kk hO H1 locs1 ls hl ?_ hS1)
  rw [← hset]
  exact hP1
theorem o_putL {idx t j k : Nat} {x : Int64} (f : oFd M.1 idx t k) (fp : oFp t k .long) (hf : oFt t k = (1, 0, 0, 0)) (hj : j < oCnt t) (hd : decode M.2.1 pc = .ok (.putfield idx, 3)) (kk : oVv X M (pc + 3) lv st (oStL S t j k x)) : oVv X M pc lv (ol x :: orf t j :: st) S := by
  obtain ⟨⟨p, l, e, R, s⟩, ⟨m, args, below, meth, c⟩, ⟨cells, slots, Q⟩, G, r⟩ := X
  intro hO H locs ls hl hP hS
  obtain ⟨ci, C, T, N, h1, h2, h3, h4, h5⟩ := f
  obtain ⟨ci', C', T', N', ty0, g1, g2, g3, g4, g5, g6⟩ := fp
  have e1 : (1, ci, N) = (1, ci', N') := h1.symm.trans g1
  cases e1
  have e2 : (C, T, N) = (C', T', N) := Option.some.inj (h2.symm.trans g2)
  cases e2
  obtain ⟨q0, hq0, hq⟩ := oWs_at hj
  have he := hq G S
  rw [oCell_obj h1] at he
  have hc : Sum.inr (ci, ((List.range N).map (oFv G S t j)).set k (.long x)) = oCell G (oStL S t j k x) t j := by
    rw [oCell_obj h1, oSetV (g := oFv G (oStL S t j k x) t j) h3]
    · unfold oFv
      rw [hf, oStL_row]
      show Value.long (if k = k then x else _) = _
      rw [if_pos rfl]
    · intro i hi
      unfold oFv
      rw [oStL_row, show vp_updL (S.2 t j) k x i = S.2 t j i from if_neg hi]
      rfl
  have hset := oWs_set (G := G) (S := S) hq0 hc (fun t' j' hne => oCell_eq rfl (oStL_ne hne))
  refine va_put (D := G.1) (T := T) (N := N) hO.1 hO.2.1 hO.2.2.2.2.2.1 h5 ty0 g5 g6 hO.2.2.2.2.1 hO.2.2.2.2.2.2.1.1 hP (oWs_D hO.2.2.2.2.2.2.2 S) hS q0 he h2 k h3 (hO.2.2.2.2.2.1 _ h4) (fun _ h9 => h9) g3 g4 rfl rfl (by simpa using h3) hd (fun H1 locs1 hP1 _ hS1 => kk hO H1 locs1 ls hl ?_ hS1)
  rw [← hset]
  exact hP1
/-- an index within a row -/
abbrev oIn (i : Int32) (n : Nat) : Prop := ¬ (i < 0 ∨ n ≤ i.toNatClampNeg)
theorem o_iald {t j n b : Nat} {i : Int32} (h : oKd t = (2, n, b)) (hj : j < oCnt t) (hi : oIn i n) (hd : decode M.2.1 pc = .ok (.iaload, 1)) (kk : oVv X M (pc + 1) lv (oi (S.1 t j i.toNatClampNeg) :: st) S) : oVv X M pc lv (oi i :: orf t j :: st) S := by
  obtain ⟨⟨p, l, e, R, s⟩, ⟨m, args, below, meth, c⟩, ⟨cells, slots, Q⟩, G, r⟩ := X
  intro hO H locs ls hl hP hS
  obtain ⟨q0, -, hq⟩ := oWs_at hj
  have he := hq G S
  rw [oCell_I h] at he
  exact va_iald (D := G.1) hO.1 hO.2.1 hO.2.2.2.2.2.2.1.1 hP q0 0 he rfl hi hd (kk hO H locs ls hl hP hS)
theorem o_zald {t j n b : Nat} {i : Int32} (h : oKd t = (4, n, b)) (hj : j < oCnt t) (hi : oIn i n) (hd : decode M.2.1 pc = .ok (.baload, 1)) (kk : oVv X M (pc + 1) lv (oi (S.1 t j i.toNatClampNeg) :: st) S) : oVv X M pc lv (oi i :: orf t j :: st) S := by
  obtain ⟨⟨p, l, e, R, s⟩, ⟨m, args, below, meth, c⟩, ⟨cells, slots, Q⟩, G, r⟩ := X
  intro hO H locs ls hl hP hS
  obtain ⟨q0, -, hq⟩ := oWs_at hj
  have he := hq G S
  rw [oCell_Z h] at he
  exact va_zald (D := G.1) hO.1 hO.2.1 hO.2.2.2.2.2.2.1.1 hP q0 2 he rfl hi hd (kk hO H locs ls hl hP hS)
theorem o_lald {t j n b : Nat} {i : Int32} (h : oKd t = (3, n, b)) (hj : j < oCnt t) (hi : oIn i n) (hd : decode M.2.1 pc = .ok (.laload, 1)) (kk : oVv X M (pc + 1) lv (ol (S.2 t j i.toNatClampNeg) :: st) S) : oVv X M pc lv (oi i :: orf t j :: st) S := by
  obtain ⟨⟨p, l, e, R, s⟩, ⟨m, args, below, meth, c⟩, ⟨cells, slots, Q⟩, G, r⟩ := X
  intro hO H locs ls hl hP hS
  obtain ⟨q0, -, hq⟩ := oWs_at hj
  have he := hq G S
  rw [oCell_L h] at he
  exact va_lald (D := G.1) hO.1 hO.2.1 hO.2.2.2.2.2.2.1.1 hP q0 1 he rfl hi hd (kk hO H locs ls hl hP hS)
theorem o_aald {t j n b : Nat} {i : Int32} (h : oKd t = (5, n, b)) (hb : b + n ≤ 12) (hj : j < oCnt t) (hi : oIn i n) (hd : decode M.2.1 pc = .ok (.aaload, 1)) (kk : ∀ j1, j1 = b + i.toNatClampNeg → j1 < oCnt 300 → oVv X M (pc + 1) lv (orf 300 j1 :: st) S) : oVv X M pc lv (oi i :: orf t j :: st) S := by
  obtain ⟨⟨p, l, e, R, s⟩, ⟨m, args, below, meth, c⟩, ⟨cells, slots, Q⟩, G, r⟩ := X
  intro hO H locs ls hl hP hS
  obtain ⟨q0, -, hq⟩ := oWs_at hj
  have he := hq G S
  rw [oCell_R h] at he
  have hlt : i.toNatClampNeg < n := Nat.not_le.mp fun q => hi (Or.inr q)
  exact va_aldq (D := G.1) hO.1 hO.2.1 hO.2.2.2.2.2.2.1.1 hP q0 3 he rfl hi hd (kk (b + i.toNatClampNeg) rfl (by rw [cn_300]; omega) hO H locs ls hl hP hS)
theorem o_iast {t j n b : Nat} {i x : Int32} (h : oKd t = (2, n, b)) (hj : j < oCnt t) (hi : oIn i n) (hd : decode M.2.1 pc = .ok (.iastore, 1)) (kk : oVv X M (pc + 1) lv st (oStI S t j i.toNatClampNeg x)) : oVv X M pc lv (oi x :: oi i :: orf t j :: st) S := by
  obtain ⟨⟨p, l, e, R, s⟩, ⟨m, args, below, meth, c⟩, ⟨cells, slots, Q⟩, G, r⟩ := X
  intro hO H locs ls hl hP hS
  obtain ⟨q0, hq0, hq⟩ := oWs_at hj
  have he := hq G S
  rw [oCell_I h] at he
  have hset := oWs_set (G := G) (S := S) (S' := oStI S t j i.toNatClampNeg x) (c := .inl (G.2.2 0, n, .inl (upd (S.1 t j) i.toNatClampNeg x))) hq0 (by rw [oCell_I h, oStI_row]) (fun t' j' hne => oCell_eq (oStI_ne hne) rfl)
  refine va_iast (D := G.1) hO.1 hO.2.1 hO.2.2.2.2.2.2.1.1 hP (oWs_D hO.2.2.2.2.2.2.2 S) hS q0 0 he rfl hi hd (fun H1 locs1 hP1 _ hS1 => kk hO H1 locs1 ls hl ?_ hS1)
  rw [← hset]
  exact hP1
theorem o_zast {t j n b : Nat} {i x : Int32} (h : oKd t = (4, n, b)) (hj : j < oCnt t) (hi : oIn i n) (hx : vp_nar .boolean x = x) (hd : decode M.2.1 pc = .ok (.bastore, 1)) (kk : oVv X M (pc + 1) lv st (oStI S t j i.toNatClampNeg x)) : oVv X M pc lv (oi x :: oi i :: orf t j :: st) S := by
  obtain ⟨⟨p, l, e, R, s⟩, ⟨m, args, below, meth, c⟩, ⟨cells, slots, Q⟩, G, r⟩ := X
  intro hO H locs ls hl hP hS
  obtain ⟨q0, hq0, hq⟩ := oWs_at hj
  have he := hq G S
  rw [oCell_Z h] at he
  have hset := oWs_set (G := G) (S := S) (S' := oStI S t j i.toNatClampNeg x) (c := .inl (G.2.2 2, n, .inl (upd (S.1 t j) i.toNatClampNeg (vp_nar .boolean x)))) hq0 (by rw [oCell_Z h, oStI_row, hx]) (fun t' j' hne => oCell_eq (oStI_ne hne) rfl)
  refine va_zast (D := G.1) hO.1 hO.2.1 hO.2.2.2.2.2.2.1.1 hP (oWs_D hO.2.2.2.2.2.2.2 S) hS q0 2 he rfl hi hd (fun H1 locs1 hP1 _ hS1 => kk hO H1 locs1 ls hl ?_ hS1)
  rw [← hset]
  exact hP1
theorem o_last {t j n b : Nat} {i : Int32} {x : Int64} (h : oKd t = (3, n, b)) (hj : j < oCnt t) (hi : oIn i n) (hd : decode M.2.1 pc = .ok (.lastore, 1)) (kk : oVv X M (pc + 1) lv st (oStL S t j i.toNatClampNeg x)) : oVv X M pc lv (ol x :: oi i :: orf t j :: st) S := by
  obtain ⟨⟨p, l, e, R, s⟩, ⟨m, args, below, meth, c⟩, ⟨cells, slots, Q⟩, G, r⟩ := X
  intro hO H locs ls hl hP hS
  obtain ⟨q0, hq0, hq⟩ := oWs_at hj
  have he := hq G S
  rw [oCell_L h] at he
  have hset := oWs_set (G := G) (S := S) (S' := oStL S t j i.toNatClampNeg x) (c := .inl (G.2.2 1, n, .inr (.inl (vp_updL (S.2 t j) i.toNatClampNeg x)))) hq0 (by rw [oCell_L h, oStL_row]) (fun t' j' hne => oCell_eq rfl (oStL_ne hne))
  refine va_last (D := G.1) hO.1 hO.2.1 hO.2.2.2.2.2.2.1.1 hP (oWs_D hO.2.2.2.2.2.2.2 S) hS q0 1 he rfl hi hd (fun H1 locs1 hP1 _ hS1 => kk hO H1 locs1 ls hl ?_ hS1)
  rw [← hset]
  exact hP1
/-- the static rows of ints, and the law's script (5) -/
theorem o_gets {idx i : Nat} (hi : i < 5) (hw : oW (.fieldLink M.1 idx "VillageOven" (oSn i) "[I")) (hd : decode M.2.1 pc = .ok (.getstatic idx, 3)) (kk : oVv X M (pc + 3) lv (orf (2000 + i) 0 :: st) S) : oVv X M pc lv st S := by
  obtain ⟨⟨p, l, e, R, s⟩, ⟨m, args, below, meth, c⟩, ⟨cells, slots, Q⟩, G, r⟩ := X
  intro hO H locs ls hl hP hS
  exact va_gets hO.1 hO.2.1 (hO.2.2.2.2.2.2.1.2.2.1 i hi) hS hO.2.2.2.2.1 (hO.2.2.2.2.2.1 _ hw) (fun _ h9 => h9) hd (kk hO H locs ls hl hP hS)
theorem o_getsN {idx i : Nat} {host : String} (hi : i < 5) (hw : (.fieldLinkNest M.1 idx "VillageOven" (oSn i) "[I" host) ∈ oNest) (hd : decode M.2.1 pc = .ok (.getstatic idx, 3)) (kk : oVv X M (pc + 3) lv (orf (2000 + i) 0 :: st) S) : oVv X M pc lv st S := by
  obtain ⟨⟨p, l, e, R, s⟩, ⟨m, args, below, meth, c⟩, ⟨cells, slots, Q⟩, G, r⟩ := X
  intro hO H locs ls hl hP hS
  exact va_getsN hO.1 hO.2.1 (hO.2.2.2.2.2.2.1.2.2.1 i hi) hS hO.2.2.2.2.1 (va_Nw.use rfl (hO.2.2.2.2.2.2.1.2.1 _ hw)) (fun _ h9 => h9) hd (kk hO H locs ls hl hP hS)
theorem o_sald {i : Nat} {x : Int32} {r0 : oR} (hr : oXr X = r0) (hi : i < 6) (hx : oIn x (oSl r0 i)) (hd : decode M.2.1 pc = .ok (.iaload, 1)) (kk : oVv X M (pc + 1) lv (oi (oSv r0 i x.toNatClampNeg) :: st) S) : oVv X M pc lv (oi x :: orf (2000 + i) 0 :: st) S := by
  subst hr
  obtain ⟨⟨p, l, e, R, s⟩, ⟨m, args, below, meth, c⟩, ⟨cells, slots, Q⟩, G, r⟩ := X
  intro hO H locs ls hl hP hS
  exact va_ti hO.1 hO.2.1 (hO.2.2.2.2.2.2.1.2.2.2 i hi) hS hx rfl hd (kk hO H locs ls hl hP hS)
theorem o_slen {i : Nat} {r0 : oR} (hr : oXr X = r0) (hi : i < 6) (hd : decode M.2.1 pc = .ok (.arraylength, 1)) (kk : oVv X M (pc + 1) lv (oi (Int32.ofNat (oSl r0 i)) :: st) S) : oVv X M pc lv (orf (2000 + i) 0 :: st) S := by
  subst hr
  obtain ⟨⟨p, l, e, R, s⟩, ⟨m, args, below, meth, c⟩, ⟨cells, slots, Q⟩, G, r⟩ := X
  intro hO H locs ls hl hP hS
  exact va_tlen hO.1 hO.2.1 (hO.2.2.2.2.2.2.1.2.2.2 i hi) hS rfl hd (kk hO H locs ls hl hP hS)
/-- System.arraycopy -/
theorem o_copyI {idx t0 j0 t1 j1 n0 n1 b0 b1 : Nat} {sp dp n : Int32} (hR : oRoom X 1) (hw : oW (.methodLink M.1 idx arraycopyName)) (h0 : oKd t0 = (2, n0, b0)) (h1 : oKd t1 = (2, n1, b1)) (hj0 : j0 < oCnt t0) (hj1 : j1 < oCnt t1) (g : ¬ (sp < 0 ∨ dp < 0 ∨ n < 0 ∨ n0 < sp.toNatClampNeg + n.toNatClampNeg ∨ n1 < dp.toNatClampNeg + n.toNatClampNeg)) (hst : (st.map oCat).sum = 0) (hd : decode M.2.1 pc = .ok (.invokestatic idx, 3)) (kk : oVv X M (pc + 3) lv st (oCpI S t0 j0 sp.toNatClampNeg t1 j1 dp.toNatClampNeg n.toNatClampNeg)) : oVv X M pc lv (oi n :: oi dp :: orf t1 j1 :: oi sp :: orf t0 j0 :: st) S := by
  obtain ⟨⟨p, l, e, R, s⟩, ⟨m, args, below, meth, c⟩, ⟨cells, slots, Q⟩, G, r⟩ := X
  intro hO H locs ls hl hP hS
  obtain ⟨q0, -, hq⟩ := oWs_at hj0
  obtain ⟨q1, hq1, hqq⟩ := oWs_at hj1
  have he0 := hq G S
  rw [oCell_I h0] at he0
  have he1 := hqq G S
  rw [oCell_I h1] at he1
  have hsum : ((st.map (oc G.2.1)).map fun v => v.category).sum = 0 := by
    rw [List.map_map]
    have : ((fun v : Value => v.category) ∘ oc G.2.1) = oCat := funext fun v => oc_cat _ v
    rw [this, hst]
  have hset := oWs_set (G := G) (S := S) (S' := oCpI S t0 j0 sp.toNatClampNeg t1 j1 dp.toNatClampNeg n.toNatClampNeg) (c := .inl (G.2.2 0, n1, .inl (va_cpy (S.1 t0 j0) (S.1 t1 j1) sp.toNatClampNeg dp.toNatClampNeg n.toNatClampNeg))) hq1 (by
      rw [oCell_I h1]
      refine congrArg (fun z => Sum.inl (G.2.2 0, n1, Sum.inl z)) (funext fun k => ?_)
      show (if dp.toNatClampNeg ≤ k ∧ k < dp.toNatClampNeg + n.toNatClampNeg then _ else _) = (if t1 = t1 ∧ j1 = j1 ∧ dp.toNatClampNeg ≤ k ∧ k < dp.toNatClampNeg + n.toNatClampNeg then _ else _)
      by_cases hk : dp.toNatClampNeg ≤ k ∧ k < dp.toNatClampNeg + n.toNatClampNeg
      · rw [if_pos hk, if_pos ⟨rfl, rfl, hk⟩]
      · rw [if_neg hk, if_neg (fun z => hk z.2.2)]) (fun t' j' hne => oCell_eq (funext fun k => if_neg (fun z => hne ⟨z.1, z.2.1⟩)) rfl)
  have gA : ¬ sp < 0 := fun z => g (Or.inl z)
  have gB : ¬ dp < 0 := fun z => g (Or.inr (Or.inl z))
  have gC : ¬ n < 0 := fun z => g (Or.inr (Or.inr (Or.inl z)))
  have gD : sp.toNatClampNeg + n.toNatClampNeg ≤ n0 := Nat.not_lt.mp fun z => g (Or.inr (Or.inr (Or.inr (Or.inl z))))
  have gE : dp.toNatClampNeg + n.toNatClampNeg ≤ n1 := Nat.not_lt.mp fun z => g (Or.inr (Or.inr (Or.inr (Or.inr z))))
  refine va_copyi (D := G.1) (ty := .int) hO.1 hO.2.1 (hO.2.2.1.trans hl.1.symm) hO.2.2.2.2.1 (hO.2.2.2.2.2.1 _ hw) (hO.2.2.2.2.2.1 _ wd_418) (hO.2.2.2.2.2.1 _ wd_417) (hO.2.2.2.2.2.1 _ wd_11) hO.2.2.2.2.2.2.1.1 hP (oWs_D hO.2.2.2.2.2.2.2 S) hS q0 q1 0 0 he0 he1 rfl rfl rfl gA gB gC gD gE (fun _ _ => rfl) hR.1 (by
    rw [hsum]
    exact Nat.le_trans (by decide) hR.2.1) hd (fun H1 locs1 hP1 _ hS1 => kk hO H1 locs1 ls hl ?_ hS1)
  rw [← hset]
  exact hP1
theorem o_copyL {idx t0 j0 t1 j1 n0 n1 b0 b1 : Nat} {sp dp n : Int32} (hR : oRoom X 1) (hw : oW (.methodLink M.1 idx arraycopyName)) (h0 : oKd t0 = (3, n0, b0)) (h1 : oKd t1 = (3, n1, b1)) (hj0 : j0 < oCnt t0) (hj1 : j1 < oCnt t1) (g : ¬ (sp < 0 ∨ dp < 0 ∨ n < 0 ∨ n0 < sp.toNatClampNeg + n.toNatClampNeg ∨ n1 < dp.toNatClampNeg + n.toNatClampNeg)) (hst : (st.map oCat).sum = 0) (hd : decode M.2.1 pc = .ok (.invokestatic idx, 3)) (kk : oVv X M (pc + 3) lv st (oCpL S t0 j0 sp.toNatClampNeg t1 j1 dp.toNatClampNeg n.toNatClampNeg)) : oVv X M pc lv (oi n :: oi dp :: orf t1 j1 :: oi sp :: orf t0 j0 :: st) S := by
  obtain ⟨⟨p, l, e, R, s⟩, ⟨m, args, below, meth, c⟩, ⟨cells, slots, Q⟩, G, r⟩ := X
  intro hO H locs ls hl hP hS
  obtain ⟨q0, -, hq⟩ := oWs_at hj0
  obtain ⟨q1, hq1, hqq⟩ := oWs_at hj1
  have he0 := hq G S
  rw [oCell_L h0] at he0
  have he1 := hqq G S
  rw [oCell_L h1] at he1
  have hsum : ((st.map (oc G.2.1)).map fun v => v.category).sum = 0 := by
    rw [List.map_map]
    have : ((fun v : Value => v.category) ∘ oc G.2.1) = oCat := funext fun v => oc_cat _ v
    rw [this, hst]
  have hset := oWs_set (G := G) (S := S) (S' := oCpL S t0 j0 sp.toNatClampNeg t1 j1 dp.toNatClampNeg n.toNatClampNeg) (c := .inl (G.2.2 1, n1, .inr (.inl (va_cpy (S.2 t0 j0) (S.2 t1 j1) sp.toNatClampNeg dp.toNatClampNeg n.toNatClampNeg)))) hq1 (by
      rw [oCell_L h1]
      refine congrArg (fun z => Sum.inl (G.2.2 1, n1, Sum.inr (Sum.inl z))) (funext fun k => ?_)
      show (if dp.toNatClampNeg ≤ k ∧ k < dp.toNatClampNeg + n.toNatClampNeg then _ else _) = (if t1 = t1 ∧ j1 = j1 ∧ dp.toNatClampNeg ≤ k ∧ k < dp.toNatClampNeg + n.toNatClampNeg then _ else _)
      by_cases hk : dp.toNatClampNeg ≤ k ∧ k < dp.toNatClampNeg + n.toNatClampNeg
      · rw [if_pos hk, if_pos ⟨rfl, rfl, hk⟩]
      · rw [if_neg hk, if_neg (fun z => hk z.2.2)]) (fun t' j' hne => oCell_eq rfl (funext fun k => if_neg (fun z => hne ⟨z.1, z.2.1⟩)))
  have gA : ¬ sp < 0 := fun z => g (Or.inl z)
  have gB : ¬ dp < 0 := fun z => g (Or.inr (Or.inl z))
  have gC : ¬ n < 0 := fun z => g (Or.inr (Or.inr (Or.inl z)))
  have gD : sp.toNatClampNeg + n.toNatClampNeg ≤ n0 := Nat.not_lt.mp fun z => g (Or.inr (Or.inr (Or.inr (Or.inl z))))
  have gE : dp.toNatClampNeg + n.toNatClampNeg ≤ n1 := Nat.not_lt.mp fun z => g (Or.inr (Or.inr (Or.inr (Or.inr z))))
  refine va_copyl (D := G.1) (ty := .long) hO.1 hO.2.1 (hO.2.2.1.trans hl.1.symm) hO.2.2.2.2.1 (hO.2.2.2.2.2.1 _ hw) (hO.2.2.2.2.2.1 _ wd_418) (hO.2.2.2.2.2.1 _ wd_417) (hO.2.2.2.2.2.1 _ wd_11) hO.2.2.2.2.2.2.1.1 hP (oWs_D hO.2.2.2.2.2.2.2 S) hS q0 q1 1 1 he0 he1 rfl rfl rfl gA gB gC gD gE (fun _ _ => rfl) hR.1 (by
    rw [hsum]
    exact Nat.le_trans (by decide) hR.2.1) hd (fun H1 locs1 hP1 _ hS1 => kk hO H1 locs1 ls hl ?_ hS1)
  rw [← hset]
  exact hP1
/-- ends -/
theorem o_iret {Q : Option oV → oS → Prop} {v : Int32} (hE : oEnd X M Q) (hr : M.2.2.2 = some .int) (hd : decode M.2.1 pc = .ok (.ireturn, 1)) (hq : Q (some (oi v)) S) : oVv X M pc lv [oi v] S := by
  obtain ⟨⟨p, l, e, R, s⟩, ⟨m, args, below, meth, c⟩, ⟨cells, slots, fin⟩, G, r⟩ := X
  obtain ⟨h1, rfl, rfl, rfl⟩ := hE
  intro hO H locs ls hl hP hS
  exact W.iret hO.1 hO.2.1 (h1.trans hr) (fun t ht hW => ⟨⟨some (oi v), S, rfl, hq, by rw [ht]; exact hP⟩, hS.F ht⟩) hS.2.2 hd hO.2.2.2.1
theorem o_zret {Q : Option oV → oS → Prop} {v : Int32} (hE : oEnd X M Q) (hr : M.2.2.2 = some .boolean) (hv : narrow .boolean (.int v) = .int v) (hd : decode M.2.1 pc = .ok (.ireturn, 1)) (hq : Q (some (oi v)) S) : oVv X M pc lv [oi v] S := by
  obtain ⟨⟨p, l, e, R, s⟩, ⟨m, args, below, meth, c⟩, ⟨cells, slots, fin⟩, G, r⟩ := X
  obtain ⟨h1, rfl, rfl, rfl⟩ := hE
  intro hO H locs ls hl hP hS
  exact W.zret hO.1 hO.2.1 (h1.trans hr) hv (fun t ht hW => ⟨⟨some (oi v), S, rfl, hq, by rw [ht]; exact hP⟩, hS.F ht⟩) hS.2.2 hd hO.2.2.2.1
theorem o_lret {Q : Option oV → oS → Prop} {v : Int64} (hE : oEnd X M Q) (hr : M.2.2.2 = some .long) (hd : decode M.2.1 pc = .ok (.lreturn, 1)) (hq : Q (some (ol v)) S) : oVv X M pc lv [ol v] S := by
  obtain ⟨⟨p, l, e, R, s⟩, ⟨m, args, below, meth, c⟩, ⟨cells, slots, fin⟩, G, r⟩ := X
  obtain ⟨h1, rfl, rfl, rfl⟩ := hE
  intro hO H locs ls hl hP hS
  exact W.lret hO.1 hO.2.1 (h1.trans hr) (fun t ht hW => ⟨⟨some (ol v), S, rfl, hq, by rw [ht]; exact hP⟩, hS.F ht⟩) hS.2.2 hd hO.2.2.2.1
theorem o_vret {Q : Option oV → oS → Prop} (hE : oEnd X M Q) (hr : M.2.2.2 = none) (hd : decode M.2.1 pc = .ok (.return_, 1)) (hq : Q none S) : oVv X M pc lv [] S := by
  obtain ⟨⟨p, l, e, R, s⟩, ⟨m, args, below, meth, c⟩, ⟨cells, slots, fin⟩, G, r⟩ := X
  obtain ⟨h1, rfl, rfl, rfl⟩ := hE
  intro hO H locs ls hl hP hS
  exact W.vret hO.1 hO.2.1 (h1.trans hr) (fun t ht hW => ⟨⟨none, S, rfl, hq, by rw [ht]; exact hP⟩, hS.F ht⟩) hS.2.2 hd hO.2.2.2.1
end
