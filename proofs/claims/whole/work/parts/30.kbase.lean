abbrev oY : Type := (Program × Launch × Env × Room × State) × (MethodId × Array Value × List Frame × Method × Code) × (State → Prop) × va_G × (Nat → ClassId) × Nat × (Nat → Prop)
def kTys (cA : Nat → ClassId) : List (ClassId × FieldType) := [(cA 0, .int), (cA 1, .long), (cA 2, .boolean), (cA 3, .object "VillageOven$Load")]
/-- what the constructors know of the tables and of the static row MASS -/
def kFix (D : va_G) (cA : Nat → ClassId) (ms : Nat) (A : Nat → Prop) (U : State) : Prop := va_K D vwCl (kTys cA) U ∧ (∀ w ∈ oNest, va_Nw w U) ∧ va_Z "VillageOven" "MASS" "[I" (.ref ms) A U U.heap ∧ va_T .int ms 3 (fun j => .int (oMASS j)) A U U.heap ∧ va_AO "VillageOven$Load" U
def kOk (p : Program) (s : State) (m : MethodId) (args : Array Value) (meth : Method) (c : Code) (M : oM) (D : va_G) (cA : Nat → ClassId) (ms : Nat) (A : Nat → Prop) : Prop := p.tables.exec = Jvm.exec ∧ c.code = M.2.1 ∧ c.maxLocals = M.2.2.1 ∧ meth.locks = false ∧ s.vm.findClass M.1 = some m.cls ∧ (∀ w ∈ oTb, w.before args s = true) ∧ kFix D cA ms A s ∧ ∀ q, s.heap.size ≤ q → A q
def oKv (Y : oY) (M : oM) (pc : Nat) (lv : List (Nat × Value)) (st : List Value) (ws : va_W) (k n : Nat) : Prop := match Y with
  | ((p, l, e, R, s), (m, args, below, meth, c), Q, D, cA, ms, A) => kOk p s m args meth c M D cA ms A → ∀ (H : Heap) (locs : List Loc) (ls : Array Slot), lv_has ls M.2.2.1 lv → va_P D vwCl ws H → va_D A ws → va_S A s.heap H locs → W p l e R s m args below meth c H locs k n Q (F0 m pc ls st)
def kIn (Y : oY) : Prop := Y.2.1.2.2.2.1.name = "<init>"
def kRoom (Y : oY) (d k n : Nat) : Prop := d ≤ Y.1.2.2.2.1.frames ∧ 40 * d ≤ Y.1.2.2.2.1.locals ∧ k ≤ Y.1.2.2.2.1.cells ∧ n ≤ Y.1.2.2.2.1.slots
def kA (ws : va_W) (sz : Nat) : Nat → Prop := va_A ws sz
/-- a constructor's start and end -/
def kPc (D : va_G) (cA : Nat → ClassId) (ms : Nat) (av : List Value) (ws : va_W) (sz : Nat) : Array Value → State → Prop := va_Pc av (fun U => U.heap.size = sz ∧ va_P D vwCl ws U.heap ∧ va_D (fun _ => True) ws ∧ kFix D cA ms (va_A ws sz) U)
def kQc (D : va_G) (A : Nat → Prop) (post : va_W → Prop) : Array Value → State → Outcome → State → Prop := fun _ st o t => (∃ w1 : va_W, o = .returned none ∧ post w1 ∧ va_P D vwCl w1 t.heap ∧ va_D A w1) ∧ va_F A st t
def kRm (d k n : Nat) : Room := { frames := d, cells := k, slots := n, locals := 40 * d }
def kCt (D : va_G) (cA : Nat → ClassId) (ms d k n : Nat) (y : MethodName) (M : oM) (av : List Value) (ws : va_W) (sz : Nat) (post : va_W → Prop) : Prop := ∀ l : Launch, Met l y (Cond.code y M.2.1 M.2.2.1 M.2.2.2 :: oTb) (kRm d k n) (kPc D cA ms av ws sz) (kQc D (va_A ws sz) post) k n (va_A ws sz)
def kEnd (Y : oY) (M : oM) (k n : Nat) (post : va_W → Prop) : Prop := match Y with
  | ((_, _, _, _, s), (_, args, below, meth, _), fin, D, _, _, A) => meth.sig.returnType = M.2.2.2 ∧ fin = MQ below (kQc D A post) args s k n A
theorem kFix.blind {D : va_G} {cA : Nat → ClassId} {ms : Nat} {A : Nat → Prop} {U : State} (h : kFix D cA ms A U) (g : JFrame) (mk : MethodId) (a : Array Value) : kFix D cA ms A (U.calling g mk a) := by
  obtain ⟨h1, h2, h3, h4, h5⟩ := h
  refine ⟨va_K.moved (u := U) (U := U.calling g mk a) (Vm.Alike.refl U.vm) h1, fun w hw => ?_, h3.moved (u := U) (U := U.calling g mk a) (Vm.Alike.refl U.vm), h4.moved (u := U) (U := U.calling g mk a) (Vm.Alike.refl U.vm), h5.moved (u := U) (U := U.calling g mk a) (Vm.Alike.refl U.vm)⟩
  have hh := h2 w hw
  simp only [oNest, List.mem_cons, List.not_mem_nil, or_false] at hw
  rcases hw with rfl | rfl | rfl | rfl | rfl | rfl | rfl | rfl | rfl | rfl | rfl | rfl | rfl | rfl | rfl <;> exact va_Nw.same (u := U) (U := U.calling g mk a) rfl rfl hh
theorem kFix.at {D : va_G} {cA : Nat → ClassId} {ms : Nat} {A B : Nat → Prop} {s U : State} {H : Heap} {locs : List Loc} (h : kFix D cA ms A s) (hS : va_S A s.heap H locs) (hB : ∀ q, B q → A q) (hU : U.heap = H) (hW : s.WarmedH U.vm) : kFix D cA ms B U := by
  obtain ⟨h1, h2, h3, h4, h5⟩ := h
  refine ⟨va_K.moved hW.alike h1, oNest_warm hW h2, ?_, ?_, h5.moved hW.alike⟩
  · rw [hU]
    exact ((h3.moved hW.alike).kept hS.2.1).narrow hB
  · rw [hU]
    exact ((h4.moved hW.alike).kept hS.2.1).narrow hB
theorem kPc_blind {D : va_G} {cA : Nat → ClassId} {ms : Nat} {av : List Value} {ws : va_W} {sz : Nat} : FrameBlind (kPc D cA ms av ws sz) := fun a U g mk q => by
  obtain ⟨q0, q1, q2, q3, q4⟩ := q
  exact ⟨q0, q1, q2, q3, q4.blind g mk a⟩
theorem kCt_of {D : va_G} {cA : Nat → ClassId} {ms d k n : Nat} {y : MethodName} {M : oM} {av : List Value} {ws : va_W} {sz : Nat} {post : va_W → Prop} (hy : plainName y.cls = true) (hc : y.cls = M.1) (hyn : y.name = "<init>") (hav : (lg_sl av).length ≤ M.2.2.1)
    (body : ∀ Y : oY, Y.2.2.2.1 = D → Y.2.2.2.2.1 = cA → kIn Y → kEnd Y M k n post → kRoom Y d k n → oKv Y M 0 (lv_args 0 av) [] ws 0 0) : kCt D cA ms d k n y M av ws sz post := by
  intro l
  refine Met.ofW (cc := M.2.1) (maxL := M.2.2.1) (ret := M.2.2.2) hy rfl ?_
  intro p e s m args below meth c s₁ B hml hv
  obtain ⟨rfl, hsz, hP, hD, hF⟩ := hv
  subst hsz
  have hts := atoms_spec (ws := Cond.code y M.2.1 M.2.2.1 M.2.2.2 :: oTb) B.pre
  have hown : s.vm.findClass y.cls = some m.cls := findClass_of_methodNamed B.named
  rw [hc] at hown
  have hin : meth.name = "<init>" := ((name_of_methodNamed B.named B.method).1).trans hyn
  have hl := lv_entry av (n := M.2.2.1) hav
  have := body ((p, l, e, (headSpec (Cond.code y M.2.1 M.2.2.1 M.2.2.2 :: oTb) (kRm d k n)).room, s), (m, av.toArray, below, meth, c), MQ below (kQc D (va_A ws s.heap.size) post) av.toArray s k n (va_A ws s.heap.size), D, cA, ms, va_A ws s.heap.size) rfl rfl hin ⟨B.returns, rfl⟩ ⟨Nat.le_refl _, Nat.le_refl _, Nat.le_refl _, Nat.le_refl _⟩
    ⟨B.exec, B.bytes, hml, B.notSynchronized, hown, fun w hw => hts w (List.mem_cons_of_mem _ hw), hF, fun q h => Or.inr h⟩ s.heap [] _ hl hP hD.self va_S.rf
  rw [lg_entry_eq]
  exact this
theorem kSame {D : va_G} {cl : List vw_C} {t1 t2 : List (ClassId × FieldType)} {s : State} (i : Nat) {c1 c2 : ClassId} {ty : FieldType} (h1 : va_K D cl t1 s) (h2 : va_K D cl (t2 ++ [(c2, ty)]) s) (hi : t1[i]? = some (c1, ty)) : c2 = c1 := by
  have a := (h1.2 i _ hi).2
  have b := (h2.2 t2.length (c2, ty) (by rw [List.getElem?_append_right (Nat.le_refl _), Nat.sub_self]; rfl)).2
  cases ty with
  | object C =>
    obtain ⟨_, _, _, _, _, e1⟩ := a
    obtain ⟨_, _, _, _, _, e2⟩ := b
    exact Option.some.inj (e2.symm.trans e1)
  | _ => exact Option.some.inj ((show _ = some c2 from b).symm.trans (show _ = some c1 from a))
theorem k_range {α : Type} (wr x : List α) : (List.range wr.length).map (fun i => (wr ++ x)[i]?) = wr.map some := by
  apply List.ext_getElem?
  intro i
  rw [List.getElem?_map, List.getElem?_map]
  by_cases hi : i < wr.length
  · rw [List.getElem?_range hi, List.getElem?_eq_getElem hi]
    show some ((wr ++ x)[i]?) = some (some wr[i])
    rw [List.getElem?_append_left hi, List.getElem?_eq_getElem hi]
  · rw [List.getElem?_eq_none (by simpa using Nat.not_lt.mp hi), List.getElem?_eq_none (Nat.not_lt.mp hi)]
    rfl
theorem k_nd : ∀ (n m : Nat), va_nd ((List.range n).map (fun i => m + i)) = true := by
  intro n
  induction n with
  | zero => intro m; rfl
  | succ n ih =>
    intro m
    rw [List.range_succ_eq_map, List.map_cons, List.map_map]
    have e : ((fun i => m + i) ∘ Nat.succ) = fun i => (m + 1) + i := by funext i; show m + (i + 1) = m + 1 + i; omega
    rw [e]
    unfold va_nd
    rw [ih (m + 1)]
    simp
    omega
theorem k_join {A0 : Nat → Prop} {D : va_G} {cl : List vw_C} {wr w1 : va_W} {x : Nat × va_E} {H H1 : Heap} (hP : va_P D cl (wr ++ [x]) H) (hD : va_D A0 (wr ++ [x]))
    (hk : ∀ q : Nat, q < H.size → ¬ va_A [x] H.size q → H1[q]? = H[q]?) (hF : ∀ q, va_A [x] H.size q → A0 q) (hP1 : va_P D cl w1 H1) (hD1 : va_D (va_A [x] H.size) w1) : va_P D cl (wr ++ w1) H1 ∧ va_D A0 (wr ++ w1) := by
  refine va_join hP hD [wr.length] (List.range wr.length) ?_ (k_range wr [x]) ?_ ?_ hk hF hP1 hD1
  · show [(wr ++ [x])[wr.length]?] = [some x]
    rw [List.getElem?_append_right (Nat.le_refl _), Nat.sub_self]
    rfl
  · have := k_nd wr.length 0
    simpa using this
  · intro i hi
    have := List.mem_range.mp hi
    simp
    omega
section
variable {Y : oY} {M : oM} {pc : Nat} {lv lv1 : List (Nat × Value)} {st : List Value} {ws ws1 : va_W} {k n : Nat}
theorem c_aload_n {j : Fin 4} {i x : Nat} (hd : decode M.2.1 pc = .ok (.aload_n j, 1)) (hi : (j : Nat) = i) (q : Nat) (h : lv[q]? = some (i, .ref x)) (kk : oKv Y M (pc + 1) lv (.ref x :: st) ws k n) : oKv Y M pc lv st ws k n := by
  obtain ⟨⟨p, l, e, R, s⟩, ⟨m, args, below, meth, c⟩, Q, D, cA, ms, A⟩ := Y
  intro hO H locs ls hl hP hD hS
  exact lv_aload_n hO.1 hO.2.1 hd hi (lv_at hl q h) (kk hO H locs ls hl hP hD hS)
theorem c_iload_n {j : Fin 4} {i : Nat} {x : Int32} (hd : decode M.2.1 pc = .ok (.iload_n j, 1)) (hi : (j : Nat) = i) (q : Nat) (h : lv[q]? = some (i, .int x)) (kk : oKv Y M (pc + 1) lv (.int x :: st) ws k n) : oKv Y M pc lv st ws k n := by
  obtain ⟨⟨p, l, e, R, s⟩, ⟨m, args, below, meth, c⟩, Q, D, cA, ms, A⟩ := Y
  intro hO H locs ls hl hP hD hS
  exact lv_iload_n hO.1 hO.2.1 hd hi (lv_at hl q h) (kk hO H locs ls hl hP hD hS)
theorem c_istore_n {j : Fin 4} {i : Nat} {x : Int32} (hd : decode M.2.1 pc = .ok (.istore_n j, 1)) (hi : (j : Nat) = i) (hn : i < M.2.2.1) (hs : (i, Value.int x) :: lv.filter (fun q => !(q.1 == i) && !(q.1 + 1 == i && q.2.category == 2)) = lv1) (kk : oKv Y M (pc + 1) lv1 st ws k n) : oKv Y M pc lv (.int x :: st) ws k n := by
  obtain ⟨⟨p, l, e, R, s⟩, ⟨m, args, below, meth, c⟩, Q, D, cA, ms, A⟩ := Y
  intro hO H locs ls hl hP hD hS
  exact lv_istore_n hO.1 hO.2.1 hd hi hl hn hs (fun ls hl => kk hO H locs ls hl hP hD hS)
theorem c_astore_n {j : Fin 4} {i : Nat} {x : Nat} (hd : decode M.2.1 pc = .ok (.astore_n j, 1)) (hi : (j : Nat) = i) (hn : i < M.2.2.1) (hs : (i, Value.ref x) :: lv.filter (fun q => !(q.1 == i) && !(q.1 + 1 == i && q.2.category == 2)) = lv1) (kk : oKv Y M (pc + 1) lv1 st ws k n) : oKv Y M pc lv (.ref x :: st) ws k n := by
  obtain ⟨⟨p, l, e, R, s⟩, ⟨m, args, below, meth, c⟩, Q, D, cA, ms, A⟩ := Y
  intro hO H locs ls hl hP hD hS
  exact lv_astore_n hO.1 hO.2.1 hd hi hl hn hs (fun ls hl => kk hO H locs ls hl hP hD hS)
theorem c_iinc {i : Nat} {a : Int} {x v : Int32} (hd : decode M.2.1 pc = .ok (.iinc i a, 3)) (q : Nat) (h : lv[q]? = some (i, .int x)) (hv : x + Int32.ofInt a = v) (hn : i < M.2.2.1) (hs : (i, Value.int v) :: lv.filter (fun q => !(q.1 == i) && !(q.1 + 1 == i && q.2.category == 2)) = lv1) (kk : oKv Y M (pc + 3) lv1 st ws k n) : oKv Y M pc lv st ws k n := by
  obtain ⟨⟨p, l, e, R, s⟩, ⟨m, args, below, meth, c⟩, Q, D, cA, ms, A⟩ := Y
  intro hO H locs ls hl hP hD hS
  exact lv_iinc hO.1 hO.2.1 hd hl h hv hn hs (fun ls hl => kk hO H locs ls hl hP hD hS)
theorem c_iconst {a : Int} {v : Int32} (hd : decode M.2.1 pc = .ok (.iconst a, 1)) (hv : Int32.ofInt a = v) (kk : oKv Y M (pc + 1) lv (.int v :: st) ws k n) : oKv Y M pc lv st ws k n := by
  obtain ⟨⟨p, l, e, R, s⟩, ⟨m, args, below, meth, c⟩, Q, D, cA, ms, A⟩ := Y
  intro hO H locs ls hl hP hD hS
  exact lv_iconst hO.1 hO.2.1 hd hv (kk hO H locs ls hl hP hD hS)
theorem c_bipush {a : Int} {v : Int32} (hd : decode M.2.1 pc = .ok (.bipush a, 2)) (hv : (Int8.ofInt a).toInt32 = v) (kk : oKv Y M (pc + 2) lv (.int v :: st) ws k n) : oKv Y M pc lv st ws k n := by
  obtain ⟨⟨p, l, e, R, s⟩, ⟨m, args, below, meth, c⟩, Q, D, cA, ms, A⟩ := Y
  intro hO H locs ls hl hP hD hS
  exact lv_bipush hO.1 hO.2.1 hd hv (kk hO H locs ls hl hP hD hS)
theorem c_sipush {a : Int} {v : Int32} (hd : decode M.2.1 pc = .ok (.sipush a, 3)) (hv : (Int16.ofInt a).toInt32 = v) (kk : oKv Y M (pc + 3) lv (.int v :: st) ws k n) : oKv Y M pc lv st ws k n := by
  obtain ⟨⟨p, l, e, R, s⟩, ⟨m, args, below, meth, c⟩, Q, D, cA, ms, A⟩ := Y
  intro hO H locs ls hl hP hD hS
  exact lv_sipush hO.1 hO.2.1 hd hv (kk hO H locs ls hl hP hD hS)
theorem c_lconst {a : Fin 2} {v : Int64} (hd : decode M.2.1 pc = .ok (.lconst a, 1)) (hv : Int64.ofNat a.val = v) (kk : oKv Y M (pc + 1) lv (.long v :: st) ws k n) : oKv Y M pc lv st ws k n := by
  obtain ⟨⟨p, l, e, R, s⟩, ⟨m, args, below, meth, c⟩, Q, D, cA, ms, A⟩ := Y
  intro hO H locs ls hl hP hD hS
  exact lv_lconst hO.1 hO.2.1 hd hv (kk hO H locs ls hl hP hD hS)
theorem c_ldc2 {idx : Nat} {v : Int64} (hd : decode M.2.1 pc = .ok (.ldc2_w idx, 3)) (hw : oW (.constantLong M.1 idx v)) (kk : oKv Y M (pc + 3) lv (.long v :: st) ws k n) : oKv Y M pc lv st ws k n := by
  obtain ⟨⟨p, l, e, R, s⟩, ⟨m, args, below, meth, c⟩, Q, D, cA, ms, A⟩ := Y
  intro hO H locs ls hl hP hD hS
  exact lv_ldc2 hO.1 hO.2.1 hO.2.2.2.2.1 (hO.2.2.2.2.2.1 _ hw) hd (kk hO H locs ls hl hP hD hS)
theorem c_dup {v : Value} (hd : decode M.2.1 pc = .ok (.dup, 1)) (hv : v.category = 1) (kk : oKv Y M (pc + 1) lv (v :: v :: st) ws k n) : oKv Y M pc lv (v :: st) ws k n := by
  obtain ⟨⟨p, l, e, R, s⟩, ⟨m, args, below, meth, c⟩, Q, D, cA, ms, A⟩ := Y
  intro hO H locs ls hl hP hD hS
  exact lv_dup hO.1 hO.2.1 hd hv (kk hO H locs ls hl hP hD hS)
theorem c_iadd {x y z : Int32} (hd : decode M.2.1 pc = .ok (.iadd, 1)) (hz : x + y = z) (kk : oKv Y M (pc + 1) lv (.int z :: st) ws k n) : oKv Y M pc lv (.int y :: .int x :: st) ws k n := by
  subst hz
  obtain ⟨⟨p, l, e, R, s⟩, ⟨m, args, below, meth, c⟩, Q, D, cA, ms, A⟩ := Y
  intro hO H locs ls hl hP hD hS
  exact lv_iadd hO.1 hO.2.1 hd (kk hO H locs ls hl hP hD hS)
theorem c_imul {x y z : Int32} (hd : decode M.2.1 pc = .ok (.imul, 1)) (hz : x * y = z) (kk : oKv Y M (pc + 1) lv (.int z :: st) ws k n) : oKv Y M pc lv (.int y :: .int x :: st) ws k n := by
  subst hz
  obtain ⟨⟨p, l, e, R, s⟩, ⟨m, args, below, meth, c⟩, Q, D, cA, ms, A⟩ := Y
  intro hO H locs ls hl hP hD hS
  exact lv_imul hO.1 hO.2.1 hd (kk hO H locs ls hl hP hD hS)
theorem c_irem {x y z : Int32} (hd : decode M.2.1 pc = .ok (.irem, 1)) (hne : ¬ y = 0) (hz : x - x / y * y = z) (kk : oKv Y M (pc + 1) lv (.int z :: st) ws k n) : oKv Y M pc lv (.int y :: .int x :: st) ws k n := by
  subst hz
  obtain ⟨⟨p, l, e, R, s⟩, ⟨m, args, below, meth, c⟩, Q, D, cA, ms, A⟩ := Y
  intro hO H locs ls hl hP hD hS
  exact lv_irem hO.1 hO.2.1 hd hne (kk hO H locs ls hl hP hD hS)
theorem c_lmul {x y z : Int64} (hd : decode M.2.1 pc = .ok (.lmul, 1)) (hz : x * y = z) (kk : oKv Y M (pc + 1) lv (.long z :: st) ws k n) : oKv Y M pc lv (.long y :: .long x :: st) ws k n := by
  subst hz
  obtain ⟨⟨p, l, e, R, s⟩, ⟨m, args, below, meth, c⟩, Q, D, cA, ms, A⟩ := Y
  intro hO H locs ls hl hP hD hS
  exact lv_lmul hO.1 hO.2.1 hd (kk hO H locs ls hl hP hD hS)
theorem c_i2l {x : Int32} {z : Int64} (hd : decode M.2.1 pc = .ok (.i2l, 1)) (hz : x.toInt64 = z) (kk : oKv Y M (pc + 1) lv (.long z :: st) ws k n) : oKv Y M pc lv (.int x :: st) ws k n := by
  obtain ⟨⟨p, l, e, R, s⟩, ⟨m, args, below, meth, c⟩, Q, D, cA, ms, A⟩ := Y
  intro hO H locs ls hl hP hD hS
  exact lv_i2l hO.1 hO.2.1 hd hz (kk hO H locs ls hl hP hD hS)
theorem c_icmp_ge_t {x y : Int32} {off : Int} (tgt : Nat) (hd : decode M.2.1 pc = .ok (.if_icmp .ge off, 3)) (ht : (pc : Int) + off = (tgt : Int)) (hc : y ≤ x) (kk : oKv Y M tgt lv st ws k n) : oKv Y M pc lv (.int y :: .int x :: st) ws k n := by
  obtain ⟨⟨p, l, e, R, s⟩, ⟨m, args, below, meth, c⟩, Q, D, cA, ms, A⟩ := Y
  intro hO H locs ls hl hP hD hS
  exact lv_icmp_ge hO.1 hO.2.1 hd ht (fun _ => kk hO H locs ls hl hP hD hS) (fun h => absurd hc h)
theorem c_icmp_ge_f {x y : Int32} {off : Int} (hd : decode M.2.1 pc = .ok (.if_icmp .ge off, 3)) (ht : ∃ tgt : Nat, (pc : Int) + off = (tgt : Int)) (hc : ¬ y ≤ x) (kk : oKv Y M (pc + 3) lv st ws k n) : oKv Y M pc lv (.int y :: .int x :: st) ws k n := by
  obtain ⟨tgt, ht⟩ := ht
  obtain ⟨⟨p, l, e, R, s⟩, ⟨m, args, below, meth, c⟩, Q, D, cA, ms, A⟩ := Y
  intro hO H locs ls hl hP hD hS
  exact lv_icmp_ge hO.1 hO.2.1 hd ht (fun h => absurd h hc) (fun _ => kk hO H locs ls hl hP hD hS)
theorem c_goto {off : Int} (tgt : Nat) (hd : decode M.2.1 pc = .ok (.goto off, 3)) (ht : (pc : Int) + off = (tgt : Int)) (kk : oKv Y M tgt lv st ws k n) : oKv Y M pc lv st ws k n := by
  obtain ⟨⟨p, l, e, R, s⟩, ⟨m, args, below, meth, c⟩, Q, D, cA, ms, A⟩ := Y
  intro hO H locs ls hl hP hD hS
  exact lv_goto hO.1 hO.2.1 hd ht (kk hO H locs ls hl hP hD hS)
theorem c_objInit {idx x : Nat} (hR : kRoom Y 1 k n) (hw : oW (.methodLink M.1 idx Lib.objectInit)) (hi : oW (.instanceMethod Lib.objectInit)) (hc : oW (.code Lib.objectInit ⟨#[0xb1]⟩ 1 none)) (hd : decode M.2.1 pc = .ok (.invokespecial idx, 3)) (kk : oKv Y M (pc + 3) lv [] ws k n) : oKv Y M pc lv [.ref x] ws k n := by
  obtain ⟨⟨p, l, e, R, s⟩, ⟨m, args, below, meth, c⟩, Q, D, cA, ms, A⟩ := Y
  intro hO H locs ls hl hP hD hS
  exact W.objInit hO.1 hO.2.1 hO.2.2.2.2.1 (hO.2.2.2.2.2.1 _ hw) (hO.2.2.2.2.2.1 _ hi) (hO.2.2.2.2.2.1 _ hc) rfl (by rw [hO.2.2.1]; exact hl.1) rfl hd hR.1 (Nat.le_trans (Nat.le_of_ble_eq_true rfl) hR.2.1) (kk hO H locs ls hl hP hD hS)
theorem c_new {ci N idx : Nat} {C : String} {Tt : u_T} {ty : Nat → FieldType} (fs : List Value) (hR : k + 1 ≤ Y.1.2.2.2.1.cells ∧ n + N ≤ Y.1.2.2.2.1.slots) (hc : vwCl[ci]? = some (C, Tt, N)) (hin : ∀ w ∈ u_ws C Tt N, oW w) (hty : ∀ k, k < N → parseFieldDescriptor (Tt k).2.2.1 = some (ty k)) (hcl : oW (.classLink M.1 idx C)) (hinst : oW (.instantiable C N)) (hini : oW (.initialized C)) (hfs : ∀ j, j < N → defaultValue (ty j) = vp_V fs j) (hd : decode M.2.1 pc = .ok (.new idx, 3))
    (kk : ∀ q : Nat, oKv Y M (pc + 3) lv (.ref q :: st) (ws ++ [(q, .inr (ci, fs))]) (k + 1) (n + N)) : oKv Y M pc lv st ws k n := by
  obtain ⟨⟨p, l, e, R, s⟩, ⟨m, args, below, meth, c⟩, Q, D, cA, ms, A⟩ := Y
  intro hO H locs ls hl hP hD hS
  exact va_new (D := D) hO.1 hO.2.1 hO.2.2.2.2.2.1 hin ty hty hO.2.2.2.2.1 (hO.2.2.2.2.2.1 _ hcl) (hO.2.2.2.2.2.1 _ hinst) (hO.2.2.2.2.2.1 _ hini) hO.2.2.2.2.2.2.1.1 hP hD hS hO.2.2.2.2.2.2.2 hc hfs hR.1 hR.2 hd (fun q H1 hP hD hS => kk q hO H1 locs ls hl hP hD hS)
theorem c_newa {atype : ArrayType} {ty : FieldType} {x : Int32} {N : Nat} (i : Nat) (a0 : vp_A) (hR : k + 1 ≤ Y.1.2.2.2.1.cells ∧ n + N ≤ Y.1.2.2.2.1.slots) (hw : oW (.arrayClass (newarray.typeOf atype))) (hty : newarray.typeOf atype = ty) (hi : ∀ cA, (kTys cA)[i]? = some (cA i, ty)) (ha : ∀ cA : ClassId, vp_cell cA a0 = arrV cA N (fun _ => defaultValue ty)) (hx : ¬ x < 0) (hN : x.toNatClampNeg = N) (hbytes : N * componentBytes ty ≤ 536870912) (hd : decode M.2.1 pc = .ok (.newarray atype, 2))
    (kk : ∀ q : Nat, oKv Y M (pc + 2) lv (.ref q :: st) (ws ++ [(q, .inl (Y.2.2.2.2.1 i, a0))]) (k + 1) (n + N)) : oKv Y M pc lv (.int x :: st) ws k n := by
  obtain ⟨⟨p, l, e, R, s⟩, ⟨m, args, below, meth, c⟩, Q, D, cA, ms, A⟩ := Y
  intro hO H locs ls hl hP hD hS
  refine va_newa (D := D) hO.1 hO.2.1 (hO.2.2.2.2.2.1 _ hw) hty hO.2.2.2.2.2.2.1.1 hP hD hS hO.2.2.2.2.2.2.2 ha hx hN hbytes hR.1 hR.2 hd (fun q cB H1 hK2 hP hD hS => ?_)
  have e1 : cB = cA i := kSame i hO.2.2.2.2.2.2.1.1 hK2 (hi cA)
  subst e1
  exact kk q hO H1 locs ls hl hP hD hS
theorem c_newq {idx : Nat} {x : Int32} {N : Nat} (hR : k + 1 ≤ Y.1.2.2.2.1.cells ∧ n + N ≤ Y.1.2.2.2.1.slots) (hcl : oW (.classLink M.1 idx "VillageOven$Load")) (hx : ¬ x < 0) (hN : x.toNatClampNeg = N) (hbytes : N * 4 ≤ 536870912) (hd : decode M.2.1 pc = .ok (.anewarray idx, 3))
    (kk : ∀ q : Nat, oKv Y M (pc + 3) lv (.ref q :: st) (ws ++ [(q, .inl (Y.2.2.2.2.1 3, N, .inr (.inr (.inr (.inr (fun _ => none))))))]) (k + 1) (n + N)) : oKv Y M pc lv (.int x :: st) ws k n := by
  obtain ⟨⟨p, l, e, R, s⟩, ⟨m, args, below, meth, c⟩, Q, D, cA, ms, A⟩ := Y
  intro hO H locs ls hl hP hD hS
  refine va_newq (D := D) hO.1 hO.2.1 hO.2.2.2.2.1 (hO.2.2.2.2.2.1 _ hcl) hO.2.2.2.2.2.2.1.2.2.2.2 hO.2.2.2.2.2.2.1.1 hP hD hS hO.2.2.2.2.2.2.2 hx hN hbytes hR.1 hR.2 hd (fun q cB H1 hK2 hP hD hS => ?_)
  have e1 : cB = cA 3 := kSame 3 hO.2.2.2.2.2.2.1.1 hK2 rfl
  subst e1
  exact kk q hO H1 locs ls hl hP hD hS
theorem c_put {idx t j a : Nat} {ty : FieldType} {v : Value} (f : oFd M.1 idx t j) (fp : oFp t j ty) (q0 : Nat) {ci N : Nat} {fs : List Value} (hk : oKd t = (1, ci, N)) (he : ws[q0]? = some (a, .inr (ci, fs))) (hn : narrow ty v = v) (hfit : fits ty v = true) (hlen : j < fs.length) (hws : ws.set q0 (a, .inr (ci, fs.set j v)) = ws1) (hd : decode M.2.1 pc = .ok (.putfield idx, 3)) (kk : oKv Y M (pc + 3) lv st ws1 k n) : oKv Y M pc lv (v :: .ref a :: st) ws k n := by
  subst hws
  obtain ⟨⟨p, l, e, R, s⟩, ⟨m, args, below, meth, c⟩, Q, D, cA, ms, A⟩ := Y
  intro hO H locs ls hl hP hD hS
  obtain ⟨ci', C, T, N', h1, h2, h3, h4, h5⟩ := f
  obtain ⟨ci2, C2, T2, N2, ty0, g1, g2, g3, g4, g5, g6⟩ := fp
  have e0 : (1, ci', N') = (1, ci, N) := h1.symm.trans hk
  cases e0
  have e1 : (1, ci, N) = (1, ci2, N2) := h1.symm.trans g1
  cases e1
  have e2 : (C, T, N) = (C2, T2, N) := Option.some.inj (h2.symm.trans g2)
  cases e2
  exact va_put (D := D) (T := T) (N := N) hO.1 hO.2.1 hO.2.2.2.2.2.1 h5 ty0 g5 g6 hO.2.2.2.2.1 hO.2.2.2.2.2.2.1.1 hP hD hS q0 he h2 j h3 (hO.2.2.2.2.2.1 _ h4) (fun _ h9 => h9) g3 g4 hn hfit hlen hd (fun H1 locs1 hP hD hS => kk hO H1 locs1 ls hl hP hD hS)
/-- a final field, in its own constructor -/
def oFf (own : String) (t j : Nat) (ty : FieldType) : Prop := ∃ (ci : Nat) (C : String) (T : u_T) (N : Nat) (ty0 : Nat → FieldType), oKd t = (1, ci, N) ∧ vwCl[ci]? = some (C, T, N) ∧ (T j).2.2.2 = true ∧ (T j).1 = own ∧ parseFieldDescriptor (T j).2.2.1 = some ty ∧ (∀ k, k < N → parseFieldDescriptor (T k).2.2.1 = some (ty0 k)) ∧ ∀ a, a < N → ∀ b, b < N → a ≠ b → (T a).2.1 ≠ (T b).2.1
theorem c_putF {idx t j a : Nat} {ty : FieldType} {v : Value} (hI : kIn Y) (f : oFd M.1 idx t j) (fp : oFf M.1 t j ty) (q0 : Nat) {ci N : Nat} {fs : List Value} (hk : oKd t = (1, ci, N)) (he : ws[q0]? = some (a, .inr (ci, fs))) (hn : narrow ty v = v) (hfit : fits ty v = true) (hlen : j < fs.length) (hws : ws.set q0 (a, .inr (ci, fs.set j v)) = ws1) (hd : decode M.2.1 pc = .ok (.putfield idx, 3)) (kk : oKv Y M (pc + 3) lv st ws1 k n) : oKv Y M pc lv (v :: .ref a :: st) ws k n := by
  subst hws
  obtain ⟨⟨p, l, e, R, s⟩, ⟨m, args, below, meth, c⟩, Q, D, cA, ms, A⟩ := Y
  intro hO H locs ls hl hP hD hS
  obtain ⟨ci', C, T, N', h1, h2, h3, h4, h5⟩ := f
  obtain ⟨ci2, C2, T2, N2, ty0, g1, g2, g3, g3', g4, g5, g6⟩ := fp
  have e0 : (1, ci', N') = (1, ci, N) := h1.symm.trans hk
  cases e0
  have e1 : (1, ci, N) = (1, ci2, N2) := h1.symm.trans g1
  cases e1
  have e2 : (C, T, N) = (C2, T2, N) := Option.some.inj (h2.symm.trans g2)
  cases e2
  exact va_putF (D := D) (T := T) (N := N) hO.1 hO.2.1 hO.2.2.2.2.2.1 h5 ty0 g5 g6 hO.2.2.2.2.1 hO.2.2.2.2.2.2.1.1 hP hD hS q0 he h2 j h3 (hO.2.2.2.2.2.1 _ h4) (fun _ h9 => h9) g3 hI g3' g4 hn hfit hlen hd (fun H1 locs1 hP hD hS => kk hO H1 locs1 ls hl hP hD hS)
theorem c_get {idx t j a : Nat} {v : Value} (f : oFd M.1 idx t j) (q0 : Nat) {ci N : Nat} {fs : List Value} (hk : oKd t = (1, ci, N)) (he : ws[q0]? = some (a, .inr (ci, fs))) (hv : fs[j]? = some v) (hd : decode M.2.1 pc = .ok (.getfield idx, 3)) (kk : oKv Y M (pc + 3) lv (v :: st) ws k n) : oKv Y M pc lv (.ref a :: st) ws k n := by
  obtain ⟨⟨p, l, e, R, s⟩, ⟨m, args, below, meth, c⟩, Q, D, cA, ms, A⟩ := Y
  intro hO H locs ls hl hP hD hS
  obtain ⟨ci', C, T, N', h1, h2, h3, h4, h5⟩ := f
  have e0 : (1, ci', N') = (1, ci, N) := h1.symm.trans hk
  cases e0
  exact va_get (D := D) (T := T) (N := N) hO.1 hO.2.1 hO.2.2.2.2.2.1 h5 hO.2.2.2.2.1 hO.2.2.2.2.2.2.1.1 hP q0 he h2 j h3 (hO.2.2.2.2.2.1 _ h4) (fun _ h9 => h9) hv hd (kk hO H locs ls hl hP hD hS)
theorem c_last {a N : Nat} {g : Nat → Int64} {i : Int32} {x : Int64} (q0 : Nat) (he : ws[q0]? = some (a, .inl (Y.2.2.2.2.1 1, N, .inr (.inl g)))) (hi : vp_in i N) (hws : ws.set q0 (a, .inl (Y.2.2.2.2.1 1, N, .inr (.inl (vp_updL g i.toNatClampNeg x)))) = ws1) (hd : decode M.2.1 pc = .ok (.lastore, 1)) (kk : oKv Y M (pc + 1) lv st ws1 k n) : oKv Y M pc lv (.long x :: .int i :: .ref a :: st) ws k n := by
  subst hws
  obtain ⟨⟨p, l, e, R, s⟩, ⟨m, args, below, meth, c⟩, Q, D, cA, ms, A⟩ := Y
  intro hO H locs ls hl hP hD hS
  exact va_last (D := D) hO.1 hO.2.1 hO.2.2.2.2.2.2.1.1 hP hD hS q0 1 he rfl hi hd (fun H1 locs1 hP hD hS => kk hO H1 locs1 ls hl hP hD hS)
theorem c_aast {a N v : Nat} {g : Nat → Option Nat} {vs : List Value} {i : Int32} (q0 qk : Nat) (he : ws[q0]? = some (a, .inl (Y.2.2.2.2.1 3, N, .inr (.inr (.inr (.inr g)))))) (hv : ws[qk]? = some (v, .inr (2, vs))) (hi : vp_in i N) (hws : ws.set q0 (a, .inl (Y.2.2.2.2.1 3, N, .inr (.inr (.inr (.inr (va_up g i.toNatClampNeg (some v))))))) = ws1) (hd : decode M.2.1 pc = .ok (.aastore, 1)) (kk : oKv Y M (pc + 1) lv st ws1 k n) : oKv Y M pc lv (.ref v :: .int i :: .ref a :: st) ws k n := by
  subst hws
  obtain ⟨⟨p, l, e, R, s⟩, ⟨m, args, below, meth, c⟩, Q, D, cA, ms, A⟩ := Y
  intro hO H locs ls hl hP hD hS
  exact va_astq (D := D) (r := (RX2, TX2, 3)) hO.1 hO.2.1 hO.2.2.2.2.2.2.1.1 hP hD hS q0 3 qk 2 he rfl hv rfl hi hd (fun H1 locs1 hP hD hS => kk hO H1 locs1 ls hl hP hD hS)
theorem c_alen {a N : Nat} {g : Nat → Option Nat} {v : Int32} (q0 : Nat) (he : ws[q0]? = some (a, .inl (Y.2.2.2.2.1 3, N, .inr (.inr (.inr (.inr g)))))) (hv : N.toInt32 = v) (hd : decode M.2.1 pc = .ok (.arraylength, 1)) (kk : oKv Y M (pc + 1) lv (.int v :: st) ws k n) : oKv Y M pc lv (.ref a :: st) ws k n := by
  obtain ⟨⟨p, l, e, R, s⟩, ⟨m, args, below, meth, c⟩, Q, D, cA, ms, A⟩ := Y
  intro hO H locs ls hl hP hD hS
  subst hv
  exact W.alen hO.1 hO.2.1 (hP q0 _ he) ((hO.2.2.2.2.2.2.1.1.2 3 _ rfl).1 N (fun j => va_rf (g j))) (by show (arrV _ _ _).slots.size.toInt32 = _; rw [arrV_size]) rfl rfl hd (kk hO H locs ls hl hP hD hS)
theorem c_getsN {idx : Nat} {host : String} (hw : (.fieldLinkNest M.1 idx "VillageOven" "MASS" "[I" host) ∈ oNest) (hd : decode M.2.1 pc = .ok (.getstatic idx, 3)) (kk : oKv Y M (pc + 3) lv (.ref Y.2.2.2.2.2.1 :: st) ws k n) : oKv Y M pc lv st ws k n := by
  obtain ⟨⟨p, l, e, R, s⟩, ⟨m, args, below, meth, c⟩, Q, D, cA, ms, A⟩ := Y
  intro hO H locs ls hl hP hD hS
  exact va_getsN hO.1 hO.2.1 hO.2.2.2.2.2.2.1.2.2.1 hS hO.2.2.2.2.1 (va_Nw.use rfl (hO.2.2.2.2.2.2.1.2.1 _ hw)) (fun _ h9 => h9) hd (kk hO H locs ls hl hP hD hS)
theorem c_sald {x v : Int32} (hx : vp_in x 3) (hv : oMASS x.toNatClampNeg = v) (hd : decode M.2.1 pc = .ok (.iaload, 1)) (kk : oKv Y M (pc + 1) lv (.int v :: st) ws k n) : oKv Y M pc lv (.int x :: .ref Y.2.2.2.2.2.1 :: st) ws k n := by
  subst hv
  obtain ⟨⟨p, l, e, R, s⟩, ⟨m, args, below, meth, c⟩, Q, D, cA, ms, A⟩ := Y
  intro hO H locs ls hl hP hD hS
  exact va_ti hO.1 hO.2.1 hO.2.2.2.2.2.2.1.2.2.2.1 hS hx rfl hd (kk hO H locs ls hl hP hD hS)
theorem c_ret {post : va_W → Prop} (hE : kEnd Y M k n post) (hr : M.2.2.2 = none) (hd : decode M.2.1 pc = .ok (.return_, 1)) (hq : post ws) : oKv Y M pc lv [] ws k n := by
  obtain ⟨⟨p, l, e, R, s⟩, ⟨m, args, below, meth, c⟩, fin, D, cA, ms, A⟩ := Y
  obtain ⟨h1, rfl⟩ := hE
  intro hO H locs ls hl hP hD hS
  exact W.vret hO.1 hO.2.1 (h1.trans hr) (fun t ht hW => ⟨⟨ws, rfl, hq, by rw [ht]; exact hP, hD⟩, hS.F ht⟩) hS.2.2 hd hO.2.2.2.1
/-- a constructor's call on the object that was made just now -/
theorem c_cont {wr : va_W} {x : Nat × va_E} {k1 n1 : Nat} {post : va_W → Prop} {p : Program} {l : Launch} {e : Env} {R : Room} {s : State} {m : MethodId} {args : Array Value} {below : List Frame} {meth : Method} {c : Code} {H : Heap} {locs : List Loc} {Q : State → Prop} {ls : Array Slot} {st0 : List Value} {D : va_G} {A : Nat → Prop} {a : Array Value}
    (hr : va_Run p l e R s m args below meth c H locs k n k1 n1 (F0 m pc ls st0) st (kQc D (va_A [x] H.size) post a) (va_A [x] H.size)) (hS : va_S A s.heap H locs) (hA : ∀ q, va_A [x] H.size q → A q) (hP : va_P D vwCl (wr ++ [x]) H) (hD : va_D A (wr ++ [x]))
    (kk : ∀ w1 : va_W, post w1 → ∀ (H1 : Heap) (locs1 : List Loc), va_P D vwCl (wr ++ w1) H1 → va_D A (wr ++ w1) → va_S A s.heap H1 locs1 → W p l e R s m args below meth c H1 locs1 (k + k1) (n + n1) Q (F0 m (pc + 3) ls st)) : W p l e R s m args below meth c H locs k n Q (F0 m pc ls st0) := by
  intro T hT X
  obtain ⟨v, st₀, t, T', L, h0, X', hL, e1, e2, ⟨⟨w1, hv, hq, hP', hD'⟩, hz, hk⟩, st⟩ := hr T hT X
  cases hv
  rw [h0] at hz hk
  obtain ⟨hPj, hDj⟩ := k_join (H1 := t.heap) hP hD hk hA hP' hD'
  obtain ⟨t2, a1, b1⟩ := kk w1 hq T'.heap (locs ++ L) (by rw [e1]; exact hPj) hDj
    ⟨Nat.le_trans hS.1 (by rw [e1]; exact hz), fun q h1 h2 => by rw [e1, hk q (Nat.lt_of_lt_of_le h1 hS.1) (fun z => h2 (hA q z))]; exact hS.2.1 q h1 h2, fun q hq => by
      rcases List.mem_append.mp hq with h | h
      · exact hS.2.2 q h
      · exact hA _ (hL q h)⟩ T' rfl X'
  exact ⟨t2, st t2 a1, b1⟩
theorem c_callI {d idx na k1 n1 a : Nat} {y : MethodName} {Mc : oM} {wr : va_W} {ev : va_E} {post : va_W → Prop} (As : List Value) (hR : kRoom Y (d + 1) (k + k1) (n + n1)) (hm : oMd y Mc na) (hrt : Mc.2.2.2 = none) (hyn : y.name = "<init>") (hw : oW (.methodLink M.1 idx y)) (hi : oW (.instanceMethod y)) (hn : As.length = na) (hst : (st.map fun v => v.category).sum ≤ 8) {stk : List Value} (hk : stk = As.reverse ++ .ref a :: st) (hws : ws = wr ++ [(a, ev)]) (hd : decode M.2.1 pc = .ok (.invokespecial idx, 3)) (hC : ∀ sz, kCt Y.2.2.2.1 Y.2.2.2.2.1 Y.2.2.2.2.2.1 d k1 n1 y Mc (.ref a :: As) [(a, ev)] sz post) (kk : ∀ w1 : va_W, post w1 → oKv Y M (pc + 3) lv st (wr ++ w1) (k + k1) (n + n1)) : oKv Y M pc lv stk ws k n := by
  subst hk
  subst hws
  obtain ⟨⟨p, l, e, R, s⟩, ⟨m, args, below, meth, c⟩, Q, D, cA, ms, A⟩ := Y
  intro hO H locs ls hl hP hD hS
  obtain ⟨hR1, hR2, hR3, hR4⟩ := hR
  obtain ⟨m1, m2, m3, m4⟩ := hm
  have hx : (wr ++ [(a, ev)])[wr.length]? = some (a, ev) := by
    rw [List.getElem?_append_right (Nat.le_refl _), Nat.sub_self]
    rfl
  have hFc : ∀ q, va_A [(a, ev)] H.size q → A q := va_free (wc := [(a, ev)]) hD hS hO.2.2.2.2.2.2.2 [wr.length] (by show [(wr ++ [(a, ev)])[wr.length]?] = _; rw [hx]; rfl)
  have hPc : va_P D vwCl [(a, ev)] H := hP.sub [wr.length] (by show (List.filterMap (fun i => (wr ++ [(a, ev)])[i]?) [wr.length]) = _; rw [List.filterMap_cons, hx]; rfl)
  have hDc : va_D A [(a, ev)] := hD.sub [wr.length] (by rfl) (by show [(wr ++ [(a, ev)])[wr.length]?] = _; rw [hx]; rfl)
  refine c_cont (va_runI (As := As) (rest := st) (b := a) (bytes := Mc.2.1) (maxL := Mc.2.2.1) (n := na) ⟨hO.1, hO.2.1, hO.2.2.1, hO.2.2.2.2.1, hO.2.2.2.2.2.1⟩ (hC H.size l) ⟨callB_of na hO.2.2.2.2.2.1 (oGood m1) (by rw [hrt]) rfl rfl (hO.2.2.2.2.2.1 _ m2) (hO.2.2.2.2.2.1 _ hw) m4 ⟨hR1, ?_⟩, hyn, hO.2.2.2.2.2.1 _ hi⟩ ⟨kPc_blind, fun U hU hW => ⟨rfl, by rw [hU], by rw [hU]; exact hPc, hDc.weaken (fun _ _ _ _ => trivial), hO.2.2.2.2.2.2.1.at hS hFc hU hW⟩⟩ rfl hn hl.1 rfl (lv_room hst) hd ⟨hR3, hR4⟩) hS hFc hP hD (fun w1 hq H1 locs1 hP1 hD1 hS1 => kk w1 hq hO H1 locs1 ls hl hP1 hD1 hS1)
  show 8 + (Mc.2.2.1 + 11) + 40 * d ≤ R.locals
  have : 40 * (d + 1) ≤ R.locals := hR2
  omega
theorem c_callIN {d idx na k1 n1 a : Nat} {host : String} {y : MethodName} {Mc : oM} {wr : va_W} {ev : va_E} {post : va_W → Prop} (As : List Value) (hR : kRoom Y (d + 1) (k + k1) (n + n1)) (hm : oMd y Mc na) (hrt : Mc.2.2.2 = none) (hyn : y.name = "<init>") (hw : (.methodLinkNest M.1 idx y host) ∈ oNest) (hi : oW (.instanceMethod y)) (hn : As.length = na) (hst : (st.map fun v => v.category).sum ≤ 8) {stk : List Value} (hk : stk = As.reverse ++ .ref a :: st) (hws : ws = wr ++ [(a, ev)]) (hd : decode M.2.1 pc = .ok (.invokespecial idx, 3)) (hC : ∀ sz, kCt Y.2.2.2.1 Y.2.2.2.2.1 Y.2.2.2.2.2.1 d k1 n1 y Mc (.ref a :: As) [(a, ev)] sz post) (kk : ∀ w1 : va_W, post w1 → oKv Y M (pc + 3) lv st (wr ++ w1) (k + k1) (n + n1)) : oKv Y M pc lv stk ws k n := by
  subst hk
  subst hws
  obtain ⟨⟨p, l, e, R, s⟩, ⟨m, args, below, meth, c⟩, Q, D, cA, ms, A⟩ := Y
  intro hO H locs ls hl hP hD hS
  obtain ⟨hR1, hR2, hR3, hR4⟩ := hR
  obtain ⟨m1, m2, m3, m4⟩ := hm
  have hx : (wr ++ [(a, ev)])[wr.length]? = some (a, ev) := by
    rw [List.getElem?_append_right (Nat.le_refl _), Nat.sub_self]
    rfl
  have hFc : ∀ q, va_A [(a, ev)] H.size q → A q := va_free (wc := [(a, ev)]) hD hS hO.2.2.2.2.2.2.2 [wr.length] (by show [(wr ++ [(a, ev)])[wr.length]?] = _; rw [hx]; rfl)
  have hPc : va_P D vwCl [(a, ev)] H := hP.sub [wr.length] (by show (List.filterMap (fun i => (wr ++ [(a, ev)])[i]?) [wr.length]) = _; rw [List.filterMap_cons, hx]; rfl)
  have hDc : va_D A [(a, ev)] := hD.sub [wr.length] (by rfl) (by show [(wr ++ [(a, ev)])[wr.length]?] = _; rw [hx]; rfl)
  refine c_cont (va_runIN (As := As) (rest := st) (b := a) (bytes := Mc.2.1) (maxL := Mc.2.2.1) (n := na) (host := host) ⟨hO.1, hO.2.1, hO.2.2.1, hO.2.2.2.2.1, hO.2.2.2.2.2.1⟩ (hC H.size l) ⟨va_cnB na hO.2.2.2.2.2.1 (oGood m1) (by rw [hrt]) rfl rfl (hO.2.2.2.2.2.2.1.2.1 _ hw) (hO.2.2.2.2.2.1 _ m2) m4 ⟨hR1, ?_⟩, hyn, hO.2.2.2.2.2.1 _ hi⟩ ⟨kPc_blind, fun U hU hW => ⟨rfl, by rw [hU], by rw [hU]; exact hPc, hDc.weaken (fun _ _ _ _ => trivial), hO.2.2.2.2.2.2.1.at hS hFc hU hW⟩⟩ rfl hn hl.1 rfl (lv_room hst) hd ⟨hR3, hR4⟩) hS hFc hP hD (fun w1 hq H1 locs1 hP1 hD1 hS1 => kk w1 hq hO H1 locs1 ls hl hP1 hD1 hS1)
  show 8 + (Mc.2.2.1 + 11) + 40 * d ≤ R.locals
  have : 40 * (d + 1) ≤ R.locals := hR2
  omega
end
theorem wd_13 : oW (Jvm.Cond.classLink "VillageOvenLaw" (7 : Nat) "VillageOven") := oMem 71 (by decide +kernel) (by decide +kernel)
theorem wd_14 : oW (Jvm.Cond.instantiable "VillageOven" (8 : Nat)) := oMem 72 (by decide +kernel) (by decide +kernel)
theorem wd_21 : oW (Jvm.Cond.classLink "VillageOven" (7 : Nat) "VillageOven$Masonry") := oMem 79 (by decide +kernel) (by decide +kernel)
theorem wd_22 : oW (Jvm.Cond.instantiable "VillageOven$Masonry" (10 : Nat)) := oMem 80 (by decide +kernel) (by decide +kernel)
theorem wd_68 : oW (Jvm.Cond.arrayClass Jvm.ClassFile.FieldType.long) := oMem 126 (by decide +kernel) (by decide +kernel)
theorem wd_69 : oW (Jvm.Cond.arrayClass Jvm.ClassFile.FieldType.int) := oMem 127 (by decide +kernel) (by decide +kernel)
theorem wd_70 : oW (Jvm.Cond.classLink "VillageOven" (16 : Nat) "VillageOven$Kinds") := oMem 128 (by decide +kernel) (by decide +kernel)
theorem wd_71 : oW (Jvm.Cond.instantiable "VillageOven$Kinds" (11 : Nat)) := oMem 129 (by decide +kernel) (by decide +kernel)
theorem wd_114 : oW (Jvm.Cond.arrayClass Jvm.ClassFile.FieldType.boolean) := oMem 172 (by decide +kernel) (by decide +kernel)
theorem wd_115 : oW (Jvm.Cond.classLink "VillageOven" (23 : Nat) "VillageOven$Loaves") := oMem 173 (by decide +kernel) (by decide +kernel)
theorem wd_116 : oW (Jvm.Cond.instantiable "VillageOven$Loaves" (13 : Nat)) := oMem 174 (by decide +kernel) (by decide +kernel)
theorem wd_121 : oW (Jvm.Cond.classLink "VillageOven$Loaves" (9 : Nat) "VillageOven$Load") := oMem 179 (by decide +kernel) (by decide +kernel)
theorem wd_123 : oW (Jvm.Cond.instantiable "VillageOven$Load" (3 : Nat)) := oMem 181 (by decide +kernel) (by decide +kernel)
theorem wd_190 : oW (Jvm.Cond.classLink "VillageOven" (32 : Nat) "VillageOven$Planner") := oMem 248 (by decide +kernel) (by decide +kernel)
theorem wd_191 : oW (Jvm.Cond.instantiable "VillageOven$Planner" (15 : Nat)) := oMem 249 (by decide +kernel) (by decide +kernel)
theorem wd_196 : oW (Jvm.Cond.classLink "VillageOven$Planner" (9 : Nat) "VillageOven$Masonry") := oMem 254 (by decide +kernel) (by decide +kernel)
theorem wd_198 : oW (Jvm.Cond.classLink "VillageOven$Planner" (36 : Nat) "VillageOven$Load") := oMem 256 (by decide +kernel) (by decide +kernel)
theorem wd_251 : oW (Jvm.Cond.classLink "VillageOven" (39 : Nat) "VillageOven$WoodFinder") := oMem 309 (by decide +kernel) (by decide +kernel)
theorem wd_252 : oW (Jvm.Cond.instantiable "VillageOven$WoodFinder" (2 : Nat)) := oMem 310 (by decide +kernel) (by decide +kernel)
theorem wd_257 : oW (Jvm.Cond.classLink "VillageOven$WoodFinder" (9 : Nat) "VillageOven$Masonry") := oMem 315 (by decide +kernel) (by decide +kernel)
theorem wd_266 : oW (Jvm.Cond.classLink "VillageOven" (46 : Nat) "VillageOven$Turns") := oMem 324 (by decide +kernel) (by decide +kernel)
theorem wd_267 : oW (Jvm.Cond.instantiable "VillageOven$Turns" (10 : Nat)) := oMem 325 (by decide +kernel) (by decide +kernel)
theorem wd_309 : oW (Jvm.Cond.classLink "VillageOven" (53 : Nat) "VillageOven$Book") := oMem 367 (by decide +kernel) (by decide +kernel)
theorem wd_310 : oW (Jvm.Cond.instantiable "VillageOven$Book" (8 : Nat)) := oMem 368 (by decide +kernel) (by decide +kernel)
theorem wd_851 : oW (Jvm.Cond.classLink "VillageOvenLaw" (10 : Nat) "VillageOvenModel") := oMem 909 (by decide +kernel) (by decide +kernel)
theorem wd_852 : oW (Jvm.Cond.instantiable "VillageOvenModel" (65 : Nat)) := oMem 910 (by decide +kernel) (by decide +kernel)
theorem ff_100_0 : oFf RX0 100 0 (tyX0 0) := ⟨0, RX0, TX0, 8, tyX0, kd_100, rfl, rfl, rfl, tyX0_ok 0 (by decide), tyX0_ok, nmX0⟩
theorem ff_100_1 : oFf RX0 100 1 (tyX0 1) := ⟨0, RX0, TX0, 8, tyX0, kd_100, rfl, rfl, rfl, tyX0_ok 1 (by decide), tyX0_ok, nmX0⟩
theorem ff_100_2 : oFf RX0 100 2 (tyX0 2) := ⟨0, RX0, TX0, 8, tyX0, kd_100, rfl, rfl, rfl, tyX0_ok 2 (by decide), tyX0_ok, nmX0⟩
theorem ff_200_0 : oFf RX1 200 0 (tyX1 0) := ⟨1, RX1, TX1, 11, tyX1, kd_200, rfl, rfl, rfl, tyX1_ok 0 (by decide), tyX1_ok, nmX1⟩
theorem ff_200_1 : oFf RX1 200 1 (tyX1 1) := ⟨1, RX1, TX1, 11, tyX1, kd_200, rfl, rfl, rfl, tyX1_ok 1 (by decide), tyX1_ok, nmX1⟩
theorem ff_200_2 : oFf RX1 200 2 (tyX1 2) := ⟨1, RX1, TX1, 11, tyX1, kd_200, rfl, rfl, rfl, tyX1_ok 2 (by decide), tyX1_ok, nmX1⟩
theorem ff_200_3 : oFf RX1 200 3 (tyX1 3) := ⟨1, RX1, TX1, 11, tyX1, kd_200, rfl, rfl, rfl, tyX1_ok 3 (by decide), tyX1_ok, nmX1⟩
theorem ff_200_4 : oFf RX1 200 4 (tyX1 4) := ⟨1, RX1, TX1, 11, tyX1, kd_200, rfl, rfl, rfl, tyX1_ok 4 (by decide), tyX1_ok, nmX1⟩
theorem ff_200_5 : oFf RX1 200 5 (tyX1 5) := ⟨1, RX1, TX1, 11, tyX1, kd_200, rfl, rfl, rfl, tyX1_ok 5 (by decide), tyX1_ok, nmX1⟩
theorem ff_200_6 : oFf RX1 200 6 (tyX1 6) := ⟨1, RX1, TX1, 11, tyX1, kd_200, rfl, rfl, rfl, tyX1_ok 6 (by decide), tyX1_ok, nmX1⟩
theorem ff_200_7 : oFf RX1 200 7 (tyX1 7) := ⟨1, RX1, TX1, 11, tyX1, kd_200, rfl, rfl, rfl, tyX1_ok 7 (by decide), tyX1_ok, nmX1⟩
theorem ff_200_8 : oFf RX1 200 8 (tyX1 8) := ⟨1, RX1, TX1, 11, tyX1, kd_200, rfl, rfl, rfl, tyX1_ok 8 (by decide), tyX1_ok, nmX1⟩
theorem ff_200_9 : oFf RX1 200 9 (tyX1 9) := ⟨1, RX1, TX1, 11, tyX1, kd_200, rfl, rfl, rfl, tyX1_ok 9 (by decide), tyX1_ok, nmX1⟩
theorem ff_400_0 : oFf RX3 400 0 (tyX3 0) := ⟨3, RX3, TX3, 13, tyX3, kd_400, rfl, rfl, rfl, tyX3_ok 0 (by decide), tyX3_ok, nmX3⟩
theorem ff_400_1 : oFf RX3 400 1 (tyX3 1) := ⟨3, RX3, TX3, 13, tyX3, kd_400, rfl, rfl, rfl, tyX3_ok 1 (by decide), tyX3_ok, nmX3⟩
theorem ff_400_2 : oFf RX3 400 2 (tyX3 2) := ⟨3, RX3, TX3, 13, tyX3, kd_400, rfl, rfl, rfl, tyX3_ok 2 (by decide), tyX3_ok, nmX3⟩
theorem ff_400_3 : oFf RX3 400 3 (tyX3 3) := ⟨3, RX3, TX3, 13, tyX3, kd_400, rfl, rfl, rfl, tyX3_ok 3 (by decide), tyX3_ok, nmX3⟩
theorem ff_400_4 : oFf RX3 400 4 (tyX3 4) := ⟨3, RX3, TX3, 13, tyX3, kd_400, rfl, rfl, rfl, tyX3_ok 4 (by decide), tyX3_ok, nmX3⟩
theorem ff_400_5 : oFf RX3 400 5 (tyX3 5) := ⟨3, RX3, TX3, 13, tyX3, kd_400, rfl, rfl, rfl, tyX3_ok 5 (by decide), tyX3_ok, nmX3⟩
theorem ff_400_6 : oFf RX3 400 6 (tyX3 6) := ⟨3, RX3, TX3, 13, tyX3, kd_400, rfl, rfl, rfl, tyX3_ok 6 (by decide), tyX3_ok, nmX3⟩
theorem ff_400_7 : oFf RX3 400 7 (tyX3 7) := ⟨3, RX3, TX3, 13, tyX3, kd_400, rfl, rfl, rfl, tyX3_ok 7 (by decide), tyX3_ok, nmX3⟩
theorem ff_500_0 : oFf RX4 500 0 (tyX4 0) := ⟨4, RX4, TX4, 10, tyX4, kd_500, rfl, rfl, rfl, tyX4_ok 0 (by decide), tyX4_ok, nmX4⟩
theorem ff_500_1 : oFf RX4 500 1 (tyX4 1) := ⟨4, RX4, TX4, 10, tyX4, kd_500, rfl, rfl, rfl, tyX4_ok 1 (by decide), tyX4_ok, nmX4⟩
theorem ff_500_2 : oFf RX4 500 2 (tyX4 2) := ⟨4, RX4, TX4, 10, tyX4, kd_500, rfl, rfl, rfl, tyX4_ok 2 (by decide), tyX4_ok, nmX4⟩
theorem ff_500_3 : oFf RX4 500 3 (tyX4 3) := ⟨4, RX4, TX4, 10, tyX4, kd_500, rfl, rfl, rfl, tyX4_ok 3 (by decide), tyX4_ok, nmX4⟩
theorem ff_500_4 : oFf RX4 500 4 (tyX4 4) := ⟨4, RX4, TX4, 10, tyX4, kd_500, rfl, rfl, rfl, tyX4_ok 4 (by decide), tyX4_ok, nmX4⟩
theorem ff_600_0 : oFf RX5 600 0 (tyX5 0) := ⟨5, RX5, TX5, 15, tyX5, kd_600, rfl, rfl, rfl, tyX5_ok 0 (by decide), tyX5_ok, nmX5⟩
theorem ff_600_1 : oFf RX5 600 1 (tyX5 1) := ⟨5, RX5, TX5, 15, tyX5, kd_600, rfl, rfl, rfl, tyX5_ok 1 (by decide), tyX5_ok, nmX5⟩
theorem ff_600_2 : oFf RX5 600 2 (tyX5 2) := ⟨5, RX5, TX5, 15, tyX5, kd_600, rfl, rfl, rfl, tyX5_ok 2 (by decide), tyX5_ok, nmX5⟩
theorem ff_600_3 : oFf RX5 600 3 (tyX5 3) := ⟨5, RX5, TX5, 15, tyX5, kd_600, rfl, rfl, rfl, tyX5_ok 3 (by decide), tyX5_ok, nmX5⟩
theorem ff_600_4 : oFf RX5 600 4 (tyX5 4) := ⟨5, RX5, TX5, 15, tyX5, kd_600, rfl, rfl, rfl, tyX5_ok 4 (by decide), tyX5_ok, nmX5⟩
theorem ff_600_5 : oFf RX5 600 5 (tyX5 5) := ⟨5, RX5, TX5, 15, tyX5, kd_600, rfl, rfl, rfl, tyX5_ok 5 (by decide), tyX5_ok, nmX5⟩
theorem ff_600_6 : oFf RX5 600 6 (tyX5 6) := ⟨5, RX5, TX5, 15, tyX5, kd_600, rfl, rfl, rfl, tyX5_ok 6 (by decide), tyX5_ok, nmX5⟩
theorem ff_600_7 : oFf RX5 600 7 (tyX5 7) := ⟨5, RX5, TX5, 15, tyX5, kd_600, rfl, rfl, rfl, tyX5_ok 7 (by decide), tyX5_ok, nmX5⟩
theorem ff_600_8 : oFf RX5 600 8 (tyX5 8) := ⟨5, RX5, TX5, 15, tyX5, kd_600, rfl, rfl, rfl, tyX5_ok 8 (by decide), tyX5_ok, nmX5⟩
theorem ff_600_9 : oFf RX5 600 9 (tyX5 9) := ⟨5, RX5, TX5, 15, tyX5, kd_600, rfl, rfl, rfl, tyX5_ok 9 (by decide), tyX5_ok, nmX5⟩
theorem ff_700_0 : oFf RX6 700 0 (tyX6 0) := ⟨6, RX6, TX6, 10, tyX6, kd_700, rfl, rfl, rfl, tyX6_ok 0 (by decide), tyX6_ok, nmX6⟩
theorem ff_700_1 : oFf RX6 700 1 (tyX6 1) := ⟨6, RX6, TX6, 10, tyX6, kd_700, rfl, rfl, rfl, tyX6_ok 1 (by decide), tyX6_ok, nmX6⟩
theorem ff_700_2 : oFf RX6 700 2 (tyX6 2) := ⟨6, RX6, TX6, 10, tyX6, kd_700, rfl, rfl, rfl, tyX6_ok 2 (by decide), tyX6_ok, nmX6⟩
theorem ff_700_3 : oFf RX6 700 3 (tyX6 3) := ⟨6, RX6, TX6, 10, tyX6, kd_700, rfl, rfl, rfl, tyX6_ok 3 (by decide), tyX6_ok, nmX6⟩
theorem ff_700_4 : oFf RX6 700 4 (tyX6 4) := ⟨6, RX6, TX6, 10, tyX6, kd_700, rfl, rfl, rfl, tyX6_ok 4 (by decide), tyX6_ok, nmX6⟩
theorem ff_800_0 : oFf RX7 800 0 (tyX7 0) := ⟨7, RX7, TX7, 2, tyX7, kd_800, rfl, rfl, rfl, tyX7_ok 0 (by decide), tyX7_ok, nmX7⟩
theorem ff_800_1 : oFf RX7 800 1 (tyX7 1) := ⟨7, RX7, TX7, 2, tyX7, kd_800, rfl, rfl, rfl, tyX7_ok 1 (by decide), tyX7_ok, nmX7⟩
theorem ff_900_0 : oFf RX8 900 0 (tyX8 0) := ⟨8, RX8, TX8, 8, tyX8, kd_900, rfl, rfl, rfl, tyX8_ok 0 (by decide), tyX8_ok, nmX8⟩
theorem ff_900_1 : oFf RX8 900 1 (tyX8 1) := ⟨8, RX8, TX8, 8, tyX8, kd_900, rfl, rfl, rfl, tyX8_ok 1 (by decide), tyX8_ok, nmX8⟩
theorem ff_900_2 : oFf RX8 900 2 (tyX8 2) := ⟨8, RX8, TX8, 8, tyX8, kd_900, rfl, rfl, rfl, tyX8_ok 2 (by decide), tyX8_ok, nmX8⟩
theorem ff_900_3 : oFf RX8 900 3 (tyX8 3) := ⟨8, RX8, TX8, 8, tyX8, kd_900, rfl, rfl, rfl, tyX8_ok 3 (by decide), tyX8_ok, nmX8⟩
theorem ff_900_4 : oFf RX8 900 4 (tyX8 4) := ⟨8, RX8, TX8, 8, tyX8, kd_900, rfl, rfl, rfl, tyX8_ok 4 (by decide), tyX8_ok, nmX8⟩
theorem ff_900_5 : oFf RX8 900 5 (tyX8 5) := ⟨8, RX8, TX8, 8, tyX8, kd_900, rfl, rfl, rfl, tyX8_ok 5 (by decide), tyX8_ok, nmX8⟩
theorem ff_900_6 : oFf RX8 900 6 (tyX8 6) := ⟨8, RX8, TX8, 8, tyX8, kd_900, rfl, rfl, rfl, tyX8_ok 6 (by decide), tyX8_ok, nmX8⟩
theorem ff_1000_1 : oFf RX9 1000 1 (tyX9 1) := ⟨9, RX9, TX9, 65, tyX9, kd_1000, rfl, rfl, rfl, tyX9_ok 1 (by decide), tyX9_ok, nmX9⟩
theorem ff_1000_2 : oFf RX9 1000 2 (tyX9 2) := ⟨9, RX9, TX9, 65, tyX9, kd_1000, rfl, rfl, rfl, tyX9_ok 2 (by decide), tyX9_ok, nmX9⟩
theorem ff_1000_3 : oFf RX9 1000 3 (tyX9 3) := ⟨9, RX9, TX9, 65, tyX9, kd_1000, rfl, rfl, rfl, tyX9_ok 3 (by decide), tyX9_ok, nmX9⟩
theorem ff_1000_6 : oFf RX9 1000 6 (tyX9 6) := ⟨9, RX9, TX9, 65, tyX9, kd_1000, rfl, rfl, rfl, tyX9_ok 6 (by decide), tyX9_ok, nmX9⟩
theorem ff_1000_7 : oFf RX9 1000 7 (tyX9 7) := ⟨9, RX9, TX9, 65, tyX9, kd_1000, rfl, rfl, rfl, tyX9_ok 7 (by decide), tyX9_ok, nmX9⟩
theorem ff_1000_14 : oFf RX9 1000 14 (tyX9 14) := ⟨9, RX9, TX9, 65, tyX9, kd_1000, rfl, rfl, rfl, tyX9_ok 14 (by decide), tyX9_ok, nmX9⟩
theorem ff_1000_15 : oFf RX9 1000 15 (tyX9 15) := ⟨9, RX9, TX9, 65, tyX9, kd_1000, rfl, rfl, rfl, tyX9_ok 15 (by decide), tyX9_ok, nmX9⟩
theorem ff_1000_16 : oFf RX9 1000 16 (tyX9 16) := ⟨9, RX9, TX9, 65, tyX9, kd_1000, rfl, rfl, rfl, tyX9_ok 16 (by decide), tyX9_ok, nmX9⟩
theorem ff_1000_17 : oFf RX9 1000 17 (tyX9 17) := ⟨9, RX9, TX9, 65, tyX9, kd_1000, rfl, rfl, rfl, tyX9_ok 17 (by decide), tyX9_ok, nmX9⟩
theorem ff_1000_18 : oFf RX9 1000 18 (tyX9 18) := ⟨9, RX9, TX9, 65, tyX9, kd_1000, rfl, rfl, rfl, tyX9_ok 18 (by decide), tyX9_ok, nmX9⟩
theorem ff_1000_19 : oFf RX9 1000 19 (tyX9 19) := ⟨9, RX9, TX9, 65, tyX9, kd_1000, rfl, rfl, rfl, tyX9_ok 19 (by decide), tyX9_ok, nmX9⟩
theorem ff_1000_20 : oFf RX9 1000 20 (tyX9 20) := ⟨9, RX9, TX9, 65, tyX9, kd_1000, rfl, rfl, rfl, tyX9_ok 20 (by decide), tyX9_ok, nmX9⟩
theorem ff_1000_21 : oFf RX9 1000 21 (tyX9 21) := ⟨9, RX9, TX9, 65, tyX9, kd_1000, rfl, rfl, rfl, tyX9_ok 21 (by decide), tyX9_ok, nmX9⟩
theorem ff_1000_22 : oFf RX9 1000 22 (tyX9 22) := ⟨9, RX9, TX9, 65, tyX9, kd_1000, rfl, rfl, rfl, tyX9_ok 22 (by decide), tyX9_ok, nmX9⟩
theorem ff_1000_23 : oFf RX9 1000 23 (tyX9 23) := ⟨9, RX9, TX9, 65, tyX9, kd_1000, rfl, rfl, rfl, tyX9_ok 23 (by decide), tyX9_ok, nmX9⟩
theorem ff_1000_25 : oFf RX9 1000 25 (tyX9 25) := ⟨9, RX9, TX9, 65, tyX9, kd_1000, rfl, rfl, rfl, tyX9_ok 25 (by decide), tyX9_ok, nmX9⟩
theorem ff_1000_26 : oFf RX9 1000 26 (tyX9 26) := ⟨9, RX9, TX9, 65, tyX9, kd_1000, rfl, rfl, rfl, tyX9_ok 26 (by decide), tyX9_ok, nmX9⟩
theorem ff_1000_27 : oFf RX9 1000 27 (tyX9 27) := ⟨9, RX9, TX9, 65, tyX9, kd_1000, rfl, rfl, rfl, tyX9_ok 27 (by decide), tyX9_ok, nmX9⟩
theorem ff_1000_28 : oFf RX9 1000 28 (tyX9 28) := ⟨9, RX9, TX9, 65, tyX9, kd_1000, rfl, rfl, rfl, tyX9_ok 28 (by decide), tyX9_ok, nmX9⟩
theorem ff_1000_29 : oFf RX9 1000 29 (tyX9 29) := ⟨9, RX9, TX9, 65, tyX9, kd_1000, rfl, rfl, rfl, tyX9_ok 29 (by decide), tyX9_ok, nmX9⟩
theorem ff_1000_30 : oFf RX9 1000 30 (tyX9 30) := ⟨9, RX9, TX9, 65, tyX9, kd_1000, rfl, rfl, rfl, tyX9_ok 30 (by decide), tyX9_ok, nmX9⟩
theorem ff_1000_33 : oFf RX9 1000 33 (tyX9 33) := ⟨9, RX9, TX9, 65, tyX9, kd_1000, rfl, rfl, rfl, tyX9_ok 33 (by decide), tyX9_ok, nmX9⟩
theorem ff_1000_35 : oFf RX9 1000 35 (tyX9 35) := ⟨9, RX9, TX9, 65, tyX9, kd_1000, rfl, rfl, rfl, tyX9_ok 35 (by decide), tyX9_ok, nmX9⟩
theorem ff_1000_41 : oFf RX9 1000 41 (tyX9 41) := ⟨9, RX9, TX9, 65, tyX9, kd_1000, rfl, rfl, rfl, tyX9_ok 41 (by decide), tyX9_ok, nmX9⟩
theorem ff_1000_42 : oFf RX9 1000 42 (tyX9 42) := ⟨9, RX9, TX9, 65, tyX9, kd_1000, rfl, rfl, rfl, tyX9_ok 42 (by decide), tyX9_ok, nmX9⟩
theorem ff_1000_43 : oFf RX9 1000 43 (tyX9 43) := ⟨9, RX9, TX9, 65, tyX9, kd_1000, rfl, rfl, rfl, tyX9_ok 43 (by decide), tyX9_ok, nmX9⟩
theorem ff_1000_44 : oFf RX9 1000 44 (tyX9 44) := ⟨9, RX9, TX9, 65, tyX9, kd_1000, rfl, rfl, rfl, tyX9_ok 44 (by decide), tyX9_ok, nmX9⟩
theorem ff_1000_45 : oFf RX9 1000 45 (tyX9 45) := ⟨9, RX9, TX9, 65, tyX9, kd_1000, rfl, rfl, rfl, tyX9_ok 45 (by decide), tyX9_ok, nmX9⟩
theorem ff_1000_47 : oFf RX9 1000 47 (tyX9 47) := ⟨9, RX9, TX9, 65, tyX9, kd_1000, rfl, rfl, rfl, tyX9_ok 47 (by decide), tyX9_ok, nmX9⟩
theorem ff_1000_48 : oFf RX9 1000 48 (tyX9 48) := ⟨9, RX9, TX9, 65, tyX9, kd_1000, rfl, rfl, rfl, tyX9_ok 48 (by decide), tyX9_ok, nmX9⟩
theorem ff_1000_49 : oFf RX9 1000 49 (tyX9 49) := ⟨9, RX9, TX9, 65, tyX9, kd_1000, rfl, rfl, rfl, tyX9_ok 49 (by decide), tyX9_ok, nmX9⟩
theorem ff_1000_50 : oFf RX9 1000 50 (tyX9 50) := ⟨9, RX9, TX9, 65, tyX9, kd_1000, rfl, rfl, rfl, tyX9_ok 50 (by decide), tyX9_ok, nmX9⟩
theorem ff_1000_51 : oFf RX9 1000 51 (tyX9 51) := ⟨9, RX9, TX9, 65, tyX9, kd_1000, rfl, rfl, rfl, tyX9_ok 51 (by decide), tyX9_ok, nmX9⟩
theorem ff_1000_56 : oFf RX9 1000 56 (tyX9 56) := ⟨9, RX9, TX9, 65, tyX9, kd_1000, rfl, rfl, rfl, tyX9_ok 56 (by decide), tyX9_ok, nmX9⟩
theorem ff_1000_58 : oFf RX9 1000 58 (tyX9 58) := ⟨9, RX9, TX9, 65, tyX9, kd_1000, rfl, rfl, rfl, tyX9_ok 58 (by decide), tyX9_ok, nmX9⟩
theorem ff_1000_59 : oFf RX9 1000 59 (tyX9 59) := ⟨9, RX9, TX9, 65, tyX9, kd_1000, rfl, rfl, rfl, tyX9_ok 59 (by decide), tyX9_ok, nmX9⟩
theorem ff_1000_60 : oFf RX9 1000 60 (tyX9 60) := ⟨9, RX9, TX9, 65, tyX9, kd_1000, rfl, rfl, rfl, tyX9_ok 60 (by decide), tyX9_ok, nmX9⟩
theorem ff_1000_61 : oFf RX9 1000 61 (tyX9 61) := ⟨9, RX9, TX9, 65, tyX9, kd_1000, rfl, rfl, rfl, tyX9_ok 61 (by decide), tyX9_ok, nmX9⟩
theorem ff_1000_62 : oFf RX9 1000 62 (tyX9 62) := ⟨9, RX9, TX9, 65, tyX9, kd_1000, rfl, rfl, rfl, tyX9_ok 62 (by decide), tyX9_ok, nmX9⟩
theorem ff_1000_64 : oFf RX9 1000 64 (tyX9 64) := ⟨9, RX9, TX9, 65, tyX9, kd_1000, rfl, rfl, rfl, tyX9_ok 64 (by decide), tyX9_ok, nmX9⟩
abbrev mX0_init : oM := (RX0, cX0_init, 1, none)
theorem md_X0_init : oMd yX0_init mX0_init 0 := ⟨wd_313, wd_9, by decide, by decide, by decide, by decide +kernel⟩
abbrev mX1_init : oM := (RX1, cX1_init, 1, none)
theorem md_X1_init : oMd yX1_init mX1_init 0 := ⟨wd_74, wd_3, by decide, by decide, by decide, by decide +kernel⟩
abbrev mX2_init : oM := (RX2, cX2_init, 1, none)
theorem md_X2_init : oMd yX2_init mX2_init 0 := ⟨wd_126, wd_5, by decide, by decide, by decide, by decide +kernel⟩
abbrev mX3_init : oM := (RX3, cX3_init, 3, none)
theorem md_X3_init : oMd yX3_init mX3_init 1 := ⟨wd_119, wd_4, by decide, by decide, by decide, by decide +kernel⟩
abbrev mX4_init : oM := (RX4, cX4_init, 3, none)
theorem md_X4_init : oMd yX4_init mX4_init 0 := ⟨wd_25, wd_2, by decide, by decide, by decide, by decide +kernel⟩
abbrev mX5_init : oM := (RX5, cX5_init, 3, none)
theorem md_X5_init : oMd yX5_init mX5_init 1 := ⟨wd_194, wd_6, by decide, by decide, by decide, by decide +kernel⟩
abbrev mX6_init : oM := (RX6, cX6_init, 1, none)
theorem md_X6_init : oMd yX6_init mX6_init 0 := ⟨wd_270, wd_8, by decide, by decide, by decide, by decide +kernel⟩
abbrev mX7_init : oM := (RX7, cX7_init, 1, none)
theorem md_X7_init : oMd yX7_init mX7_init 0 := ⟨wd_255, wd_7, by decide, by decide, by decide, by decide +kernel⟩
abbrev mX8_init : oM := (RX8, cX8_init, 1, none)
theorem md_X8_init : oMd yX8_init mX8_init 0 := ⟨wd_17, wd_1, by decide, by decide, by decide, by decide +kernel⟩
abbrev mX9_init : oM := (RX9, cX9_init, 2, none)
theorem md_X9_init : oMd yX9_init mX9_init 0 := ⟨wd_855, wd_10, by decide, by decide, by decide, by decide +kernel⟩
