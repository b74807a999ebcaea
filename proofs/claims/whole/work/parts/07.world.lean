/-! The world as a function of a state S, and V -/
abbrev oG : Type := va_G × (Nat → Nat → Nat) × (Nat → ClassId)
abbrev oR : Type := Nat × (Nat → Int32)
abbrev oX : Type := (Program × Launch × Env × Room × State) × (MethodId × Array Value × List Frame × Method × Code) × (Nat × Nat × (State → Prop)) × oG × oR
def oTys (G : oG) : List (ClassId × FieldType) := [(G.2.2 0, .int), (G.2.2 1, .long), (G.2.2 2, .boolean), (G.2.2 3, .object "VillageOven$Load")]
def oFv (G : oG) (S : oS) (t j k : Nat) : Value := match oFt t k with
  | (0, _) => .int (S.1 t j k)
  | (1, _) => .long (S.2 t j k)
  | (_, t', a, b) => .ref (G.2.1 t' (a * j + b))
def oCell (G : oG) (S : oS) (t j : Nat) : va_E := match oKd t with
  | (1, ci, nf) => .inr (ci, (List.range nf).map (oFv G S t j))
  | (2, n, _) => .inl (G.2.2 0, n, .inl (S.1 t j))
  | (3, n, _) => .inl (G.2.2 1, n, .inr (.inl (S.2 t j)))
  | (4, n, _) => .inl (G.2.2 2, n, .inl (S.1 t j))
  | (_, n, b) => .inl (G.2.2 3, n, .inr (.inr (.inr (.inr (fun i => some (G.2.1 300 (b + i)))))))
def oWs (G : oG) (S : oS) : va_W := oIds.map fun q => (G.2.1 q.1 q.2, oCell G S q.1 q.2)
def oA (G : oG) : Nat → Prop := fun q => ∃ t j, j < oCnt t ∧ q = G.2.1 t j
def oInj (G : oG) : Prop := ∀ t j t' j', j < oCnt t → j' < oCnt t' → G.2.1 t j = G.2.1 t' j' → t = t' ∧ j = j'
theorem oTags_ok : ∀ q ∈ oTags, oCnt q.1 = q.2 := by decide +kernel
theorem oIds_nodup : oIds.Nodup := by decide +kernel
theorem oLookup {l : List (Nat × Nat)} {t n : Nat} (h : l.lookup t = some n) : (t, n) ∈ l := by
  induction l with
  | nil => cases h
  | cons q l ih =>
    rw [List.lookup_cons] at h
    by_cases hq : t = q.1
    · subst hq
      simp at h
      subst h
      exact List.mem_cons_self
    · have e : (t == q.1) = false := by simp [hq]
      rw [e] at h
      exact List.mem_cons_of_mem _ (ih h)
theorem oIds_mem {t j : Nat} (h : j < oCnt t) : (t, j) ∈ oIds := by
  unfold oCnt at h
  cases e : oTags.lookup t with
  | none => rw [e] at h; exact absurd h (Nat.not_lt_zero _)
  | some n =>
    rw [e] at h
    exact List.mem_flatMap.mpr ⟨(t, n), oLookup e, List.mem_map.mpr ⟨j, List.mem_range.mpr h, rfl⟩⟩
theorem oIds_lt {q : Nat × Nat} (h : q ∈ oIds) : q.2 < oCnt q.1 := by
  obtain ⟨w, hw, h⟩ := List.mem_flatMap.mp h
  obtain ⟨j, hj, rfl⟩ := List.mem_map.mp h
  show j < oCnt w.1
  rw [oTags_ok w hw]
  exact List.mem_range.mp hj
theorem oWs_at {t j : Nat} (h : j < oCnt t) : ∃ q0 : Nat, oIds[q0]? = some (t, j) ∧ ∀ (G : oG) (S : oS), (oWs G S)[q0]? = some (G.2.1 t j, oCell G S t j) := by
  obtain ⟨q0, hq⟩ := List.getElem?_of_mem (oIds_mem h)
  exact ⟨q0, hq, fun G S => by unfold oWs; rw [List.getElem?_map, hq]; rfl⟩
theorem oWs_D {G : oG} (hI : oInj G) (S : oS) : va_D (oA G) (oWs G S) := by
  have g : ∀ (k : Nat) (q : Nat × va_E), (oWs G S)[k]? = some q → ∃ w : Nat × Nat, oIds[k]? = some w ∧ w.2 < oCnt w.1 ∧ q.1 = G.2.1 w.1 w.2 := by
    intro k q hq
    unfold oWs at hq
    rw [List.getElem?_map] at hq
    cases e : oIds[k]? with
    | none => rw [e] at hq; cases hq
    | some w =>
      rw [e] at hq
      cases hq
      exact ⟨w, rfl, oIds_lt (List.mem_of_getElem? e), rfl⟩
  refine ⟨fun i j p q hi hj hpq => ?_, fun k q hq => ?_⟩
  · obtain ⟨w, h1, h2, h3⟩ := g i p hi
    obtain ⟨z, h4, h5, h6⟩ := g j q hj
    obtain ⟨e1, e2⟩ := hI w.1 w.2 z.1 z.2 h2 h5 (by rw [← h3, ← h6]; exact hpq)
    have e : w = z := Prod.ext e1 e2
    subst e
    exact (List.getElem?_inj (List.getElem?_eq_some_iff.mp h1).1 oIds_nodup).mp (h1.trans h4.symm)
  · obtain ⟨w, h1, h2, h3⟩ := g k q hq
    exact ⟨w.1, w.2, h2, h3⟩
theorem oWs_set {G : oG} {S S' : oS} {t j q0 : Nat} {c : va_E} (hq : oIds[q0]? = some (t, j)) (hc : c = oCell G S' t j) (hs : ∀ t' j', ¬ (t' = t ∧ j' = j) → oCell G S' t' j' = oCell G S t' j') : (oWs G S).set q0 (G.2.1 t j, c) = oWs G S' := by
  subst hc
  have hlt : q0 < oIds.length := (List.getElem?_eq_some_iff.mp hq).1
  apply List.ext_getElem?
  intro k
  by_cases hk : q0 = k
  · subst hk
    unfold oWs
    rw [List.getElem?_set_self (by rw [List.length_map]; exact hlt), List.getElem?_map, hq]
    rfl
  · rw [List.getElem?_set_ne hk]
    unfold oWs
    rw [List.getElem?_map, List.getElem?_map]
    cases e : oIds[k]? with
    | none => rfl
    | some w =>
      show some (G.2.1 w.1 w.2, oCell G S w.1 w.2) = some (G.2.1 w.1 w.2, oCell G S' w.1 w.2)
      rw [hs w.1 w.2 (fun hh => hk ((List.getElem?_inj hlt oIds_nodup).mp (hq.trans (by rw [e]; exact congrArg some (Prod.ext hh.1.symm hh.2.symm)))))]
def oSn : Nat → String
  | 0 => "MASS"
  | 1 => "ROOM"
  | 2 => "DOOR_DRAUGHT"
  | 3 => "PAIR_IN"
  | _ => "PAIR_OUT"
def oSl (r : oR) : Nat → Nat
  | 0 => 3
  | 1 => 4
  | 2 => 4
  | 3 => 3
  | 4 => 3
  | _ => r.1
def oMASS (j : Nat) : Int32 := if j = 0 then 10 else if j = 1 then 30 else 60
def oROOM (j : Nat) : Int32 := if j = 0 then 2 else if j = 1 then 3 else 4
def oDRAUGHT (j : Nat) : Int32 := if j = 0 then 0 else if j = 1 then 1 else if j = 2 then 2 else 4
def oPIN (j : Nat) : Int32 := if j = 0 then 0 else if j = 1 then 0 else 1
def oPOUT (j : Nat) : Int32 := if j = 0 then 1 else 2
def oSv (r : oR) : Nat → Nat → Int32
  | 0 => oMASS
  | 1 => oROOM
  | 2 => oDRAUGHT
  | 3 => oPIN
  | 4 => oPOUT
  | _ => r.2
def oFix (G : oG) (r : oR) (U : State) : Prop := va_K G.1 vwCl (oTys G) U ∧ (∀ w ∈ oNest, va_Nw w U) ∧ (∀ i, i < 5 → va_Z "VillageOven" (oSn i) "[I" (.ref (G.2.1 (2000 + i) 0)) (oA G) U U.heap) ∧ ∀ i, i < 6 → va_T .int (G.2.1 (2000 + i) 0) (oSl r i) (fun j => .int (oSv r i j)) (oA G) U U.heap
def oOk (p : Program) (s : State) (m : MethodId) (args : Array Value) (meth : Method) (c : Code) (M : oM) (G : oG) (r : oR) : Prop := p.tables.exec = Jvm.exec ∧ c.code = M.2.1 ∧ c.maxLocals = M.2.2.1 ∧ meth.locks = false ∧ s.vm.findClass M.1 = some m.cls ∧ (∀ w ∈ oTb, w.before args s = true) ∧ oFix G r s ∧ oInj G
def oVv (X : oX) (M : oM) (pc : Nat) (lv : List (Nat × oV)) (st : List oV) (S : oS) : Prop := match X with
  | ((p, l, e, R, s), (m, args, below, meth, c), (cells, slots, Q), G, r) => oOk p s m args meth c M G r → ∀ (H : Heap) (locs : List Loc) (ls : Array Slot), lv_has ls M.2.2.1 (oLc G.2.1 lv) → va_P G.1 vwCl (oWs G S) H → va_S (oA G) s.heap H locs → W p l e R s m args below meth c H locs cells slots Q (F0 m pc ls (st.map (oc G.2.1)))
def oPc (G : oG) (r : oR) (av : List oV) (S : oS) : Array Value → State → Prop := va_Pc (av.map (oc G.2.1)) (fun U => va_P G.1 vwCl (oWs G S) U.heap ∧ oFix G r U ∧ oInj G)
def oQc (G : oG) (Q : Option oV → oS → Prop) : Array Value → State → Outcome → State → Prop := fun _ st o t => (∃ (v : Option oV) (S' : oS), o = .returned (v.map (oc G.2.1)) ∧ Q v S' ∧ va_P G.1 vwCl (oWs G S') t.heap) ∧ va_F (oA G) st t
def oRm (d : Nat) : Room := { frames := d, cells := 0, slots := 0, locals := 40 * d }
/-- the contract of a method: called with av at the state S it comes back with Q -/
def oCt (G : oG) (r : oR) (d : Nat) (y : MethodName) (M : oM) (av : List oV) (S : oS) (Q : Option oV → oS → Prop) : Prop := ∀ l : Launch, Met l y (Cond.code y M.2.1 M.2.2.1 M.2.2.2 :: oTb) (oRm d) (oPc G r av S) (oQc G Q) 0 0 (oA G)
/-- the frame's own end: what Q says of the answer and the state is what the caller waits for -/
def oEnd (X : oX) (M : oM) (Q : Option oV → oS → Prop) : Prop := match X with
  | ((_, _, _, _, s), (_, args, below, meth, _), (cells, slots, fin), G, _) => meth.sig.returnType = M.2.2.2 ∧ cells = 0 ∧ slots = 0 ∧ fin = MQ below (oQc G Q) args s 0 0 (oA G)
def oRoom (X : oX) (d : Nat) : Prop := match X with
  | ((_, _, _, R, _), _, (cells, slots, _), _, _) => d ≤ R.frames ∧ 40 * d ≤ R.locals ∧ cells ≤ R.cells ∧ slots ≤ R.slots
def oXG (X : oX) : oG := X.2.2.2.1
def oXr (X : oX) : oR := X.2.2.2.2
def oArgs : Nat → List oV → List (Nat × oV)
  | _, [] => []
  | i, v :: vs => (i, v) :: oArgs (if oCat v = 2 then i + 2 else i + 1) vs
theorem oArgs_eq (ad : Nat → Nat → Nat) (vs : List oV) : ∀ i, lv_args i (vs.map (oc ad)) = oLc ad (oArgs i vs) := by
  induction vs with
  | nil => intro i; rfl
  | cons v vs ih =>
    intro i
    show (i, oc ad v) :: lv_args _ (vs.map (oc ad)) = (i, oc ad v) :: oLc ad (oArgs _ vs)
    rw [ih, oc_cat]
theorem oSl_len (ad : Nat → Nat → Nat) (vs : List oV) : (lg_sl (vs.map (oc ad))).length = (vs.map oCat).sum := by
  induction vs with
  | nil => rfl
  | cons v vs ih =>
    rw [List.map_cons, List.map_cons, List.sum_cons, ← ih]
    unfold lg_sl
    rw [List.flatMap_cons, List.length_append, oc_cat]
    rcases v with x | x | x <;> rfl
theorem oFix.blind {G : oG} {r : oR} {U : State} (h : oFix G r U) (g : JFrame) (mk : MethodId) (a : Array Value) : oFix G r (U.calling g mk a) := by
  obtain ⟨h1, h2, h3, h4⟩ := h
  refine ⟨va_K.moved (u := U) (U := U.calling g mk a) (Vm.Alike.refl U.vm) h1, fun w hw => ?_, fun i hi => ?_, fun i hi => ?_⟩
  · have hh := h2 w hw
    simp only [oNest, List.mem_cons, List.not_mem_nil, or_false] at hw
    rcases hw with rfl | rfl | rfl | rfl | rfl | rfl | rfl | rfl | rfl | rfl | rfl | rfl | rfl | rfl | rfl <;> exact va_Nw.same (u := U) (U := U.calling g mk a) rfl rfl hh
  · exact (h3 i hi).moved (u := U) (U := U.calling g mk a) (Vm.Alike.refl U.vm)
  · exact (h4 i hi).moved (u := U) (U := U.calling g mk a) (Vm.Alike.refl U.vm)
theorem oNest_warm {s U : State} (hW : s.WarmedH U.vm) (h : ∀ w ∈ oNest, va_Nw w s) : ∀ w ∈ oNest, va_Nw w U := by
  intro w hw
  have hh := h w hw
  simp only [oNest, List.mem_cons, List.not_mem_nil, or_false] at hw
  rcases hw with rfl | rfl | rfl | rfl | rfl | rfl | rfl | rfl | rfl | rfl | rfl | rfl | rfl | rfl | rfl <;> first | exact va_Nw.warmM hW hh | exact va_Nw.warmF hW hh
theorem oFix.at {G : oG} {r : oR} {s U : State} {H : Heap} {locs : List Loc} (h : oFix G r s) (hS : va_S (oA G) s.heap H locs) (hU : U.heap = H) (hW : s.WarmedH U.vm) : oFix G r U := by
  obtain ⟨h1, h2, h3, h4⟩ := h
  refine ⟨va_K.moved hW.alike h1, oNest_warm hW h2, fun i hi => ?_, fun i hi => ?_⟩
  · rw [hU]
    exact ((h3 i hi).moved hW.alike).kept hS.2.1
  · rw [hU]
    exact ((h4 i hi).moved hW.alike).kept hS.2.1
/-- a contract out of the walk of its body -/
theorem oCt_of {G : oG} {r : oR} {d : Nat} {y : MethodName} {M : oM} {av : List oV} {S : oS} {Q : Option oV → oS → Prop} (hy : plainName y.cls = true) (hc : y.cls = M.1) (hav : (av.map oCat).sum ≤ M.2.2.1)
    (body : ∀ X : oX, oXG X = G → oXr X = r → oEnd X M Q → oRoom X d → oVv X M 0 (oArgs 0 av) [] S) : oCt G r d y M av S Q := by
  intro l
  refine Met.ofW (cc := M.2.1) (maxL := M.2.2.1) (ret := M.2.2.2) hy rfl ?_
  intro p e s m args below meth c s₁ B hml hv
  obtain ⟨rfl, hP, hF, hI⟩ := hv
  have hts := atoms_spec (ws := Cond.code y M.2.1 M.2.2.1 M.2.2.2 :: oTb) B.pre
  have hown : s.vm.findClass y.cls = some m.cls := findClass_of_methodNamed B.named
  rw [hc] at hown
  have hl := lv_entry (av.map (oc G.2.1)) (n := M.2.2.1) (by rw [oSl_len]; exact hav)
  rw [oArgs_eq] at hl
  have := body ((p, l, e, (headSpec (Cond.code y M.2.1 M.2.2.1 M.2.2.2 :: oTb) (oRm d)).room, s), (m, (av.map (oc G.2.1)).toArray, below, meth, c), (0, 0, MQ below (oQc G Q) (av.map (oc G.2.1)).toArray s 0 0 (oA G)), G, r) rfl rfl ⟨B.returns, rfl, rfl, rfl⟩ ⟨Nat.le_refl _, Nat.le_refl _, Nat.le_refl _, Nat.le_refl _⟩
    ⟨B.exec, B.bytes, hml, B.notSynchronized, hown, fun w hw => hts w (List.mem_cons_of_mem _ hw), hF, hI⟩ s.heap [] _ hl hP va_S.rf
  rw [lg_entry_eq]
  exact this
