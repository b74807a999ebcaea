section
variable {X : oX} {M : oM} {pc : Nat} {lv : List (Nat × oV)} {st : List oV} {S : oS}
/-- what the tables say of a method that is called -/
def oMd (y : MethodName) (M : oM) (n : Nat) : Prop := oW (.code y M.2.1 M.2.2.1 M.2.2.2) ∧ oW (.initialized y.cls) ∧ M.2.2.1 ≤ 21 ∧ y.cls ≠ "java/lang/invoke/MethodHandle" ∧ y.cls ≠ "java/lang/invoke/VarHandle" ∧ (parseMethodDescriptor y.desc).map (fun d => d.parameters.length) = some n
/-- the objects of a tag are of this class -/
def oTc (t : Nat) (C : String) : Prop := ∃ (ci : Nat) (T : u_T) (N : Nat), oKd t = (1, ci, N) ∧ vwCl[ci]? = some (C, T, N)
theorem oGood {w : Cond} (h : oW w) : GoodIn oTb (w :: oTb) := fun x hx => by
  rcases List.mem_cons.mp hx with e | e
  · rw [e]
    exact ⟨h, good_of_word (oTb_good w h)⟩
  · exact ⟨e, good_of_word (oTb_good x e)⟩
theorem oPc_blind {G : oG} {r : oR} {av : List oV} {S : oS} : FrameBlind (oPc G r av S) := fun a U g mk q => by
  obtain ⟨q0, qP, qF, qI⟩ := q
  exact ⟨q0, qP, qF.blind g mk a, qI⟩
theorem oCat_sum (ad : Nat → Nat → Nat) (st : List oV) : ((st.map (oc ad)).map fun v => v.category).sum = (st.map oCat).sum := by
  rw [List.map_map]
  have : ((fun v : Value => v.category) ∘ oc ad) = oCat := funext fun v => oc_cat _ v
  rw [this]
theorem o_cont {p : Program} {l : Launch} {e : Env} {R : Room} {s : State} {m : MethodId} {args : Array Value} {below : List Frame} {meth : Method} {c : Code} {H : Heap} {locs : List Loc} {cells slots : Nat} {Q : State → Prop} {ls : Array Slot} {st0 : List Value} {G : oG} {Q' : Option oV → oS → Prop} {a : Array Value}
    (hr : va_Run p l e R s m args below meth c H locs cells slots 0 0 (F0 m pc ls st0) (st.map (oc G.2.1)) (oQc G Q' a) (oA G)) (hS : va_S (oA G) s.heap H locs)
    (kk : ∀ (v : Option oV) (S' : oS), Q' v S' → ∀ (H1 : Heap) (locs1 : List Loc), va_P G.1 vwCl (oWs G S') H1 → va_S (oA G) s.heap H1 locs1 → W p l e R s m args below meth c H1 locs1 cells slots Q (F0 m (pc + 3) ls ((v.toList ++ st).map (oc G.2.1)))) : W p l e R s m args below meth c H locs cells slots Q (F0 m pc ls st0) := by
  intro T hT X
  obtain ⟨v, st₀, t, T', L, h0, X', hL, e1, e2, ⟨⟨v', S', hv, hq, hP'⟩, hz, hk⟩, st⟩ := hr T hT X
  cases hv
  rw [h0] at hz hk
  obtain ⟨t2, a1, b1⟩ := kk v' S' hq T'.heap (locs ++ L) (by rw [e1]; exact hP')
    ⟨Nat.le_trans hS.1 (by rw [e1]; exact hz), fun q h1 h2 => by rw [e1, hk q (Nat.lt_of_lt_of_le h1 hS.1) h2]; exact hS.2.1 q h1 h2, fun q hq => by
      rcases List.mem_append.mp hq with h | h
      · exact hS.2.2 q h
      · exact hL q h⟩ T' rfl X'
  refine ⟨t2, st t2 ?_, b1⟩
  cases v' with
  | none => exact a1
  | some v' => exact a1
/-- an instance method -/
theorem o_callV {d n idx t j : Nat} {y : MethodName} {Mc : oM} {stk : List oV} {Q' : Option oV → oS → Prop} (As : List oV) (hR : oRoom X (d + 1)) (hm : oMd y Mc n) (hw : oW (.methodLink M.1 idx y)) (hi : oW (.instanceMethod y)) (hs : oW (.selects y.cls y y)) (hc : oTc t y.cls) (hj : j < oCnt t) (hn : As.length = n) (hst : (st.map oCat).sum ≤ 8) (hk : stk = As.reverse ++ orf t j :: st) (hd : decode M.2.1 pc = .ok (.invokevirtual idx, 3)) (hC : oCt (oXG X) (oXr X) d y Mc (orf t j :: As) S Q') (kk : ∀ (v : Option oV) (S' : oS), Q' v S' → oVv X M (pc + 3) lv (v.toList ++ st) S') : oVv X M pc lv stk S := by
  subst hk
  obtain ⟨⟨p, l, e, R, s⟩, ⟨m, args, below, meth, c⟩, ⟨cells, slots, Q⟩, G, r⟩ := X
  intro hO H locs ls hl hP hS
  obtain ⟨hR1, hR2, hR3, hR4⟩ := hR
  obtain ⟨m1, m2, m3, m4⟩ := hm
  obtain ⟨ci, T, N, c1, c2⟩ := hc
  obtain ⟨q0, -, hq⟩ := oWs_at hj
  have he := hq G S
  rw [oCell_obj c1] at he
  refine o_cont (st := st) (va_runV (As := As.map (oc G.2.1)) (rest := st.map (oc G.2.1)) (C := y.cls) (b := G.2.1 t j) (bytes := Mc.2.1) (maxL := Mc.2.2.1) (ret := Mc.2.2.2) (n := n) ⟨hO.1, hO.2.1, hO.2.2.1, hO.2.2.2.2.1, hO.2.2.2.2.2.1⟩ (hC l) ⟨callB_of n hO.2.2.2.2.2.1 (oGood m1) rfl rfl rfl (hO.2.2.2.2.2.1 _ m2) (hO.2.2.2.2.2.1 _ hw) m4 ⟨hR1, ?_⟩, hO.2.2.2.2.2.1 _ hi, hO.2.2.2.2.2.1 _ hs⟩ ⟨oPc_blind, va_recv hO.2.2.2.2.2.2.1.1 hP c2 he, fun U hU hW => ⟨rfl, by rw [hU]; exact hP, hO.2.2.2.2.2.2.1.at hS hU hW, hO.2.2.2.2.2.2.2⟩⟩ rfl (by rw [List.length_map]; exact hn) hl.1 ?_ (lv_room (by rw [oCat_sum]; exact hst)) hd ⟨hR3, hR4⟩) hS (fun v S' hq' H1 locs1 hP1 hS1 => kk v S' hq' hO H1 locs1 ls hl hP1 hS1)
  · show 8 + (Mc.2.2.1 + 11) + 40 * d ≤ R.locals
    omega
  · show List.map (oc G.2.1) (As.reverse ++ orf t j :: st) = _
    rw [List.map_append, List.map_reverse]
    rfl
/-- a static method -/
theorem o_callS {d n idx : Nat} {y : MethodName} {Mc : oM} {stk : List oV} {Q' : Option oV → oS → Prop} (As : List oV) (hR : oRoom X (d + 1)) (hm : oMd y Mc n) (hw : oW (.methodLink M.1 idx y)) (hi : oW (.static y)) (hn : As.length = n) (hst : (st.map oCat).sum ≤ 8) (hk : stk = As.reverse ++ st) (hd : decode M.2.1 pc = .ok (.invokestatic idx, 3)) (hC : oCt (oXG X) (oXr X) d y Mc As S Q') (kk : ∀ (v : Option oV) (S' : oS), Q' v S' → oVv X M (pc + 3) lv (v.toList ++ st) S') : oVv X M pc lv stk S := by
  subst hk
  obtain ⟨⟨p, l, e, R, s⟩, ⟨m, args, below, meth, c⟩, ⟨cells, slots, Q⟩, G, r⟩ := X
  intro hO H locs ls hl hP hS
  obtain ⟨hR1, hR2, hR3, hR4⟩ := hR
  obtain ⟨m1, m2, m3, m4⟩ := hm
  refine o_cont (st := st) (va_runS (As := As.map (oc G.2.1)) (rest := st.map (oc G.2.1)) (bytes := Mc.2.1) (maxL := Mc.2.2.1) (ret := Mc.2.2.2) (n := n) ⟨hO.1, hO.2.1, hO.2.2.1, hO.2.2.2.2.1, hO.2.2.2.2.2.1⟩ (hC l) ⟨callB_of n hO.2.2.2.2.2.1 (oGood m1) rfl rfl rfl (hO.2.2.2.2.2.1 _ m2) (hO.2.2.2.2.2.1 _ hw) m4 ⟨hR1, ?_⟩, hO.2.2.2.2.2.1 _ hi⟩ ⟨oPc_blind, fun U hU hW => ⟨rfl, by rw [hU]; exact hP, hO.2.2.2.2.2.2.1.at hS hU hW, hO.2.2.2.2.2.2.2⟩⟩ rfl (by rw [List.length_map]; exact hn) hl.1 ?_ (lv_room (by rw [oCat_sum]; exact hst)) hd ⟨hR3, hR4⟩) hS (fun v S' hq' H1 locs1 hP1 hS1 => kk v S' hq' hO H1 locs1 ls hl hP1 hS1)
  · show 8 + (Mc.2.2.1 + 11) + 40 * d ≤ R.locals
    omega
  · show List.map (oc G.2.1) (As.reverse ++ st) = _
    rw [List.map_append, List.map_reverse]
/-- a nest mate's private static method -/
theorem o_callSN {d n idx : Nat} {host : String} {y : MethodName} {Mc : oM} {stk : List oV} {Q' : Option oV → oS → Prop} (As : List oV) (hR : oRoom X (d + 1)) (hm : oMd y Mc n) (hw : (.methodLinkNest M.1 idx y host) ∈ oNest) (hi : oW (.static y)) (hn : As.length = n) (hst : (st.map oCat).sum ≤ 8) (hk : stk = As.reverse ++ st) (hd : decode M.2.1 pc = .ok (.invokestatic idx, 3)) (hC : oCt (oXG X) (oXr X) d y Mc As S Q') (kk : ∀ (v : Option oV) (S' : oS), Q' v S' → oVv X M (pc + 3) lv (v.toList ++ st) S') : oVv X M pc lv stk S := by
  subst hk
  obtain ⟨⟨p, l, e, R, s⟩, ⟨m, args, below, meth, c⟩, ⟨cells, slots, Q⟩, G, r⟩ := X
  intro hO H locs ls hl hP hS
  obtain ⟨hR1, hR2, hR3, hR4⟩ := hR
  obtain ⟨m1, m2, m3, m4⟩ := hm
  refine o_cont (st := st) (va_runSN (As := As.map (oc G.2.1)) (rest := st.map (oc G.2.1)) (bytes := Mc.2.1) (maxL := Mc.2.2.1) (ret := Mc.2.2.2) (n := n) (host := host) ⟨hO.1, hO.2.1, hO.2.2.1, hO.2.2.2.2.1, hO.2.2.2.2.2.1⟩ (hC l) ⟨va_cnB n hO.2.2.2.2.2.1 (oGood m1) rfl rfl rfl (hO.2.2.2.2.2.2.1.2.1 _ hw) (hO.2.2.2.2.2.1 _ m2) m4 ⟨hR1, ?_⟩, hO.2.2.2.2.2.1 _ hi, trivial⟩ ⟨oPc_blind, fun U hU hW => ⟨rfl, by rw [hU]; exact hP, hO.2.2.2.2.2.2.1.at hS hU hW, hO.2.2.2.2.2.2.2⟩⟩ rfl (by rw [List.length_map]; exact hn) hl.1 ?_ (lv_room (by rw [oCat_sum]; exact hst)) hd ⟨hR3, hR4⟩) hS (fun v S' hq' H1 locs1 hP1 hS1 => kk v S' hq' hO H1 locs1 ls hl hP1 hS1)
  · show 8 + (Mc.2.2.1 + 11) + 40 * d ≤ R.locals
    omega
  · show List.map (oc G.2.1) (As.reverse ++ st) = _
    rw [List.map_append, List.map_reverse]
end
