theorem oElimL {α β γ : Type} {f : α → Option γ} {g : β → Option γ} {P : γ → Prop} {z : α} (h : oH (Sum.elim f g (Sum.inl z)) P) : oH (f z) P := h
theorem oElimR {α β γ : Type} {f : α → Option γ} {g : β → Option γ} {P : γ → Prop} {z : β} (h : oH (Sum.elim f g (Sum.inr z)) P) : oH (g z) P := h
def oMaxI (x y : Int32) : Int32 := if x < y then y else x
def oMinI (x y : Int32) : Int32 := if y < x then y else x
def oMaxL (x y : Int64) : Int64 := if y < x then x else y
def oMinL (x y : Int64) : Int64 := if y < x then y else x
section
variable {X : oX} {M : oM} {pc : Nat} {lv : List (Nat × oV)} {st : List oV} {S : oS}
theorem o_oMaxI {idx : Nat} {x y : Int32} (hR : oRoom X 1) (hw : oW (.methodLink M.1 idx ({ cls := "java/lang/Math", name := "max", desc := "(II)I" } : Jvm.MethodName))) (hst : (st.map oCat).sum ≤ 8) (hd : decode M.2.1 pc = .ok (.invokestatic idx, 3)) (kk : oVv X M (pc + 3) lv (oi (oMaxI x y) :: st) S) : oVv X M pc lv (oi y :: oi x :: st) S := by
  obtain ⟨⟨p, l, e, R, s⟩, ⟨m, args, below, meth, c⟩, ⟨cells, slots, Q⟩, G, r⟩ := X
  intro hO H locs ls hl hP hS
  exact va_mmax hO.1 hO.2.1 (hO.2.2.1.trans hl.1.symm) hO.2.2.2.2.1 (hO.2.2.2.2.2.1 _ hw) (hO.2.2.2.2.2.1 _ wd_421) (hO.2.2.2.2.2.1 _ wd_12) (hO.2.2.2.2.2.1 _ wd_422) hR.1 (by rw [oCat_sum]; have := hR.2.1; omega) hR.2.2.1 hR.2.2.2 hd (kk hO H locs ls hl hP hS)
theorem o_oMinI {idx : Nat} {x y : Int32} (hR : oRoom X 1) (hw : oW (.methodLink M.1 idx ({ cls := "java/lang/Math", name := "min", desc := "(II)I" } : Jvm.MethodName))) (hst : (st.map oCat).sum ≤ 8) (hd : decode M.2.1 pc = .ok (.invokestatic idx, 3)) (kk : oVv X M (pc + 3) lv (oi (oMinI x y) :: st) S) : oVv X M pc lv (oi y :: oi x :: st) S := by
  obtain ⟨⟨p, l, e, R, s⟩, ⟨m, args, below, meth, c⟩, ⟨cells, slots, Q⟩, G, r⟩ := X
  intro hO H locs ls hl hP hS
  exact va_mmin hO.1 hO.2.1 (hO.2.2.1.trans hl.1.symm) hO.2.2.2.2.1 (hO.2.2.2.2.2.1 _ hw) (hO.2.2.2.2.2.1 _ wd_831) (hO.2.2.2.2.2.1 _ wd_12) (hO.2.2.2.2.2.1 _ wd_832) hR.1 (by rw [oCat_sum]; have := hR.2.1; omega) hR.2.2.1 hR.2.2.2 hd (kk hO H locs ls hl hP hS)
theorem o_oMaxL {idx : Nat} {x y : Int64} (hR : oRoom X 1) (hw : oW (.methodLink M.1 idx ({ cls := "java/lang/Math", name := "max", desc := "(JJ)J" } : Jvm.MethodName))) (hst : (st.map oCat).sum ≤ 8) (hd : decode M.2.1 pc = .ok (.invokestatic idx, 3)) (kk : oVv X M (pc + 3) lv (ol (oMaxL x y) :: st) S) : oVv X M pc lv (ol y :: ol x :: st) S := by
  obtain ⟨⟨p, l, e, R, s⟩, ⟨m, args, below, meth, c⟩, ⟨cells, slots, Q⟩, G, r⟩ := X
  intro hO H locs ls hl hP hS
  exact va_mmax_long hO.1 hO.2.1 (hO.2.2.1.trans hl.1.symm) hO.2.2.2.2.1 (hO.2.2.2.2.2.1 _ hw) (hO.2.2.2.2.2.1 _ wd_454) (hO.2.2.2.2.2.1 _ wd_12) (hO.2.2.2.2.2.1 _ wd_455) hR.1 (by rw [oCat_sum]; have := hR.2.1; omega) hR.2.2.1 hR.2.2.2 hd (kk hO H locs ls hl hP hS)
theorem o_oMinL {idx : Nat} {x y : Int64} (hR : oRoom X 1) (hw : oW (.methodLink M.1 idx ({ cls := "java/lang/Math", name := "min", desc := "(JJ)J" } : Jvm.MethodName))) (hst : (st.map oCat).sum ≤ 8) (hd : decode M.2.1 pc = .ok (.invokestatic idx, 3)) (kk : oVv X M (pc + 3) lv (ol (oMinL x y) :: st) S) : oVv X M pc lv (ol y :: ol x :: st) S := by
  obtain ⟨⟨p, l, e, R, s⟩, ⟨m, args, below, meth, c⟩, ⟨cells, slots, Q⟩, G, r⟩ := X
  intro hO H locs ls hl hP hS
  exact va_mmin_long hO.1 hO.2.1 (hO.2.2.1.trans hl.1.symm) hO.2.2.2.2.1 (hO.2.2.2.2.2.1 _ hw) (hO.2.2.2.2.2.1 _ wd_434) (hO.2.2.2.2.2.1 _ wd_12) (hO.2.2.2.2.2.1 _ wd_435) hR.1 (by rw [oCat_sum]; have := hR.2.1; omega) hR.2.2.1 hR.2.2.2 hd (kk hO H locs ls hl hP hS)
end
