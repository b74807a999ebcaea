/-! The first state; the whole run -/
theorem n0lt {k : Nat} {x : Int32} (hx : x.toInt = 0) (h : (k : Int) < x.toInt) : False := by omega
theorem inv_0 : Inv 0 oS0 := by
  have r0 : ∀ b : Int, 0 ≤ b → rg (0 : Int32) 0 b := fun b hb => ⟨by rw [i0]; omega, by rw [i0]; omega⟩
  refine ⟨⟨⟨rfl, ⟨by decide, by decide⟩⟩, fun k => ⟨rfl, r0 _ (by decide)⟩, fun k => ⟨rfl, r0 _ (by decide)⟩, ⟨rfl, r0 _ (by decide)⟩, ⟨rfl, r0 _ (by decide)⟩, fun k => ⟨rfl, r0 _ (by decide)⟩, fun k => ⟨rfl, r0 _ (by decide)⟩, fun k hk => ⟨rfl, ?_⟩, ?_, rfl, rfl⟩, ⟨rfl, rfl, Or.inl rfl, rfl, fun k => ⟨Int.le_refl _, Int.le_refl _⟩⟩, ⟨⟨rfl, r0 _ (by decide)⟩, fun k => ⟨rfl, rfl, rfl, rfl, rfl, rfl, rfl, rfl, rfl, rfl⟩, fun k _ => rfl, fun k => ⟨Or.inl rfl, fun h => (n0lt (x := oS0.1 1000 0 13) rfl h).elim⟩⟩, ⟨⟨rfl, r0 _ (by decide)⟩, fun k => ⟨rfl, rfl, rfl, rfl, rfl, rfl⟩, rfl, fun k h => (n0lt (x := oS0.1 1000 0 24) rfl h).elim, ⟨rfl, r0 _ (by decide)⟩, fun q _ => ⟨rfl, rfl, rfl⟩⟩, ⟨⟨rfl, r0 _ (by decide)⟩, ⟨rfl, r0 _ (by decide)⟩, fun k h => (n0lt (x := oS0.1 1000 0 32) rfl h).elim, fun k h => (n0lt (x := oS0.1 1000 0 34) rfl h).elim, fun k h => ?_, fun j k _ _ _ => rfl⟩, ⟨⟨rfl, r0 _ (by decide)⟩, ⟨rfl, ⟨by decide, by decide⟩⟩, ⟨rfl, Or.inl rfl⟩, ⟨rfl, Int.le_refl _⟩, ⟨rfl, ⟨by decide, by decide⟩⟩, fun k h => (n0lt (x := oS0.1 1000 0 40) rfl h).elim⟩, ⟨fun k => ⟨rfl, r0 _ (by decide)⟩, ⟨rfl, r0 _ (by decide)⟩, fun k h => (n0lt (x := oS0.1 1000 0 46) rfl h).elim⟩⟩
  · show 0 ≤ (oHe 12 k).toInt
    rcases (by omega : k = 0 ∨ k = 1 ∨ k = 2 ∨ k = 3 ∨ k = 4 ∨ k = 5 ∨ k = 6 ∨ k = 7 ∨ k = 8 ∨ k = 9 ∨ k = 10 ∨ k = 11) with rfl | rfl | rfl | rfl | rfl | rfl | rfl | rfl | rfl | rfl | rfl | rfl <;> decide
  · show hSum (oHe 12) 12 ≤ 4000 + 600000 * ((0 : Nat) : Int)
    decide
  · have h : (k : Int) + 1 < (oS0.1 1000 0 34).toInt := h
    have : (oS0.1 1000 0 34).toInt = 0 := rfl
    omega
theorem n_c (a c : Nat) (x : Int32) (hx : x = nI c) : nI a + x = nI (a + c) := by rw [hx, nI_add]
theorem hpure (r0 : oR) (hr : r0.1 ≤ 4096) : ∃ S : oS, f_L_law r0 0 oS0 = some (1, S) := by
  have hl : oSl r0 5 = r0.1 := rfl
  have e8 : (Int32.ofNat r0.1 - 8).toInt = (r0.1 : Int) - 8 := by
    have x8 : (8 : Int32).toInt = 8 := rfl
    have xn : (Int32.ofNat r0.1).toInt = (r0.1 : Int) := nT (by omega)
    rw [i_sub (by rw [x8, xn]; omega) (by rw [x8, xn]; omega), x8, xn]
  have e : ∃ x, oLp (f_L_law_L18 r0) oFu ((0 : Int32), oS0) = some x ∧ ∃ S, x = Sum.inl S := by
    refine oLp_all (fun i s => ∃ S, s = (nI (8 * i), S) ∧ Inv i S) (fun x => ∃ S, x = Sum.inl S) (r0.1 / 8) (by omega) ⟨oS0, rfl, inv_0⟩ ?_ ?_
    · rintro i s hi ⟨S, rfl, hI⟩
      have h8 : 8 * i + 8 ≤ r0.1 := by omega
      have inx : ∀ (c : Nat) (x : Int32), x = nI c → c < 8 → oIn (nI (8 * i) + x) (oSl r0 5) := fun c x hx hc => by
        rw [n_c _ c x hx, hl]
        exact (nin (by omega)).mpr (by omega)
      obtain ⟨s', l1, S', l2, l3⟩ := law_step (r0 := r0) (z := nI (8 * i)) (by omega) hI (by
        rw [hl, i_lt, e8, nT (by omega)]
        omega) (by rw [hl]; exact (nin (by omega)).mpr (by omega)) (inx 1 1 rfl (by omega)) (inx 2 2 rfl (by omega)) (inx 3 3 rfl (by omega)) (inx 4 4 rfl (by omega)) (inx 5 5 rfl (by omega)) (inx 6 6 rfl (by omega)) (inx 7 7 rfl (by omega))
      refine ⟨s', l1, S', ?_, l3⟩
      rw [l2, n_c _ 8 8 rfl]
      rfl
    · rintro s ⟨S, rfl, hI⟩
      refine ⟨Sum.inl S, ?_, S, rfl⟩
      show (if (Int32.ofNat (oSl r0 5) - 8) < nI (8 * (r0.1 / 8)) then _ else _) = _
      rw [if_pos (by rw [hl, i_lt, e8, nT (by omega)]; omega)]
  obtain ⟨x, e1, S, rfl⟩ := e
  refine ⟨S, ?_⟩
  unfold f_L_law
  rw [e1]
  rfl
