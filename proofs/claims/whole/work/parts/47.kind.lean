theorem cSum_cg {f g : Nat → Int32} : ∀ {n : Nat}, (∀ k, k < n → f k = g k) → cSum f n = cSum g n := by
  intro n
  induction n with
  | zero => intro _; rfl
  | succ n ih =>
    intro h
    show cSum f n + f n = cSum g n + g n
    rw [ih (fun k hk => h k (by omega)), h n (by omega)]
/-- the loaves' part of the invariant, when kinds that no loaf has are changed -/
theorem iLoa_kin {S T : oS} (h : iLoa S) (e300 : ∀ q, T.1 300 q = S.1 300 q) (e400 : T.1 400 0 = S.1 400 0) (e403 : T.1 403 0 = S.1 403 0) (e404 : T.1 404 0 = S.1 404 0) (e405 : T.1 405 0 = S.1 405 0) (e406 : T.1 406 0 = S.1 406 0) (e407 : T.1 407 0 = S.1 407 0) (e408 : T.1 408 0 = S.1 408 0)
    (m24 : T.1 1000 0 24 = S.1 1000 0 24) (m31 : T.1 1000 0 31 = S.1 1000 0 31) (f26 : T.1 1026 0 = S.1 1026 0) (f27 : T.1 1027 0 = S.1 1027 0) (f28 : T.1 1028 0 = S.1 1028 0) (f29 : T.1 1029 0 = S.1 1029 0) (f30 : T.1 1030 0 = S.1 1030 0) (f31 : T.1 1031 0 = S.1 1031 0)
    (hk : (S.1 1000 0 13).toInt ≤ (T.1 1000 0 13).toInt) (g : ∀ k : Nat, (k : Int) < (S.1 1000 0 13).toInt → T.1 1015 0 k = S.1 1015 0 k ∧ T.1 1016 0 k = S.1 1016 0 k) : iLoa T := by
  obtain ⟨a, b, c, d, e, f⟩ := h
  have key : ∀ l : Nat, l < (S.1 1000 0 24).toInt.toNat → T.1 1015 0 (S.1 1026 0 l).toNatClampNeg = S.1 1015 0 (S.1 1026 0 l).toNatClampNeg ∧ T.1 1016 0 (S.1 1026 0 l).toNatClampNeg = S.1 1016 0 (S.1 1026 0 l).toNatClampNeg := by
    intro l hl
    have := d l (by omega)
    exact g _ (by rw [i_clamp]; omega)
  unfold iLoa
  rw [m24, m31, e400, e403, e404, e405, e406, e407, e408, f26, f27, f28, f29, f30, f31]
  refine ⟨a, b, c, fun k hk' => ?_, ⟨?_, e.2⟩, fun q hq => ?_⟩
  · have := d k hk'
    exact ⟨this.1, by have := this.2.1; omega, this.2.2⟩
  · rw [e.1]
    exact cSum_cg (fun k _ => by unfold lIn; rw [f27])
  · rw [e300]
    obtain ⟨f1, f2, f3⟩ := f q hq
    refine ⟨f1.trans (cSum_cg (fun k hk' => ?_)), f2.trans (cSum_cg (fun k hk' => ?_)), f3.trans (cSum_cg (fun k hk' => ?_))⟩
    · unfold lBig; rw [f27, f26, (key k hk').1]
    · unfold lOne; rw [f27, f26, (key k hk').1]
    · unfold lCro; rw [f27, f26, (key k hk').2]
def kdOk (p c l m f t s : Int32) : Prop := ((1 : Int32) ≤ p ∧ p ≤ 3) ∧ ¬ (¬ c = 0 ∧ p = 1) ∧ ((1 : Int32) ≤ l ∧ l ≤ 30) ∧ (l ≤ m ∧ m ≤ 60) ∧ (((0 : Int32) ≤ f ∧ f ≤ 2000) ∧ f ≤ t ∧ t ≤ 2000) ∧ ((0 : Int32) ≤ s ∧ s ≤ 9)
theorem kd_X {p c l m f t s : Int32} {S : oS} : (kdOk p c l m f t s → f_X8_kind p c l m f t s S = if S.1 200 0 10 < 8 then (f_X1_addKind p c l m f t s S).bind (fun z => some (z.1, z.2)) else some (-4, S)) ∧ (¬ kdOk p c l m f t s → f_X8_kind p c l m f t s S = some (-2, S)) := by
  unfold kdOk
  by_cases h1 : (1 : Int32) ≤ p ∧ p ≤ 3
  · by_cases h2 : ¬ c = 0 ∧ p = 1
    · refine ⟨fun h => absurd h2 h.2.1, fun _ => ?_⟩
      simp only [f_X8_kind, wX, Option.bind_some, if_pos h1, if10, if_neg h2.1, if_pos h2.2]
    · have e : f_X8_kind p c l m f t s S = f_X8_kind_K21 p c l m f t s S := by
        simp only [f_X8_kind, wX, Option.bind_some, if_pos h1, if10]
        by_cases hc : c = 0
        · rw [if_pos hc]
        · rw [if_neg hc, if_neg (fun z => h2 ⟨hc, z⟩)]
      rw [e]
      by_cases h3 : (1 : Int32) ≤ l ∧ l ≤ 30
      · by_cases h4 : l ≤ m ∧ m ≤ 60
        · by_cases h5 : ((0 : Int32) ≤ f ∧ f ≤ 2000) ∧ f ≤ t ∧ t ≤ 2000
          · by_cases h6 : (0 : Int32) ≤ s ∧ s ≤ 9
            · refine ⟨fun _ => ?_, fun h => absurd ⟨h1, h2, h3, h4, h5, h6⟩ h⟩
              simp only [f_X8_kind_K21, wX, spX, Option.bind_some, if_pos h3, if_pos h4, if_pos h5, if_pos h6, if10]
            · refine ⟨fun h => absurd h.2.2.2.2.2 h6, fun _ => ?_⟩
              simp only [f_X8_kind_K21, wX, spX, Option.bind_some, if_pos h3, if_pos h4, if_pos h5, if_neg h6, if10, if_true]
          · refine ⟨fun h => absurd h.2.2.2.2.1 h5, fun _ => ?_⟩
            simp only [f_X8_kind_K21, wX, spX, Option.bind_some, if_pos h3, if_pos h4, if_neg h5, if10, if_true]
        · refine ⟨fun h => absurd h.2.2.2.1 h4, fun _ => ?_⟩
          simp only [f_X8_kind_K21, wX, Option.bind_some, if_pos h3, if_neg h4, if10, if_true]
      · refine ⟨fun h => absurd h.2.2.1 h3, fun _ => ?_⟩
        simp only [f_X8_kind_K21, wX, Option.bind_some, if_neg h3, if_true]
  · refine ⟨fun h => absurd h.1 h1, fun _ => ?_⟩
    simp only [f_X8_kind, wX, Option.bind_some, if_neg h1, if_true]
/-- the reference's rows behind its guards -/
def kdM (p c l m f t s : Int32) (S : oS) (i : Nat) : oS := oStI (oStI (oStI (oStI (oStI (oStI (oStI (oStI S 1015 0 i p) 1016 0 i c) 1017 0 i l) 1018 0 i m) 1019 0 i f) 1020 0 i t) 1021 0 i s) 1000 0 13 (S.1 1000 0 13 + 1)
def kdX (p c l m f t s : Int32) (S : oS) (i : Nat) : oS := oStI (oStI (oStI (oStI (oStI (oStI (oStI (oStI (oStI S 201 0 i p) 202 0 i c) 203 0 i l) 204 0 i m) 205 0 i f) 206 0 i t) 207 0 i s) 208 0 i 0) 200 0 10 (S.1 200 0 10 + 1)
theorem addKind_ok {p c l m f t s : Int32} {S : oS} (hin : oIn (S.1 200 0 10) 8) (hc : oBl c) : f_X1_addKind p c l m f t s S = some (S.1 200 0 10 + 1 - 1, kdX p c l m f t s S (S.1 200 0 10).toNatClampNeg) := by
  unfold f_X1_addKind
  rw [if_pos hin]
  show (if oIn (S.1 200 0 10) 8 then _ else none) = _
  rw [if_pos hin, if_pos hc]
  show (if oIn (S.1 200 0 10) 8 then _ else none) = _
  rw [if_pos hin]
  show (if oIn (S.1 200 0 10) 8 then _ else none) = _
  rw [if_pos hin]
  show (if oIn (S.1 200 0 10) 8 then _ else none) = _
  rw [if_pos hin]
  show (if oIn (S.1 200 0 10) 8 then _ else none) = _
  rw [if_pos hin]
  show (if oIn (S.1 200 0 10) 8 then _ else none) = _
  rw [if_pos hin]
  show (if oIn (S.1 200 0 10) 8 then _ else none) = _
  rw [if_pos hin]
  rfl
theorem kd_M {p c l m f t s : Int32} {S : oS} : (kdOk p c l m f t s → S.1 1000 0 13 = 8 → f_X9_kind p c l m f t s S = some (-4, S)) ∧ (kdOk p c l m f t s → ¬ S.1 1000 0 13 = 8 → oIn (S.1 1000 0 13) 8 → oBl c → f_X9_kind p c l m f t s S = some (S.1 1000 0 13 + 1 - 1, kdM p c l m f t s S (S.1 1000 0 13).toNatClampNeg)) ∧ (¬ kdOk p c l m f t s → f_X9_kind p c l m f t s S = some (-2, S)) := by
  have e : kdOk p c l m f t s → f_X9_kind p c l m f t s S = f_X9_kind_K18 p c l m f t s S := by
    intro h
    obtain ⟨h1, h2, -⟩ := h
    simp only [f_X9_kind, wM, Option.bind_some, if_pos h1, if10]
    by_cases hc : c = 0
    · rw [if_pos hc]
    · rw [if_neg hc, if_neg (fun z => h2 ⟨hc, z⟩)]
  refine ⟨fun h h8 => ?_, fun h h8 hin hc => ?_, ?_⟩
  · rw [e h]
    obtain ⟨h1, h2, h3, h4, h5, h6⟩ := h
    simp only [f_X9_kind_K18, wM, spM, Option.bind_some, if_pos h3, if_pos h4, if_pos h5, if_pos h6, if10, if_pos h8]
  · rw [e h]
    obtain ⟨h1, h2, h3, h4, h5, h6⟩ := h
    simp only [f_X9_kind_K18, wM, spM, Option.bind_some, if_pos h3, if_pos h4, if_pos h5, if_pos h6, if10, if_neg h8, if_pos hin]
    show (if oIn (S.1 1000 0 13) 8 then _ else none) = _
    rw [if_pos hin, if_pos hc]
    show (if oIn (S.1 1000 0 13) 8 then _ else none) = _
    rw [if_pos hin]
    show (if oIn (S.1 1000 0 13) 8 then _ else none) = _
    rw [if_pos hin]
    show (if oIn (S.1 1000 0 13) 8 then _ else none) = _
    rw [if_pos hin]
    show (if oIn (S.1 1000 0 13) 8 then _ else none) = _
    rw [if_pos hin]
    show (if oIn (S.1 1000 0 13) 8 then _ else none) = _
    rw [if_pos hin]
    rfl
  · unfold kdOk
    intro h
    by_cases h1 : (1 : Int32) ≤ p ∧ p ≤ 3
    · by_cases h2 : ¬ c = 0 ∧ p = 1
      · simp only [f_X9_kind, wM, Option.bind_some, if_pos h1, if10, if_neg h2.1, if_pos h2.2]
      · have e : f_X9_kind p c l m f t s S = f_X9_kind_K18 p c l m f t s S := by
          simp only [f_X9_kind, wM, Option.bind_some, if_pos h1, if10]
          by_cases hc : c = 0
          · rw [if_pos hc]
          · rw [if_neg hc, if_neg (fun z => h2 ⟨hc, z⟩)]
        rw [e]
        by_cases h3 : (1 : Int32) ≤ l ∧ l ≤ 30
        · by_cases h4 : l ≤ m ∧ m ≤ 60
          · by_cases h5 : ((0 : Int32) ≤ f ∧ f ≤ 2000) ∧ f ≤ t ∧ t ≤ 2000
            · have h6 : ¬ ((0 : Int32) ≤ s ∧ s ≤ 9) := fun h6 => h ⟨h1, h2, h3, h4, h5, h6⟩
              simp only [f_X9_kind_K18, wM, spM, Option.bind_some, if_pos h3, if_pos h4, if_pos h5, if_neg h6, if10, if_true]
            · simp only [f_X9_kind_K18, wM, spM, Option.bind_some, if_pos h3, if_pos h4, if_neg h5, if10, if_true]
          · simp only [f_X9_kind_K18, wM, Option.bind_some, if_pos h3, if_neg h4, if10, if_true]
        · simp only [f_X9_kind_K18, wM, Option.bind_some, if_neg h3, if_true]
    · simp only [f_X9_kind, wM, Option.bind_some, if_neg h1, if_true]
theorem kd_spa {p c l m f t s : Int32} {S : oS} {i : Nat} (hk : kdOk p c l m f t s) (h : iSpa S) : iSpa (kdM p c l m f t s (kdX p c l m f t s S i) i) := by
  intro k
  obtain ⟨a, b⟩ := h k
  have hft : f.toInt ≤ t.toInt := i_le.mp hk.2.2.2.2.1.2.1
  refine ⟨?_, b⟩
  show (if 1019 = 1019 ∧ 0 = 0 ∧ k = i then f else S.1 1019 0 k).toInt ≤ (if 1020 = 1020 ∧ 0 = 0 ∧ k = i then t else S.1 1020 0 k).toInt
  by_cases g : k = i
  · rw [if_pos ⟨rfl, rfl, g⟩, if_pos ⟨rfl, rfl, g⟩]; exact hft
  · rw [if_neg (fun z => g z.2.2), if_neg (fun z => g z.2.2)]; exact a
set_option maxHeartbeats 4000000 in
theorem pr_kind (n : Nat) (p c l m f t s : Int32) (hc : oBl c) : oPair n (f_X8_kind p c l m f t s) (f_X9_kind p c l m f t s) := by
  intro S h
  have h0 := h
  obtain ⟨p1, p2, ⟨⟨k1, k1'⟩, k2, k3, k4⟩, p4, ⟨q1, q2, q3, q4⟩, p6⟩ := h.up
  by_cases hk : kdOk p c l m f t s
  · by_cases h8 : (S.1 1000 0 13).toInt < 8
    · obtain ⟨e1, e2⟩ := ct_up k1' h8 (by decide)
      have hin := ct_in (n := 8) k1' h8
      have hin' : oIn (S.1 200 0 10) 8 := by rw [k1]; exact hin
      obtain ⟨i, hi⟩ : ∃ i, i = (S.1 1000 0 13).toNatClampNeg := ⟨_, rfl⟩
      refine ⟨S.1 1000 0 13 + 1 - 1, kdX p c l m f t s S i, kdM p c l m f t s (kdX p c l m f t s S i) i, ?_, ?_, ⟨p1, ⟨p2.1, p2.2.1, p2.2.2.1, p2.2.2.2.1, kd_spa hk p2.2.2.2.2⟩, ⟨⟨?_, e2⟩, ?_, ?_, ?_⟩, ?_, ⟨q1, q2, ?_, q4⟩, p6⟩⟩
      · rw [kd_X.1 hk, k1, if_pos (by rw [i_lt]; exact h8), addKind_ok hin' hc, k1, hi]
        rfl
      · have := (kd_M (p := p) (c := c) (l := l) (m := m) (f := f) (t := t) (s := s) (S := kdX p c l m f t s S i)).2.1 hk (not30 (m := 8) rfl h8) hin hc
        rw [this, hi]
        rfl
      · show S.1 200 0 10 + 1 = S.1 1000 0 13 + 1
        rw [k1]
      · intro k
        obtain ⟨a1, a2, a3, a4, a5, a6, a7, a8, a9, a10⟩ := k2 k
        by_cases hki : k = i
        · have z := k3 k (by rw [hki, hi, i_clamp]; omega)
          simp [kdM, kdX, oStI, hki, z]
          rw [hki] at a9 a10 z
          exact ⟨z.symm, a9, a10⟩
        · simp [kdM, kdX, oStI, hki]
          exact ⟨a1, a2, a3, a4, a5, a6, a7, a8, a9, a10⟩
      · intro k hk'
        have hk' : (S.1 1000 0 13 + 1).toInt ≤ k := hk'
        rw [e1] at hk'
        have := k3 k (by omega)
        simpa [kdM, kdX, oStI] using this
      · intro k
        have a := k4 k
        by_cases hki : k = i
        · refine ⟨by simpa [kdM, kdX, oStI, hki] using hc, fun _ => ?_⟩
          have r : rg p 1 3 := rg_of rfl rfl hk.1
          have r2 : c = 1 → 2 ≤ p.toInt := by
            intro hc1
            have : ¬ p = 1 := fun z => hk.2.1 ⟨by rw [hc1]; decide, z⟩
            have : ¬ p.toInt = 1 := fun z => this (i_eq.mpr z)
            have := r.1
            omega
          simp [kdM, kdX, oStI, hki]
          exact ⟨r, r2⟩
        · refine ⟨by simpa [kdM, kdX, oStI, hki] using a.1, fun hk' => ?_⟩
          have hk' : (k : Int) < (S.1 1000 0 13 + 1).toInt := hk'
          rw [e1] at hk'
          have hlt : (k : Int) < (S.1 1000 0 13).toInt := by
            have : ¬ (k : Int) = (S.1 1000 0 13).toInt := fun z => hki (by rw [hi, i_clamp]; omega)
            omega
          have := a.2 hlt
          simpa [kdM, kdX, oStI, hki] using this
      · refine iLoa_kin p4 (fun _ => rfl) rfl rfl rfl rfl rfl rfl rfl rfl rfl rfl rfl rfl rfl rfl rfl ?_ ?_
        · show _ ≤ (S.1 1000 0 13 + 1).toInt
          omega
        · intro k hk'
          have hki : ¬ k = i := by rw [hi, i_clamp]; omega
          simp [kdM, kdX, oStI, hki]
      · intro k hk'
        have := q3 k hk'
        refine ⟨this.1, this.2.1, ?_⟩
        show _ < (S.1 1000 0 13 + 1).toInt
        have := this.2.2
        have e3 : (kdM p c l m f t s (kdX p c l m f t s S i) i).1 1034 0 k = S.1 1034 0 k := rfl
        rw [e3]
        omega
    · have h8' := at_cap (c := 8) (m := 8) rfl k1' (by decide) h8
      refine pair_id (r := -4) h0 ?_ ?_
      · rw [kd_X.1 hk, k1, h8']
        rfl
      · exact kd_M.1 hk h8'
  · exact pair_id (r := -2) h0 (kd_X.2 hk) (kd_M.2.2 hk)
