theorem st_same {X : oS} {t j k : Nat} {v : Int32} (h : X.1 t j k = v) : oStI X t j k v = X := cmS_ext rfl (fun t' j' k' => by
  show (if t' = t ∧ j' = j ∧ k' = k then v else X.1 t' j' k') = _
  by_cases g : t' = t ∧ j' = j ∧ k' = k
  · rw [if_pos g, g.1, g.2.1, g.2.2, h]
  · rw [if_neg g])
theorem lIn_01 (S : oS) (l : Nat) : lIn S l = 0 ∨ lIn S l = 1 := by
  unfold lIn
  by_cases g : S.1 1027 0 l = -1
  · rw [if_pos g]; exact Or.inl rfl
  · rw [if_neg g]; exact Or.inr rfl
theorem n_m1 {q : Nat} (h : q < 4) : ¬ nI q = -1 := fun z => by rw [i_eq, nT (by omega)] at z; have : (-1 : Int32).toInt = -1 := rfl; omega
theorem ring_cases {x : Int32} (h : rg x (-1) 3) : x = -1 ∨ ∃ p : Nat, p < 4 ∧ x = nI p := by
  have e1 : (-1 : Int32).toInt = -1 := rfl
  by_cases g : x.toInt = -1
  · exact Or.inl (by rw [i_eq, e1]; exact g)
  · have a := h.1
    have b := h.2
    exact Or.inr ⟨x.toInt.toNat, by omega, i_nat (by omega)⟩
theorem in_dec {S : oS} (hk : iKin S) (hl : iLoa S) {c l : Nat} (hc : S.1 1000 0 24 = nI c) (h2 : c ≤ 200) (hlc : l < c) (hi : lIn S l = 1) : rg (S.1 400 0 9 - 1) 0 12 := by
  obtain ⟨c', b1, b2, b3, b4, b5, b6, b7⟩ := lo_facts hk hl
  have hcc : c' = c := by rw [hc] at b2; exact ((nI_eq (by omega) (by omega)).mp b2).symm
  subst hcc
  obtain ⟨-, -, -, -, ⟨-, r12⟩, -⟩ := hl
  have s := lB_but (F := lIn S) (l := l) c' h2 (by omega)
  rw [if_pos hlc, hi, ← b7] at s
  have r := cSum_01 c' (by omega) (fun k _ => lB_01 (lIn_01 S) (nI l) k)
  have o : (1 : Int32).toInt = 1 := rfl
  have t := congrArg Int32.toInt s
  rw [i_add (by have := r.1; have := r.2; omega) (by have := r.1; have := r.2; omega), o] at t
  have x1 := r12.1
  have x2 := r12.2
  have x3 := r.1
  exact ⟨by rw [i_sub (by omega) (by omega)]; omega, by rw [i_sub (by omega) (by omega)]; omega⟩
set_option maxHeartbeats 4000000 in
theorem ta_loa {S T : oS} (hk : iKin S) (hl : iLoa S) {c l p k : Nat} (hc : S.1 1000 0 24 = nI c) (h2 : c ≤ 200) (hlc : l < c) (hp : p < 4) (hr : S.1 1027 0 l = nI p) (h8 : k < 8) (hks : (k : Int) < (S.1 1000 0 13).toInt) (hkk : S.1 1026 0 l = nI k) {o cc g d : Int32} (hT : T = oStI (taM (cmS (oStI (taX S l p k) 400 0 10 (S.1 400 0 10 + d)) o cc g) l) 1000 0 31 (S.1 1000 0 31 + d)) : iLoa T := by
  have hl0 := hl
  obtain ⟨⟨a1, a2⟩, a3, a4, a5, a6, a7⟩ := hl
  obtain ⟨d1, d2, d3, d4, d5⟩ := kd_eq hk hks
  have hi : lIn S l = 1 := by unfold lIn; rw [hr, if_neg (n_m1 hp)]
  have e27 : ∀ k', T.1 1027 0 k' = if k' = l then -1 else S.1 1027 0 k' := by
    intro k'
    rw [hT]
    show (if 1027 = 1027 ∧ 0 = 0 ∧ k' = l then (-1 : Int32) else S.1 1027 0 k') = _
    by_cases h : k' = l <;> simp [h]
  have x27 : ∀ k', T.1 404 0 k' = if k' = l then -1 else S.1 404 0 k' := by
    intro k'
    rw [hT]
    show (if 404 = 404 ∧ 0 = 0 ∧ k' = l then (-1 : Int32) else S.1 404 0 k') = _
    by_cases h : k' = l <;> simp [h]
  have hTi : lIn T l = 0 := by unfold lIn; rw [e27, if_pos rfl, if_pos rfl]
  have t9 : T.1 400 0 9 = S.1 400 0 9 - 1 := by rw [hT]; rfl
  have tl : T.1 1027 0 l = -1 := by rw [e27, if_pos rfl]
  refine loa_ring hk hl0 (l := l) (v := -1) (by rw [hc, nT (by omega)]; omega) ⟨by decide, by decide⟩ (by rw [hT]; rfl) (by rw [hT]; rfl) ?_ (by rw [hT]; rfl) (by rw [hT]; rfl) (by rw [hT]; rfl) ?_ (by rw [hT]; rfl) (by rw [hT]; rfl) e27 x27 ?_ ?_ ?_
  · rw [hT]
    show S.1 400 0 10 + d = S.1 1000 0 31 + d
    rw [a4]
  · intro k'
    obtain ⟨y1, y2, y3, y4, y5, y6⟩ := a3 k'
    refine ⟨?_, ?_, ?_, ?_⟩ <;> rw [hT]
    · exact y3
    · exact y4
    · exact y5
    · exact y6
  · rw [t9, hi, hTi, Int32.add_zero]
  · rw [t9]; exact in_dec hk hl0 hc h2 hlc hi
  · intro r hr'
    have nr : ¬ T.1 1027 0 l = nI r := by rw [tl]; exact fun z => n_m1 hr' z.symm
    have y1 : lBig T (nI r) l = 0 := by unfold lBig; exact if_neg nr
    have y2 : lOne T (nI r) l = 0 := by unfold lOne; exact if_neg nr
    have y3 : lCro T (nI r) l = 0 := by unfold lCro; exact if_neg nr
    rw [y1, y2, y3, Int32.add_zero, Int32.add_zero, Int32.add_zero]
    have v : ∀ i, T.1 300 r i = (ldS S p (S.1 300 p 0 + -1 * kBg S k) (S.1 300 p 1 + -1 * kOn S k) (S.1 300 p 2 + -1 * kCr S k)).1 300 r i := fun i => by rw [hT]; rfl
    rw [v 0, v 1, v 2]
    have m : ∀ x y : Int32, x + -1 * y = x - y := fun x y => by grind
    by_cases h : r = p
    · subst h
      obtain ⟨z1, z2, z3⟩ := l_parts hr
      rw [hkk, ncl (by omega)] at z1 z2 z3
      rw [ldS_r.1, ldS_r.2.1, ldS_r.2.2, z1, z2, z3, d1, d2, d3, m, m, m]
      exact ⟨rfl, rfl, rfl⟩
    · have w : ¬ S.1 1027 0 l = nI r := by rw [hr]; exact fun z => h ((nI_eq (by omega) (by omega)).mp z).symm
      have z1 : lBig S (nI r) l = 0 := by unfold lBig; exact if_neg w
      have z2 : lOne S (nI r) l = 0 := by unfold lOne; exact if_neg w
      have z3 : lCro S (nI r) l = 0 := by unfold lCro; exact if_neg w
      rw [ldS_1, ldS_1, ldS_1, if_neg (fun z => h z.2), if_neg (fun z => h z.2), if_neg (fun z => h z.2), z1, z2, z3, Int32.sub_zero, Int32.sub_zero, Int32.sub_zero]
      exact ⟨rfl, rfl, rfl⟩
theorem out_X {S : oS} {l : Nat} (hl : iLoa S) (h : l < 200) : f_X3_isOut (nI l) S = some (if S.1 1027 0 l = -1 then 1 else 0, S) := by
  have e : S.1 404 0 (nI l).toNatClampNeg = S.1 1027 0 l := by rw [ncl (by omega), (hl.2.1 l).2.1]
  unfold f_X3_isOut
  rw [if_pos ((nin (by omega)).mpr h), e]
  by_cases g : S.1 1027 0 l = -1
  · rw [if_pos g, if_pos g]
  · rw [if_neg g, if_neg g]
set_option maxHeartbeats 4000000 in
theorem pr_take (n : Nat) (a : Int32) : oPair n (f_X8_take a) (f_X9_take a) := by
  intro S h
  have h0 := h
  obtain ⟨p1, p2, p3, p4, p5, p6, p7⟩ := h.up
  obtain ⟨⟨a1, a2⟩, a3, a4, a5, a6, a7⟩ := id p4
  by_cases ha : 0 ≤ a ∧ a ≤ S.1 1000 0 24 - 1
  · obtain ⟨l, hl, rfl⟩ := bel_nat a2 ha
    obtain ⟨c, c1, c2, c3, c4, c5, c6, c7⟩ := lo_facts p3 p4
    obtain ⟨k, h8, hks, hkk⟩ := c5 l (by omega)
    have hX := out_X p4 (l := l) (by omega)
    have hM := isInside_ok (S := S) (i := l) (by omega)
    rcases ring_cases (a5 l hl).2.2 with hr | ⟨p, hp, hr⟩
    · refine pair_id (r := -3) h0 ?_ ?_
      · simp only [f_X8_take, hsL, Option.bind_some, a1, if_pos ha, if10, hX, hr, if_true]
      · have z : lIn S l = 0 := by unfold lIn; rw [hr, if_pos rfl]
        simp only [f_X9_take, hsLM, Option.bind_some, if_pos ha, if10, hM, z, if_true]
    · have z : lIn S l = 1 := by unfold lIn; rw [hr, if_neg (n_m1 hp)]
      have hX2 := mayLeave_X p3 p4 c2 c1 (by omega) hp hr h8 hks hkk
      rcases goB_01 S c l p with hg | hg
      · obtain ⟨o, cc, g, hM2⟩ := canGo_M (T := S) p3 p4 rfl rfl rfl rfl rfl c2 c1 (by omega) hp hr
        refine ⟨-3, S, cmS S o cc g, ?_, ?_, ⟨p1, p2, p3, p4, p5, p6, p7⟩⟩
        · simp only [f_X8_take, hsL, Option.bind_some, a1, if_pos ha, if10, hX, hr, if_neg (n_m1 hp), hX2, hg, if_true]
        · simp only [f_X9_take, hsLM, Option.bind_some, if_pos ha, if10, hM, z, hM2, hg, if_true]
      · have hd := drawOut_ok p3 p4 (l := l) (by omega) hp h8 hr hkk
        have main : ∀ d : Int32, f_X3_drawOut (nI l) S = some (rsB S k (S.1 1030 0 l) (S.1 1029 0 l) (S.1 1028 0 l), oStI (taX S l p k) 400 0 10 (S.1 400 0 10 + d)) → (∀ W : oS, (if rsB S k (S.1 1030 0 l) (S.1 1029 0 l) (S.1 1028 0 l) = 1 then f_X9_take_K86 (rsB S k (S.1 1030 0 l) (S.1 1029 0 l) (S.1 1028 0 l)) (S.1 1000 0 31) 1 W else f_X9_take_K86 (rsB S k (S.1 1030 0 l) (S.1 1029 0 l) (S.1 1028 0 l)) (S.1 1000 0 31) 0 W) = some (rsB S k (S.1 1030 0 l) (S.1 1029 0 l) (S.1 1028 0 l), oStI W 1000 0 31 (S.1 1000 0 31 + d))) → ∃ r S1 S2, f_X8_take (nI l) S = some (r, S1) ∧ f_X9_take (nI l) S1 = some (r, S2) ∧ Inv (n + 1) S2 := by
          intro d e1 e2
          obtain ⟨o, cc, g, hM2⟩ := canGo_M (T := oStI (taX S l p k) 400 0 10 (S.1 400 0 10 + d)) p3 p4 rfl rfl rfl rfl rfl c2 c1 (by omega) hp hr
          have hM' := isInside_ok (S := oStI (taX S l p k) 400 0 10 (S.1 400 0 10 + d)) (i := l) (by omega)
          have z' : lIn (oStI (taX S l p k) 400 0 10 (S.1 400 0 10 + d)) l = 1 := z
          refine ⟨rsB S k (S.1 1030 0 l) (S.1 1029 0 l) (S.1 1028 0 l), oStI (taX S l p k) 400 0 10 (S.1 400 0 10 + d), oStI (taM (cmS (oStI (taX S l p k) 400 0 10 (S.1 400 0 10 + d)) o cc g) l) 1000 0 31 (S.1 1000 0 31 + d), ?_, ?_, ⟨p1, ⟨p2.1, rfl, Or.inr rfl, p2.2.2.2⟩, p3, ta_loa p3 p4 c2 c1 (by omega) hp hr h8 hks hkk rfl, ?_, p6, p7⟩⟩
          · simp only [f_X8_take, hsL, Option.bind_some, a1, if_pos ha, if10, hX, hr, if_neg (n_m1 hp), hX2, hg, if_true, e1]
          · have ha' : 0 ≤ nI l ∧ nI l ≤ (oStI (taX S l p k) 400 0 10 (S.1 400 0 10 + d)).1 1000 0 24 - 1 := ha
            have hin : oIn (nI l) 200 := (nin (by omega)).mpr (by omega)
            simp only [f_X9_take, hsLM, Option.bind_some, if_pos ha', if10, hM', z', hM2, hg]
            rw [if_pos hin]
            show (if oIn (nI l) 200 then _ else none) = _
            rw [if_pos hin, if_pos hin, if_pos hin, if_pos hin]
            have ew : oStI (oStI (cmS (oStI (taX S l p k) 400 0 10 (S.1 400 0 10 + d)) o cc g) 1027 0 (nI l).toNatClampNeg (-1)) 1000 0 12 1 = taM (cmS (oStI (taX S l p k) 400 0 10 (S.1 400 0 10 + d)) o cc g) l := by rw [ncl (by omega)]; rfl
            rw [ew]
            show (f_X9_resultOf (S.1 1026 0 (nI l).toNatClampNeg) (S.1 1030 0 (nI l).toNatClampNeg) (S.1 1029 0 (nI l).toNatClampNeg) (S.1 1028 0 (nI l).toNatClampNeg) (taM (cmS (oStI (taX S l p k) 400 0 10 (S.1 400 0 10 + d)) o cc g) l)).bind _ = _
            rw [ncl (show l < 2147483648 by omega), hkk, result_M h8, Option.bind_some]
            exact e2 _
          · obtain ⟨q1, q2, q3, q4, q5, q6⟩ := p5
            refine ⟨q1, q2, q3, q4, q5, fun j i hj1 hj2 hi => ?_⟩
            show (ldS S p (S.1 300 p 0 + -1 * kBg S k) (S.1 300 p 1 + -1 * kOn S k) (S.1 300 p 2 + -1 * kCr S k)).1 300 j i = 0
            rw [ldS_1, if_neg (fun z => by have := z.2; omega)]
            exact q6 j i hj1 hj2 hi
        by_cases gr : rsB S k (S.1 1030 0 l) (S.1 1029 0 l) (S.1 1028 0 l) = 1
        · refine main 1 ?_ (fun W => by rw [if_pos gr]; rfl)
          rw [hd, if_pos gr]
        · refine main 0 ?_ (fun W => by rw [if_neg gr]; rfl)
          rw [hd, if_neg gr]
          have : oStI (taX S l p k) 400 0 10 (S.1 400 0 10 + 0) = taX S l p k := st_same (by rw [Int32.add_zero]; rfl)
          rw [this]
  · refine pair_id (r := -2) h0 ?_ ?_
    · simp only [f_X8_take, hsL, Option.bind_some, a1, if_neg ha, if_true]
    · simp only [f_X9_take, hsLM, Option.bind_some, if_neg ha, if_true]
