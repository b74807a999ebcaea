def moX (S : oS) (l p q k : Nat) : oS := oStI (oStI (ldS (ldS S p (S.1 300 p 0 + -1 * kBg S k) (S.1 300 p 1 + -1 * kOn S k) (S.1 300 p 2 + -1 * kCr S k)) q (S.1 300 q 0 + 1 * kBg S k) (S.1 300 q 1 + 1 * kOn S k) (S.1 300 q 2 + 1 * kCr S k)) 404 0 l (nI q)) 400 0 12 1
def moM (S : oS) (l q : Nat) : oS := oStI (oStI S 1027 0 l (nI q)) 1000 0 12 1
theorem shift_ok {S : oS} (hl : iLoa S) {l p q k : Nat} (h2 : l < 200) (hp : p < 4) (hq : q < 4) (hpq : q ≠ p) (h8 : k < 8) (hr : S.1 1027 0 l = nI p) (hkk : S.1 1026 0 l = nI k) : f_X3_shift (nI l) (nI q) S = some (nI p, moX S l p q k) := by
  have hin : oIn (nI l) 200 := (nin (by omega)).mpr h2
  have el : (nI l).toNatClampNeg = l := ncl (by omega)
  have e0 : 0 + (nI p).toNatClampNeg = p := by rw [ncl (by omega)]; omega
  have e0' : 0 + (nI q).toNatClampNeg = q := by rw [ncl (by omega)]; omega
  obtain ⟨-, a3, -⟩ := hl
  obtain ⟨y1, y2, y3, y4, y5, y6⟩ := a3 l
  have e1 : S.1 404 0 (nI l).toNatClampNeg = nI p := by rw [el, y2, hr]
  have e2 : S.1 403 0 (nI l).toNatClampNeg = nI k := by rw [el, y1, hkk]
  unfold f_X3_shift
  rw [if_pos hin, e1]
  show (if oIn (nI p) 4 then _ else none) = _
  rw [if_pos ((nin (by omega)).mpr hp)]
  show (if oIn (nI l) 200 then (f_X2_change (0 + (nI p).toNatClampNeg) (S.1 403 0 (nI l).toNatClampNeg) (-1) S).bind _ else none) = _
  rw [if_pos hin, e2, e0, change_ok h8, Option.bind_some, if_pos ((nin (by omega)).mpr hq)]
  show (if oIn (nI l) 200 then (f_X2_change (0 + (nI q).toNatClampNeg) (S.1 403 0 (nI l).toNatClampNeg) 1 (ldS S p (S.1 300 p 0 + -1 * kBg S k) (S.1 300 p 1 + -1 * kOn S k) (S.1 300 p 2 + -1 * kCr S k))).bind _ else none) = _
  rw [if_pos hin, e2, e0', change_ok h8, Option.bind_some, if_pos hin, el]
  have v : ∀ i, (ldS S p (S.1 300 p 0 + -1 * kBg S k) (S.1 300 p 1 + -1 * kOn S k) (S.1 300 p 2 + -1 * kCr S k)).1 300 q i = S.1 300 q i := fun i => by rw [ldS_1, if_neg (fun z => hpq z.2)]
  rw [v 0, v 1, v 2]
  rfl
set_option maxHeartbeats 4000000 in
theorem mo_loa {S T : oS} (hk : iKin S) (hl : iLoa S) {c l p q k : Nat} (hc : S.1 1000 0 24 = nI c) (h2 : c ≤ 200) (hlc : l < c) (hp : p < 4) (hq : q < 4) (hpq : q ≠ p) (hr : S.1 1027 0 l = nI p) (h8 : k < 8) (hks : (k : Int) < (S.1 1000 0 13).toInt) (hkk : S.1 1026 0 l = nI k) {o cc g : Int32} (hT : T = moM (cmS (moX S l p q k) o cc g) l q) : iLoa T := by
  have hl0 := hl
  obtain ⟨⟨a1, a2⟩, a3, a4, a5, a6, a7⟩ := hl
  obtain ⟨d1, d2, d3, d4, d5⟩ := kd_eq hk hks
  have hi : lIn S l = 1 := by unfold lIn; rw [hr, if_neg (n_m1 hp)]
  have e27 : ∀ k', T.1 1027 0 k' = if k' = l then nI q else S.1 1027 0 k' := by
    intro k'
    rw [hT]
    show (if 1027 = 1027 ∧ 0 = 0 ∧ k' = l then nI q else S.1 1027 0 k') = _
    by_cases h : k' = l <;> simp [h]
  have x27 : ∀ k', T.1 404 0 k' = if k' = l then nI q else S.1 404 0 k' := by
    intro k'
    rw [hT]
    show (if 404 = 404 ∧ 0 = 0 ∧ k' = l then nI q else S.1 404 0 k') = _
    by_cases h : k' = l <;> simp [h]
  have tl : T.1 1027 0 l = nI q := by rw [e27, if_pos rfl]
  have hTi : lIn T l = 1 := by unfold lIn; rw [tl, if_neg (n_m1 hq)]
  have t9 : T.1 400 0 9 = S.1 400 0 9 := by rw [hT]; rfl
  have t26 : T.1 1026 0 = S.1 1026 0 := by rw [hT]; rfl
  have t15 : T.1 1015 0 = S.1 1015 0 := by rw [hT]; rfl
  have t16 : T.1 1016 0 = S.1 1016 0 := by rw [hT]; rfl
  refine loa_ring hk hl0 (l := l) (v := nI q) (by rw [hc, nT (by omega)]; omega) ⟨by rw [nT (by omega)]; omega, by rw [nT (by omega)]; omega⟩ (by rw [hT]; rfl) (by rw [hT]; rfl) ?_ (by rw [hT]; rfl) t26 (by rw [hT]; rfl) ?_ t15 t16 e27 x27 ?_ ?_ ?_
  · rw [hT]
    exact a4
  · intro k'
    obtain ⟨y1, y2, y3, y4, y5, y6⟩ := a3 k'
    refine ⟨?_, ?_, ?_, ?_⟩ <;> rw [hT]
    · exact y3
    · exact y4
    · exact y5
    · exact y6
  · rw [t9, hi, hTi]; grind
  · rw [t9]; exact a6.2
  · intro r hr'
    have v : ∀ i, T.1 300 r i = (ldS (ldS S p (S.1 300 p 0 + -1 * kBg S k) (S.1 300 p 1 + -1 * kOn S k) (S.1 300 p 2 + -1 * kCr S k)) q (S.1 300 q 0 + 1 * kBg S k) (S.1 300 q 1 + 1 * kOn S k) (S.1 300 q 2 + 1 * kCr S k)).1 300 r i := fun i => by rw [hT]; rfl
    have m : ∀ x y : Int32, x + -1 * y = x - y + 0 := fun x y => by grind
    have m' : ∀ x y : Int32, x + 1 * y = x - 0 + y := fun x y => by grind
    have m0 : ∀ x : Int32, x = x - 0 + 0 := fun x => by grind
    have sz : r ≠ p → lBig S (nI r) l = 0 ∧ lOne S (nI r) l = 0 ∧ lCro S (nI r) l = 0 := by
      intro h
      have w : ¬ S.1 1027 0 l = nI r := by rw [hr]; exact fun z => h ((nI_eq (by omega) (by omega)).mp z).symm
      exact ⟨by unfold lBig; exact if_neg w, by unfold lOne; exact if_neg w, by unfold lCro; exact if_neg w⟩
    have tz : r ≠ q → lBig T (nI r) l = 0 ∧ lOne T (nI r) l = 0 ∧ lCro T (nI r) l = 0 := by
      intro h
      have w : ¬ T.1 1027 0 l = nI r := by rw [tl]; exact fun z => h ((nI_eq (by omega) (by omega)).mp z).symm
      exact ⟨by unfold lBig; exact if_neg w, by unfold lOne; exact if_neg w, by unfold lCro; exact if_neg w⟩
    by_cases h : r = q
    · subst h
      obtain ⟨z1, z2, z3⟩ := sz hpq
      obtain ⟨w1, w2, w3⟩ := l_parts tl
      have wb : mBg T k = mBg S k := by unfold mBg; rw [t15]
      have wo : mOn T k = mOn S k := by unfold mOn; rw [t15]
      have wc : mCr T k = mCr S k := by unfold mCr; rw [t16]
      rw [t26, hkk, ncl (by omega)] at w1 w2 w3
      rw [v 0, v 1, v 2, z1, z2, z3, w1, w2, w3, wb, wo, wc, ldS_r.1, ldS_r.2.1, ldS_r.2.2, d1, d2, d3, m', m', m']
      exact ⟨rfl, rfl, rfl⟩
    · obtain ⟨w1, w2, w3⟩ := tz h
      have v2 : ∀ i, T.1 300 r i = (ldS S p (S.1 300 p 0 + -1 * kBg S k) (S.1 300 p 1 + -1 * kOn S k) (S.1 300 p 2 + -1 * kCr S k)).1 300 r i := fun i => by rw [v i, ldS_1, if_neg (fun z => h z.2)]
      rw [v2 0, v2 1, v2 2, w1, w2, w3]
      by_cases h' : r = p
      · subst h'
        obtain ⟨z1, z2, z3⟩ := l_parts hr
        rw [hkk, ncl (by omega)] at z1 z2 z3
        rw [ldS_r.1, ldS_r.2.1, ldS_r.2.2, z1, z2, z3, d1, d2, d3, m, m, m]
        exact ⟨rfl, rfl, rfl⟩
      · obtain ⟨z1, z2, z3⟩ := sz h'
        rw [ldS_1, ldS_1, ldS_1, if_neg (fun z => h' z.2), if_neg (fun z => h' z.2), if_neg (fun z => h' z.2), z1, z2, z3]
        exact ⟨m0 _, m0 _, m0 _⟩
set_option maxHeartbeats 4000000 in
theorem pr_move (n : Nat) (a b : Int32) : oPair n (f_X8_move a b) (f_X9_move a b) := by
  intro S h
  have h0 := h
  obtain ⟨p1, p2, p3, p4, p5, p6, p7⟩ := h.up
  obtain ⟨⟨a1, a2⟩, a3, a4, a5, a6, a7⟩ := id p4
  by_cases ha : 0 ≤ a ∧ a ≤ S.1 1000 0 24 - 1
  · by_cases hb : (0 : Int32) ≤ b ∧ b ≤ 3
    · obtain ⟨l, hl, rfl⟩ := bel_nat a2 ha
      obtain ⟨q, hq, rfl⟩ := wk_nat (m := 3) rfl hb
      have hq4 : q < 4 := by omega
      obtain ⟨c, c1, c2, c3, c4, c5, c6, c7⟩ := lo_facts p3 p4
      obtain ⟨k, h8, hks, hkk⟩ := c5 l (by omega)
      have hlc : l < c := by omega
      have hin : oIn (nI l) 200 := (nin (by omega)).mpr (by omega)
      have el : (nI l).toNatClampNeg = l := ncl (by omega)
      have eX : S.1 404 0 (nI l).toNatClampNeg = S.1 1027 0 l := by rw [el, (a3 l).2.1]
      have eM : S.1 1027 0 (nI l).toNatClampNeg = S.1 1027 0 l := by rw [el]
      have kX : S.1 403 0 (nI l).toNatClampNeg = nI k := by rw [el, (a3 l).1, hkk]
      have kM : S.1 1026 0 (nI l).toNatClampNeg = nI k := by rw [el, hkk]
      have hX := out_X p4 (l := l) (by omega)
      have hM := isInside_ok (S := S) (i := l) (by omega)
      rcases ring_cases (a5 l hl).2.2 with hr | ⟨p, hp, hr⟩
      · have nq : ¬ S.1 1027 0 l = nI q := by rw [hr]; exact fun z => n_m1 hq4 z.symm
        refine pair_id (r := -3) h0 ?_ ?_
        · simp only [f_X8_move, hsL, rgX, Option.bind_some, a1, if_pos ha, if_pos hb, if10]
          rw [if_pos hin, eX, if_neg nq, hX, Option.bind_some, if_pos hr]
          rfl
        · have z : lIn S l = 0 := by unfold lIn; rw [hr, if_pos rfl]
          simp only [f_X9_move, hsLM, rgM, Option.bind_some, if_pos ha, if_pos hb, if10]
          rw [if_pos hin, eM, if_neg nq, hM, Option.bind_some, z]
          rfl
      · by_cases hpq : q = p
        · subst hpq
          refine pair_id (r := -2) h0 ?_ ?_
          · simp only [f_X8_move, hsL, rgX, Option.bind_some, a1, if_pos ha, if_pos hb, if10]
            rw [if_pos hin, eX, if_pos hr]
          · simp only [f_X9_move, hsLM, rgM, Option.bind_some, if_pos ha, if_pos hb, if10]
            rw [if_pos hin, eM, if_pos hr]
        · have nq : ¬ S.1 1027 0 l = nI q := by rw [hr]; exact fun z => hpq ((nI_eq (by omega) (by omega)).mp z).symm
          have n1 : ¬ S.1 1027 0 l = -1 := by rw [hr]; exact n_m1 hp
          have z : lIn S l = 1 := by unfold lIn; rw [if_neg n1]
          have hfX := fits_X p3 p4 (q := q) (k := k) hq4 h8 hks
          have hfM := hasRoom_M (T := S) p3 p4 rfl rfl rfl rfl rfl (q := q) (k := k) hq4 h8
          have hX2 := mayLeave_X p3 p4 c2 c1 hlc hp hr h8 hks hkk
          rcases fitB_01 S q k with hz | hz
          · refine ⟨-3, S, cmS S (S.1 300 q 1 + mOn S k) (S.1 300 q 2 + mCr S k) (S.1 300 q 0 + mBg S k), ?_, ?_, ⟨p1, p2, p3, p4, p5, p6, p7⟩⟩
            · simp only [f_X8_move, hsL, rgX, Option.bind_some, a1, if_pos ha, if_pos hb, if10]
              rw [if_pos hin, eX, if_neg nq, hX, Option.bind_some, if_neg n1, if_pos rfl, if_pos hin, kX, hfX, Option.bind_some, hz]
              rfl
            · simp only [f_X9_move, hsLM, rgM, Option.bind_some, if_pos ha, if_pos hb, if10]
              rw [if_pos hin, eM, if_neg nq, hM, Option.bind_some, z, if10, if_pos hin, kM, hfM, Option.bind_some, hz]
              rfl
          · rcases goB_01 S c l p with hg | hg
            · obtain ⟨o, cc, g, hM2⟩ := canGo_M (T := cmS S (S.1 300 q 1 + mOn S k) (S.1 300 q 2 + mCr S k) (S.1 300 q 0 + mBg S k)) p3 p4 rfl rfl rfl rfl rfl c2 c1 hlc hp hr
              refine ⟨-3, S, cmS (cmS S (S.1 300 q 1 + mOn S k) (S.1 300 q 2 + mCr S k) (S.1 300 q 0 + mBg S k)) o cc g, ?_, ?_, ⟨p1, p2, p3, p4, p5, p6, p7⟩⟩
              · simp only [f_X8_move, hsL, rgX, Option.bind_some, a1, if_pos ha, if_pos hb, if10]
                rw [if_pos hin, eX, if_neg nq, hX, Option.bind_some, if_neg n1, if_pos rfl, if_pos hin, kX, hfX, Option.bind_some, hz, if10, hX2, Option.bind_some, hg]
                rfl
              · simp only [f_X9_move, hsLM, rgM, Option.bind_some, if_pos ha, if_pos hb, if10]
                rw [if_pos hin, eM, if_neg nq, hM, Option.bind_some, z, if10, if_pos hin, kM, hfM, Option.bind_some, hz, if10, hM2, Option.bind_some, hg]
                rfl
            · have hsh := shift_ok (S := S) p4 (l := l) (by omega) hp hq4 hpq h8 hr hkk
              have hfM' := hasRoom_M (T := moX S l p q k) p3 p4 rfl rfl rfl rfl rfl (q := q) (k := k) hq4 h8
              obtain ⟨o, cc, g, hM2⟩ := canGo_M (T := cmS (moX S l p q k) (S.1 300 q 1 + mOn S k) (S.1 300 q 2 + mCr S k) (S.1 300 q 0 + mBg S k)) p3 p4 rfl rfl rfl rfl rfl c2 c1 hlc hp hr
              have hM' := isInside_ok (S := moX S l p q k) (i := l) (by omega)
              have z' : lIn (moX S l p q k) l = 1 := z
              refine ⟨nI p, moX S l p q k, moM (cmS (cmS (moX S l p q k) (S.1 300 q 1 + mOn S k) (S.1 300 q 2 + mCr S k) (S.1 300 q 0 + mBg S k)) o cc g) l q, ?_, ?_, ⟨p1, ⟨p2.1, rfl, Or.inr rfl, p2.2.2.2⟩, p3, ?_, ?_, p6, p7⟩⟩
              · simp only [f_X8_move, hsL, rgX, Option.bind_some, a1, if_pos ha, if_pos hb, if10]
                rw [if_pos hin, eX, if_neg nq, hX, Option.bind_some, if_neg n1, if_pos rfl, if_pos hin, kX, hfX, Option.bind_some, hz, if10, hX2, Option.bind_some, hg, if10, hsh]
                rfl
              · have ha' : 0 ≤ nI l ∧ nI l ≤ (moX S l p q k).1 1000 0 24 - 1 := ha
                have eM' : (moX S l p q k).1 1027 0 (nI l).toNatClampNeg = S.1 1027 0 l := eM
                have kM' : (moX S l p q k).1 1026 0 (nI l).toNatClampNeg = nI k := kM
                simp only [f_X9_move, hsLM, rgM, Option.bind_some, if_pos ha', if_pos hb, if10]
                rw [if_pos hin, eM', if_neg nq, hM', Option.bind_some, z', if10, if_pos hin, kM', hfM', Option.bind_some, hz, if10, hM2, Option.bind_some, hg, if10, if_pos hin]
                show (if oIn (nI l) 200 then some (S.1 1027 0 (nI l).toNatClampNeg, _) else none) = _
                rw [if_pos hin, el, hr]
                rfl
              · exact mo_loa p3 p4 c2 c1 hlc hp hq4 hpq hr h8 hks hkk (o := o) (cc := cc) (g := g) (by
                  refine cmS_ext rfl (fun t j i => ?_)
                  show (moM (cmS (cmS (moX S l p q k) _ _ _) o cc g) l q).1 t j i = _
                  simp only [moM, cmS, oStI]
                  grind)
              · obtain ⟨q1, q2, q3, q4, q5, q6⟩ := p5
                refine ⟨q1, q2, q3, q4, q5, fun j i hj1 hj2 hi => ?_⟩
                show (ldS (ldS S p (S.1 300 p 0 + -1 * kBg S k) (S.1 300 p 1 + -1 * kOn S k) (S.1 300 p 2 + -1 * kCr S k)) q (S.1 300 q 0 + 1 * kBg S k) (S.1 300 q 1 + 1 * kOn S k) (S.1 300 q 2 + 1 * kCr S k)).1 300 j i = 0
                rw [ldS_1, if_neg (fun z => by have := z.2; omega), ldS_1, if_neg (fun z => by have := z.2; omega)]
                exact q6 j i hj1 hj2 hi
    · refine pair_id (r := -2) h0 ?_ ?_
      · simp only [f_X8_move, hsL, rgX, Option.bind_some, a1, if_pos ha, if_neg hb, if10, if_true]
      · simp only [f_X9_move, hsLM, rgM, Option.bind_some, if_pos ha, if_neg hb, if10, if_true]
  · refine pair_id (r := -2) h0 ?_ ?_
    · simp only [f_X8_move, hsL, Option.bind_some, a1, if_neg ha, if_true]
    · simp only [f_X9_move, hsLM, Option.bind_some, if_neg ha, if_true]
