/-- the reference reads its own cells alone -/
theorem ring_M {S T : oS} (hk : iKin S) (hl : iLoa S) (e24 : T.1 1000 0 24 = S.1 1000 0 24) (e26 : T.1 1026 0 = S.1 1026 0) (e27 : T.1 1027 0 = S.1 1027 0) (e15 : T.1 1015 0 = S.1 1015 0) (e16 : T.1 1016 0 = S.1 1016 0) {q : Nat} (hq : q < 4) : f_X9_countRing (nI q) (-1) T = some (cmS T (S.1 300 q 1) (S.1 300 q 2) (S.1 300 q 0)) := by
  obtain ⟨c, c1, c2, c3, c4, c5, c6, c7⟩ := lo_facts hk hl
  obtain ⟨f0, f1, f2⟩ := c6 q hq
  have g1 : lOne T (nI q) = lOne S (nI q) := by funext l; unfold lOne; rw [e27, e26, e15]
  have g2 : lCro T (nI q) = lCro S (nI q) := by funext l; unfold lCro; rw [e27, e26, e16]
  have g3 : lBig T (nI q) = lBig S (nI q) := by funext l; unfold lBig; rw [e27, e26, e15]
  rw [countRing_ok (e24.trans c2) c1 (fun l hl => by obtain ⟨k, k1, -, k2⟩ := c5 l hl; exact ⟨k, k1, by rw [e26]; exact k2⟩), lB_none c1, lB_none c1, lB_none c1, g1, g2, g3, f0, f1, f2]
theorem hasRoom_M {S T : oS} (hk : iKin S) (hl : iLoa S) (e24 : T.1 1000 0 24 = S.1 1000 0 24) (e26 : T.1 1026 0 = S.1 1026 0) (e27 : T.1 1027 0 = S.1 1027 0) (e15 : T.1 1015 0 = S.1 1015 0) (e16 : T.1 1016 0 = S.1 1016 0) {q k : Nat} (hq : q < 4) (h8 : k < 8) : f_X9_hasRoom (nI q) (nI k) T = some (fitB S q k, cmS T (S.1 300 q 1 + mOn S k) (S.1 300 q 2 + mCr S k) (S.1 300 q 0 + mBg S k)) := by
  unfold f_X9_hasRoom
  rw [ring_M hk hl e24 e26 e27 e15 e16 hq, Option.bind_some, countKind_ok h8, Option.bind_some, used_ok, Option.bind_some, roomOf_ok _ hq, Option.bind_some]
  have a1 : mOn T k = mOn S k := by unfold mOn; rw [e15]
  have a2 : mCr T k = mCr S k := by unfold mCr; rw [e16]
  have a3 : mBg T k = mBg S k := by unfold mBg; rw [e15]
  rw [a1, a2, a3]
  unfold fitB
  show (if oROOM q < usM _ _ _ then _ else _) = _
  by_cases g : oROOM q < usM (S.1 300 q 0 + mBg S k) (S.1 300 q 1 + mOn S k) (S.1 300 q 2 + mCr S k)
  · rw [if_pos g, if_pos g]
  · rw [if_neg g, if_neg g]
theorem inside_M {S T : oS} (hk : iKin S) (hl : iLoa S) (e24 : T.1 1000 0 24 = S.1 1000 0 24) (e27 : T.1 1027 0 = S.1 1027 0) : f_X9_inside T = some (S.1 400 0 9, T) := by
  obtain ⟨c, c1, c2, c3, c4, c5, c6, c7⟩ := lo_facts hk hl
  rw [inside_ok (e24.trans c2) c1, c7]
  have : lIn T = lIn S := by funext l; unfold lIn; rw [e27]
  rw [this]
theorem ldS_r {S : oS} {j : Nat} {b o c : Int32} : (ldS S j b o c).1 300 j 0 = b ∧ (ldS S j b o c).1 300 j 1 = o ∧ (ldS S j b o c).1 300 j 2 = c := ⟨by rw [ldS_1, if_pos ⟨rfl, rfl⟩]; rfl, by rw [ldS_1, if_pos ⟨rfl, rfl⟩]; rfl, by rw [ldS_1, if_pos ⟨rfl, rfl⟩]; rfl⟩
def puX (S : oS) (c k q : Nat) : oS := oStI (oStI (oStI (ldS (oStI (oStI S 403 0 c (nI k)) 404 0 c (nI q)) q (S.1 300 q 0 + 1 * kBg S k) (S.1 300 q 1 + 1 * kOn S k) (S.1 300 q 2 + 1 * kCr S k)) 400 0 9 (S.1 400 0 9 + 1)) 400 0 12 1) 400 0 8 (nI c + 1)
def puM (S : oS) (c k q : Nat) : oS := oStI (oStI (oStI (oStI S 1026 0 c (nI k)) 1027 0 c (nI q)) 1000 0 24 (nI c + 1)) 1000 0 12 1
theorem layIn_ok {S : oS} {c k q : Nat} (hc : S.1 400 0 8 = nI c) (h2 : c < 200) (hk : k < 8) (hq : q < 4) : f_X3_layIn (nI k) (nI q) S = some (nI c + 1 - 1, puX S c k q) := by
  have hin : oIn (nI c) 200 := (nin (by omega)).mpr h2
  have hq4 : oIn (nI q) 4 := (nin (by omega)).mpr hq
  have e0 : 0 + (nI q).toNatClampNeg = q := by rw [ncl (by omega)]; omega
  have ec : (nI c).toNatClampNeg = c := ncl (by omega)
  unfold f_X3_layIn
  rw [hc, if_pos hin]
  show (if oIn (S.1 400 0 8) 200 then _ else none) = _
  rw [hc, if_pos hin]
  show (if oIn (nI q) 4 then _ else none) = _
  rw [if_pos hq4, ec]
  show (f_X2_change (0 + (nI q).toNatClampNeg) (nI k) 1 (oStI (oStI S 403 0 c (nI k)) 404 0 (S.1 400 0 8).toNatClampNeg (nI q))).bind _ = _
  rw [hc, ec, e0, change_ok hk, Option.bind_some]
  unfold puX
  rw [← hc]
  rfl
theorem cSum_s (F : Nat → Int32) (n : Nat) : cSum F (n + 1) = cSum F n + F n := rfl
set_option maxHeartbeats 4000000 in
theorem put_loa {S T : oS} {c k q : Nat} (hk : iKin S) (hl : iLoa S) (hc : S.1 1000 0 24 = nI c) (h2 : c < 200) (h8 : k < 8) (hks : (k : Int) < (S.1 1000 0 13).toInt) (hq : q < 4) (h12 : (S.1 400 0 9).toInt < 12) (o cc g : Int32) (hT : T = puM (cmS (puX S c k q) o cc g) c k q) : iLoa T := by
  obtain ⟨c', b1, b2, b3, b4, b5, b6, b7⟩ := lo_facts hk hl
  have hcc : c' = c := by rw [hc] at b2; exact ((nI_eq (by omega) (by omega)).mp b2).symm
  subst hcc
  obtain ⟨d1, d2, d3, d4, d5⟩ := kd_eq hk hks
  obtain ⟨⟨a1, a2⟩, a3, a4, a5, a6, a7⟩ := hl
  have e24 : T.1 1000 0 24 = nI (c' + 1) := by rw [hT, ← nI_1]; rfl
  have t24 : (T.1 1000 0 24).toInt.toNat = c' + 1 := by rw [e24, nT (by omega)]; omega
  have t24' : (T.1 1000 0 24).toInt = c' + 1 := by rw [e24, nT (by omega)]; omega
  have e26 : ∀ l, T.1 1026 0 l = if l = c' then nI k else S.1 1026 0 l := by
    intro l
    rw [hT]
    show (if 1026 = 1026 ∧ 0 = 0 ∧ l = c' then nI k else S.1 1026 0 l) = _
    by_cases h : l = c' <;> simp [h]
  have e27 : ∀ l, T.1 1027 0 l = if l = c' then nI q else S.1 1027 0 l := by
    intro l
    rw [hT]
    show (if 1027 = 1027 ∧ 0 = 0 ∧ l = c' then nI q else S.1 1027 0 l) = _
    by_cases h : l = c' <;> simp [h]
  have x26 : ∀ l, T.1 403 0 l = if l = c' then nI k else S.1 403 0 l := by
    intro l
    rw [hT]
    show (if 403 = 403 ∧ 0 = 0 ∧ l = c' then nI k else S.1 403 0 l) = _
    by_cases h : l = c' <;> simp [h]
  have x27 : ∀ l, T.1 404 0 l = if l = c' then nI q else S.1 404 0 l := by
    intro l
    rw [hT]
    show (if 404 = 404 ∧ 0 = 0 ∧ l = c' then nI q else S.1 404 0 l) = _
    by_cases h : l = c' <;> simp [h]
  have e15 : T.1 1015 0 = S.1 1015 0 := by rw [hT]; rfl
  have e16 : T.1 1016 0 = S.1 1016 0 := by rw [hT]; rfl
  have e13 : T.1 1000 0 13 = S.1 1000 0 13 := by rw [hT]; rfl
  have nq : ¬ nI q = -1 := fun z => by rw [i_eq, nT (by omega)] at z; have : (-1 : Int32).toInt = -1 := rfl; omega
  refine ⟨⟨by rw [e24, hT, ← nI_1]; rfl, by rw [e24]; exact ⟨by rw [nT (by omega)]; omega, by rw [nT (by omega)]; omega⟩⟩, ?_, ?_, ?_, ⟨?_, ?_⟩, ?_⟩
  · intro l
    obtain ⟨y1, y2, y3, y4, y5, y6⟩ := a3 l
    rw [e26, e27, x26, x27, y1, y2]
    refine ⟨rfl, rfl, ?_, ?_, ?_, ?_⟩ <;> rw [hT]
    · exact y3
    · exact y4
    · exact y5
    · exact y6
  · rw [hT]; exact a4
  · intro l hl'
    rw [t24'] at hl'
    rw [e26, e27, e13]
    by_cases h : l = c'
    · rw [if_pos h, if_pos h, nT (by omega)]
      exact ⟨by omega, hks, by rw [nT (by omega)]; omega, by rw [nT (by omega)]; omega⟩
    · rw [if_neg h, if_neg h]
      exact a5 l (by omega)
  · rw [t24, cSum_s]
    have z1 : cSum (lIn T) c' = cSum (lIn S) c' := cSum_cg (fun l hl' => by unfold lIn; rw [e27, if_neg (show ¬ l = c' by omega)])
    have z2 : lIn T c' = 1 := by unfold lIn; rw [e27, if_pos rfl, if_neg nq]
    rw [z1, z2, ← b7, hT]
    rfl
  · have z : T.1 400 0 9 = S.1 400 0 9 + 1 := by rw [hT]; rfl
    rw [z]
    exact (ct_up a6.2 h12 (by decide)).2
  · intro r hr
    rw [t24, cSum_s, cSum_s, cSum_s]
    obtain ⟨f0, f1, f2⟩ := b6 r hr
    have z1 : cSum (lBig T (nI r)) c' = cSum (lBig S (nI r)) c' := cSum_cg (fun l hl' => by unfold lBig; rw [e27, if_neg (show ¬ l = c' by omega), e26, if_neg (show ¬ l = c' by omega), e15])
    have z2 : cSum (lOne T (nI r)) c' = cSum (lOne S (nI r)) c' := cSum_cg (fun l hl' => by unfold lOne; rw [e27, if_neg (show ¬ l = c' by omega), e26, if_neg (show ¬ l = c' by omega), e15])
    have z3 : cSum (lCro T (nI r)) c' = cSum (lCro S (nI r)) c' := cSum_cg (fun l hl' => by unfold lCro; rw [e27, if_neg (show ¬ l = c' by omega), e26, if_neg (show ¬ l = c' by omega), e16])
    rw [z1, z2, z3, ← f0, ← f1, ← f2]
    have ek : (T.1 1026 0 c').toNatClampNeg = k := by rw [e26, if_pos rfl, ncl (by omega)]
    have o1 : ∀ x : Int32, (1 : Int32) * x = x := fun x => by grind
    by_cases hrq : r = q
    · subst hrq
      have w : T.1 1027 0 c' = nI r := by rw [e27, if_pos rfl]
      have y1 : lBig T (nI r) c' = mBg S k := by unfold lBig mBg; rw [if_pos w, ek, e15]
      have y2 : lOne T (nI r) c' = mOn S k := by unfold lOne mOn; rw [if_pos w, ek, e15]
      have y3 : lCro T (nI r) c' = mCr S k := by unfold lCro mCr; rw [if_pos w, ek, e16]
      rw [y1, y2, y3, ← d1, ← d2, ← d3, hT]
      have v : ∀ i, i < 3 → (puM (cmS (puX S c' k r) o cc g) c' k r).1 300 r i = (ldS (oStI (oStI S 403 0 c' (nI k)) 404 0 c' (nI r)) r (S.1 300 r 0 + 1 * kBg S k) (S.1 300 r 1 + 1 * kOn S k) (S.1 300 r 2 + 1 * kCr S k)).1 300 r i := fun i _ => rfl
      rw [v 0 (by omega), v 1 (by omega), v 2 (by omega), ldS_r.1, ldS_r.2.1, ldS_r.2.2, o1, o1, o1]
      exact ⟨rfl, rfl, rfl⟩
    · have w : ¬ T.1 1027 0 c' = nI r := by rw [e27, if_pos rfl]; exact fun z => hrq ((nI_eq (by omega) (by omega)).mp z).symm
      have y1 : lBig T (nI r) c' = 0 := by unfold lBig; exact if_neg w
      have y2 : lOne T (nI r) c' = 0 := by unfold lOne; exact if_neg w
      have y3 : lCro T (nI r) c' = 0 := by unfold lCro; exact if_neg w
      rw [y1, y2, y3, Int32.add_zero, Int32.add_zero, Int32.add_zero, hT]
      have v : ∀ i, (puM (cmS (puX S c' k q) o cc g) c' k q).1 300 r i = (ldS (oStI (oStI S 403 0 c' (nI k)) 404 0 c' (nI q)) q (S.1 300 q 0 + 1 * kBg S k) (S.1 300 q 1 + 1 * kOn S k) (S.1 300 q 2 + 1 * kCr S k)).1 300 r i := fun i => rfl
      rw [v 0, v 1, v 2, ldS_1, ldS_1, ldS_1, if_neg (fun z => hrq z.2), if_neg (fun z => hrq z.2), if_neg (fun z => hrq z.2)]
      exact ⟨rfl, rfl, rfl⟩
