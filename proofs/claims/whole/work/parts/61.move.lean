/-- may a loaf leave its ring: what is left without it keeps ROOM -/
def goB (S : oS) (c l p : Nat) : Int32 := if oROOM p < usM (cSum (lB (lBig S (nI p)) (nI l)) c) (cSum (lB (lOne S (nI p)) (nI l)) c) (cSum (lB (lCro S (nI p)) (nI l)) c) then 0 else 1
theorem goB_01 (S : oS) (c l p : Nat) : goB S c l p = 0 ∨ goB S c l p = 1 := by
  unfold goB
  by_cases g : oROOM p < usM (cSum (lB (lBig S (nI p)) (nI l)) c) (cSum (lB (lOne S (nI p)) (nI l)) c) (cSum (lB (lCro S (nI p)) (nI l)) c)
  · rw [if_pos g]; exact Or.inl rfl
  · rw [if_neg g]; exact Or.inr rfl
theorem canGo_M {S T : oS} (hk : iKin S) (hl : iLoa S) (e24 : T.1 1000 0 24 = S.1 1000 0 24) (e26 : T.1 1026 0 = S.1 1026 0) (e27 : T.1 1027 0 = S.1 1027 0) (e15 : T.1 1015 0 = S.1 1015 0) (e16 : T.1 1016 0 = S.1 1016 0) {c l p : Nat} (hc : S.1 1000 0 24 = nI c) (h2 : c ≤ 200) (hlc : l < c) (hp : p < 4) (hr : S.1 1027 0 l = nI p) : ∃ o cc g : Int32, f_X9_canGo (nI l) T = some (goB S c l p, cmS T o cc g) := by
  obtain ⟨c', b1, b2, b3, b4, b5, b6, b7⟩ := lo_facts hk hl
  have hcc : c' = c := by rw [hc] at b2; exact ((nI_eq (by omega) (by omega)).mp b2).symm
  subst hcc
  have g1 : lOne T (nI p) = lOne S (nI p) := by funext l; unfold lOne; rw [e27, e26, e15]
  have g2 : lCro T (nI p) = lCro S (nI p) := by funext l; unfold lCro; rw [e27, e26, e16]
  have g3 : lBig T (nI p) = lBig S (nI p) := by funext l; unfold lBig; rw [e27, e26, e15]
  have er : T.1 1027 0 (nI l).toNatClampNeg = nI p := by rw [ncl (by omega), e27, hr]
  refine ⟨cSum (lB (lOne S (nI p)) (nI l)) c', cSum (lB (lCro S (nI p)) (nI l)) c', cSum (lB (lBig S (nI p)) (nI l)) c', ?_⟩
  unfold f_X9_canGo
  rw [if_pos ((nin (by omega)).mpr (by omega))]
  show (f_X9_countRing (T.1 1027 0 (nI l).toNatClampNeg) (nI l) T).bind (fun zz2 => (f_X9_used zz2).bind fun zz3 => (f_X9_roomOf (T.1 1027 0 (nI l).toNatClampNeg) zz3.2).bind fun zz4 => if zz4.1 < zz3.1 then some ((0 : Int32), zz4.2) else some ((1 : Int32), zz4.2)) = _
  rw [er, countRing_ok (e24.trans hc) h2 (fun l hl => by obtain ⟨k, k1, -, k2⟩ := b5 l hl; exact ⟨k, k1, by rw [e26]; exact k2⟩), g1, g2, g3, Option.bind_some, used_ok, Option.bind_some, roomOf_ok _ hp, Option.bind_some]
  unfold goB
  show (if oROOM p < usM _ _ _ then _ else _) = _
  by_cases g : oROOM p < usM (cSum (lB (lBig S (nI p)) (nI l)) c') (cSum (lB (lOne S (nI p)) (nI l)) c') (cSum (lB (lCro S (nI p)) (nI l)) c')
  · rw [if_pos g, if_pos g]
  · rw [if_neg g, if_neg g]
theorem mayLeave_X {S : oS} (hk : iKin S) (hl : iLoa S) {c l p k : Nat} (hc : S.1 1000 0 24 = nI c) (h2 : c ≤ 200) (hlc : l < c) (hp : p < 4) (hr : S.1 1027 0 l = nI p) (h8 : k < 8) (hks : (k : Int) < (S.1 1000 0 13).toInt) (hkk : S.1 1026 0 l = nI k) : f_X3_mayLeave (nI l) S = some (goB S c l p, S) := by
  obtain ⟨c', b1, b2, b3, b4, b5, b6, b7⟩ := lo_facts hk hl
  have hcc : c' = c := by rw [hc] at b2; exact ((nI_eq (by omega) (by omega)).mp b2).symm
  subst hcc
  obtain ⟨d1, d2, d3, d4, d5⟩ := kd_eq hk hks
  obtain ⟨f0, f1, f2⟩ := b6 p hp
  obtain ⟨-, a3, -⟩ := hl
  have hin : oIn (nI l) 200 := (nin (by omega)).mpr (by omega)
  have e1 : S.1 404 0 (nI l).toNatClampNeg = nI p := by rw [ncl (by omega), (a3 l).2.1, hr]
  have e2 : S.1 403 0 (nI l).toNatClampNeg = nI k := by rw [ncl (by omega), (a3 l).1, hkk]
  obtain ⟨y1, y2, y3⟩ := l_parts hr
  rw [hkk, ncl (by omega)] at y1 y2 y3
  have s0 := lB_but (F := lBig S (nI p)) (l := l) c' h2 (by omega)
  have s1 := lB_but (F := lOne S (nI p)) (l := l) c' h2 (by omega)
  have s2 := lB_but (F := lCro S (nI p)) (l := l) c' h2 (by omega)
  rw [if_pos hlc] at s0 s1 s2
  have m : ∀ x y z : Int32, x + y = z → z + -1 * y = x := fun x y z h => by grind
  have w0 := m _ _ _ s0
  have w1 := m _ _ _ s1
  have w2 := m _ _ _ s2
  rw [← f0, y3, ← d3] at w0
  rw [← f1, y1, ← d1] at w1
  rw [← f2, y2, ← d2] at w2
  unfold f_X3_mayLeave
  rw [if_pos hin]
  show (if oIn (nI l) 200 then (f_X3_usedWith (S.1 403 0 (nI l).toNatClampNeg) (S.1 404 0 (nI l).toNatClampNeg) (-1) S).bind (fun zz2 => if oIn (S.1 404 0 (nI l).toNatClampNeg) 4 then (if oROOM (S.1 404 0 (nI l).toNatClampNeg).toNatClampNeg < zz2.1 then some ((0 : Int32), zz2.2) else some ((1 : Int32), zz2.2)) else none) else none) = _
  rw [if_pos hin, e1, e2, usedWith_ok h8 hp, Option.bind_some, if_pos ((nin (by omega)).mpr hp)]
  have e3 : oROOM (nI p).toNatClampNeg = oROOM p := by rw [ncl (by omega)]
  rw [e3, w0, w1, w2]
  have b1' : rg (cSum (lB (lOne S (nI p)) (nI l)) c') 0 1000 := rg_up (cSum_01 c' (by omega) (fun k _ => lB_01 (lOne_01 S _) _ k)) (by omega)
  have b2' : rg (cSum (lB (lCro S (nI p)) (nI l)) c') 0 1000 := rg_up (cSum_01 c' (by omega) (fun k _ => lB_01 (lCro_01 S _) _ k)) (by omega)
  show (if oROOM p < usX _ _ _ then _ else _) = _
  rw [us_eq b1' b2']
  unfold goB
  by_cases g : oROOM p < usM (cSum (lB (lBig S (nI p)) (nI l)) c') (cSum (lB (lOne S (nI p)) (nI l)) c') (cSum (lB (lCro S (nI p)) (nI l)) c')
  · rw [if_pos g, if_pos g]
  · rw [if_neg g, if_neg g]
