/-- one term of a sum changes -/
theorem cSum_upd {F G : Nat → Int32} {l c : Nat} (hc : c ≤ 200) (hl : l < c) (h : ∀ k, k ≠ l → G k = F k) : cSum G c = cSum F c - F l + G l := by
  have a := lB_but (F := F) (l := l) c hc (by omega)
  have b := lB_but (F := G) (l := l) c hc (by omega)
  rw [if_pos hl] at a b
  have e : cSum (lB G (nI l)) c = cSum (lB F (nI l)) c := cSum_cg (fun k hk => by
    unfold lB
    by_cases g : nI k = nI l
    · rw [if_pos g, if_pos g]
    · rw [if_neg g, if_neg g, h k (fun z => g (by rw [z]))])
  rw [e] at b
  rw [← a, ← b]
  grind
set_option maxHeartbeats 4000000 in
/-- a loaf is in another ring, or out -/
theorem loa_ring {S T : oS} {l : Nat} {v : Int32} (hk : iKin S) (hl : iLoa S) (hlc : (l : Int) < (S.1 1000 0 24).toInt) (hv : rg v (-1) 3)
    (e24 : T.1 1000 0 24 = S.1 1000 0 24) (e8 : T.1 400 0 8 = S.1 400 0 8) (e31 : T.1 400 0 10 = T.1 1000 0 31) (e13 : T.1 1000 0 13 = S.1 1000 0 13)
    (e26 : T.1 1026 0 = S.1 1026 0) (e03 : T.1 403 0 = S.1 403 0) (er : ∀ k, T.1 405 0 k = T.1 1028 0 k ∧ T.1 406 0 k = T.1 1029 0 k ∧ T.1 407 0 k = T.1 1030 0 k ∧ T.1 408 0 k = T.1 1031 0 k)
    (e15 : T.1 1015 0 = S.1 1015 0) (e16 : T.1 1016 0 = S.1 1016 0)
    (e27 : ∀ k, T.1 1027 0 k = if k = l then v else S.1 1027 0 k) (x27 : ∀ k, T.1 404 0 k = if k = l then v else S.1 404 0 k)
    (ein : T.1 400 0 9 = S.1 400 0 9 - lIn S l + lIn T l) (rin : rg (T.1 400 0 9) 0 12)
    (eld : ∀ r, r < 4 → T.1 300 r 0 = S.1 300 r 0 - lBig S (nI r) l + lBig T (nI r) l ∧ T.1 300 r 1 = S.1 300 r 1 - lOne S (nI r) l + lOne T (nI r) l ∧ T.1 300 r 2 = S.1 300 r 2 - lCro S (nI r) l + lCro T (nI r) l) : iLoa T := by
  obtain ⟨c, b1, b2, b3, b4, b5, b6, b7⟩ := lo_facts hk hl
  obtain ⟨⟨a1, a2⟩, a3, a4, a5, a6, a7⟩ := hl
  have hlc' : l < c := by omega
  have t24 : (T.1 1000 0 24).toInt.toNat = c := by rw [e24, b4]; omega
  refine ⟨⟨by rw [e8, e24]; exact a1, by rw [e24]; exact a2⟩, ?_, e31, ?_, ⟨?_, rin⟩, ?_⟩
  · intro k
    obtain ⟨y1, y2, -⟩ := a3 k
    rw [e03, e26, e27, x27, y1, y2]
    exact ⟨rfl, rfl, er k⟩
  · intro k hk'
    rw [e24] at hk'
    obtain ⟨z1, z2, z3⟩ := a5 k hk'
    rw [e26, e13, e27]
    refine ⟨z1, z2, ?_⟩
    by_cases h : k = l
    · rw [if_pos h]; exact hv
    · rw [if_neg h]; exact z3
  · rw [t24, cSum_upd (F := lIn S) (G := lIn T) b1 hlc' (fun k hk' => by unfold lIn; rw [e27, if_neg hk']), ← b7]
    exact ein
  · intro r hr
    obtain ⟨f0, f1, f2⟩ := b6 r hr
    obtain ⟨g0, g1, g2⟩ := eld r hr
    rw [t24, cSum_upd (F := lBig S (nI r)) (G := lBig T (nI r)) b1 hlc' (fun k hk' => by unfold lBig; rw [e27, if_neg hk', e26, e15]), cSum_upd (F := lOne S (nI r)) (G := lOne T (nI r)) b1 hlc' (fun k hk' => by unfold lOne; rw [e27, if_neg hk', e26, e15]), cSum_upd (F := lCro S (nI r)) (G := lCro T (nI r)) b1 hlc' (fun k hk' => by unfold lCro; rw [e27, if_neg hk', e26, e16]), ← f0, ← f1, ← f2]
    exact ⟨g0, g1, g2⟩
