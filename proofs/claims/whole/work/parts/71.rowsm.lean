theorem tell_M {S : oS} {s m w : Nat} {p : Nat → Int32} (hp : PR s p) (hs : s ≤ 8) (hm : m ≤ 30) (h36 : S.1 1000 0 36 = nI s) (h40 : S.1 1000 0 40 = nI m) (hA : ∀ i, i < m → ∃ a, a < s ∧ S.1 1043 0 i = nI a) (hB : ∀ i, i < m → ∃ a, a < s ∧ S.1 1044 0 i = nI a) : oLp (f_X9_layRow_L117 (nI w)) oFu ((0 : Int32), stR 1065 S s p) = some (stR 1065 S s (tlR (S.1 1042 0) (S.1 1043 0) (S.1 1044 0) (S.1 1045 0) (nI w) s p m)) := by
  refine oLp_eq (fun i => (nI i, stR 1065 S s (tlR (S.1 1042 0) (S.1 1043 0) (S.1 1044 0) (S.1 1045 0) (nI w) s p i))) _ m (by omega) rfl ?_ ?_
  · intro i hi
    obtain ⟨a, ha, ea⟩ := hA i hi
    obtain ⟨b, hb, eb⟩ := hB i hi
    have hq := tlR_PR (W := S.1 1042 0) (G := S.1 1045 0) (w := nI w) hp hA hB i (by omega)
    have hin : oIn (nI i) 30 := (nin (by omega)).mpr (by omega)
    have ei : (nI i).toNatClampNeg = i := ncl (by omega)
    show f_X9_layRow_L117 (nI w) (nI i, stR 1065 S s (tlR (S.1 1042 0) (S.1 1043 0) (S.1 1044 0) (S.1 1045 0) (nI w) s p i)) = some (Sum.inl (nI (i + 1), stR 1065 S s (if S.1 1042 0 i = nI w then (if S.1 1045 0 i = 0 then swR (tlR (S.1 1042 0) (S.1 1043 0) (S.1 1044 0) (S.1 1045 0) (nI w) s p i) (plR (tlR (S.1 1042 0) (S.1 1043 0) (S.1 1044 0) (S.1 1045 0) (nI w) s p i) (S.1 1043 0 i) s) (plR (tlR (S.1 1042 0) (S.1 1043 0) (S.1 1044 0) (S.1 1045 0) (nI w) s p i) (S.1 1044 0 i) s) else gvR (tlR (S.1 1042 0) (S.1 1043 0) (S.1 1044 0) (S.1 1045 0) (nI w) s p i) (plR (tlR (S.1 1042 0) (S.1 1043 0) (S.1 1044 0) (S.1 1045 0) (nI w) s p i) (S.1 1043 0 i) s) (plR (tlR (S.1 1042 0) (S.1 1043 0) (S.1 1044 0) (S.1 1045 0) (nI w) s p i) (S.1 1044 0 i) s)) else tlR (S.1 1042 0) (S.1 1043 0) (S.1 1044 0) (S.1 1045 0) (nI w) s p i)))
    generalize tlR (S.1 1042 0) (S.1 1043 0) (S.1 1044 0) (S.1 1045 0) (nI w) s p i = q at hq ⊢
    have r1 : (stR 1065 S s q).1 1042 0 (nI i).toNatClampNeg = S.1 1042 0 i := by rw [ei]; rfl
    have r2 : (stR 1065 S s q).1 1043 0 (nI i).toNatClampNeg = nI a := by rw [ei]; exact ea
    have r3 : (stR 1065 S s q).1 1044 0 (nI i).toNatClampNeg = nI b := by rw [ei]; exact eb
    have r4 : (stR 1065 S s q).1 1045 0 (nI i).toNatClampNeg = S.1 1045 0 i := by rw [ei]; rfl
    have q1 := (plR_PR hq ha).1
    have q2 := (plR_PR hq hb).1
    unfold f_X9_layRow_L117
    show (if S.1 1000 0 40 ≤ nI i then _ else _) = _
    rw [h40, if_neg (by rw [nI_leI (by omega) (by omega)]; omega)]
    simp only [if_pos hin]
    rw [r1, r2, r3, r4]
    by_cases g : S.1 1042 0 i = nI w
    · rw [if_pos g, if_pos g]
      by_cases g2 : S.1 1045 0 i = 0
      · rw [if_pos g2, if_pos g2]
        rw [place_M hs hq ha, Option.bind_some]
        show (f_X9_placeOf ((stR 1065 S s q).1 1044 0 (nI i).toNatClampNeg) (stR 1065 S s q)).bind _ = _
        rw [r3, place_M hs hq hb, Option.bind_some]
        show (f_X9_change (nI (plR q (nI a) s)) (nI (plR q (nI b) s)) (stR 1065 S s q)).bind _ = _
        rw [exch_M hs q1 q2, Option.bind_some, ea, eb, ← nI_1]
        rfl
      · rw [if_neg g2, if_neg g2, give_M hs h36 hq ha hb, Option.bind_some, ea, eb, ← nI_1]
        rfl
    · rw [if_neg g, if_neg g, ← nI_1]
      rfl
  · show (if S.1 1000 0 40 ≤ nI m then _ else _) = _
    rw [h40, if_pos (by rw [i_le]; exact Int.le_refl _)]
theorem lay_M {S : oS} {s m w : Nat} (q : Nat → Int32) (h2 : 2 ≤ s) (hs : s ≤ 8) (hm : m ≤ 30) (hw : w ≤ 60) (h36 : S.1 1000 0 36 = nI s) (h40 : S.1 1000 0 40 = nI m) (h38 : 0 ≤ (S.1 1000 0 38).toInt) (h37 : oBl (S.1 1000 0 37)) (hA : ∀ i, i < m → ∃ a, a < s ∧ S.1 1043 0 i = nI a) (hB : ∀ i, i < m → ∃ a, a < s ∧ S.1 1044 0 i = nI a) : f_X9_layRow (nI w) (stR 1065 S s q) = some (stR 1065 S s (rwR s m (S.1 1042 0) (S.1 1043 0) (S.1 1044 0) (S.1 1045 0) (S.1 1000 0 37) (S.1 1000 0 38) w)) := by
  have hb := rwB_PR (c := S.1 1000 0 37) (sd := S.1 1000 0 38) (w := w) h2 hs
  have e : oLp (f_X9_layRow_L2 (nI w)) oFu ((0 : Int32), stR 1065 S s q) = some (stR 1065 S s (fun k => if k < s then (if S.1 1000 0 37 = 0 then rdR s w k else nI k) else q k)) := by
    refine oLp_eq (fun i => (nI i, stR 1065 S s (fun k => if k < i then (if S.1 1000 0 37 = 0 then rdR s w k else nI k) else q k))) _ s (by omega) ?_ ?_ ?_
    · show ((0 : Int32), stR 1065 S s q) = ((0 : Int32), stR 1065 S s (fun k => if k < 0 then (if S.1 1000 0 37 = 0 then rdR s w k else nI k) else q k))
      refine congrArg (fun z => ((0 : Int32), z)) (stR_cg (fun k hk => ?_))
      rw [if_neg (by omega)]
    · intro i hi
      have key : ∀ v : Int32, v = (if S.1 1000 0 37 = 0 then rdR s w i else nI i) → f_X9_layRow_K34 (nI w) (nI i) (nI i) v (stR 1065 S s (fun k => if k < i then (if S.1 1000 0 37 = 0 then rdR s w k else nI k) else q k)) = some (Sum.inl (nI (i + 1), stR 1065 S s (fun k => if k < i + 1 then (if S.1 1000 0 37 = 0 then rdR s w k else nI k) else q k))) := by
        intro v hv
        show (if oIn (nI i) 8 then some (Sum.inl (nI i + 1, oStI (stR 1065 S s (fun k => if k < i then (if S.1 1000 0 37 = 0 then rdR s w k else nI k) else q k)) 1065 0 (nI i).toNatClampNeg v)) else none) = _
        rw [if_pos ((nin (by omega)).mpr (by omega)), ncl (by omega), nI_1, hv]
        exact congrArg (fun z => some (Sum.inl (nI (i + 1), z))) (stR_fill (p := fun k => if S.1 1000 0 37 = 0 then rdR s w k else nI k) hi)
      show (if S.1 1000 0 36 ≤ nI i then _ else (if S.1 1000 0 37 = 0 then (if ¬ S.1 1000 0 36 = 0 then f_X9_layRow_K34 (nI w) (nI i) (nI i) ((nI w + nI i) - (nI w + nI i) / S.1 1000 0 36 * S.1 1000 0 36) (stR 1065 S s (fun k => if k < i then (if S.1 1000 0 37 = 0 then rdR s w k else nI k) else q k)) else none) else f_X9_layRow_K34 (nI w) (nI i) (nI i) (nI i) (stR 1065 S s (fun k => if k < i then (if S.1 1000 0 37 = 0 then rdR s w k else nI k) else q k)))) = _
      rw [h36, if_neg (by rw [nI_leI (by omega) (by omega)]; omega), if_pos (nI_ne0 (by omega) (by omega)), nI_add, n_mod (by omega) (by omega) (by omega)]
      by_cases g : S.1 1000 0 37 = 0
      · rw [key (nI ((w + i) % s)) (by rw [if_pos g]; rfl)]
        exact if_pos g
      · rw [key (nI i) (by rw [if_neg g])]
        exact if_neg g
    · show (if S.1 1000 0 36 ≤ nI s then _ else _) = _
      rw [h36, if_pos (by rw [i_le]; exact Int.le_refl _)]
  have e2 : stR 1065 S s (fun k => if k < s then (if S.1 1000 0 37 = 0 then rdR s w k else nI k) else q k) = stR 1065 S s (if S.1 1000 0 37 = 0 then rdR s w else nI) := stR_cg (fun k hk => by
    rw [if_pos hk]
    by_cases g : S.1 1000 0 37 = 0
    · rw [if_pos g, if_pos g]
    · rw [if_neg g, if_neg g])
  obtain ⟨c, hc⟩ : ∃ c, s = c + 1 := ⟨s - 1, by omega⟩
  have hx := sd_b h38 hw
  have e3 : oLp (f_X9_layRow_L62 (nI w)) oFu (((Int32.toInt64 (S.1 1000 0 38)) + (Int32.toInt64 (nI w))) - ((Int32.toInt64 (S.1 1000 0 38)) + (Int32.toInt64 (nI w))) / (2147483648 : Int64) * (2147483648 : Int64), S.1 1000 0 36 - 1, stR 1065 S s (if S.1 1000 0 37 = 0 then rdR s w else nI)) = some (stR 1065 S s (rwB s (S.1 1000 0 37) (S.1 1000 0 38) w)) := by
    rw [m31 hx, h36, show nI s - 1 = nI c by rw [hc, nPr]]
    unfold rwB
    rcases h37 with g | g
    · rw [if_pos g, if_pos g]
      show (f_X9_layRow_L62 (nI w) (_, nI c, stR 1065 S s (rdR s w))).bind (oNx (oLp (f_X9_layRow_L62 (nI w)) 99999)) = _
      have : f_X9_layRow_L62 (nI w) ((Int32.toInt64 (S.1 1000 0 38) + Int32.toInt64 (nI w)) &&& 2147483647, nI c, stR 1065 S s (rdR s w)) = some (Sum.inr (stR 1065 S s (rdR s w))) := by
        show (if nI c < 1 then some (Sum.inr (stR 1065 S s (rdR s w))) else (if S.1 1000 0 37 = 1 then _ else some (Sum.inr (stR 1065 S s (rdR s w))))) = _
        rw [if_neg (c := S.1 1000 0 37 = 1) (by rw [g]; decide)]
        by_cases z : nI c < 1
        · rw [if_pos z]
        · rw [if_neg z]
      rw [this]
      rfl
    · rw [if_neg (by rw [g]; decide), if_neg (by rw [g]; decide), lots_M (nI w) hs g c _ _ oFu (by omega) (by show c < 100000; omega) (an31_b hx), show s - 1 = c by omega]
  unfold f_X9_layRow
  rw [e, e2, Option.bind_some]
  show (oLp (f_X9_layRow_L62 (nI w)) oFu (((Int32.toInt64 (S.1 1000 0 38)) + (Int32.toInt64 (nI w))) - ((Int32.toInt64 (S.1 1000 0 38)) + (Int32.toInt64 (nI w))) / (2147483648 : Int64) * (2147483648 : Int64), S.1 1000 0 36 - 1, stR 1065 S s (if S.1 1000 0 37 = 0 then rdR s w else nI))).bind _ = _
  rw [e3, Option.bind_some, tell_M hb hs hm h36 h40 hA hB]
  rfl
