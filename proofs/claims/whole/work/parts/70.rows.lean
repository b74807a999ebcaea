/-! Turns: the row of a week on both sides -/
def rdR (s w : Nat) (k : Nat) : Int32 := nI ((w + k) % s)
theorem rd_PR {s : Nat} (w : Nat) (hs : 0 < s) (h8 : s ≤ 8) : PR s (rdR s w) := by
  have key : ∀ i j, i < s → j < s → i ≤ j → (w + i) % s = (w + j) % s → i = j := by
    intro i j hi hj hij e
    have h1 : (w + j) - (w + i) = j - i := by omega
    have h2 : (j - i) % s = 0 := by rw [← h1]; exact Nat.sub_mod_eq_zero_of_mod_eq e.symm
    rw [Nat.mod_eq_of_lt (by omega)] at h2
    omega
  refine ⟨fun i _ => ⟨(w + i) % s, Nat.mod_lt _ hs, rfl⟩, fun i j hi hj e => ?_, fun k hk => ?_⟩
  · have h1 := Nat.mod_lt (w + i) hs
    have h2 := Nat.mod_lt (w + j) hs
    have e : nI ((w + i) % s) = nI ((w + j) % s) := e
    rw [nI_eq (by omega) (by omega)] at e
    rcases Nat.le_total i j with h | h
    · exact key i j hi hj h e
    · exact (key j i hj hi h e.symm).symm
  · refine ⟨(k + (s - w % s)) % s, Nat.mod_lt _ hs, ?_⟩
    have h1 := Nat.mod_lt w hs
    have e : (w + (k + (s - w % s)) % s) % s = k := by
      rw [Nat.add_mod, Nat.mod_mod, ← Nat.add_mod]
      have h2 : w + (k + (s - w % s)) = k + s * (w / s + 1) := by
        have := Nat.div_add_mod w s
        rw [Nat.mul_add]
        omega
      rw [h2, Nat.add_mul_mod_self_left, Nat.mod_eq_of_lt hk]
    show nI _ = nI k
    rw [e]
theorem id_PR {s : Nat} (h8 : s ≤ 8) : PR s nI := ⟨fun i hi => ⟨i, hi, rfl⟩, fun i j hi hj e => (nI_eq (by omega) (by omega)).mp e, fun k hk => ⟨k, hk, rfl⟩⟩
/-- what is told, in its order -/
def tlR (W A B G : Nat → Int32) (w : Int32) (s : Nat) (p : Nat → Int32) : Nat → Nat → Int32
  | 0 => p
  | i + 1 => if W i = w then (if G i = 0 then swR (tlR W A B G w s p i) (plR (tlR W A B G w s p i) (A i) s) (plR (tlR W A B G w s p i) (B i) s) else gvR (tlR W A B G w s p i) (plR (tlR W A B G w s p i) (A i) s) (plR (tlR W A B G w s p i) (B i) s)) else tlR W A B G w s p i
theorem tlR_PR {W A B G : Nat → Int32} {w : Int32} {s m : Nat} {p : Nat → Int32} (h : PR s p) (hA : ∀ i, i < m → ∃ a, a < s ∧ A i = nI a) (hB : ∀ i, i < m → ∃ a, a < s ∧ B i = nI a) : ∀ i, i ≤ m → PR s (tlR W A B G w s p i) := by
  intro i
  induction i with
  | zero => intro _; exact h
  | succ i ih =>
    intro hi
    have hp := ih (by omega)
    obtain ⟨a, ha, ea⟩ := hA i (by omega)
    obtain ⟨b, hb, eb⟩ := hB i (by omega)
    show PR s (if W i = w then _ else _)
    rw [ea, eb]
    by_cases g : W i = w
    · rw [if_pos g]
      by_cases g2 : G i = 0
      · rw [if_pos g2]
        exact swR_PR hp (plR_PR hp ha).1 (plR_PR hp hb).1
      · rw [if_neg g2]
        exact gvR_PR hp (plR_PR hp ha).1 (plR_PR hp hb).1
    · rw [if_neg g]
      exact hp
def rwB (s : Nat) (c sd : Int32) (w : Nat) : Nat → Int32 := if c = 0 then rdR s w else lotR (s - 1) ((Int32.toInt64 sd + Int32.toInt64 (nI w)) &&& 2147483647) nI
def rwR (s m : Nat) (W A B G : Nat → Int32) (c sd : Int32) (w : Nat) : Nat → Int32 := tlR W A B G (nI w) s (rwB s c sd w) m
theorem rwB_PR {s : Nat} {c sd : Int32} {w : Nat} (h2 : 2 ≤ s) (h8 : s ≤ 8) : PR s (rwB s c sd w) := by
  unfold rwB
  by_cases g : c = 0
  · rw [if_pos g]; exact rd_PR w (by omega) h8
  · rw [if_neg g]; exact lotR_PR _ _ _ (by omega) (id_PR h8)
theorem sd_b {sd : Int32} {w : Nat} (h : 0 ≤ sd.toInt) (hw : w ≤ 60) : 0 ≤ (Int32.toInt64 sd + Int32.toInt64 (nI w)).toInt := by
  have := i_bd sd
  have e1 := i_long sd
  have e2 : (Int32.toInt64 (nI w)).toInt = w := by rw [i_long, nT (by omega)]
  rw [l_add (by omega) (by omega), e1, e2]
  omega
/-- filling the row from its first place on -/
theorem stR_fill {t0 : Nat} {S : oS} {s i : Nat} {p q : Nat → Int32} (h : i < s) : oStI (stR t0 S s (fun k => if k < i then p k else q k)) t0 0 i (p i) = stR t0 S s (fun k => if k < i + 1 then p k else q k) := by
  rw [stR_up h]
  refine stR_cg (fun k hk => ?_)
  grind
theorem round_X {S : oS} {s w : Nat} (q : Nat → Int32) (h2 : 2 ≤ s) (hs : s ≤ 8) (hw : w ≤ 60) (h6 : S.1 700 0 6 = nI s) : f_X6_goRound (nI w) (stR 705 S s q) = some (stR 705 S s (rdR s w)) := by
  have e : oLp (f_X6_goRound_L2 (nI w)) oFu ((0 : Int32), stR 705 S s q) = some (stR 705 S s (fun k => if k < s then rdR s w k else q k)) := by
    refine oLp_eq (fun i => (nI i, stR 705 S s (fun k => if k < i then rdR s w k else q k))) _ s (by omega) ?_ ?_ ?_
    · show ((0 : Int32), stR 705 S s q) = ((0 : Int32), stR 705 S s (fun k => if k < 0 then rdR s w k else q k))
      refine congrArg (fun z => ((0 : Int32), z)) (stR_cg (fun k hk => ?_))
      rw [if_neg (by omega)]
    · intro i hi
      show (if S.1 700 0 6 ≤ nI i then _ else (if ¬ S.1 700 0 6 = 0 then (if oIn (nI i) 8 then some (Sum.inl (nI i + 1, oStI (stR 705 S s (fun k => if k < i then rdR s w k else q k)) 705 0 (nI i).toNatClampNeg ((nI w + nI i) - (nI w + nI i) / S.1 700 0 6 * S.1 700 0 6))) else none) else none)) = _
      rw [h6, if_neg (by rw [nI_leI (by omega) (by omega)]; omega), if_pos (nI_ne0 (by omega) (by omega)), if_pos ((nin (by omega)).mpr (by omega)), ncl (by omega), nI_add, n_mod (by omega) (by omega) (by omega), nI_1]
      exact congrArg (fun z => some (Sum.inl (nI (i + 1), z))) (stR_fill (p := rdR s w) hi)
    · show (if S.1 700 0 6 ≤ nI s then _ else _) = _
      rw [h6, if_pos (by rw [i_le]; exact Int.le_refl _)]
  unfold f_X6_goRound
  rw [e, Option.bind_some]
  refine congrArg some (stR_cg (fun k hk => ?_))
  rw [if_pos hk]
theorem draw_X {S : oS} {s w : Nat} (q : Nat → Int32) (h2 : 2 ≤ s) (hs : s ≤ 8) (hw : w ≤ 60) (h6 : S.1 700 0 6 = nI s) (h8 : 0 ≤ (S.1 700 0 8).toInt) : f_X6_drawLots (nI w) (stR 705 S s q) = some (stR 705 S s (lotR (s - 1) ((Int32.toInt64 (S.1 700 0 8) + Int32.toInt64 (nI w)) &&& 2147483647) nI)) := by
  have e : oLp (f_X6_drawLots_L2 (nI w)) oFu ((0 : Int32), stR 705 S s q) = some (stR 705 S s (fun k => if k < s then nI k else q k)) := by
    refine oLp_eq (fun i => (nI i, stR 705 S s (fun k => if k < i then nI k else q k))) _ s (by omega) ?_ ?_ ?_
    · show ((0 : Int32), stR 705 S s q) = ((0 : Int32), stR 705 S s (fun k => if k < 0 then nI k else q k))
      refine congrArg (fun z => ((0 : Int32), z)) (stR_cg (fun k hk => ?_))
      rw [if_neg (by omega)]
    · intro i hi
      show (if S.1 700 0 6 ≤ nI i then _ else (if oIn (nI i) 8 then some (Sum.inl (nI i + 1, oStI (stR 705 S s (fun k => if k < i then nI k else q k)) 705 0 (nI i).toNatClampNeg (nI i))) else none)) = _
      rw [h6, if_neg (by rw [nI_leI (by omega) (by omega)]; omega), if_pos ((nin (by omega)).mpr (by omega)), ncl (by omega), nI_1]
      exact congrArg (fun z => some (Sum.inl (nI (i + 1), z))) (stR_fill (p := nI) hi)
    · show (if S.1 700 0 6 ≤ nI s then _ else _) = _
      rw [h6, if_pos (by rw [i_le]; exact Int.le_refl _)]
  have e2 : stR 705 S s (fun k => if k < s then nI k else q k) = stR 705 S s nI := stR_cg (fun k hk => by rw [if_pos hk])
  obtain ⟨c, rfl⟩ : ∃ c, s = c + 1 := ⟨s - 1, by omega⟩
  unfold f_X6_drawLots
  rw [e, e2, Option.bind_some]
  show (oLp f_X6_drawLots_L44 oFu ((Int32.toInt64 (S.1 700 0 8) + Int32.toInt64 (nI w)) &&& 2147483647, S.1 700 0 6 - 1, stR 705 S (c + 1) nI)).bind _ = _
  rw [h6, nPr, lots_X hs c _ _ oFu (by omega) (by show c < 100000; omega) (an31_b (sd_b h8 hw))]
  rfl
theorem tell_X {S : oS} {s m w : Nat} {p : Nat → Int32} (hp : PR s p) (hs : s ≤ 8) (hm : m ≤ 30) (h6 : S.1 700 0 6 = nI s) (h5 : S.1 700 0 5 = nI m) (hA : ∀ i, i < m → ∃ a, a < s ∧ S.1 702 0 i = nI a) (hB : ∀ i, i < m → ∃ a, a < s ∧ S.1 703 0 i = nI a) : f_X6_makeRow_K20 (nI w) (stR 705 S s p) = some (stR 705 S s (tlR (S.1 701 0) (S.1 702 0) (S.1 703 0) (S.1 704 0) (nI w) s p m)) := by
  have e : oLp (f_X6_makeRow_L22 (nI w)) oFu ((0 : Int32), stR 705 S s p) = some (stR 705 S s (tlR (S.1 701 0) (S.1 702 0) (S.1 703 0) (S.1 704 0) (nI w) s p m)) := by
    refine oLp_eq (fun i => (nI i, stR 705 S s (tlR (S.1 701 0) (S.1 702 0) (S.1 703 0) (S.1 704 0) (nI w) s p i))) _ m (by omega) rfl ?_ ?_
    · intro i hi
      obtain ⟨a, ha, ea⟩ := hA i hi
      obtain ⟨b, hb, eb⟩ := hB i hi
      have hq := tlR_PR (W := S.1 701 0) (G := S.1 704 0) (w := nI w) hp hA hB i (by omega)
      have hin : oIn (nI i) 30 := (nin (by omega)).mpr (by omega)
      have ei : (nI i).toNatClampNeg = i := ncl (by omega)
      show f_X6_makeRow_L22 (nI w) (nI i, stR 705 S s (tlR (S.1 701 0) (S.1 702 0) (S.1 703 0) (S.1 704 0) (nI w) s p i)) = some (Sum.inl (nI (i + 1), stR 705 S s (if S.1 701 0 i = nI w then (if S.1 704 0 i = 0 then swR (tlR (S.1 701 0) (S.1 702 0) (S.1 703 0) (S.1 704 0) (nI w) s p i) (plR (tlR (S.1 701 0) (S.1 702 0) (S.1 703 0) (S.1 704 0) (nI w) s p i) (S.1 702 0 i) s) (plR (tlR (S.1 701 0) (S.1 702 0) (S.1 703 0) (S.1 704 0) (nI w) s p i) (S.1 703 0 i) s) else gvR (tlR (S.1 701 0) (S.1 702 0) (S.1 703 0) (S.1 704 0) (nI w) s p i) (plR (tlR (S.1 701 0) (S.1 702 0) (S.1 703 0) (S.1 704 0) (nI w) s p i) (S.1 702 0 i) s) (plR (tlR (S.1 701 0) (S.1 702 0) (S.1 703 0) (S.1 704 0) (nI w) s p i) (S.1 703 0 i) s)) else tlR (S.1 701 0) (S.1 702 0) (S.1 703 0) (S.1 704 0) (nI w) s p i)))
      generalize tlR (S.1 701 0) (S.1 702 0) (S.1 703 0) (S.1 704 0) (nI w) s p i = q at hq ⊢
      have r1 : (stR 705 S s q).1 701 0 (nI i).toNatClampNeg = S.1 701 0 i := by rw [ei]; rfl
      have r2 : (stR 705 S s q).1 702 0 (nI i).toNatClampNeg = nI a := by rw [ei]; exact ea
      have r3 : (stR 705 S s q).1 703 0 (nI i).toNatClampNeg = nI b := by rw [ei]; exact eb
      have r4 : (stR 705 S s q).1 704 0 (nI i).toNatClampNeg = S.1 704 0 i := by rw [ei]; rfl
      have q1 := (plR_PR hq ha).1
      have q2 := (plR_PR hq hb).1
      unfold f_X6_makeRow_L22
      show (if S.1 700 0 5 ≤ nI i then _ else _) = _
      rw [h5, if_neg (by rw [nI_leI (by omega) (by omega)]; omega)]
      simp only [if_pos hin]
      rw [r1, r2, r3, r4]
      by_cases g : S.1 701 0 i = nI w
      · rw [if_pos g, if_pos g]
        by_cases g2 : S.1 704 0 i = 0
        · rw [if_pos g2, if_pos g2]
          rw [place_X (nI a) hs h6, Option.bind_some]
          show (f_X6_placeOf ((stR 705 S s q).1 703 0 (nI i).toNatClampNeg) (stR 705 S s q)).bind _ = _
          rw [r3, place_X (nI b) hs h6, Option.bind_some]
          show (f_X6_exchange (nI (plR q (nI a) s)) (nI (plR q (nI b) s)) (stR 705 S s q)).bind _ = _
          rw [exch_X hs q1 q2, Option.bind_some, ea, eb, ← nI_1]
          rfl
        · rw [if_neg g2, if_neg g2, give_X hs h6 hq ha hb, Option.bind_some, ea, eb, ← nI_1]
          rfl
      · rw [if_neg g, if_neg g, ← nI_1]
        rfl
    · show (if S.1 700 0 5 ≤ nI m then _ else _) = _
      rw [h5, if_pos (by rw [i_le]; exact Int.le_refl _)]
  unfold f_X6_makeRow_K20
  rw [e]
  rfl
theorem make_X {S : oS} {s m w : Nat} (q : Nat → Int32) (h2 : 2 ≤ s) (hs : s ≤ 8) (hm : m ≤ 30) (hw : w ≤ 60) (h6 : S.1 700 0 6 = nI s) (h5 : S.1 700 0 5 = nI m) (h8 : 0 ≤ (S.1 700 0 8).toInt) (hA : ∀ i, i < m → ∃ a, a < s ∧ S.1 702 0 i = nI a) (hB : ∀ i, i < m → ∃ a, a < s ∧ S.1 703 0 i = nI a) : f_X6_makeRow (nI w) (stR 705 S s q) = some (stR 705 S s (rwR s m (S.1 701 0) (S.1 702 0) (S.1 703 0) (S.1 704 0) (S.1 700 0 7) (S.1 700 0 8) w)) := by
  have hb := rwB_PR (c := S.1 700 0 7) (sd := S.1 700 0 8) (w := w) h2 hs
  unfold rwR
  unfold rwB at hb ⊢
  unfold f_X6_makeRow
  show (if S.1 700 0 7 = 0 then _ else _) = _
  by_cases g : S.1 700 0 7 = 0
  · rw [if_pos g] at hb ⊢
    rw [if_pos g, round_X q h2 hs hw h6, Option.bind_some, tell_X hb hs hm h6 h5 hA hB]
  · rw [if_neg g] at hb ⊢
    rw [if_neg g, draw_X q h2 hs hw h6 h8, Option.bind_some, tell_X hb hs hm h6 h5 hA hB]
