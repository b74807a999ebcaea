/-- soaking -/
def tbS (h : Nat → Int64) (r : Nat) : Int64 := 2 * (h (3 * r) / 10 - h (3 * r + 1) / 30)
def tkS (h : Nat → Int64) (c : Nat → Int32) (r : Nat) : Int64 := Int32.toInt64 (2 + c r) * (h (3 * r + 1) / 30 - h (3 * r + 2) / 60)
def soH (h : Nat → Int64) (c : Nat → Int32) (i : Nat) (k : Nat) : Int64 := if k / 3 < i then (if k % 3 = 0 then h k - tbS h (k / 3) else if k % 3 = 1 then h k + (tbS h (k / 3) - tkS h c (k / 3)) else h k + tkS h c (k / 3)) else h k
theorem soH_b {h : Nat → Int64} {c : Nat → Int32} {i k : Nat} (g : ¬ k / 3 < i) : soH h c i k = h k := by unfold soH; rw [if_neg g]
theorem uL_n {h : Nat → Int64} {k m : Nat} {v : Int64} (g : ¬ m = k) : uL h k v m = h m := if_neg g
theorem uL_y {h : Nat → Int64} {k : Nat} {v : Int64} : uL h k v k = v := if_pos rfl
theorem soH_s {h : Nat → Int64} {c : Nat → Int32} {i : Nat} (k : Nat) : uL (uL (uL (soH h c i) (3 * i) (h (3 * i) - tbS h i)) (3 * i + 1) (h (3 * i + 1) + (tbS h i - tkS h c i))) (3 * i + 2) (h (3 * i + 2) + tkS h c i) k = soH h c (i + 1) k := by
  by_cases g2 : k = 3 * i + 2
  · subst g2
    rw [uL_y]
    unfold soH
    rw [if_pos (by omega), if_neg (by omega), if_neg (by omega), show (3 * i + 2) / 3 = i by omega]
  · rw [uL_n g2]
    by_cases g1 : k = 3 * i + 1
    · subst g1
      rw [uL_y]
      unfold soH
      rw [if_pos (by omega), if_neg (by omega), if_pos (by omega), show (3 * i + 1) / 3 = i by omega]
    · rw [uL_n g1]
      by_cases g0 : k = 3 * i
      · subst g0
        rw [uL_y]
        unfold soH
        rw [if_pos (by omega), if_pos (by omega), show (3 * i) / 3 = i by omega]
      · rw [uL_n g0]
        unfold soH
        by_cases g : k / 3 < i
        · rw [if_pos g, if_pos (c := k / 3 < i + 1) (by omega)]
        · rw [if_neg g, if_neg (c := k / 3 < i + 1) (by omega)]
theorem mX_c {j k : Nat} {S : oS} {h : Nat → Int64} {d : Nat → Int32} {l : Int64} (hk : k < 4) : (mX j S h d l).1 503 j (nI k).toNatClampNeg = S.1 503 j k := by rw [ncl (by omega), mX_1, if_neg (fun z => absurd z.1 (by decide))]
theorem soak_ok {j : Nat} {S : oS} {h : Nat → Int64} {d : Nat → Int32} {l : Int64} : f_X4_soak j (mX j S h d l) = some (mX j S (soH h (S.1 503 j) 4) d l) := by
  have e : oLp (f_X4_soak_L2 j) oFu ((0 : Int32), mX j S h d l) = some (mX j S (soH h (S.1 503 j) 4) d l) := by
    refine oLp_eq (fun i => (nI i, mX j S (soH h (S.1 503 j) i) d l)) _ 4 (by omega) ?_ ?_ rfl
    · refine congrArg (fun z => ((0 : Int32), z)) (mX_cg (fun k hk => ?_) (fun _ _ => rfl) rfl)
      rw [soH_b (by omega)]
    · intro i hi
      have e0 : soH h (S.1 503 j) i (3 * i) = h (3 * i) := soH_b (by omega)
      have e1 : soH h (S.1 503 j) i (3 * i + 1) = h (3 * i + 1) := soH_b (by omega)
      have e2 : soH h (S.1 503 j) i (3 * i + 2) = h (3 * i + 2) := soH_b (by omega)
      show (if (4 : Int32) ≤ nI i then _ else _) = _
      rw [if_neg (le4 hi)]
      simp only [wf0 hi, wf1 hi, wf2 hi, Option.bind_some, oLet, if_pos (in4 hi), n3_0, n3_1, n3_2, if_pos (in12 (show 3 * i < 12 by omega)), if_pos (in12 (show 3 * i + 1 < 12 by omega)), if_pos (in12 (show 3 * i + 2 < 12 by omega)), mX_h (show 3 * i < 12 by omega), mX_h (show 3 * i + 1 < 12 by omega), mX_h (show 3 * i + 2 < 12 by omega), mX_sh (show 3 * i < 12 by omega), mX_sh (show 3 * i + 1 < 12 by omega), mX_sh (show 3 * i + 2 < 12 by omega), mX_c hi, e0, e1, e2, uL_n (show ¬ 3 * i + 1 = 3 * i by omega), uL_n (show ¬ 3 * i + 2 = 3 * i by omega), uL_n (show ¬ 3 * i + 2 = 3 * i + 1 by omega)]
      rw [nI_1]
      exact congrArg (fun z => some (Sum.inl (nI (i + 1), z))) (mX_cg (fun k _ => soH_s k) (fun _ _ => rfl) rfl)
  unfold f_X4_soak
  rw [e]
  rfl
/-- the linings even out -/
def flE (h : Nat → Int64) (r : Nat) : Int64 := h (3 * r) / 10 - h (3 * (r + 1)) / 10
def inE (h : Nat → Int64) (i r : Nat) : Int64 := if 1 ≤ r ∧ r ≤ i then h (3 * r) + flE h (r - 1) else h (3 * r)
def evH (h : Nat → Int64) (i : Nat) (k : Nat) : Int64 := if k % 3 = 0 then (if k / 3 < i then inE h i (k / 3) - flE h (k / 3) else inE h i (k / 3)) else h k
theorem evH_s {h : Nat → Int64} {i : Nat} (k : Nat) : uL (uL (evH h i) (3 * i) (evH h i (3 * i) - flE h i)) (3 * (i + 1)) (h (3 * (i + 1)) + flE h i) k = evH h (i + 1) k := by
  by_cases g1 : k = 3 * (i + 1)
  · subst g1
    rw [uL_y]
    unfold evH inE
    rw [if_pos (by omega), if_neg (by omega), show 3 * (i + 1) / 3 = i + 1 by omega, if_pos (by omega)]
    rfl
  · rw [uL_n g1]
    by_cases g0 : k = 3 * i
    · subst g0
      rw [uL_y]
      unfold evH inE
      rw [if_pos (by omega), if_neg (c := 3 * i / 3 < i) (by omega), if_pos (c := 3 * i % 3 = 0) (by omega), if_pos (c := 3 * i / 3 < i + 1) (by omega), show 3 * i / 3 = i by omega]
      by_cases g : 1 ≤ i
      · rw [if_pos (by omega), if_pos (by omega)]
      · rw [if_neg (by omega), if_neg (by omega)]
    · rw [uL_n g0]
      unfold evH inE
      by_cases g3 : k % 3 = 0
      · rw [if_pos g3, if_pos g3]
        by_cases g4 : k / 3 < i
        · rw [if_pos g4, if_pos (c := k / 3 < i + 1) (by omega)]
          by_cases g5 : 1 ≤ k / 3
          · rw [if_pos (by omega), if_pos (by omega)]
          · rw [if_neg (by omega), if_neg (by omega)]
        · rw [if_neg g4, if_neg (c := k / 3 < i + 1) (by omega), if_neg (by omega), if_neg (by omega)]
      · rw [if_neg g3, if_neg g3]
theorem even_ok {j : Nat} {S : oS} {h : Nat → Int64} {d : Nat → Int32} {l : Int64} : f_X4_evenSides j (mX j S h d l) = some (mX j S (evH h 3) d l) := by
  have e : oLp (f_X4_evenSides_L9 j) oFu (h 0 / 10, (0 : Int32), mX j S h d l) = some (mX j S (evH h 3) d l) := by
    refine oLp_eq (fun i => (h (3 * i) / 10, nI i, mX j S (evH h i) d l)) _ 3 (by omega) ?_ ?_ rfl
    · refine congrArg (fun z => (h 0 / 10, (0 : Int32), z)) (mX_cg (fun k hk => ?_) (fun _ _ => rfl) rfl)
      unfold evH inE
      by_cases g : k % 3 = 0
      · rw [if_pos g, if_neg (by omega), if_neg (by omega), show 3 * (k / 3) = k by omega]
      · rw [if_neg g]
    · intro i hi
      have e1 : evH h i (3 * (i + 1)) = h (3 * (i + 1)) := by
        unfold evH inE
        rw [if_pos (by omega), if_neg (by omega), if_neg (by omega), show 3 * (3 * (i + 1) / 3) = 3 * (i + 1) by omega]
      have hw := wf0 (j := j) (r := i + 1) (S := S) (h := evH h i) (d := d) (l := l) (by omega)
      rw [← nI_1] at hw
      show (if (3 : Int32) ≤ nI i then _ else _) = _
      rw [if_neg (by rw [nle (m := 3) rfl (by omega)]; omega), hw, Option.bind_some, e1]
      simp only [oLet, n3_0, nI_1, if_pos (in12 (show 3 * i < 12 by omega)), if_pos (in12 (show 3 * (i + 1) < 12 by omega)), mX_h (show 3 * i < 12 by omega), mX_h (show 3 * (i + 1) < 12 by omega), mX_sh (show 3 * i < 12 by omega), mX_sh (show 3 * (i + 1) < 12 by omega), uL_n (show ¬ 3 * (i + 1) = 3 * i by omega), e1]
      exact congrArg (fun z => some (Sum.inl (h (3 * (i + 1)) / 10, nI (i + 1), z))) (mX_cg (fun k _ => evH_s k) (fun _ _ => rfl) rfl)
  have h0 := wf0 (j := j) (r := 0) (S := S) (h := h) (d := d) (l := l) (by omega)
  have h0 : f_X4_warmthOf j 0 0 (mX j S h d l) = some (h 0 / 10, mX j S h d l) := h0
  unfold f_X4_evenSides
  rw [h0, Option.bind_some]
  show (oLp (f_X4_evenSides_L9 j) oFu (h 0 / 10, (0 : Int32), mX j S h d l)).bind _ = _
  rw [e]
  rfl
/-- what goes outside -/
def skL (h : Nat → Int64) (c : Nat → Int32) (a : Int32) (r : Nat) : Int64 := Int32.toInt64 (1 + c r) * oMaxL 0 (h (3 * r + 2) / 60 - Int32.toInt64 a)
def lnL (h : Nat → Int64) (a : Int32) (o : Int32) (r : Nat) : Int64 := if o = 0 then 0 else Int32.toInt64 (oDRAUGHT r) * oMaxL 0 (h (3 * r) / 10 - Int32.toInt64 a)
def loH (h : Nat → Int64) (c : Nat → Int32) (a o : Int32) (i : Nat) (k : Nat) : Int64 := if k / 3 < i then (if k % 3 = 2 then h k - skL h c a (k / 3) else if k % 3 = 0 then h k - lnL h a o (k / 3) else h k) else h k
theorem loH_b {h : Nat → Int64} {c : Nat → Int32} {a o : Int32} {i k : Nat} (g : ¬ k / 3 < i) : loH h c a o i k = h k := by unfold loH; rw [if_neg g]
theorem loH_s {h : Nat → Int64} {c : Nat → Int32} {a o : Int32} {i : Nat} (k : Nat) : uL (uL (loH h c a o i) (3 * i + 2) (h (3 * i + 2) - skL h c a i)) (3 * i) (h (3 * i) - lnL h a o i) k = loH h c a o (i + 1) k := by
  by_cases g0 : k = 3 * i
  · subst g0
    rw [uL_y]
    unfold loH
    rw [if_pos (by omega), if_neg (by omega), if_pos (by omega), show 3 * i / 3 = i by omega]
  · rw [uL_n g0]
    by_cases g2 : k = 3 * i + 2
    · subst g2
      rw [uL_y]
      unfold loH
      rw [if_pos (by omega), if_pos (by omega), show (3 * i + 2) / 3 = i by omega]
    · rw [uL_n g2]
      unfold loH
      by_cases g : k / 3 < i
      · rw [if_pos g, if_pos (c := k / 3 < i + 1) (by omega)]
      · rw [if_neg g]
        by_cases g3 : k / 3 < i + 1
        · rw [if_pos g3, if_neg (by omega), if_neg (by omega)]
        · rw [if_neg g3]
theorem mX_a {j k : Nat} {S : oS} {h : Nat → Int64} {d : Nat → Int32} {l : Int64} : (mX j S h d l).1 500 j k = S.1 500 j k := by rw [mX_1, if_neg (fun z => absurd z.1 (by decide))]
theorem lose2 {j r : Nat} {S : oS} {h : Nat → Int64} {d : Nat → Int32} {l : Int64} {t : Int32} (hr : r < 4) : f_X4_loseFrom j (nI r) 2 t (mX j S h d l) = some (mX j S (uL h (3 * r + 2) (h (3 * r + 2) - Int32.toInt64 t * oMaxL 0 (h (3 * r + 2) / 60 - Int32.toInt64 (S.1 500 j 7)))) d (l + Int32.toInt64 t * oMaxL 0 (h (3 * r + 2) / 60 - Int32.toInt64 (S.1 500 j 7)))) := by
  unfold f_X4_loseFrom
  simp only [wf2 hr, Option.bind_some, oLet, n3_2, if_pos (in12 (show 3 * r + 2 < 12 by omega)), mX_h (show 3 * r + 2 < 12 by omega), mX_sh (show 3 * r + 2 < 12 by omega), mX_l, mX_sl, mX_a]
theorem lose0 {j r : Nat} {S : oS} {h : Nat → Int64} {d : Nat → Int32} {l : Int64} {t : Int32} (hr : r < 4) : f_X4_loseFrom j (nI r) 0 t (mX j S h d l) = some (mX j S (uL h (3 * r) (h (3 * r) - Int32.toInt64 t * oMaxL 0 (h (3 * r) / 10 - Int32.toInt64 (S.1 500 j 7)))) d (l + Int32.toInt64 t * oMaxL 0 (h (3 * r) / 10 - Int32.toInt64 (S.1 500 j 7)))) := by
  unfold f_X4_loseFrom
  simp only [wf0 hr, Option.bind_some, oLet, n3_0, if_pos (in12 (show 3 * r < 12 by omega)), mX_h (show 3 * r < 12 by omega), mX_sh (show 3 * r < 12 by omega), mX_l, mX_sl, mX_a]
theorem outs_ok {j : Nat} {S : oS} {h : Nat → Int64} {d : Nat → Int32} {l : Int64} (o : Int32) : f_X4_loseOutside j o (mX j S h d l) = some (mX j S (loH h (S.1 503 j) (S.1 500 j 7) o 4) d (l + lSum (fun r => skL h (S.1 503 j) (S.1 500 j 7) r + lnL h (S.1 500 j 7) o r) 4)) := by
  have e : oLp (f_X4_loseOutside_L2 j o) oFu ((0 : Int32), mX j S h d l) = some (mX j S (loH h (S.1 503 j) (S.1 500 j 7) o 4) d (l + lSum (fun r => skL h (S.1 503 j) (S.1 500 j 7) r + lnL h (S.1 500 j 7) o r) 4)) := by
    refine oLp_eq (fun i => (nI i, mX j S (loH h (S.1 503 j) (S.1 500 j 7) o i) d (l + lSum (fun r => skL h (S.1 503 j) (S.1 500 j 7) r + lnL h (S.1 500 j 7) o r) i))) _ 4 (by omega) ?_ ?_ rfl
    · refine congrArg (fun z => ((0 : Int32), z)) (mX_cg (fun k hk => ?_) (fun _ _ => rfl) ?_)
      · rw [loH_b (by omega)]
      · show l = l + 0; rw [Int64.add_zero]
    · intro i hi
      have e0 : loH h (S.1 503 j) (S.1 500 j 7) o i (3 * i) = h (3 * i) := loH_b (by omega)
      have e2 : loH h (S.1 503 j) (S.1 500 j 7) o i (3 * i + 2) = h (3 * i + 2) := loH_b (by omega)
      show (if (4 : Int32) ≤ nI i then _ else _) = some (Sum.inl (nI (i + 1), mX j S (loH h (S.1 503 j) (S.1 500 j 7) o (i + 1)) d (l + (lSum (fun r => skL h (S.1 503 j) (S.1 500 j 7) r + lnL h (S.1 500 j 7) o r) i + (skL h (S.1 503 j) (S.1 500 j 7) i + lnL h (S.1 500 j 7) o i)))))
      rw [if_neg (le4 hi), if_pos (in4 hi), mX_c hi, lose2 hi, Option.bind_some, e2]
      by_cases g : o = 0
      · have z : lnL h (S.1 500 j 7) o i = 0 := by unfold lnL; rw [if_pos g]
        rw [if_pos g, ← nI_1]
        refine congrArg (fun z => some (Sum.inl (nI i + 1, z))) (mX_cg (fun k _ => ?_) (fun _ _ => rfl) ?_)
        · rw [← loH_s, z, Int64.sub_zero]
          by_cases g0 : k = 3 * i
          · subst g0
            rw [uL_y, uL_n (by omega), e0]
          · rw [uL_n g0]
            rfl
        · rw [z, Int64.add_zero, Int64.add_assoc]
          rfl
      · have z : Int32.toInt64 (oDRAUGHT i) * oMaxL 0 (h (3 * i) / 10 - Int32.toInt64 (S.1 500 j 7)) = lnL h (S.1 500 j 7) o i := by unfold lnL; rw [if_neg g]
        rw [if_neg g, if_pos (in4 hi), show oDRAUGHT (nI i).toNatClampNeg = oDRAUGHT i by rw [ncl (by omega)], lose0 hi, Option.bind_some, uL_n (by omega), e0, z, ← nI_1]
        refine congrArg (fun z => some (Sum.inl (nI i + 1, z))) (mX_cg (fun k _ => loH_s k) (fun _ _ => rfl) ?_)
        rw [Int64.add_assoc, Int64.add_assoc]
        rfl
  unfold f_X4_loseOutside
  rw [e]
  rfl
