theorem dry_M {S : oS} {h : Nat → Int64} {d : Nat → Int32} {l : Int64} (o : Int32) (hcl : ∀ r, r < 4 → cl0 (25 * dr h d r) = 25 * dr h d r) : oLp (f_X9_step_L103 o) oFu ((0 : Int32), nS S h (wmH h) d l) = some (nS S (dryH h d 4) (wmH h) (dryD h d 4) (l + lSum (fun r => 25 * dr h d r) 4)) := by
  refine oLp_eq (fun i => (nI i, nS S (dryH h d i) (wmH h) (dryD h d i) (l + lSum (fun r => 25 * dr h d r) i))) _ 4 (by omega) ?_ ?_ rfl
  · refine congrArg (fun z => ((0 : Int32), z)) (nS_cg (fun k hk => ?_) (fun _ _ => rfl) (fun k hk => ?_) ?_)
    · unfold dryH; rw [if_neg (by omega)]
    · unfold dryD; rw [if_neg (by omega)]
    · show l = l + 0; rw [Int64.add_zero]
  · intro i hi
    have e0 : dryH h d i (3 * i) = h (3 * i) := by unfold dryH; rw [if_neg (by omega)]
    have e1 : dryD h d i i = d i := by unfold dryD; rw [if_neg (by omega)]
    have key : ∀ x : Int64, x = dr h d i → f_X9_step_K182 o (nI i) x (nS S (dryH h d i) (wmH h) (dryD h d i) (l + lSum (fun r => 25 * dr h d r) i)) = some (Sum.inl (nI (i + 1), nS S (dryH h d (i + 1)) (wmH h) (dryD h d (i + 1)) (l + (lSum (fun r => 25 * dr h d r) i + 25 * dr h d i)))) := by
      intro x hx
      subst hx
      unfold f_X9_step_K182 f_X9_cellOf
      simp only [oLet, Option.bind_some, if_pos (in4 hi), nS_d hi, nS_sd hi, m3_0, letOut_ok (show 3 * i < 12 by omega), e0, e1, hcl i hi]
      rw [nI_1]
      refine congrArg (fun z => some (Sum.inl (nI (i + 1), z))) (nS_cg (fun k _ => dryH_s k) (fun _ _ => rfl) (fun k _ => dryD_s k) ?_)
      rw [Int64.add_assoc]
    show (if (4 : Int32) ≤ nI i then _ else _) = some (Sum.inl (nI (i + 1), nS S (dryH h d (i + 1)) (wmH h) (dryD h d (i + 1)) (l + (lSum (fun r => 25 * dr h d r) i + 25 * dr h d i))))
    unfold f_X9_cellOf
    rw [if_neg (le4 hi), Option.bind_some]
    simp only [oLet, m3_0, if_pos (in12 (show 3 * i < 12 by omega)), if_pos (in4 hi), nS_d hi, nS_w (show 3 * i < 12 by omega), e1, wm0]
    by_cases g1 : d i ≤ 0
    · have z : dr h d i = 0 := by unfold dr; rw [if_pos g1]
      rw [if_pos g1, nI_1, z, l_mul0, Int64.add_zero]
      exact congrArg (fun z => some (Sum.inl (nI (i + 1), z))) (nS_cg (fun k _ => (dry_0 z k).1) (fun _ _ => rfl) (fun k _ => (dry_0 z k).2) rfl)
    · rw [if_neg g1]
      by_cases g2 : h (3 * i) / 10 < 90
      · have z : dr h d i = 0 := by unfold dr; rw [if_neg g1, if_pos g2]
        rw [if_pos g2, nI_1, z, l_mul0, Int64.add_zero]
        exact congrArg (fun z => some (Sum.inl (nI (i + 1), z))) (nS_cg (fun k _ => (dry_0 z k).1) (fun _ _ => rfl) (fun k _ => (dry_0 z k).2) rfl)
      · have z : oMinL ((h (3 * i) / 10 - 90) / 4 + 1) (Int32.toInt64 (d i)) = dr h d i := by unfold dr; rw [if_neg g1, if_neg g2]
        rw [if_neg g2]
        by_cases g3 : Int32.toInt64 (d i) ≤ (h (3 * i) / 10 - 90) / 4 + 1
        · rw [if_pos g3]
          refine key _ ?_
          rw [← z]
          unfold oMinL
          by_cases g4 : Int32.toInt64 (d i) < (h (3 * i) / 10 - 90) / 4 + 1
          · rw [if_pos g4]
          · rw [if_neg g4, l_eq]
            rw [l_le] at g3
            rw [l_lt] at g4
            omega
        · rw [if_neg g3]
          refine key _ ?_
          rw [← z]
          unfold oMinL
          rw [if_neg (fun g4 => g3 (by rw [l_lt] at g4; rw [l_le]; omega))]
theorem uL_uL {h : Nat → Int64} {k : Nat} {a b : Int64} (m : Nat) : uL (uL h k a) k b m = uL h k b m := by
  unfold uL
  by_cases g : m = k
  · rw [if_pos g, if_pos g]
  · rw [if_neg g, if_neg g, if_neg g]
theorem uL_f {h g : Nat → Int64} (e : ∀ m, h m = g m) (k : Nat) (a : Int64) (m : Nat) : uL h k a m = uL g k a m := by
  unfold uL
  rw [e m]
theorem soak_M {S : oS} {h : Nat → Int64} {d : Nat → Int32} {l : Int64} (o : Int32) : oLp (f_X9_step_L226 o) oFu ((0 : Int32), nS S h (wmH h) d l) = some (nS S (soH h (S.1 1004 0) 4) (wmH h) d l) := by
  refine oLp_eq (fun i => (nI i, nS S (soH h (S.1 1004 0) i) (wmH h) d l)) _ 4 (by omega) ?_ ?_ rfl
  · refine congrArg (fun z => ((0 : Int32), z)) (nS_cg (fun k hk => ?_) (fun _ _ => rfl) (fun _ _ => rfl) rfl)
    rw [soH_b (by omega)]
  · intro i hi
    have e0 : soH h (S.1 1004 0) i (3 * i) = h (3 * i) := soH_b (by omega)
    have e1 : soH h (S.1 1004 0) i (3 * i + 1) = h (3 * i + 1) := soH_b (by omega)
    have e2 : soH h (S.1 1004 0) i (3 * i + 2) = h (3 * i + 2) := soH_b (by omega)
    show (if (4 : Int32) ≤ nI i then _ else _) = _
    rw [if_neg (le4 hi)]
    unfold f_X9_cellOf
    simp only [Option.bind_some, oLet, m3_0, m3_1, m3_2, if_pos (in4 hi), if_pos (in12 (show 3 * i < 12 by omega)), if_pos (in12 (show 3 * i + 1 < 12 by omega)), if_pos (in12 (show 3 * i + 2 < 12 by omega)), nS_w (show 3 * i < 12 by omega), nS_w (show 3 * i + 1 < 12 by omega), nS_w (show 3 * i + 2 < 12 by omega), shift_M (show 3 * i < 12 by omega) (show 3 * i + 1 < 12 by omega), shift_M (show 3 * i + 1 < 12 by omega) (show 3 * i + 2 < 12 by omega), nS_c hi, wm0, wm1, wm2, uL_y, uL_n (show ¬ 3 * i + 1 = 3 * i by omega), uL_n (show ¬ 3 * i + 2 = 3 * i by omega), uL_n (show ¬ 3 * i + 2 = 3 * i + 1 by omega), e0, e1, e2]
    rw [nI_1]
    refine congrArg (fun z => some (Sum.inl (nI (i + 1), z))) (nS_cg (fun k _ => ?_) (fun _ _ => rfl) (fun _ _ => rfl) rfl)
    rw [← soH_s]
    rw [uL_f (uL_uL) _ _ k]
    have er : h (3 * i + 1) + tbS h i - tkS h (S.1 1004 0) i = h (3 * i + 1) + (tbS h i - tkS h (S.1 1004 0) i) := by grind
    rw [← er]
    rfl
theorem even_M {S : oS} {h : Nat → Int64} {d : Nat → Int32} {l : Int64} (o : Int32) : oLp (f_X9_step_L338 o) oFu ((0 : Int32), nS S h (wmH h) d l) = some (nS S (evH h 3) (wmH h) d l) := by
  refine oLp_eq (fun i => (nI i, nS S (evH h i) (wmH h) d l)) _ 3 (by omega) ?_ ?_ rfl
  · refine congrArg (fun z => ((0 : Int32), z)) (nS_cg (fun k hk => ?_) (fun _ _ => rfl) (fun _ _ => rfl) rfl)
    unfold evH inE
    by_cases g : k % 3 = 0
    · rw [if_pos g, if_neg (by omega), if_neg (by omega), show 3 * (k / 3) = k by omega]
    · rw [if_neg g]
  · intro i hi
    have e1 : evH h i (3 * (i + 1)) = h (3 * (i + 1)) := by
      unfold evH inE
      rw [if_pos (by omega), if_neg (by omega), if_neg (by omega), show 3 * (3 * (i + 1) / 3) = 3 * (i + 1) by omega]
    show (if (3 : Int32) ≤ nI i then _ else _) = _
    rw [if_neg (by rw [nle (m := 3) rfl (by omega)]; omega)]
    unfold f_X9_cellOf
    simp only [Option.bind_some, oLet, nI_1, m3_0, if_pos (in12 (show 3 * i < 12 by omega)), if_pos (in12 (show 3 * (i + 1) < 12 by omega)), nS_w (show 3 * i < 12 by omega), nS_w (show 3 * (i + 1) < 12 by omega), shift_M (show 3 * i < 12 by omega) (show 3 * (i + 1) < 12 by omega), wm0, uL_n (show ¬ 3 * (i + 1) = 3 * i by omega), e1]
    exact congrArg (fun z => some (Sum.inl (nI (i + 1), z))) (nS_cg (fun k _ => evH_s k) (fun _ _ => rfl) (fun _ _ => rfl) rfl)
theorem cl0_0 : cl0 0 = 0 := rfl
theorem outs_M {S : oS} {h : Nat → Int64} {d : Nat → Int32} {l : Int64} (o : Int32) (hs : ∀ r, r < 4 → cl0 (Int32.toInt64 (1 + S.1 1004 0 r) * (h (3 * r + 2) / 60 - Int32.toInt64 (S.1 1000 0 0))) = skL h (S.1 1004 0) (S.1 1000 0 0) r) (hn : ∀ r, r < 4 → cl0 (Int32.toInt64 (oDRAUGHT r) * (h (3 * r) / 10 - Int32.toInt64 (S.1 1000 0 0))) = Int32.toInt64 (oDRAUGHT r) * oMaxL 0 (h (3 * r) / 10 - Int32.toInt64 (S.1 1000 0 0))) : oLp (f_X9_step_L400 o) oFu ((0 : Int32), nS S h (wmH h) d l) = some (nS S (loH h (S.1 1004 0) (S.1 1000 0 0) o 4) (wmH h) d (l + lSum (fun r => skL h (S.1 1004 0) (S.1 1000 0 0) r + lnL h (S.1 1000 0 0) o r) 4)) := by
  refine oLp_eq (fun i => (nI i, nS S (loH h (S.1 1004 0) (S.1 1000 0 0) o i) (wmH h) d (l + lSum (fun r => skL h (S.1 1004 0) (S.1 1000 0 0) r + lnL h (S.1 1000 0 0) o r) i))) _ 4 (by omega) ?_ ?_ rfl
  · refine congrArg (fun z => ((0 : Int32), z)) (nS_cg (fun k hk => ?_) (fun _ _ => rfl) (fun _ _ => rfl) ?_)
    · rw [loH_b (by omega)]
    · show l = l + 0; rw [Int64.add_zero]
  · intro i hi
    have e0 : loH h (S.1 1004 0) (S.1 1000 0 0) o i (3 * i) = h (3 * i) := loH_b (by omega)
    have e2 : loH h (S.1 1004 0) (S.1 1000 0 0) o i (3 * i + 2) = h (3 * i + 2) := loH_b (by omega)
    have key : ∀ b : Int32, b = oDRAUGHT i → f_X9_step_K466 o (nI i) b (nS S (uL (loH h (S.1 1004 0) (S.1 1000 0 0) o i) (3 * i + 2) (h (3 * i + 2) - skL h (S.1 1004 0) (S.1 1000 0 0) i)) (wmH h) d (l + lSum (fun r => skL h (S.1 1004 0) (S.1 1000 0 0) r + lnL h (S.1 1000 0 0) o r) i + skL h (S.1 1004 0) (S.1 1000 0 0) i)) = some (Sum.inl (nI (i + 1), nS S (loH h (S.1 1004 0) (S.1 1000 0 0) o (i + 1)) (wmH h) d (l + (lSum (fun r => skL h (S.1 1004 0) (S.1 1000 0 0) r + lnL h (S.1 1000 0 0) o r) i + (skL h (S.1 1004 0) (S.1 1000 0 0) i + lnL h (S.1 1000 0 0) o i))))) := by
      intro b hb
      subst hb
      unfold f_X9_step_K466 f_X9_cellOf f_X9_step_K504
      by_cases g : o = 0
      · have z : lnL h (S.1 1000 0 0) o i = 0 := by unfold lnL; rw [if_pos g]
        simp only [Option.bind_some, if_pos g, m3_0, letOut_ok (show 3 * i < 12 by omega), cl0_0, Int64.sub_zero, Int64.add_zero, oLet, nI_1]
        refine congrArg (fun z => some (Sum.inl (nI (i + 1), z))) (nS_cg (fun k _ => ?_) (fun _ _ => rfl) (fun _ _ => rfl) ?_)
        · rw [← loH_s, z, Int64.sub_zero, uL_n (show ¬ 3 * i = 3 * i + 2 by omega), e0]
        · rw [z, Int64.add_zero, Int64.add_assoc]
      · have z : Int32.toInt64 (oDRAUGHT i) * oMaxL 0 (h (3 * i) / 10 - Int32.toInt64 (S.1 1000 0 0)) = lnL h (S.1 1000 0 0) o i := by unfold lnL; rw [if_neg g]
        simp only [Option.bind_some, if_neg g, m3_0, if_pos (in12 (show 3 * i < 12 by omega)), nS_w (show 3 * i < 12 by omega), nS_a, wm0, letOut_ok (show 3 * i < 12 by omega), hn i hi, z, uL_n (show ¬ 3 * i = 3 * i + 2 by omega), e0, oLet, nI_1]
        refine congrArg (fun z => some (Sum.inl (nI (i + 1), z))) (nS_cg (fun k _ => loH_s k) (fun _ _ => rfl) (fun _ _ => rfl) ?_)
        rw [Int64.add_assoc, Int64.add_assoc]
    show (if (4 : Int32) ≤ nI i then _ else _) = some (Sum.inl (nI (i + 1), nS S (loH h (S.1 1004 0) (S.1 1000 0 0) o (i + 1)) (wmH h) d (l + (lSum (fun r => skL h (S.1 1004 0) (S.1 1000 0 0) r + lnL h (S.1 1000 0 0) o r) i + (skL h (S.1 1004 0) (S.1 1000 0 0) i + lnL h (S.1 1000 0 0) o i)))))
    rw [if_neg (le4 hi)]
    unfold f_X9_cellOf
    simp only [Option.bind_some, m3_2, if_pos (in4 hi), if_pos (in12 (show 3 * i + 2 < 12 by omega)), nS_c hi, nS_w (show 3 * i + 2 < 12 by omega), nS_a, wm2, letOut_ok (show 3 * i + 2 < 12 by omega), hs i hi, e2]
    rcases (by omega : i = 3 ∨ i = 2 ∨ i < 2) with g | g | g
    · rw [if_pos (show nI i = 3 by rw [g]; rfl)]
      exact key _ (by rw [g]; rfl)
    · rw [if_neg (show ¬ nI i = 3 by rw [g]; decide), if_pos (show nI i = 2 by rw [g]; rfl)]
      exact key _ (by rw [g]; rfl)
    · rw [if_neg (show ¬ nI i = 3 from fun z => by rw [i_eq, nT (by omega)] at z; have : (3 : Int32).toInt = 3 := rfl; omega), if_neg (show ¬ nI i = 2 from fun z => by rw [i_eq, nT (by omega)] at z; have : (2 : Int32).toInt = 2 := rfl; omega)]
      refine key _ ?_
      rcases (by omega : i = 0 ∨ i = 1) with g | g
      · rw [g]; rfl
      · rw [g]; rfl
