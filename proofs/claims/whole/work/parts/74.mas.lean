/-! Masonry: heats, damps, what is lost, laid over a state -/
theorem oS_ext {S T : oS} (h1 : ∀ t j k, T.1 t j k = S.1 t j k) (h2 : ∀ t j k, T.2 t j k = S.2 t j k) : T = S := Prod.ext (funext fun t => funext fun j => funext fun k => h1 t j k) (funext fun t => funext fun j => funext fun k => h2 t j k)
def uL (h : Nat → Int64) (k : Nat) (v : Int64) : Nat → Int64 := fun i => if i = k then v else h i
def uI (h : Nat → Int32) (k : Nat) (v : Int32) : Nat → Int32 := fun i => if i = k then v else h i
def mX (j : Nat) (S : oS) (h : Nat → Int64) (d : Nat → Int32) (l : Int64) : oS := (fun t i k => if t = 502 ∧ i = j ∧ k < 4 then d k else S.1 t i k, fun t i k => if t = 501 ∧ i = j ∧ k < 12 then h k else if t = 500 ∧ i = j ∧ k = 9 then l else S.2 t i k)
theorem mX_1 {j : Nat} {S : oS} {h : Nat → Int64} {d : Nat → Int32} {l : Int64} (t i k : Nat) : (mX j S h d l).1 t i k = if t = 502 ∧ i = j ∧ k < 4 then d k else S.1 t i k := rfl
theorem mX_2 {j : Nat} {S : oS} {h : Nat → Int64} {d : Nat → Int32} {l : Int64} (t i k : Nat) : (mX j S h d l).2 t i k = if t = 501 ∧ i = j ∧ k < 12 then h k else if t = 500 ∧ i = j ∧ k = 9 then l else S.2 t i k := rfl
theorem mX_h {j k : Nat} {S : oS} {h : Nat → Int64} {d : Nat → Int32} {l : Int64} (hk : k < 12) : (mX j S h d l).2 501 j (nI k).toNatClampNeg = h k := by rw [ncl (by omega), mX_2, if_pos ⟨rfl, rfl, hk⟩]
theorem mX_d {j k : Nat} {S : oS} {h : Nat → Int64} {d : Nat → Int32} {l : Int64} (hk : k < 4) : (mX j S h d l).1 502 j (nI k).toNatClampNeg = d k := by rw [ncl (by omega), mX_1, if_pos ⟨rfl, rfl, hk⟩]
theorem mX_l {j : Nat} {S : oS} {h : Nat → Int64} {d : Nat → Int32} {l : Int64} : (mX j S h d l).2 500 j 9 = l := by rw [mX_2, if_neg (fun z => absurd z.1 (by decide)), if_pos ⟨rfl, rfl, rfl⟩]
theorem mX_sh {j k : Nat} {S : oS} {h : Nat → Int64} {d : Nat → Int32} {l v : Int64} (hk : k < 12) : oStL (mX j S h d l) 501 j (nI k).toNatClampNeg v = mX j S (uL h k v) d l := by
  rw [ncl (by omega)]
  refine oS_ext (fun t i m => rfl) (fun t i m => ?_)
  show (if t = 501 ∧ i = j ∧ m = k then v else (mX j S h d l).2 t i m) = _
  rw [mX_2, mX_2]
  unfold uL
  grind
theorem mX_sd {j k : Nat} {S : oS} {h : Nat → Int64} {d : Nat → Int32} {l : Int64} {v : Int32} (hk : k < 4) : oStI (mX j S h d l) 502 j (nI k).toNatClampNeg v = mX j S h (uI d k v) l := by
  rw [ncl (by omega)]
  refine oS_ext (fun t i m => ?_) (fun t i m => rfl)
  show (if t = 502 ∧ i = j ∧ m = k then v else (mX j S h d l).1 t i m) = _
  rw [mX_1, mX_1]
  unfold uI
  grind
theorem mX_sl {j : Nat} {S : oS} {h : Nat → Int64} {d : Nat → Int32} {l v : Int64} : oStL (mX j S h d l) 500 j 9 v = mX j S h d v := by
  refine oS_ext (fun t i m => rfl) (fun t i m => ?_)
  show (if t = 500 ∧ i = j ∧ m = 9 then v else (mX j S h d l).2 t i m) = _
  rw [mX_2, mX_2]
  grind
theorem mX_cg {j : Nat} {S : oS} {h h' : Nat → Int64} {d d' : Nat → Int32} {l l' : Int64} (e1 : ∀ k, k < 12 → h k = h' k) (e2 : ∀ k, k < 4 → d k = d' k) (e3 : l = l') : mX j S h d l = mX j S h' d' l' := by
  subst e3
  refine oS_ext (fun t i m => ?_) (fun t i m => ?_)
  · rw [mX_1, mX_1]
    by_cases g : t = 502 ∧ i = j ∧ m < 4
    · rw [if_pos g, if_pos g, e2 m g.2.2]
    · rw [if_neg g, if_neg g]
  · rw [mX_2, mX_2]
    by_cases g : t = 501 ∧ i = j ∧ m < 12
    · rw [if_pos g, if_pos g, e1 m g.2.2]
    · rw [if_neg g, if_neg g]
theorem mX_id {j : Nat} {S : oS} : mX j S (S.2 501 j) (S.1 502 j) (S.2 500 j 9) = S := by
  refine oS_ext (fun t i m => ?_) (fun t i m => ?_)
  · rw [mX_1]
    by_cases g : t = 502 ∧ i = j ∧ m < 4
    · rw [if_pos g, g.1, g.2.1]
    · rw [if_neg g]
  · rw [mX_2]
    by_cases g : t = 501 ∧ i = j ∧ m < 12
    · rw [if_pos g, g.1, g.2.1]
    · rw [if_neg g]
      by_cases g2 : t = 500 ∧ i = j ∧ m = 9
      · rw [if_pos g2, g2.1, g2.2.1, g2.2.2]
      · rw [if_neg g2]
theorem mX_mX {j : Nat} {S : oS} {h h' : Nat → Int64} {d d' : Nat → Int32} {l l' : Int64} : mX j (mX j S h d l) h' d' l' = mX j S h' d' l' := by
  refine oS_ext (fun t i m => ?_) (fun t i m => ?_)
  · rw [mX_1, mX_1, mX_1]
    grind
  · rw [mX_2, mX_2, mX_2]
    grind
theorem n3_0 (m : Nat) : nI m * 3 + 0 = nI (3 * m) := by
  induction m with
  | zero => rfl
  | succ m ih =>
    rw [← nI_1, show 3 * (m + 1) = 3 * m + 1 + 1 + 1 by omega, ← nI_1, ← nI_1, ← nI_1, ← ih]
    grind
theorem n3_1 (m : Nat) : nI m * 3 + 1 = nI (3 * m + 1) := by rw [← nI_1, ← n3_0]; grind
theorem n3_2 (m : Nat) : nI m * 3 + 2 = nI (3 * m + 2) := by rw [← nI_1 (3 * m + 1), ← nI_1, ← n3_0]; grind
theorem m3_0 (m : Nat) : 3 * nI m + 0 = nI (3 * m) := by rw [← n3_0]; grind
theorem m3_1 (m : Nat) : 3 * nI m + 1 = nI (3 * m + 1) := by rw [← n3_1]; grind
theorem m3_2 (m : Nat) : 3 * nI m + 2 = nI (3 * m + 2) := by rw [← n3_2]; grind
theorem in12 {k : Nat} (h : k < 12) : oIn (nI k) 12 := (nin (by omega)).mpr h
theorem in4 {k : Nat} (h : k < 4) : oIn (nI k) 4 := (nin (by omega)).mpr h
theorem le4 {i : Nat} (h : i < 4) : ¬ (4 : Int32) ≤ nI i := by rw [nle (m := 4) rfl (by omega)]; omega
theorem wf0 {j r : Nat} {S : oS} {h : Nat → Int64} {d : Nat → Int32} {l : Int64} (hr : r < 4) : f_X4_warmthOf j (nI r) 0 (mX j S h d l) = some (h (3 * r) / 10, mX j S h d l) := by
  unfold f_X4_warmthOf
  rw [n3_0, if_pos (in12 (by omega)), if_pos (show oIn (0 : Int32) 3 from by decide), mX_h (by omega)]
  rfl
theorem wf1 {j r : Nat} {S : oS} {h : Nat → Int64} {d : Nat → Int32} {l : Int64} (hr : r < 4) : f_X4_warmthOf j (nI r) 1 (mX j S h d l) = some (h (3 * r + 1) / 30, mX j S h d l) := by
  unfold f_X4_warmthOf
  rw [n3_1, if_pos (in12 (by omega)), if_pos (show oIn (1 : Int32) 3 from by decide), mX_h (by omega)]
  rfl
theorem wf2 {j r : Nat} {S : oS} {h : Nat → Int64} {d : Nat → Int32} {l : Int64} (hr : r < 4) : f_X4_warmthOf j (nI r) 2 (mX j S h d l) = some (h (3 * r + 2) / 60, mX j S h d l) := by
  unfold f_X4_warmthOf
  rw [n3_2, if_pos (in12 (by omega)), if_pos (show oIn (2 : Int32) 3 from by decide), mX_h (by omega)]
  rfl
/-- drying -/
def dr (h : Nat → Int64) (d : Nat → Int32) (r : Nat) : Int64 := if d r ≤ 0 then 0 else if h (3 * r) / 10 < 90 then 0 else oMinL ((h (3 * r) / 10 - 90) / 4 + 1) (Int32.toInt64 (d r))
def dryH (h : Nat → Int64) (d : Nat → Int32) (i : Nat) (k : Nat) : Int64 := if k % 3 = 0 ∧ k / 3 < i then h k - 25 * dr h d (k / 3) else h k
def dryD (h : Nat → Int64) (d : Nat → Int32) (i : Nat) (r : Nat) : Int32 := if r < i then d r - Int64.toInt32 (dr h d r) else d r
theorem l_mul0 : (25 : Int64) * 0 = 0 := rfl
theorem dryH_s {h : Nat → Int64} {d : Nat → Int32} {i : Nat} (k : Nat) : uL (dryH h d i) (3 * i) (h (3 * i) - 25 * dr h d i) k = dryH h d (i + 1) k := by
  unfold uL dryH
  by_cases g : k = 3 * i
  · subst g
    rw [if_pos rfl, if_pos (by omega), show 3 * i / 3 = i by omega]
  · rw [if_neg g]
    by_cases g2 : k % 3 = 0 ∧ k / 3 < i
    · rw [if_pos g2, if_pos (by omega)]
    · rw [if_neg g2, if_neg (by omega)]
theorem dryD_s {h : Nat → Int64} {d : Nat → Int32} {i : Nat} (k : Nat) : uI (dryD h d i) i (d i - Int64.toInt32 (dr h d i)) k = dryD h d (i + 1) k := by
  unfold uI dryD
  by_cases g : k = i
  · subst g
    rw [if_pos rfl, if_pos (by omega)]
  · rw [if_neg g]
    by_cases g2 : k < i
    · rw [if_pos g2, if_pos (by omega)]
    · rw [if_neg g2, if_neg (by omega)]
/-- no drying: nothing changes -/
theorem dry_0 {h : Nat → Int64} {d : Nat → Int32} {i : Nat} (e : dr h d i = 0) (k : Nat) : dryH h d i k = dryH h d (i + 1) k ∧ dryD h d i k = dryD h d (i + 1) k := by
  rw [← dryH_s, ← dryD_s, e, l_mul0, Int64.sub_zero, show Int64.toInt32 0 = 0 from rfl, Int32.sub_zero]
  unfold uL uI dryH dryD
  constructor
  · by_cases g : k = 3 * i
    · subst g
      rw [if_pos rfl, if_neg (by omega)]
    · rw [if_neg g]
  · by_cases g : k = i
    · subst g
      rw [if_pos rfl, if_neg (by omega)]
    · rw [if_neg g]
theorem lSum_1 (f : Nat → Int64) (n : Nat) : lSum f (n + 1) = lSum f n + f n := rfl
theorem dry_ok {j : Nat} {S : oS} {h : Nat → Int64} {d : Nat → Int32} {l : Int64} : f_X4_dry j (mX j S h d l) = some (mX j S (dryH h d 4) (dryD h d 4) (l + lSum (fun r => 25 * dr h d r) 4)) := by
  have e : oLp (f_X4_dry_L2 j) oFu ((0 : Int32), mX j S h d l) = some (mX j S (dryH h d 4) (dryD h d 4) (l + lSum (fun r => 25 * dr h d r) 4)) := by
    refine oLp_eq (fun i => (nI i, mX j S (dryH h d i) (dryD h d i) (l + lSum (fun r => 25 * dr h d r) i))) _ 4 (by omega) ?_ ?_ rfl
    · refine congrArg (fun z => ((0 : Int32), z)) (mX_cg (fun k hk => ?_) (fun k hk => ?_) ?_)
      · unfold dryH; rw [if_neg (by omega)]
      · unfold dryD; rw [if_neg (by omega)]
      · show l = l + 0; rw [Int64.add_zero]
    · intro i hi
      have e0 : dryH h d i (3 * i) = h (3 * i) := by unfold dryH; rw [if_neg (by omega)]
      have e1 : dryD h d i i = d i := by unfold dryD; rw [if_neg (by omega)]
      show (if (4 : Int32) ≤ nI i then _ else _) = some (Sum.inl (nI (i + 1), mX j S (dryH h d (i + 1)) (dryD h d (i + 1)) (l + (lSum (fun r => 25 * dr h d r) i + 25 * dr h d i))))
      rw [if_neg (le4 hi), wf0 hi, Option.bind_some, if_pos (in4 hi)]
      show (if (mX j S (dryH h d i) (dryD h d i) (l + lSum (fun r => 25 * dr h d r) i)).1 502 j (nI i).toNatClampNeg ≤ 0 then _ else _) = _
      rw [mX_d hi, e1, e0]
      by_cases g1 : d i ≤ 0
      · have z : dr h d i = 0 := by unfold dr; rw [if_pos g1]
        rw [if_pos g1, ← nI_1, z, l_mul0, Int64.add_zero]
        exact congrArg (fun z => some (Sum.inl (nI i + 1, z))) (mX_cg (fun k _ => (dry_0 z k).1) (fun k _ => (dry_0 z k).2) rfl)
      · rw [if_neg g1]
        by_cases g2 : h (3 * i) / 10 < 90
        · have z : dr h d i = 0 := by unfold dr; rw [if_neg g1, if_pos g2]
          show (if h (3 * i) / 10 < 90 then _ else _) = _
          rw [if_pos g2, ← nI_1, z, l_mul0, Int64.add_zero]
          exact congrArg (fun z => some (Sum.inl (nI i + 1, z))) (mX_cg (fun k _ => (dry_0 z k).1) (fun k _ => (dry_0 z k).2) rfl)
        · have z : oMinL ((h (3 * i) / 10 - 90) / 4 + 1) (Int32.toInt64 (d i)) = dr h d i := by unfold dr; rw [if_neg g1, if_neg g2]
          show (if h (3 * i) / 10 < 90 then _ else (if oIn (nI i) 4 then _ else none)) = _
          rw [if_neg g2, if_pos (in4 hi)]
          simp only [oLet, if_pos (in4 hi), mX_d hi, e1, z, n3_0, if_pos (in12 (show 3 * i < 12 by omega)), mX_sd hi, mX_h (show 3 * i < 12 by omega), e0, mX_sh (show 3 * i < 12 by omega), mX_l, mX_sl]
          rw [← nI_1]
          refine congrArg (fun z => some (Sum.inl (nI i + 1, z))) (mX_cg (fun k _ => dryH_s k) (fun k _ => dryD_s k) ?_)
          rw [Int64.add_assoc]
  unfold f_X4_dry
  rw [e]
  rfl
