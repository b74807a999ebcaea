/-! The reference's step: what is now, how warm, how damp, what the tick loses -/
def nS (S : oS) (h w : Nat → Int64) (d : Nat → Int32) (l : Int64) : oS := (fun t i k => if t = 1052 ∧ i = 0 ∧ k < 4 then d k else S.1 t i k, fun t i k => if t = 1050 ∧ i = 0 ∧ k < 12 then h k else if t = 1051 ∧ i = 0 ∧ k < 12 then w k else if t = 1000 ∧ i = 0 ∧ k = 52 then l else S.2 t i k)
theorem nS_1 {S : oS} {h w : Nat → Int64} {d : Nat → Int32} {l : Int64} (t i k : Nat) : (nS S h w d l).1 t i k = if t = 1052 ∧ i = 0 ∧ k < 4 then d k else S.1 t i k := rfl
theorem nS_2 {S : oS} {h w : Nat → Int64} {d : Nat → Int32} {l : Int64} (t i k : Nat) : (nS S h w d l).2 t i k = if t = 1050 ∧ i = 0 ∧ k < 12 then h k else if t = 1051 ∧ i = 0 ∧ k < 12 then w k else if t = 1000 ∧ i = 0 ∧ k = 52 then l else S.2 t i k := rfl
theorem nS_h {k : Nat} {S : oS} {h w : Nat → Int64} {d : Nat → Int32} {l : Int64} (hk : k < 12) : (nS S h w d l).2 1050 0 (nI k).toNatClampNeg = h k := by rw [ncl (by omega), nS_2, if_pos ⟨rfl, rfl, hk⟩]
theorem nS_w {k : Nat} {S : oS} {h w : Nat → Int64} {d : Nat → Int32} {l : Int64} (hk : k < 12) : (nS S h w d l).2 1051 0 (nI k).toNatClampNeg = w k := by rw [ncl (by omega), nS_2, if_neg (fun z => absurd z.1 (by decide)), if_pos ⟨rfl, rfl, hk⟩]
theorem nS_d {k : Nat} {S : oS} {h w : Nat → Int64} {d : Nat → Int32} {l : Int64} (hk : k < 4) : (nS S h w d l).1 1052 0 (nI k).toNatClampNeg = d k := by rw [ncl (by omega), nS_1, if_pos ⟨rfl, rfl, hk⟩]
theorem nS_l {S : oS} {h w : Nat → Int64} {d : Nat → Int32} {l : Int64} : (nS S h w d l).2 1000 0 52 = l := rfl
theorem nS_c {k : Nat} {S : oS} {h w : Nat → Int64} {d : Nat → Int32} {l : Int64} (hk : k < 4) : (nS S h w d l).1 1004 0 (nI k).toNatClampNeg = S.1 1004 0 k := by rw [ncl (by omega)]; rfl
theorem nS_a {k : Nat} {S : oS} {h w : Nat → Int64} {d : Nat → Int32} {l : Int64} : (nS S h w d l).1 1000 0 k = S.1 1000 0 k := rfl
theorem nS_sh {k : Nat} {S : oS} {h w : Nat → Int64} {d : Nat → Int32} {l v : Int64} (hk : k < 12) : oStL (nS S h w d l) 1050 0 (nI k).toNatClampNeg v = nS S (uL h k v) w d l := by
  rw [ncl (by omega)]
  refine oS_ext (fun t i m => rfl) (fun t i m => ?_)
  show (if t = 1050 ∧ i = 0 ∧ m = k then v else (nS S h w d l).2 t i m) = _
  rw [nS_2, nS_2]
  unfold uL
  grind
theorem nS_sw {k : Nat} {S : oS} {h w : Nat → Int64} {d : Nat → Int32} {l v : Int64} (hk : k < 12) : oStL (nS S h w d l) 1051 0 (nI k).toNatClampNeg v = nS S h (uL w k v) d l := by
  rw [ncl (by omega)]
  refine oS_ext (fun t i m => rfl) (fun t i m => ?_)
  show (if t = 1051 ∧ i = 0 ∧ m = k then v else (nS S h w d l).2 t i m) = _
  rw [nS_2, nS_2]
  unfold uL
  grind
theorem nS_sd {k : Nat} {S : oS} {h w : Nat → Int64} {d : Nat → Int32} {l : Int64} {v : Int32} (hk : k < 4) : oStI (nS S h w d l) 1052 0 (nI k).toNatClampNeg v = nS S h w (uI d k v) l := by
  rw [ncl (by omega)]
  refine oS_ext (fun t i m => ?_) (fun t i m => rfl)
  show (if t = 1052 ∧ i = 0 ∧ m = k then v else (nS S h w d l).1 t i m) = _
  rw [nS_1, nS_1]
  unfold uI
  grind
theorem nS_sl {S : oS} {h w : Nat → Int64} {d : Nat → Int32} {l v : Int64} : oStL (nS S h w d l) 1000 0 52 v = nS S h w d v := by
  refine oS_ext (fun t i m => rfl) (fun t i m => ?_)
  show (if t = 1000 ∧ i = 0 ∧ m = 52 then v else (nS S h w d l).2 t i m) = _
  rw [nS_2, nS_2]
  grind
theorem nS_cg {S : oS} {h h' w w' : Nat → Int64} {d d' : Nat → Int32} {l l' : Int64} (e1 : ∀ k, k < 12 → h k = h' k) (e4 : ∀ k, k < 12 → w k = w' k) (e2 : ∀ k, k < 4 → d k = d' k) (e3 : l = l') : nS S h w d l = nS S h' w' d' l' := by
  subst e3
  refine oS_ext (fun t i m => ?_) (fun t i m => ?_)
  · rw [nS_1, nS_1]
    by_cases g : t = 1052 ∧ i = 0 ∧ m < 4
    · rw [if_pos g, if_pos g, e2 m g.2.2]
    · rw [if_neg g, if_neg g]
  · rw [nS_2, nS_2]
    by_cases g : t = 1050 ∧ i = 0 ∧ m < 12
    · rw [if_pos g, if_pos g, e1 m g.2.2]
    · rw [if_neg g, if_neg g]
      by_cases g2 : t = 1051 ∧ i = 0 ∧ m < 12
      · rw [if_pos g2, if_pos g2, e4 m g2.2.2]
      · rw [if_neg g2, if_neg g2]
theorem nS_id {S : oS} : nS S (S.2 1050 0) (S.2 1051 0) (S.1 1052 0) (S.2 1000 0 52) = S := by
  refine oS_ext (fun t i m => ?_) (fun t i m => ?_)
  · rw [nS_1]
    by_cases g : t = 1052 ∧ i = 0 ∧ m < 4
    · rw [if_pos g, g.1, g.2.1]
    · rw [if_neg g]
  · rw [nS_2]
    by_cases g : t = 1050 ∧ i = 0 ∧ m < 12
    · rw [if_pos g, g.1, g.2.1]
    · rw [if_neg g]
      by_cases g2 : t = 1051 ∧ i = 0 ∧ m < 12
      · rw [if_pos g2, g2.1, g2.2.1]
      · rw [if_neg g2]
        by_cases g3 : t = 1000 ∧ i = 0 ∧ m = 52
        · rw [if_pos g3, g3.1, g3.2.1, g3.2.2]
        · rw [if_neg g3]
theorem nS_nS {S : oS} {h h' w w' : Nat → Int64} {d d' : Nat → Int32} {l l' : Int64} : nS (nS S h w d l) h' w' d' l' = nS S h' w' d' l' := by
  refine oS_ext (fun t i m => ?_) (fun t i m => ?_)
  · rw [nS_1, nS_1, nS_1]
    grind
  · rw [nS_2, nS_2, nS_2]
    grind
/-- how warm -/
def wmH (h : Nat → Int64) (k : Nat) : Int64 := if k % 3 = 0 then h k / 10 else if k % 3 = 1 then h k / 30 else h k / 60
theorem wm0 {h : Nat → Int64} {r : Nat} : wmH h (3 * r) = h (3 * r) / 10 := by unfold wmH; rw [if_pos (by omega)]
theorem wm1 {h : Nat → Int64} {r : Nat} : wmH h (3 * r + 1) = h (3 * r + 1) / 30 := by unfold wmH; rw [if_neg (by omega), if_pos (by omega)]
theorem wm2 {h : Nat → Int64} {r : Nat} : wmH h (3 * r + 2) = h (3 * r + 2) / 60 := by unfold wmH; rw [if_neg (by omega), if_neg (by omega)]
theorem warm_ok {S : oS} {h w : Nat → Int64} {d : Nat → Int32} {l : Int64} : f_X9_layWarm (nS S h w d l) = some (nS S h (wmH h) d l) := by
  have e : oLp f_X9_layWarm_L2 oFu ((0 : Int32), nS S h w d l) = some (nS S h (fun k => if k < 12 then wmH h k else w k) d l) := by
    refine oLp_eq (fun i => (nI i, nS S h (fun k => if k < i then wmH h k else w k) d l)) _ 12 (by omega) ?_ ?_ rfl
    · refine congrArg (fun z => ((0 : Int32), z)) (nS_cg (fun _ _ => rfl) (fun k hk => ?_) (fun _ _ => rfl) rfl)
      rw [if_neg (by omega)]
    · intro i hi
      have em : nI i - nI i / 3 * 3 = nI (i % 3) := n_mod (a := i) (b := 3) (by omega) (by omega) (by omega)
      have key : ∀ m : Int32, ¬ Int32.toInt64 m = 0 → h i / Int32.toInt64 m = wmH h i → f_X9_massOf (nI (i % 3)) (nS S h (fun k => if k < i then wmH h k else w k) d l) = some (m, nS S h (fun k => if k < i then wmH h k else w k) d l) → f_X9_layWarm_L2 (nI i, nS S h (fun k => if k < i then wmH h k else w k) d l) = some (Sum.inl (nI (i + 1), nS S h (fun k => if k < i + 1 then wmH h k else w k) d l)) := by
        intro m hm hv hf
        show (if (12 : Int32) ≤ nI i then _ else (if oIn (nI i) 12 then (f_X9_massOf (nI i - nI i / 3 * 3) (nS S h (fun k => if k < i then wmH h k else w k) d l)).bind _ else none)) = _
        rw [if_neg (by rw [nle (m := 12) rfl (by omega)]; omega), if_pos (in12 hi), em, hf, Option.bind_some]
        show (if ¬ Int32.toInt64 m = 0 then (if oIn (nI i) 12 then some (Sum.inl (nI i + 1, oStL (nS S h (fun k => if k < i then wmH h k else w k) d l) 1051 0 (nI i).toNatClampNeg ((nS S h (fun k => if k < i then wmH h k else w k) d l).2 1050 0 (nI i).toNatClampNeg / Int32.toInt64 m))) else none) else none) = _
        rw [if_pos hm, if_pos (in12 hi), nS_h hi, hv, nS_sw hi, nI_1]
        refine congrArg (fun z => some (Sum.inl (nI (i + 1), z))) (nS_cg (fun _ _ => rfl) (fun k hk => ?_) (fun _ _ => rfl) rfl)
        unfold uL
        grind
      rcases (by omega : i % 3 = 0 ∨ i % 3 = 1 ∨ i % 3 = 2) with g | g | g
      · refine key 10 (by decide) (by unfold wmH; rw [if_pos g]; rfl) (by rw [g]; rfl)
      · refine key 30 (by decide) (by unfold wmH; rw [if_neg (by omega), if_pos g]; rfl) (by rw [g]; rfl)
      · refine key 60 (by decide) (by unfold wmH; rw [if_neg (by omega), if_neg (by omega)]; rfl) (by rw [g]; rfl)
  unfold f_X9_layWarm
  rw [e, Option.bind_some]
  exact congrArg some (nS_cg (fun _ _ => rfl) (fun k hk => by rw [if_pos hk]) (fun _ _ => rfl) rfl)
theorem shift_M {S : oS} {h w : Nat → Int64} {d : Nat → Int32} {l v : Int64} {a b : Nat} (ha : a < 12) (hb : b < 12) : f_X9_shift (nI a) (nI b) v (nS S h w d l) = some (nS S (uL (uL h a (h a - v)) b (uL h a (h a - v) b + v)) w d l) := by
  unfold f_X9_shift
  simp only [oLet, if_pos (in12 ha), if_pos (in12 hb), nS_h ha, nS_sh ha, nS_h hb, nS_sh hb]
def cl0 (v : Int64) : Int64 := if v ≤ 0 then 0 else v
theorem letOut_ok {S : oS} {h w : Nat → Int64} {d : Nat → Int32} {l v : Int64} {a : Nat} (ha : a < 12) : f_X9_letOut (nI a) v (nS S h w d l) = some (nS S (uL h a (h a - cl0 v)) w d (l + cl0 v)) := by
  have key : ∀ x : Int64, f_X9_letOut_K11 (nI a) x (nS S h w d l) = some (nS S (uL h a (h a - x)) w d (l + x)) := by
    intro x
    unfold f_X9_letOut_K11
    simp only [oLet, if_pos (in12 ha), nS_h ha, nS_sh ha, nS_l, nS_sl]
  unfold f_X9_letOut cl0
  by_cases g : v ≤ 0
  · rw [if_pos g, if_pos g, key]
  · rw [if_neg g, if_neg g, key]
