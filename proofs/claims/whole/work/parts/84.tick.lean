/-! A tick: the reference's cells -/
def qM (S : oS) (b : Int64) (n : Nat) (ls lw : Nat → Int32) (hh : Nat → Int64) (dd : Nat → Int32) (l : Int64) (o w : Int32) : oS := (fun t i k => if t = 1000 ∧ i = 0 ∧ k = 5 then nI n else if t = 1000 ∧ i = 0 ∧ k = 12 then o else if t = 1000 ∧ i = 0 ∧ k = 11 then w else if t = 1007 ∧ i = 0 then ls k else if t = 1008 ∧ i = 0 then lw k else if t = 1003 ∧ i = 0 ∧ k < 4 then dd k else S.1 t i k, fun t i k => if t = 1002 ∧ i = 0 ∧ k < 12 then hh k else if t = 1000 ∧ i = 0 ∧ k = 8 then b else if t = 1000 ∧ i = 0 ∧ k = 9 then l else S.2 t i k)
def zM (S : oS) (g : Int64) (A R C P : Nat → Int32) (b : Int64) (n : Nat) (ls lw : Nat → Int32) (hh : Nat → Int64) (dd : Nat → Int32) (l : Int64) (o w : Int32) (h1 w1 : Nat → Int64) (d1 : Nat → Int32) (t1 : Int64) : oS := nS (gY (qM S b n ls lw hh dd l o w) g A R C P) h1 w1 d1 t1
theorem qM_1 {S : oS} {b : Int64} {n : Nat} {ls lw : Nat → Int32} {hh : Nat → Int64} {dd : Nat → Int32} {l : Int64} {o w : Int32} (t i k : Nat) : (qM S b n ls lw hh dd l o w).1 t i k = if t = 1000 ∧ i = 0 ∧ k = 5 then nI n else if t = 1000 ∧ i = 0 ∧ k = 12 then o else if t = 1000 ∧ i = 0 ∧ k = 11 then w else if t = 1007 ∧ i = 0 then ls k else if t = 1008 ∧ i = 0 then lw k else if t = 1003 ∧ i = 0 ∧ k < 4 then dd k else S.1 t i k := rfl
theorem qM_2 {S : oS} {b : Int64} {n : Nat} {ls lw : Nat → Int32} {hh : Nat → Int64} {dd : Nat → Int32} {l : Int64} {o w : Int32} (t i k : Nat) : (qM S b n ls lw hh dd l o w).2 t i k = if t = 1002 ∧ i = 0 ∧ k < 12 then hh k else if t = 1000 ∧ i = 0 ∧ k = 8 then b else if t = 1000 ∧ i = 0 ∧ k = 9 then l else S.2 t i k := rfl
section
variable {S : oS} {g b l t1 : Int64} {A R C P ls lw dd d1 : Nat → Int32} {n : Nat} {hh h1 w1 : Nat → Int64} {o w : Int32}
theorem zM_1 (t i k : Nat) : (zM S g A R C P b n ls lw hh dd l o w h1 w1 d1 t1).1 t i k = if t = 1052 ∧ i = 0 ∧ k < 4 then d1 k else if t = 1028 ∧ i = 0 then A k else if t = 1029 ∧ i = 0 then R k else if t = 1030 ∧ i = 0 then C k else if t = 1031 ∧ i = 0 then P k else if t = 1000 ∧ i = 0 ∧ k = 5 then nI n else if t = 1000 ∧ i = 0 ∧ k = 12 then o else if t = 1000 ∧ i = 0 ∧ k = 11 then w else if t = 1007 ∧ i = 0 then ls k else if t = 1008 ∧ i = 0 then lw k else if t = 1003 ∧ i = 0 ∧ k < 4 then dd k else S.1 t i k := rfl
theorem zM_2 (t i k : Nat) : (zM S g A R C P b n ls lw hh dd l o w h1 w1 d1 t1).2 t i k = if t = 1050 ∧ i = 0 ∧ k < 12 then h1 k else if t = 1051 ∧ i = 0 ∧ k < 12 then w1 k else if t = 1000 ∧ i = 0 ∧ k = 52 then t1 else if t = 1000 ∧ i = 0 ∧ k = 10 then g else if t = 1002 ∧ i = 0 ∧ k < 12 then hh k else if t = 1000 ∧ i = 0 ∧ k = 8 then b else if t = 1000 ∧ i = 0 ∧ k = 9 then l else S.2 t i k := rfl
theorem zM_s5 {m : Nat} : oStI (zM S g A R C P b n ls lw hh dd l o w h1 w1 d1 t1) 1000 0 5 (nI m) = zM S g A R C P b m ls lw hh dd l o w h1 w1 d1 t1 := by
  refine oS_ext (fun t i k => ?_) (fun t i k => rfl)
  show (if t = 1000 ∧ i = 0 ∧ k = 5 then nI m else (zM S g A R C P b n ls lw hh dd l o w h1 w1 d1 t1).1 t i k) = _
  rw [zM_1, zM_1]
  grind (splits := 24)
theorem zM_s12 {v : Int32} : oStI (zM S g A R C P b n ls lw hh dd l o w h1 w1 d1 t1) 1000 0 12 v = zM S g A R C P b n ls lw hh dd l v w h1 w1 d1 t1 := by
  refine oS_ext (fun t i k => ?_) (fun t i k => rfl)
  show (if t = 1000 ∧ i = 0 ∧ k = 12 then v else (zM S g A R C P b n ls lw hh dd l o w h1 w1 d1 t1).1 t i k) = _
  rw [zM_1, zM_1]
  grind (splits := 24)
theorem zM_s11 {v : Int32} : oStI (zM S g A R C P b n ls lw hh dd l o w h1 w1 d1 t1) 1000 0 11 v = zM S g A R C P b n ls lw hh dd l o v h1 w1 d1 t1 := by
  refine oS_ext (fun t i k => ?_) (fun t i k => rfl)
  show (if t = 1000 ∧ i = 0 ∧ k = 11 then v else (zM S g A R C P b n ls lw hh dd l o w h1 w1 d1 t1).1 t i k) = _
  rw [zM_1, zM_1]
  grind (splits := 24)
theorem zM_s7 {m : Nat} (hm : m < 30) {v : Int32} : oStI (zM S g A R C P b n ls lw hh dd l o w h1 w1 d1 t1) 1007 0 (nI m).toNatClampNeg v = zM S g A R C P b n (uI ls m v) lw hh dd l o w h1 w1 d1 t1 := by
  rw [ncl (by omega)]
  refine oS_ext (fun t i k => ?_) (fun t i k => rfl)
  show (if t = 1007 ∧ i = 0 ∧ k = m then v else (zM S g A R C P b n ls lw hh dd l o w h1 w1 d1 t1).1 t i k) = _
  rw [zM_1, zM_1]
  unfold uI
  grind (splits := 24)
theorem zM_s8 {m : Nat} (hm : m < 30) {v : Int32} : oStI (zM S g A R C P b n ls lw hh dd l o w h1 w1 d1 t1) 1008 0 (nI m).toNatClampNeg v = zM S g A R C P b n ls (uI lw m v) hh dd l o w h1 w1 d1 t1 := by
  rw [ncl (by omega)]
  refine oS_ext (fun t i k => ?_) (fun t i k => rfl)
  show (if t = 1008 ∧ i = 0 ∧ k = m then v else (zM S g A R C P b n ls lw hh dd l o w h1 w1 d1 t1).1 t i k) = _
  rw [zM_1, zM_1]
  unfold uI
  grind (splits := 24)
theorem zM_s3 {m : Nat} (hm : m < 4) {v : Int32} : oStI (zM S g A R C P b n ls lw hh dd l o w h1 w1 d1 t1) 1003 0 (nI m).toNatClampNeg v = zM S g A R C P b n ls lw hh (uI dd m v) l o w h1 w1 d1 t1 := by
  rw [ncl (by omega)]
  refine oS_ext (fun t i k => ?_) (fun t i k => rfl)
  show (if t = 1003 ∧ i = 0 ∧ k = m then v else (zM S g A R C P b n ls lw hh dd l o w h1 w1 d1 t1).1 t i k) = _
  rw [zM_1, zM_1]
  unfold uI
  grind (splits := 24)
theorem zM_s2 {m : Nat} (hm : m < 12) {v : Int64} : oStL (zM S g A R C P b n ls lw hh dd l o w h1 w1 d1 t1) 1002 0 (nI m).toNatClampNeg v = zM S g A R C P b n ls lw (uL hh m v) dd l o w h1 w1 d1 t1 := by
  rw [ncl (by omega)]
  refine oS_ext (fun t i k => rfl) (fun t i k => ?_)
  show (if t = 1002 ∧ i = 0 ∧ k = m then v else (zM S g A R C P b n ls lw hh dd l o w h1 w1 d1 t1).2 t i k) = _
  rw [zM_2, zM_2]
  unfold uL
  grind (splits := 24)
theorem zM_sb {v : Int64} : oStL (zM S g A R C P b n ls lw hh dd l o w h1 w1 d1 t1) 1000 0 8 v = zM S g A R C P v n ls lw hh dd l o w h1 w1 d1 t1 := by
  refine oS_ext (fun t i k => rfl) (fun t i k => ?_)
  show (if t = 1000 ∧ i = 0 ∧ k = 8 then v else (zM S g A R C P b n ls lw hh dd l o w h1 w1 d1 t1).2 t i k) = _
  rw [zM_2, zM_2]
  grind (splits := 24)
theorem zM_sl {v : Int64} : oStL (zM S g A R C P b n ls lw hh dd l o w h1 w1 d1 t1) 1000 0 9 v = zM S g A R C P b n ls lw hh dd v o w h1 w1 d1 t1 := by
  refine oS_ext (fun t i k => rfl) (fun t i k => ?_)
  show (if t = 1000 ∧ i = 0 ∧ k = 9 then v else (zM S g A R C P b n ls lw hh dd l o w h1 w1 d1 t1).2 t i k) = _
  rw [zM_2, zM_2]
  grind (splits := 24)
theorem zM_sn {m : Nat} (hm : m < 12) {v : Int64} : oStL (zM S g A R C P b n ls lw hh dd l o w h1 w1 d1 t1) 1050 0 (nI m).toNatClampNeg v = zM S g A R C P b n ls lw hh dd l o w (uL h1 m v) w1 d1 t1 := nS_sh hm
theorem zM_sd {m : Nat} (hm : m < 4) {v : Int32} : oStI (zM S g A R C P b n ls lw hh dd l o w h1 w1 d1 t1) 1052 0 (nI m).toNatClampNeg v = zM S g A R C P b n ls lw hh dd l o w h1 w1 (uI d1 m v) t1 := nS_sd hm
theorem zM_cg {hh' h1' w1' : Nat → Int64} {dd' d1' : Nat → Int32} (e1 : ∀ k, k < 12 → hh k = hh' k) (e2 : ∀ k, k < 4 → dd k = dd' k) (e3 : ∀ k, k < 12 → h1 k = h1' k) (e4 : ∀ k, k < 12 → w1 k = w1' k) (e5 : ∀ k, k < 4 → d1 k = d1' k) : zM S g A R C P b n ls lw hh dd l o w h1 w1 d1 t1 = zM S g A R C P b n ls lw hh' dd' l o w h1' w1' d1' t1 := by
  unfold zM
  have : qM S b n ls lw hh dd l o w = qM S b n ls lw hh' dd' l o w := by
    refine oS_ext (fun t i k => ?_) (fun t i k => ?_)
    · rw [qM_1, qM_1]
      by_cases g : t = 1003 ∧ i = 0 ∧ k < 4
      · rw [if_pos g, if_pos g, e2 k g.2.2]
      · rw [if_neg g, if_neg g]
    · rw [qM_2, qM_2]
      by_cases g : t = 1002 ∧ i = 0 ∧ k < 12
      · rw [if_pos g, if_pos g, e1 k g.2.2]
      · rw [if_neg g, if_neg g]
  rw [this]
  exact nS_cg e3 e4 e5 rfl
theorem takeNow_M : f_X9_takeNow (zM S g A R C P b n ls lw hh dd l o w h1 w1 d1 t1) = some (zM S g A R C P b n ls lw hh dd l o w hh w1 dd t1) := by
  have e1 : oLp f_X9_takeNow_L2 oFu ((0 : Int32), zM S g A R C P b n ls lw hh dd l o w h1 w1 d1 t1) = some (zM S g A R C P b n ls lw hh dd l o w (fun k => if k < 12 then hh k else h1 k) w1 d1 t1) := by
    refine oLp_eq (fun i => (nI i, zM S g A R C P b n ls lw hh dd l o w (fun k => if k < i then hh k else h1 k) w1 d1 t1)) _ 12 (by omega) ?_ ?_ rfl
    · exact congrArg (fun z => ((0 : Int32), z)) (zM_cg (fun _ _ => rfl) (fun _ _ => rfl) (fun k _ => by rw [if_neg (by omega)]) (fun _ _ => rfl) (fun _ _ => rfl))
    · intro i hi
      have r : (zM S g A R C P b n ls lw hh dd l o w (fun k => if k < i then hh k else h1 k) w1 d1 t1).2 1002 0 (nI i).toNatClampNeg = hh i := by
        rw [ncl (by omega)]
        exact if_pos ⟨rfl, rfl, hi⟩
      show (if (12 : Int32) ≤ nI i then _ else _) = _
      rw [if_neg (by rw [nle (m := 12) rfl (by omega)]; omega), if_pos (in12 hi), if_pos (in12 hi), r]
      simp only [oLet, zM_sn hi, nI_1]
      refine congrArg (fun z => some (Sum.inl (nI (i + 1), z))) (zM_cg (fun _ _ => rfl) (fun _ _ => rfl) (fun k _ => ?_) (fun _ _ => rfl) (fun _ _ => rfl))
      unfold uL
      grind
  have e2 : oLp f_X9_takeNow_L28 oFu ((0 : Int32), zM S g A R C P b n ls lw hh dd l o w (fun k => if k < 12 then hh k else h1 k) w1 d1 t1) = some (zM S g A R C P b n ls lw hh dd l o w (fun k => if k < 12 then hh k else h1 k) w1 (fun k => if k < 4 then dd k else d1 k) t1) := by
    refine oLp_eq (fun i => (nI i, zM S g A R C P b n ls lw hh dd l o w (fun k => if k < 12 then hh k else h1 k) w1 (fun k => if k < i then dd k else d1 k) t1)) _ 4 (by omega) ?_ ?_ rfl
    · exact congrArg (fun z => ((0 : Int32), z)) (zM_cg (fun _ _ => rfl) (fun _ _ => rfl) (fun _ _ => rfl) (fun _ _ => rfl) (fun k _ => by rw [if_neg (by omega)]))
    · intro i hi
      have r : (zM S g A R C P b n ls lw hh dd l o w (fun k => if k < 12 then hh k else h1 k) w1 (fun k => if k < i then dd k else d1 k) t1).1 1003 0 (nI i).toNatClampNeg = dd i := by
        rw [ncl (by omega)]
        exact if_pos ⟨rfl, rfl, hi⟩
      show (if (4 : Int32) ≤ nI i then _ else _) = _
      rw [if_neg (le4 hi), if_pos (in4 hi), if_pos (in4 hi), r]
      simp only [oLet, zM_sd hi, nI_1]
      refine congrArg (fun z => some (Sum.inl (nI (i + 1), z))) (zM_cg (fun _ _ => rfl) (fun _ _ => rfl) (fun _ _ => rfl) (fun _ _ => rfl) (fun k _ => ?_))
      unfold uI
      grind
  unfold f_X9_takeNow
  rw [e1, Option.bind_some, e2, Option.bind_some]
  exact congrArg some (zM_cg (fun _ _ => rfl) (fun _ _ => rfl) (fun k hk => by rw [if_pos hk]) (fun _ _ => rfl) (fun k hk => by rw [if_pos hk]))
theorem backH_M (x y : Int32) : oLp (f_X9_ticks_L107 x y) oFu ((0 : Int32), zM S g A R C P b n ls lw hh dd l o w h1 w1 d1 t1) = some (zM S g A R C P b n ls lw h1 dd l o w h1 w1 d1 t1) := by
  have e1 : oLp (f_X9_ticks_L107 x y) oFu ((0 : Int32), zM S g A R C P b n ls lw hh dd l o w h1 w1 d1 t1) = some (zM S g A R C P b n ls lw (fun k => if k < 12 then h1 k else hh k) dd l o w h1 w1 d1 t1) := by
    refine oLp_eq (fun i => (nI i, zM S g A R C P b n ls lw (fun k => if k < i then h1 k else hh k) dd l o w h1 w1 d1 t1)) _ 12 (by omega) ?_ ?_ rfl
    · exact congrArg (fun z => ((0 : Int32), z)) (zM_cg (fun k _ => by rw [if_neg (by omega)]) (fun _ _ => rfl) (fun _ _ => rfl) (fun _ _ => rfl) (fun _ _ => rfl))
    · intro i hi
      have r : (zM S g A R C P b n ls lw (fun k => if k < i then h1 k else hh k) dd l o w h1 w1 d1 t1).2 1050 0 (nI i).toNatClampNeg = h1 i := nS_h hi
      show (if (12 : Int32) ≤ nI i then _ else _) = _
      rw [if_neg (by rw [nle (m := 12) rfl (by omega)]; omega), if_pos (in12 hi), if_pos (in12 hi), r]
      simp only [oLet, zM_s2 hi, nI_1]
      refine congrArg (fun z => some (Sum.inl (nI (i + 1), z))) (zM_cg (fun k _ => ?_) (fun _ _ => rfl) (fun _ _ => rfl) (fun _ _ => rfl) (fun _ _ => rfl))
      unfold uL
      grind
  rw [e1]
  exact congrArg some (zM_cg (fun k hk => by rw [if_pos hk]) (fun _ _ => rfl) (fun _ _ => rfl) (fun _ _ => rfl) (fun _ _ => rfl))
theorem backD_M (x y : Int32) : oLp (f_X9_ticks_L137 x y) oFu ((0 : Int32), zM S g A R C P b n ls lw hh dd l o w h1 w1 d1 t1) = some (zM S g A R C P b n ls lw hh d1 l o w h1 w1 d1 t1) := by
  have e1 : oLp (f_X9_ticks_L137 x y) oFu ((0 : Int32), zM S g A R C P b n ls lw hh dd l o w h1 w1 d1 t1) = some (zM S g A R C P b n ls lw hh (fun k => if k < 4 then d1 k else dd k) l o w h1 w1 d1 t1) := by
    refine oLp_eq (fun i => (nI i, zM S g A R C P b n ls lw hh (fun k => if k < i then d1 k else dd k) l o w h1 w1 d1 t1)) _ 4 (by omega) ?_ ?_ rfl
    · exact congrArg (fun z => ((0 : Int32), z)) (zM_cg (fun _ _ => rfl) (fun k _ => by rw [if_neg (by omega)]) (fun _ _ => rfl) (fun _ _ => rfl) (fun _ _ => rfl))
    · intro i hi
      have r : (zM S g A R C P b n ls lw hh (fun k => if k < i then d1 k else dd k) l o w h1 w1 d1 t1).1 1052 0 (nI i).toNatClampNeg = d1 i := nS_d hi
      show (if (4 : Int32) ≤ nI i then _ else _) = _
      rw [if_neg (le4 hi), if_pos (in4 hi), if_pos (in4 hi), r]
      simp only [oLet, zM_s3 hi, nI_1]
      refine congrArg (fun z => some (Sum.inl (nI (i + 1), z))) (zM_cg (fun _ _ => rfl) (fun k _ => ?_) (fun _ _ => rfl) (fun _ _ => rfl) (fun _ _ => rfl))
      unfold uI
      grind
  rw [e1]
  exact congrArg some (zM_cg (fun _ _ => rfl) (fun k hk => by rw [if_pos hk]) (fun _ _ => rfl) (fun _ _ => rfl) (fun _ _ => rfl))
theorem drop_M {m : Nat} (hm : m < 30) : f_X9_dropLog (zM S g A R C P b (m + 1) ls lw hh dd l o w h1 w1 d1 t1) = some (zM S g A R C P b m (shG ls (m + 1)) (shG lw (m + 1)) hh dd l o w h1 w1 d1 t1) := by
  have e1 : oLp f_X9_dropLog_L12 oFu ((0 : Int32), zM S g A R C P b m ls lw hh dd l o w h1 w1 d1 t1) = some (zM S g A R C P b m (fun k => if k < m then ls (k + 1) else ls k) (fun k => if k < m then lw (k + 1) else lw k) hh dd l o w h1 w1 d1 t1) := by
    refine oLp_eq (fun i => (nI i, zM S g A R C P b m (fun k => if k < i then ls (k + 1) else ls k) (fun k => if k < i then lw (k + 1) else lw k) hh dd l o w h1 w1 d1 t1)) _ m (by omega) ?_ ?_ ?_
    · have z : ∀ f : Nat → Int32, f = fun k => if k < 0 then f (k + 1) else f k := fun f => funext fun k => (if_neg (by omega)).symm
      show _ = ((0 : Int32), zM S g A R C P b m (fun k => if k < 0 then ls (k + 1) else ls k) (fun k => if k < 0 then lw (k + 1) else lw k) hh dd l o w h1 w1 d1 t1)
      rw [← z ls, ← z lw]
    · intro i hi
      have hin : oIn (nI i) 30 := (nin (by omega)).mpr (by omega)
      have hin1 : oIn (nI (i + 1)) 30 := (nin (by omega)).mpr (by omega)
      have z : ∀ f : Nat → Int32, uI (fun k => if k < i then f (k + 1) else f k) i (f (i + 1)) = fun k => if k < i + 1 then f (k + 1) else f k := fun f => funext fun k => by
        unfold uI
        grind
      have r7 : (zM S g A R C P b m (fun k => if k < i then ls (k + 1) else ls k) (fun k => if k < i then lw (k + 1) else lw k) hh dd l o w h1 w1 d1 t1).1 1007 0 (nI (i + 1)).toNatClampNeg = ls (i + 1) := by
        rw [ncl (by omega)]
        show (if i + 1 < i then ls (i + 1 + 1) else ls (i + 1)) = _
        rw [if_neg (by omega)]
      have r8 : ∀ ls', (zM S g A R C P b m ls' (fun k => if k < i then lw (k + 1) else lw k) hh dd l o w h1 w1 d1 t1).1 1008 0 (nI (i + 1)).toNatClampNeg = lw (i + 1) := fun ls' => by
        rw [ncl (by omega)]
        show (if i + 1 < i then lw (i + 1 + 1) else lw (i + 1)) = _
        rw [if_neg (by omega)]
      show (if nI m ≤ nI i then _ else _) = _
      rw [if_neg (by rw [nI_leI (by omega) (by omega)]; omega)]
      simp only [nI_1, if_pos hin, if_pos hin1, oLet, r7, zM_s7 (show i < 30 by omega), r8, zM_s8 (show i < 30 by omega), z]
    · show (if nI m ≤ nI m then _ else _) = _
      rw [if_pos (by rw [i_le]; exact Int.le_refl _)]
  have z : ∀ f : Nat → Int32, shG f (m + 1) = fun k => if k < m then f (k + 1) else f k := fun f => rfl
  have r5 : (zM S g A R C P b (m + 1) ls lw hh dd l o w h1 w1 d1 t1).1 1000 0 5 = nI (m + 1) := rfl
  unfold f_X9_dropLog
  rw [oLet_eq, r5, nPr, zM_s5, e1, Option.bind_some, z, z]
end
