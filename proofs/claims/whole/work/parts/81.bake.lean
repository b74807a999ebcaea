/-! Bread takes its heat and grows: both sides -/
def gX (S : oS) (g : Int64) (A R C P : Nat → Int32) : oS := (fun t i k => if t = 405 ∧ i = 0 then A k else if t = 406 ∧ i = 0 then R k else if t = 407 ∧ i = 0 then C k else if t = 408 ∧ i = 0 then P k else S.1 t i k, fun t i k => if t = 400 ∧ i = 0 ∧ k = 11 then g else S.2 t i k)
def xT (S : oS) (g : Int64) (A R C P : Nat → Int32) (b : Int64) (n : Nat) (ls lw : Nat → Int32) (h : Nat → Int64) (d : Nat → Int32) (l : Int64) : oS := mX 0 (lX 0 (gX S g A R C P) b n ls lw) h d l
def gY (S : oS) (g : Int64) (A R C P : Nat → Int32) : oS := (fun t i k => if t = 1028 ∧ i = 0 then A k else if t = 1029 ∧ i = 0 then R k else if t = 1030 ∧ i = 0 then C k else if t = 1031 ∧ i = 0 then P k else S.1 t i k, fun t i k => if t = 1000 ∧ i = 0 ∧ k = 10 then g else S.2 t i k)
def yT (S : oS) (g : Int64) (A R C P : Nat → Int32) (h w : Nat → Int64) (d : Nat → Int32) (l : Int64) : oS := nS (gY S g A R C P) h w d l
theorem gX_1 {S : oS} {g : Int64} {A R C P : Nat → Int32} (t i k : Nat) : (gX S g A R C P).1 t i k = if t = 405 ∧ i = 0 then A k else if t = 406 ∧ i = 0 then R k else if t = 407 ∧ i = 0 then C k else if t = 408 ∧ i = 0 then P k else S.1 t i k := rfl
theorem gX_2 {S : oS} {g : Int64} {A R C P : Nat → Int32} (t i k : Nat) : (gX S g A R C P).2 t i k = if t = 400 ∧ i = 0 ∧ k = 11 then g else S.2 t i k := rfl
theorem gY_1 {S : oS} {g : Int64} {A R C P : Nat → Int32} (t i k : Nat) : (gY S g A R C P).1 t i k = if t = 1028 ∧ i = 0 then A k else if t = 1029 ∧ i = 0 then R k else if t = 1030 ∧ i = 0 then C k else if t = 1031 ∧ i = 0 then P k else S.1 t i k := rfl
theorem gY_2 {S : oS} {g : Int64} {A R C P : Nat → Int32} (t i k : Nat) : (gY S g A R C P).2 t i k = if t = 1000 ∧ i = 0 ∧ k = 10 then g else S.2 t i k := rfl
section
variable {S : oS} {g l b : Int64} {A R C P ls lw d : Nat → Int32} {n : Nat} {h w : Nat → Int64}
theorem xT_sg (v : Int64) : oStL (xT S g A R C P b n ls lw h d l) 400 0 11 v = xT S v A R C P b n ls lw h d l := by
  refine oS_ext (fun t i m => rfl) (fun t i m => ?_)
  show (if t = 400 ∧ i = 0 ∧ m = 11 then v else (mX 0 (lX 0 (gX S g A R C P) b n ls lw) h d l).2 t i m) = (mX 0 (lX 0 (gX S v A R C P) b n ls lw) h d l).2 t i m
  rw [mX_2, mX_2, lX_2, lX_2, gX_2, gX_2]
  grind
theorem xT_sA {k : Nat} (v : Int32) (hk : k < 200) : oStI (xT S g A R C P b n ls lw h d l) 405 0 (nI k).toNatClampNeg v = xT S g (uI A k v) R C P b n ls lw h d l := by
  rw [ncl (by omega)]
  refine oS_ext (fun t i m => ?_) (fun t i m => rfl)
  show (if t = 405 ∧ i = 0 ∧ m = k then v else (mX 0 (lX 0 (gX S g A R C P) b n ls lw) h d l).1 t i m) = (mX 0 (lX 0 (gX S g (uI A k v) R C P) b n ls lw) h d l).1 t i m
  rw [mX_1, mX_1, lX_1, lX_1, gX_1, gX_1]
  unfold uI
  grind
theorem xT_sR {k : Nat} (v : Int32) (hk : k < 200) : oStI (xT S g A R C P b n ls lw h d l) 406 0 (nI k).toNatClampNeg v = xT S g A (uI R k v) C P b n ls lw h d l := by
  rw [ncl (by omega)]
  refine oS_ext (fun t i m => ?_) (fun t i m => rfl)
  show (if t = 406 ∧ i = 0 ∧ m = k then v else (mX 0 (lX 0 (gX S g A R C P) b n ls lw) h d l).1 t i m) = (mX 0 (lX 0 (gX S g A (uI R k v) C P) b n ls lw) h d l).1 t i m
  rw [mX_1, mX_1, lX_1, lX_1, gX_1, gX_1]
  unfold uI
  grind
theorem xT_sC {k : Nat} (v : Int32) (hk : k < 200) : oStI (xT S g A R C P b n ls lw h d l) 407 0 (nI k).toNatClampNeg v = xT S g A R (uI C k v) P b n ls lw h d l := by
  rw [ncl (by omega)]
  refine oS_ext (fun t i m => ?_) (fun t i m => rfl)
  show (if t = 407 ∧ i = 0 ∧ m = k then v else (mX 0 (lX 0 (gX S g A R C P) b n ls lw) h d l).1 t i m) = (mX 0 (lX 0 (gX S g A R (uI C k v) P) b n ls lw) h d l).1 t i m
  rw [mX_1, mX_1, lX_1, lX_1, gX_1, gX_1]
  unfold uI
  grind
theorem xT_sP {k : Nat} (v : Int32) (hk : k < 200) : oStI (xT S g A R C P b n ls lw h d l) 408 0 (nI k).toNatClampNeg v = xT S g A R C (uI P k v) b n ls lw h d l := by
  rw [ncl (by omega)]
  refine oS_ext (fun t i m => ?_) (fun t i m => rfl)
  show (if t = 408 ∧ i = 0 ∧ m = k then v else (mX 0 (lX 0 (gX S g A R C P) b n ls lw) h d l).1 t i m) = (mX 0 (lX 0 (gX S g A R C (uI P k v)) b n ls lw) h d l).1 t i m
  rw [mX_1, mX_1, lX_1, lX_1, gX_1, gX_1]
  unfold uI
  grind
theorem yT_sg (v : Int64) : oStL (yT S g A R C P h w d l) 1000 0 10 v = yT S v A R C P h w d l := by
  refine oS_ext (fun t i m => rfl) (fun t i m => ?_)
  show (if t = 1000 ∧ i = 0 ∧ m = 10 then v else (nS (gY S g A R C P) h w d l).2 t i m) = (nS (gY S v A R C P) h w d l).2 t i m
  rw [nS_2, nS_2, gY_2, gY_2]
  grind
theorem yT_sA {k : Nat} (v : Int32) (hk : k < 200) : oStI (yT S g A R C P h w d l) 1028 0 (nI k).toNatClampNeg v = yT S g (uI A k v) R C P h w d l := by
  rw [ncl (by omega)]
  refine oS_ext (fun t i m => ?_) (fun t i m => rfl)
  show (if t = 1028 ∧ i = 0 ∧ m = k then v else (nS (gY S g A R C P) h w d l).1 t i m) = (nS (gY S g (uI A k v) R C P) h w d l).1 t i m
  rw [nS_1, nS_1, gY_1, gY_1]
  unfold uI
  grind
theorem yT_sR {k : Nat} (v : Int32) (hk : k < 200) : oStI (yT S g A R C P h w d l) 1029 0 (nI k).toNatClampNeg v = yT S g A (uI R k v) C P h w d l := by
  rw [ncl (by omega)]
  refine oS_ext (fun t i m => ?_) (fun t i m => rfl)
  show (if t = 1029 ∧ i = 0 ∧ m = k then v else (nS (gY S g A R C P) h w d l).1 t i m) = (nS (gY S g A (uI R k v) C P) h w d l).1 t i m
  rw [nS_1, nS_1, gY_1, gY_1]
  unfold uI
  grind
theorem yT_sC {k : Nat} (v : Int32) (hk : k < 200) : oStI (yT S g A R C P h w d l) 1030 0 (nI k).toNatClampNeg v = yT S g A R (uI C k v) P h w d l := by
  rw [ncl (by omega)]
  refine oS_ext (fun t i m => ?_) (fun t i m => rfl)
  show (if t = 1030 ∧ i = 0 ∧ m = k then v else (nS (gY S g A R C P) h w d l).1 t i m) = (nS (gY S g A R (uI C k v) P) h w d l).1 t i m
  rw [nS_1, nS_1, gY_1, gY_1]
  unfold uI
  grind
theorem yT_sP {k : Nat} (v : Int32) (hk : k < 200) : oStI (yT S g A R C P h w d l) 1031 0 (nI k).toNatClampNeg v = yT S g A R C (uI P k v) h w d l := by
  rw [ncl (by omega)]
  refine oS_ext (fun t i m => ?_) (fun t i m => rfl)
  show (if t = 1031 ∧ i = 0 ∧ m = k then v else (nS (gY S g A R C P) h w d l).1 t i m) = (nS (gY S g A R C (uI P k v)) h w d l).1 t i m
  rw [nS_1, nS_1, gY_1, gY_1]
  unfold uI
  grind
theorem draw_L {q : Nat} (hq : q < 4) : f_X4_drawFromLining 0 (nI q) 15 (xT S g A R C P b n ls lw h d l) = some (oMinL 15 (h (3 * q)), xT S g A R C P b n ls lw (uL h (3 * q) (h (3 * q) - oMinL 15 (h (3 * q)))) d l) := by
  unfold f_X4_drawFromLining xT
  simp only [oLet, n3_0, if_pos (in12 (show 3 * q < 12 by omega)), mX_h (show 3 * q < 12 by omega), mX_sh (show 3 * q < 12 by omega)]
end
theorem isOut_g {S : oS} {i : Nat} (hi : i < 200) : f_X3_isOut (nI i) S = some (if S.1 404 0 i = -1 then 1 else 0, S) := by
  have e : S.1 404 0 (nI i).toNatClampNeg = S.1 404 0 i := by rw [ncl (by omega)]
  unfold f_X3_isOut
  rw [if_pos ((nin (by omega)).mpr hi), e]
  by_cases g : S.1 404 0 i = -1
  · rw [if_pos g, if_pos g]
  · rw [if_neg g, if_neg g]
/-- heats and what is given, behind the first loaves -/
def bkH (q : Nat → Int32) (h : Nat → Int64) : Nat → Nat → Int64
  | 0 => h
  | i + 1 => if q i = -1 then bkH q h i else uL (bkH q h i) (3 * (q i).toNatClampNeg) (bkH q h i (3 * (q i).toNatClampNeg) - oMinL 15 (bkH q h i (3 * (q i).toNatClampNeg)))
def bkG (q : Nat → Int32) (h : Nat → Int64) (g : Int64) : Nat → Int64
  | 0 => g
  | i + 1 => if q i = -1 then bkG q h g i else bkG q h g i + oMinL 15 (bkH q h i (3 * (q i).toNatClampNeg))
def rgQ (q : Nat → Int32) (c : Nat) : Prop := ∀ i, i < c → q i = -1 ∨ ∃ p : Nat, p < 4 ∧ q i = nI p
theorem min15 {x : Int64} (h : 0 ≤ x.toInt) : 0 ≤ (oMinL 15 x).toInt ∧ (oMinL 15 x).toInt ≤ x.toInt ∧ (oMinL 15 x).toInt ≤ 15 := by
  have e15 : (15 : Int64).toInt = 15 := rfl
  unfold oMinL
  by_cases g : x < 15
  · rw [if_pos g]
    rw [l_lt, e15] at g
    omega
  · rw [if_neg g, e15]
    rw [l_lt, e15] at g
    omega
theorem ok_bake {q : Nat → Int32} {h : Nat → Int64} {M : Int} {c : Nat} (H : okH h M) (hM : M ≤ 1000000000000) (hq : rgQ q c) : ∀ i, i ≤ c → okH (bkH q h i) M := by
  intro i
  induction i with
  | zero => intro _; exact H
  | succ i ih =>
    intro hi
    have H0 := ih (by omega)
    show okH (if q i = -1 then _ else _) M
    rcases hq i (by omega) with g | ⟨p, hp, g⟩
    · rw [if_pos g]; exact H0
    · rw [if_neg (by rw [g]; exact n_m1 hp), g, ncl (by omega)]
      have a := okH_k H0 (k := 3 * p) (by omega)
      have m := min15 a.1
      exact ok_sub H0 (by omega) m.1 m.2.1 hM
theorem bakeD_X {S : oS} {g l b : Int64} {A R C P ls lw d : Nat → Int32} {n c : Nat} {h : Nat → Int64} (hc : S.1 400 0 8 = nI c) (h2 : c ≤ 200) (hq : rgQ (S.1 404 0) c) : oLp (f_X3_bake_L2 0) oFu ((0 : Int32), xT S g A R C P b n ls lw h d l) = some (xT S (bkG (S.1 404 0) h g c) A R C P b n ls lw (bkH (S.1 404 0) h c) d l) := by
  refine oLp_eq (fun i => (nI i, xT S (bkG (S.1 404 0) h g i) A R C P b n ls lw (bkH (S.1 404 0) h i) d l)) _ c (by omega) rfl ?_ ?_
  · intro i hi
    have e4 : (xT S (bkG (S.1 404 0) h g i) A R C P b n ls lw (bkH (S.1 404 0) h i) d l).1 404 0 (nI i).toNatClampNeg = S.1 404 0 i := by rw [ncl (by omega)]; rfl
    show (if S.1 400 0 8 ≤ nI i then _ else _) = some (Sum.inl (nI (i + 1), xT S (if S.1 404 0 i = -1 then bkG (S.1 404 0) h g i else bkG (S.1 404 0) h g i + oMinL 15 (bkH (S.1 404 0) h i (3 * (S.1 404 0 i).toNatClampNeg))) A R C P b n ls lw (if S.1 404 0 i = -1 then bkH (S.1 404 0) h i else uL (bkH (S.1 404 0) h i) (3 * (S.1 404 0 i).toNatClampNeg) (bkH (S.1 404 0) h i (3 * (S.1 404 0 i).toNatClampNeg) - oMinL 15 (bkH (S.1 404 0) h i (3 * (S.1 404 0 i).toNatClampNeg)))) d l))
    rw [hc, if_neg (by rw [nI_leI (by omega) (by omega)]; omega), isOut_g (by omega), Option.bind_some]
    show (if (if S.1 404 0 i = -1 then (1 : Int32) else 0) = 0 then _ else _) = _
    rcases hq i hi with z | ⟨p, hp, z⟩
    · rw [if_pos z, if10, if_pos z, if_pos z, ← nI_1]
      rfl
    · have z' : ¬ S.1 404 0 i = -1 := by rw [z]; exact n_m1 hp
      rw [if_neg z', if00, if_neg z', if_neg z', if_pos ((nin (by omega)).mpr (by omega)), e4, z, draw_L hp, Option.bind_some, ncl (by omega)]
      show some (Sum.inl (nI i + 1, oStL (xT S (bkG (S.1 404 0) h g i) A R C P b n ls lw _ d l) 400 0 11 (bkG (S.1 404 0) h g i + oMinL 15 (bkH (S.1 404 0) h i (3 * p))))) = _
      rw [xT_sg, nI_1]
  · show (if S.1 400 0 8 ≤ nI c then _ else _) = _
    rw [hc, if_pos (by rw [i_le]; exact Int.le_refl _)]
theorem bakeD_M {S : oS} {g l : Int64} {A R C P d : Nat → Int32} {c : Nat} {h w : Nat → Int64} {M : Int} (hc : S.1 1000 0 24 = nI c) (h2 : c ≤ 200) (hq : rgQ (S.1 1027 0) c) (H : okH h M) (hM : M ≤ 1000000000000) : oLp f_X9_bake_L2 oFu ((0 : Int32), yT S g A R C P h w d l) = some (yT S (bkG (S.1 1027 0) h g c) A R C P (bkH (S.1 1027 0) h c) w d l) := by
  refine oLp_eq (fun i => (nI i, yT S (bkG (S.1 1027 0) h g i) A R C P (bkH (S.1 1027 0) h i) w d l)) _ c (by omega) rfl ?_ ?_
  · intro i hi
    have H0 := ok_bake H hM hq i (by omega)
    have e4 : (yT S (bkG (S.1 1027 0) h g i) A R C P (bkH (S.1 1027 0) h i) w d l).1 1027 0 (nI i).toNatClampNeg = S.1 1027 0 i := by rw [ncl (by omega)]; rfl
    show (if S.1 1000 0 24 ≤ nI i then _ else _) = some (Sum.inl (nI (i + 1), yT S (if S.1 1027 0 i = -1 then bkG (S.1 1027 0) h g i else bkG (S.1 1027 0) h g i + oMinL 15 (bkH (S.1 1027 0) h i (3 * (S.1 1027 0 i).toNatClampNeg))) A R C P (if S.1 1027 0 i = -1 then bkH (S.1 1027 0) h i else uL (bkH (S.1 1027 0) h i) (3 * (S.1 1027 0 i).toNatClampNeg) (bkH (S.1 1027 0) h i (3 * (S.1 1027 0 i).toNatClampNeg) - oMinL 15 (bkH (S.1 1027 0) h i (3 * (S.1 1027 0 i).toNatClampNeg)))) w d l))
    generalize bkH (S.1 1027 0) h i = H1 at H0 e4 ⊢
    generalize bkG (S.1 1027 0) h g i = G1 at e4 ⊢
    rw [hc, if_neg (by rw [nI_leI (by omega) (by omega)]; omega), isInside_ok (by omega), Option.bind_some]
    show (if (if S.1 1027 0 i = -1 then (0 : Int32) else 1) = 0 then _ else _) = _
    rcases hq i hi with z | ⟨p, hp, z⟩
    · rw [if_pos z, if00, if_pos z, if_pos z, ← nI_1]
      rfl
    · have z' : ¬ S.1 1027 0 i = -1 := by rw [z]; exact n_m1 hp
      have a := okH_k H0 (k := 3 * p) (by omega)
      have key : ∀ x : Int64, x = oMinL 15 (H1 (3 * p)) → f_X9_bake_K54 (nI i) (nI (3 * p)) x (yT S G1 A R C P H1 w d l) = some (Sum.inl (nI (i + 1), yT S (G1 + oMinL 15 (H1 (3 * p))) A R C P (uL H1 (3 * p) (H1 (3 * p) - oMinL 15 (H1 (3 * p)))) w d l)) := by
        intro x hx
        subst hx
        unfold f_X9_bake_K54
        rw [if_pos (by rw [l_le, l0]; exact (min15 a.1).1)]
        unfold f_X9_bake_K66
        rw [if_pos (in12 (show 3 * p < 12 by omega)), if_pos (in12 (show 3 * p < 12 by omega))]
        show some (Sum.inl (nI i + 1, oStL (oStL (nS (gY S G1 A R C P) H1 w d l) 1050 0 (nI (3 * p)).toNatClampNeg ((nS (gY S G1 A R C P) H1 w d l).2 1050 0 (nI (3 * p)).toNatClampNeg - oMinL 15 (H1 (3 * p)))) 1000 0 10 ((oStL (nS (gY S G1 A R C P) H1 w d l) 1050 0 (nI (3 * p)).toNatClampNeg ((nS (gY S G1 A R C P) H1 w d l).2 1050 0 (nI (3 * p)).toNatClampNeg - oMinL 15 (H1 (3 * p)))).2 1000 0 10 + oMinL 15 (H1 (3 * p))))) = _
        rw [nS_h (show 3 * p < 12 by omega), nS_sh (show 3 * p < 12 by omega), nI_1]
        exact congrArg (fun z => some (Sum.inl (nI (i + 1), z))) (yT_sg (S := S) (g := G1) (A := A) (R := R) (C := C) (P := P) (h := uL H1 (3 * p) (H1 (3 * p) - oMinL 15 (H1 (3 * p)))) (w := w) (d := d) (l := l) (G1 + oMinL 15 (H1 (3 * p))))
      rw [if_neg z', if10, if_neg z', if_neg z', if_pos ((nin (by omega)).mpr (by omega)), e4, z, ncl (by omega)]
      unfold f_X9_cellOf
      rw [Option.bind_some, m3_0]
      show (if oIn (nI (3 * p)) 12 then (if (15 : Int64) ≤ (nS (gY S G1 A R C P) H1 w d l).2 1050 0 (nI (3 * p)).toNatClampNeg then f_X9_bake_K54 (nI i) (nI (3 * p)) 15 (yT S G1 A R C P H1 w d l) else (if oIn (nI (3 * p)) 12 then f_X9_bake_K54 (nI i) (nI (3 * p)) ((nS (gY S G1 A R C P) H1 w d l).2 1050 0 (nI (3 * p)).toNatClampNeg) (yT S G1 A R C P H1 w d l) else none)) else none) = _
      rw [if_pos (in12 (show 3 * p < 12 by omega)), if_pos (in12 (show 3 * p < 12 by omega)), nS_h (show 3 * p < 12 by omega)]
      by_cases y : (15 : Int64) ≤ H1 (3 * p)
      · rw [if_pos y]
        refine key _ ?_
        unfold oMinL
        rw [if_neg (by rw [l_lt]; rw [l_le] at y; omega)]
      · rw [if_neg y]
        refine key _ ?_
        unfold oMinL
        rw [if_pos (by rw [l_lt]; rw [l_le] at y; omega)]
  · show (if S.1 1000 0 24 ≤ nI c then _ else _) = _
    rw [hc, if_pos (by rw [i_le]; exact Int.le_refl _)]
