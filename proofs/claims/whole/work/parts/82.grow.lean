/-- the look of a loaf -/
def lkX (S : oS) (k : Nat) (a : Int32) (w : Int64) : Int32 := if S.1 208 0 k ≤ 0 ∨ a ≤ S.1 208 0 k then (if w ≤ Int32.toInt64 (S.1 206 0 k) then (if Int32.toInt64 (S.1 205 0 k) ≤ w then 0 else 2) else 1) else (if w ≤ Int32.toInt64 (S.1 210 0 k) then (if Int32.toInt64 (S.1 209 0 k) ≤ w then 0 else 2) else 1)
def srM (S : oS) (k : Nat) (a : Int32) (w : Int64) : Int32 := if S.1 1022 0 k ≤ 0 ∨ a ≤ S.1 1022 0 k then (if Int32.toInt64 (S.1 1019 0 k) ≤ w then (if w ≤ Int32.toInt64 (S.1 1020 0 k) then 1 else 2) else 0) else (if Int32.toInt64 (S.1 1023 0 k) ≤ w then (if w ≤ Int32.toInt64 (S.1 1024 0 k) then 1 else 2) else 0)
def cvL (v : Int32) : Int32 := if v = 0 then 1 else if v = 1 then 2 else 0
theorem lk_X {S : oS} {k : Nat} {a : Int32} {w : Int64} (hk : k < 8) : f_X1_lookAt (nI k) a w S = some (lkX S k a w, S) := by
  have hin : oIn (nI k) 8 := (nin (by omega)).mpr hk
  have ek : ∀ t, S.1 t 0 (nI k).toNatClampNeg = S.1 t 0 k := fun t => by rw [ncl (by omega)]
  have k74 : ∀ z x, f_X1_lookAt_K74 z x S = some (if Int32.toInt64 x ≤ z then 0 else 2, S) := by
    intro z x
    unfold f_X1_lookAt_K74
    by_cases g : Int32.toInt64 x ≤ z
    · rw [if_pos g, if_pos g]
    · rw [if_neg g, if_neg g]
  have k22 : f_X1_lookAt_K22 (nI k) w S = some (if w ≤ Int32.toInt64 (S.1 206 0 k) then (if Int32.toInt64 (S.1 205 0 k) ≤ w then 0 else 2) else 1, S) := by
    unfold f_X1_lookAt_K22 f_X1_lookAt_K23
    rw [if00, if_pos hin, ek]
    unfold f_X1_lookAt_K46
    rw [if00, if_pos hin, ek, k74]
    by_cases g : w ≤ Int32.toInt64 (S.1 206 0 k)
    · rw [if_pos g, if_pos g]
    · rw [if_neg g, if_neg g]
  have k23 : f_X1_lookAt_K23 (nI k) w 1 S = some (if w ≤ Int32.toInt64 (S.1 210 0 k) then (if Int32.toInt64 (S.1 209 0 k) ≤ w then 0 else 2) else 1, S) := by
    unfold f_X1_lookAt_K23
    rw [if10, if_pos hin, ek]
    unfold f_X1_lookAt_K46
    rw [if10, if_pos hin, ek, k74]
    by_cases g : w ≤ Int32.toInt64 (S.1 210 0 k)
    · rw [if_pos g, if_pos g]
    · rw [if_neg g, if_neg g]
  have hT : f_X1_hasTwoHeats (nI k) S = some (if S.1 208 0 k ≤ 0 then 0 else 1, S) := by
    unfold f_X1_hasTwoHeats
    rw [if_pos hin, ek]
    by_cases g : S.1 208 0 k ≤ 0
    · rw [if_pos g, if_pos g]
    · rw [if_neg g, if_neg g]
  unfold f_X1_lookAt lkX
  rw [hT, Option.bind_some]
  show (if (if S.1 208 0 k ≤ 0 then (0 : Int32) else 1) = 0 then f_X1_lookAt_K22 (nI k) w S else (if oIn (nI k) 8 then (if a ≤ S.1 208 0 (nI k).toNatClampNeg then f_X1_lookAt_K22 (nI k) w S else f_X1_lookAt_K23 (nI k) w 1 S) else none)) = _
  rw [k22, k23, if_pos hin, ek]
  by_cases g : S.1 208 0 k ≤ 0
  · rw [if_pos g, if00, if_pos (Or.inl g)]
  · rw [if_neg g, if10]
    by_cases g2 : a ≤ S.1 208 0 k
    · rw [if_pos g2, if_pos (Or.inr g2)]
    · rw [if_neg g2, if_neg (c := S.1 208 0 k ≤ 0 ∨ a ≤ S.1 208 0 k) (fun z => z.elim g g2)]
theorem sr_M {S : oS} {k : Nat} {a : Int32} {w : Int64} (hk : k < 8) : f_X9_sortOf (nI k) a w S = some (srM S k a w, S) := by
  have hin : oIn (nI k) 8 := (nin (by omega)).mpr hk
  have ek : ∀ t, S.1 t 0 (nI k).toNatClampNeg = S.1 t 0 k := fun t => by rw [ncl (by omega)]
  have k68 : ∀ x y, f_X9_sortOf_K68 w x y S = some (if Int32.toInt64 x ≤ w then (if w ≤ Int32.toInt64 y then 1 else 2) else 0, S) := by
    intro x y
    unfold f_X9_sortOf_K68
    by_cases g : Int32.toInt64 x ≤ w
    · rw [if_pos g, if_pos g]
      by_cases g2 : w ≤ Int32.toInt64 y
      · rw [if_pos g2, if_pos g2]
      · rw [if_neg g2, if_neg g2]
    · rw [if_neg g, if_neg g]
  have k23 : f_X9_sortOf_K23 (nI k) w S = some (if Int32.toInt64 (S.1 1019 0 k) ≤ w then (if w ≤ Int32.toInt64 (S.1 1020 0 k) then 1 else 2) else 0, S) := by
    unfold f_X9_sortOf_K23 f_X9_sortOf_K24
    rw [if00, if_pos hin, ek]
    unfold f_X9_sortOf_K46
    rw [if00, if_pos hin, ek, k68]
  have k24 : f_X9_sortOf_K24 (nI k) w 1 S = some (if Int32.toInt64 (S.1 1023 0 k) ≤ w then (if w ≤ Int32.toInt64 (S.1 1024 0 k) then 1 else 2) else 0, S) := by
    unfold f_X9_sortOf_K24
    rw [if10, if_pos hin, ek]
    unfold f_X9_sortOf_K46
    rw [if10, if_pos hin, ek, k68]
  unfold f_X9_sortOf srM
  rw [if_pos hin, if_pos hin, ek, k23, k24]
  by_cases g : S.1 1022 0 k ≤ 0
  · rw [if_pos g, if_pos (Or.inl g)]
  · rw [if_neg g]
    by_cases g2 : a ≤ S.1 1022 0 k
    · rw [if_pos g2, if_pos (Or.inr g2)]
    · rw [if_neg g2, if_neg (c := S.1 1022 0 k ≤ 0 ∨ a ≤ S.1 1022 0 k) (fun z => z.elim g g2)]
theorem lk_sr {S T : oS} {k : Nat} (a : Int32) (w : Int64) (e5 : S.1 205 0 k = T.1 1019 0 k) (e6 : S.1 206 0 k = T.1 1020 0 k) (e8 : S.1 208 0 k = T.1 1022 0 k) (e9 : S.1 209 0 k = T.1 1023 0 k) (e10 : S.1 210 0 k = T.1 1024 0 k) (sp : (T.1 1019 0 k).toInt ≤ (T.1 1020 0 k).toInt ∧ (T.1 1023 0 k).toInt ≤ (T.1 1024 0 k).toInt) : srM T k a w = cvL (lkX S k a w) := by
  have key : ∀ x y : Int32, x.toInt ≤ y.toInt → (if Int32.toInt64 x ≤ w then (if w ≤ Int32.toInt64 y then (1 : Int32) else 2) else 0) = cvL (if w ≤ Int32.toInt64 y then (if Int32.toInt64 x ≤ w then 0 else 2) else 1) := by
    intro x y hxy
    by_cases g : Int32.toInt64 x ≤ w
    · rw [if_pos g, if_pos g]
      by_cases g2 : w ≤ Int32.toInt64 y
      · rw [if_pos g2, if_pos g2]; rfl
      · rw [if_neg g2, if_neg g2]; rfl
    · rw [if_neg g, if_neg g]
      by_cases g2 : w ≤ Int32.toInt64 y
      · rw [if_pos g2]; rfl
      · rw [l_le, i_long] at g
        rw [l_le, i_long] at g2
        omega
  unfold srM lkX
  rw [e5, e6, e8, e9, e10]
  by_cases g : T.1 1022 0 k ≤ 0 ∨ a ≤ T.1 1022 0 k
  · rw [if_pos g, if_pos g]; exact key _ _ sp.1
  · rw [if_neg g, if_neg g]; exact key _ _ sp.2
/-- counts that grow along the loaves -/
def gw (F e : Nat → Int32) (i k : Nat) : Int32 := if k < i then F k + e k else F k
theorem gw_s {F e : Nat → Int32} {i : Nat} : uI (gw F e i) i (F i + e i) = gw F e (i + 1) := funext fun k => by
  unfold uI gw
  by_cases g : k = i
  · subst g
    rw [if_pos rfl, if_pos (by omega)]
  · rw [if_neg g]
    by_cases g2 : k < i
    · rw [if_pos g2, if_pos (by omega)]
    · rw [if_neg g2, if_neg (by omega)]
theorem gw_b {F e : Nat → Int32} {i : Nat} : gw F e i i = F i := if_neg (by omega)
theorem uI_0 {F : Nat → Int32} {i : Nat} : uI F i (F i + 0) = F := funext fun k => by
  unfold uI
  by_cases g : k = i
  · subst g; rw [if_pos rfl, Int32.add_zero]
  · rw [if_neg g]
theorem gw_0 {F e : Nat → Int32} {i : Nat} (h : e i = 0) : gw F e (i + 1) = gw F e i := by
  rw [← gw_s, h]
  have := uI_0 (F := gw F e i) (i := i)
  rw [gw_b] at this
  exact this
def eA (q : Nat → Int32) (k : Nat) : Int32 := if q k = -1 then 0 else 1
def eR (q v : Nat → Int32) (k : Nat) : Int32 := if q k = -1 then 0 else if v k = 0 then 1 else 0
def eC (q v : Nat → Int32) (k : Nat) : Int32 := if q k = -1 then 0 else if v k = 0 then 0 else if v k = 1 then 1 else 0
def eP (q v : Nat → Int32) (k : Nat) : Int32 := if q k = -1 then 0 else if v k = 0 then 0 else if v k = 1 then 0 else 1
theorem grow_X {S : oS} {g l b : Int64} {A R C P ls lw d : Nat → Int32} {n i k : Nat} {h : Nat → Int64} {w : Int64} (hi : i < 200) (hk : k < 8) (hkk : S.1 403 0 i = nI k) : f_X3_grow (nI i) w (xT S g A R C P b n ls lw h d l) = some (xT S g (uI A i (A i + 1)) (uI R i (R i + if lkX S k (A i + 1) w = 0 then 1 else 0)) (uI C i (C i + if lkX S k (A i + 1) w = 0 then 0 else if lkX S k (A i + 1) w = 1 then 1 else 0)) (uI P i (P i + if lkX S k (A i + 1) w = 0 then 0 else if lkX S k (A i + 1) w = 1 then 0 else 1)) b n ls lw h d l) := by
  have hin : oIn (nI i) 200 := (nin (by omega)).mpr hi
  have c1 : (nI i).toNatClampNeg = i := ncl (by omega)
  have rA : ∀ A' : Nat → Int32, (xT S g A' R C P b n ls lw h d l).1 405 0 (nI i).toNatClampNeg = A' i := fun A' => by rw [c1]; rfl
  have rR : ∀ A' : Nat → Int32, (xT S g A' R C P b n ls lw h d l).1 406 0 (nI i).toNatClampNeg = R i := fun A' => by rw [c1]; rfl
  have rC : ∀ A' : Nat → Int32, (xT S g A' R C P b n ls lw h d l).1 407 0 (nI i).toNatClampNeg = C i := fun A' => by rw [c1]; rfl
  have rP : ∀ A' : Nat → Int32, (xT S g A' R C P b n ls lw h d l).1 408 0 (nI i).toNatClampNeg = P i := fun A' => by rw [c1]; rfl
  have rK : ∀ A' : Nat → Int32, (xT S g A' R C P b n ls lw h d l).1 403 0 (nI i).toNatClampNeg = nI k := fun A' => by rw [c1]; exact hkk
  have rL : ∀ A' : Nat → Int32, ∀ x, lkX (xT S g A' R C P b n ls lw h d l) k x w = lkX S k x w := fun A' x => rfl
  have rI : uI A i (A i + 1) i = A i + 1 := if_pos rfl
  unfold f_X3_grow
  simp only [if_pos hin, oLet, rA, xT_sA _ hi, rK, rI, lk_X hk, Option.bind_some, rL, rR, rC, rP, xT_sR _ hi, xT_sC _ hi, xT_sP _ hi]
  by_cases g0 : lkX S k (A i + 1) w = 0
  · rw [if_pos g0, if_pos g0, if_pos g0, if_pos g0, uI_0, uI_0]
  · rw [if_neg g0, if_neg g0, if_neg g0, if_neg g0, uI_0]
    by_cases g1 : lkX S k (A i + 1) w = 1
    · rw [if_pos g1, if_pos g1, if_pos g1, uI_0]
    · rw [if_neg g1, if_neg g1, if_neg g1, uI_0]
def lvK (S : oS) (q : Nat → Int32) (h : Nat → Int64) (A : Nat → Int32) (k : Nat) : Int32 := lkX S (S.1 403 0 k).toNatClampNeg (A k + 1) (h (3 * (q k).toNatClampNeg) / 10)
def kdQ (f : Nat → Int32) (c : Nat) : Prop := ∀ i, i < c → ∃ k : Nat, k < 8 ∧ f i = nI k
theorem bakeG_X {S : oS} {g l b : Int64} {A R C P ls lw d : Nat → Int32} {n c : Nat} {h : Nat → Int64} (hc : S.1 400 0 8 = nI c) (h2 : c ≤ 200) (hq : rgQ (S.1 404 0) c) (hk : kdQ (S.1 403 0) c) : oLp (f_X3_bake_L48 0) oFu ((0 : Int32), xT S g A R C P b n ls lw h d l) = some (xT S g (gw A (eA (S.1 404 0)) c) (gw R (eR (S.1 404 0) (lvK S (S.1 404 0) h A)) c) (gw C (eC (S.1 404 0) (lvK S (S.1 404 0) h A)) c) (gw P (eP (S.1 404 0) (lvK S (S.1 404 0) h A)) c) b n ls lw h d l) := by
  refine oLp_eq (fun i => (nI i, xT S g (gw A (eA (S.1 404 0)) i) (gw R (eR (S.1 404 0) (lvK S (S.1 404 0) h A)) i) (gw C (eC (S.1 404 0) (lvK S (S.1 404 0) h A)) i) (gw P (eP (S.1 404 0) (lvK S (S.1 404 0) h A)) i) b n ls lw h d l)) _ c (by omega) ?_ ?_ ?_
  · have z : ∀ F e : Nat → Int32, F = gw F e 0 := fun F e => funext fun k => (if_neg (by omega)).symm
    show _ = ((0 : Int32), xT S g (gw A _ 0) (gw R _ 0) (gw C _ 0) (gw P _ 0) b n ls lw h d l)
    rw [← z A, ← z R, ← z C, ← z P]
  · intro i hi
    have e4 : (xT S g (gw A (eA (S.1 404 0)) i) (gw R (eR (S.1 404 0) (lvK S (S.1 404 0) h A)) i) (gw C (eC (S.1 404 0) (lvK S (S.1 404 0) h A)) i) (gw P (eP (S.1 404 0) (lvK S (S.1 404 0) h A)) i) b n ls lw h d l).1 404 0 (nI i).toNatClampNeg = S.1 404 0 i := by rw [ncl (by omega)]; rfl
    show (if S.1 400 0 8 ≤ nI i then _ else _) = some (Sum.inl (nI (i + 1), xT S g (gw A (eA (S.1 404 0)) (i + 1)) (gw R (eR (S.1 404 0) (lvK S (S.1 404 0) h A)) (i + 1)) (gw C (eC (S.1 404 0) (lvK S (S.1 404 0) h A)) (i + 1)) (gw P (eP (S.1 404 0) (lvK S (S.1 404 0) h A)) (i + 1)) b n ls lw h d l))
    rw [hc, if_neg (by rw [nI_leI (by omega) (by omega)]; omega), isOut_g (by omega), Option.bind_some]
    show (if (if S.1 404 0 i = -1 then (1 : Int32) else 0) = 0 then _ else _) = _
    rcases hq i hi with z | ⟨p, hp, z⟩
    · rw [if_pos z, if10, gw_0 (show eA (S.1 404 0) i = 0 from if_pos z), gw_0 (show eR (S.1 404 0) _ i = 0 from if_pos z), gw_0 (show eC (S.1 404 0) _ i = 0 from if_pos z), gw_0 (show eP (S.1 404 0) _ i = 0 from if_pos z), ← nI_1]
      rfl
    · have z' : ¬ S.1 404 0 i = -1 := by rw [z]; exact n_m1 hp
      obtain ⟨k, h8, ek⟩ := hk i hi
      have ev : lvK S (S.1 404 0) h A i = lkX S k (A i + 1) (h (3 * p) / 10) := by
        unfold lvK
        rw [z, ek, ncl (by omega), ncl (by omega)]
      have wX := wf0 (j := 0) (r := p) (S := lX 0 (gX S g (gw A (eA (S.1 404 0)) i) (gw R (eR (S.1 404 0) (lvK S (S.1 404 0) h A)) i) (gw C (eC (S.1 404 0) (lvK S (S.1 404 0) h A)) i) (gw P (eP (S.1 404 0) (lvK S (S.1 404 0) h A)) i)) b n ls lw) (h := h) (d := d) (l := l) hp
      rw [if_neg z', if00, if_pos ((nin (by omega)).mpr (by omega)), e4, z]
      show (f_X4_warmthOf 0 (nI p) 0 (mX 0 (lX 0 (gX S g (gw A (eA (S.1 404 0)) i) (gw R (eR (S.1 404 0) (lvK S (S.1 404 0) h A)) i) (gw C (eC (S.1 404 0) (lvK S (S.1 404 0) h A)) i) (gw P (eP (S.1 404 0) (lvK S (S.1 404 0) h A)) i)) b n ls lw) h d l)).bind _ = _
      rw [wX, Option.bind_some]
      show (f_X3_grow (nI i) (h (3 * p) / 10) (xT S g (gw A (eA (S.1 404 0)) i) (gw R (eR (S.1 404 0) (lvK S (S.1 404 0) h A)) i) (gw C (eC (S.1 404 0) (lvK S (S.1 404 0) h A)) i) (gw P (eP (S.1 404 0) (lvK S (S.1 404 0) h A)) i) b n ls lw h d l)).bind _ = _
      rw [grow_X (by omega) h8 ek, Option.bind_some, gw_b, gw_b, gw_b, gw_b, ← ev, ← gw_s, ← gw_s, ← gw_s, ← gw_s, ← nI_1]
      have x1 : eA (S.1 404 0) i = 1 := if_neg z'
      have x2 : eR (S.1 404 0) (lvK S (S.1 404 0) h A) i = if lvK S (S.1 404 0) h A i = 0 then 1 else 0 := if_neg z'
      have x3 : eC (S.1 404 0) (lvK S (S.1 404 0) h A) i = if lvK S (S.1 404 0) h A i = 0 then 0 else if lvK S (S.1 404 0) h A i = 1 then 1 else 0 := if_neg z'
      have x4 : eP (S.1 404 0) (lvK S (S.1 404 0) h A) i = if lvK S (S.1 404 0) h A i = 0 then 0 else if lvK S (S.1 404 0) h A i = 1 then 0 else 1 := if_neg z'
      rw [x1, x2, x3, x4]
      rfl
  · show (if S.1 400 0 8 ≤ nI c then _ else _) = _
    rw [hc, if_pos (by rw [i_le]; exact Int.le_refl _)]
