theorem coF_b {s w : Int32} (hs : rg s 0 50) (hw : rg w 0 60) : 0 ≤ (coF s w).toInt ∧ (coF s w).toInt ≤ 10000 ∧ Int32.toInt64 s * Int32.toInt64 (2000 - 26 * w) / 10 = coF s w := by
  have s0 := hs.1
  have s1 := hs.2
  have w0 := hw.1
  have w1 := hw.2
  have x26 : (26 : Int32).toInt = 26 := rfl
  have x2000 : (2000 : Int32).toInt = 2000 := rfl
  have x10 : (10 : Int32).toInt = 10 := rfl
  have e1 : (26 * w).toInt = 26 * w.toInt := by rw [i_mul (by rw [x26]; omega) (by rw [x26]; omega), x26]
  have e2 : (2000 - 26 * w).toInt = 2000 - 26 * w.toInt := by rw [i_sub (by rw [e1, x2000]; omega) (by rw [e1, x2000]; omega), e1, x2000]
  have p0 : 0 ≤ s.toInt * (2000 - 26 * w.toInt) := Int.mul_nonneg s0 (by omega)
  have p1 : s.toInt * (2000 - 26 * w.toInt) ≤ 50 * 2000 := Int.mul_le_mul s1 (by omega) (by omega) (by omega)
  have e3 : (s * (2000 - 26 * w)).toInt = s.toInt * (2000 - 26 * w.toInt) := by rw [i_mul (by rw [e2]; omega) (by rw [e2]; omega), e2]
  have e4 : (s * (2000 - 26 * w) / 10).toInt = s.toInt * (2000 - 26 * w.toInt) / 10 := by rw [i_div (by rw [e3]; exact p0) (by rw [x10]; omega), e3, x10]
  have e5 : (coF s w).toInt = s.toInt * (2000 - 26 * w.toInt) / 10 := by
    unfold coF
    rw [i_long, e4]
  have e6 : (Int32.toInt64 s * Int32.toInt64 (2000 - 26 * w)).toInt = s.toInt * (2000 - 26 * w.toInt) := by rw [l_mul (by rw [i_long, i_long, e2]; omega) (by rw [i_long, i_long, e2]; omega), i_long, i_long, e2]
  refine ⟨by rw [e5]; omega, by rw [e5]; omega, ?_⟩
  rw [l_eq, e5, d10 (by rw [e6]; exact p0), e6]
theorem burnt_M {s w : Int32} (hs : rg s 0 50) (hw : rg w 0 60) (S : oS) : f_X9_burnt s w S = some (coF s w, S) := by
  unfold f_X9_burnt
  rw [(coF_b hs hw).2.2]
theorem frO_b {n : Nat} {ls lw : Nat → Int32} (hs : ∀ k, rg (ls k) 0 50) (hw : ∀ k, rg (lw k) 0 60) : 0 ≤ (frO n ls lw).toInt ∧ (frO n ls lw).toInt ≤ 10000 := by
  unfold frO
  by_cases g : n = 0
  · rw [if_pos g, l0]; omega
  · rw [if_neg g]
    have := coF_b (hs 0) (hw 0)
    exact ⟨this.1, this.2.1⟩
theorem bake_X {S : oS} {g l b : Int64} {A R C P ls lw d : Nat → Int32} {n c : Nat} {h : Nat → Int64} (hc : S.1 400 0 8 = nI c) (h2 : c ≤ 200) (hq : rgQ (S.1 404 0) c) (hk : kdQ (S.1 403 0) c) : f_X3_bake 0 (xT S g A R C P b n ls lw h d l) = some (xT S (bkG (S.1 404 0) h g c) (gw A (eA (S.1 404 0)) c) (gw R (eR (S.1 404 0) (lvK S (S.1 404 0) (bkH (S.1 404 0) h c) A)) c) (gw C (eC (S.1 404 0) (lvK S (S.1 404 0) (bkH (S.1 404 0) h c) A)) c) (gw P (eP (S.1 404 0) (lvK S (S.1 404 0) (bkH (S.1 404 0) h c) A)) c) b n ls lw (bkH (S.1 404 0) h c) d l) := by
  unfold f_X3_bake
  rw [bakeD_X hc h2 hq, Option.bind_some, bakeG_X hc h2 hq hk, Option.bind_some]
theorem bake_M {S : oS} {g l : Int64} {A R C P d : Nat → Int32} {c : Nat} {h w : Nat → Int64} {v : Nat → Int32} {M : Int} (hc : S.1 1000 0 24 = nI c) (h2 : c ≤ 200) (hq : rgQ (S.1 1027 0) c) (hk : kdQ (S.1 1026 0) c) (H : okH h M) (hM : M ≤ 1000000000000) (hv : ∀ i, i < c → srM S (S.1 1026 0 i).toNatClampNeg (A i + 1) (bkH (S.1 1027 0) h c (3 * (S.1 1027 0 i).toNatClampNeg) / 10) = cvL (v i)) : f_X9_bake (yT S g A R C P h w d l) = some (yT S (bkG (S.1 1027 0) h g c) (gw A (eA (S.1 1027 0)) c) (gw R (eR (S.1 1027 0) v) c) (gw C (eC (S.1 1027 0) v) c) (gw P (eP (S.1 1027 0) v) c) (bkH (S.1 1027 0) h c) w d l) := by
  unfold f_X9_bake
  rw [bakeD_M hc h2 hq H hM, Option.bind_some, bakeG_M hc h2 hq hk hv, Option.bind_some]
/-- all that a tick changes: given, ages, right, scorched, pale, brought in, logs, heats, damps, lost, door, ticks -/
abbrev tR : Type := Int64 × (Nat → Int32) × (Nat → Int32) × (Nat → Int32) × (Nat → Int32) × Int64 × Nat × (Nat → Int32) × (Nat → Int32) × (Nat → Int64) × (Nat → Int32) × Int64 × Int32 × Int32
def dX (S : oS) (o w : Int32) : oS := (fun t i k => if t = 400 ∧ i = 0 ∧ k = 12 then o else if t = 900 ∧ i = 0 ∧ k = 7 then w else S.1 t i k, S.2)
def xK (S : oS) (x : tR) : oS := match x with
  | (g, A, R, C, P, b, n, ls, lw, h, d, l, o, w) => xT (dX S o w) g A R C P b n ls lw h d l
def zK (T : oS) (x : tR) (h1 w1 : Nat → Int64) (d1 : Nat → Int32) (t1 : Int64) : oS := match x with
  | (g, A, R, C, P, b, n, ls, lw, h, d, l, o, w) => zM T g A R C P b n ls lw h d l o w h1 w1 d1 t1
def tkH (S : oS) (f : Nat) (n : Nat) (ls lw : Nat → Int32) (h : Nat → Int64) (d : Nat → Int32) (o : Int32) : Nat → Int64 := stH h d (S.1 503 0) (S.1 500 0 7) f (frO n ls lw) o
def tkR (S : oS) (c f : Nat) (x : tR) : tR := match x with
  | (g, A, R, C, P, b, n, ls, lw, h, d, l, o, w) => (bkG (S.1 404 0) (tkH S f n ls lw h d o) g c, gw A (eA (S.1 404 0)) c, gw R (eR (S.1 404 0) (lvK S (S.1 404 0) (bkH (S.1 404 0) (tkH S f n ls lw h d o) c) A)) c, gw C (eC (S.1 404 0) (lvK S (S.1 404 0) (bkH (S.1 404 0) (tkH S f n ls lw h d o) c) A)) c, gw P (eP (S.1 404 0) (lvK S (S.1 404 0) (bkH (S.1 404 0) (tkH S f n ls lw h d o) c) A)) c, b + frO n ls lw, n - 1, shG ls n, shG lw n, bkH (S.1 404 0) (tkH S f n ls lw h d o) c, stD h d f (frO n ls lw), l + stL h d (S.1 503 0) (S.1 500 0 7) f (frO n ls lw) o, 0, w + 1)
def itR (S : oS) (c f : Nat) (x : tR) : Nat → tR
  | 0 => x
  | i + 1 => tkR S c f (itR S c f x i)
def okR (M : Int) (x : tR) : Prop := match x with
  | (_, _, _, _, _, _, n, ls, lw, h, d, _, _, _) => okH h M ∧ (∀ r, r < 4 → rg (d r) 0 1000) ∧ n ≤ 30 ∧ (∀ k, rg (ls k) 0 50) ∧ ∀ k, rg (lw k) 0 60
def bsX (S : oS) (c f : Nat) : Prop := S.1 400 0 8 = nI c ∧ c ≤ 200 ∧ rgQ (S.1 404 0) c ∧ kdQ (S.1 403 0) c ∧ S.1 500 0 6 = nI f ∧ f ≤ 2 ∧ (∀ r, r < 4 → rg (S.1 503 0 r) 0 4) ∧ rg (S.1 500 0 7) 0 40
theorem shG_rg {g : Nat → Int32} {n : Nat} {a b : Int} (h : ∀ k, rg (g k) a b) : ∀ k, rg (shG g n k) a b := by
  intro k
  unfold shG
  by_cases z : k < n - 1
  · rw [if_pos z]; exact h _
  · rw [if_neg z]; exact h _
theorem tk_ok {S : oS} {c f : Nat} {M : Int} {x : tR} (hB : bsX S c f) (hM : M + 10000 ≤ 1000000000000) (H : okR M x) : okR (M + 10000) (tkR S c f x) := by
  obtain ⟨g, A, R, C, P, b, n, ls, lw, h, d, l, o, w⟩ := x
  obtain ⟨H1, H2, H3, H4, H5⟩ := H
  obtain ⟨B1, B2, B3, B4, B5, B6, B7, B8⟩ := hB
  have hF := frO_b (n := n) H4 H5
  have hS : okS h d (S.1 503 0) (S.1 500 0 7) f (frO n ls lw) M := ⟨H1, H2, B7, B8, B6, hF.1, by omega⟩
  obtain ⟨-, -, s3, s4⟩ := st_ok hS o
  have s5 := ok_bake (q := S.1 404 0) (c := c) s3 (by omega) B3 c (Nat.le_refl _)
  exact ⟨ok_le s5 (by omega), s4, by show n - 1 ≤ 30; omega, shG_rg H4, shG_rg H5⟩
theorem dX_1 {S : oS} {o w : Int32} (t i k : Nat) : (dX S o w).1 t i k = if t = 400 ∧ i = 0 ∧ k = 12 then o else if t = 900 ∧ i = 0 ∧ k = 7 then w else S.1 t i k := rfl
theorem xT_d12 {S : oS} {g l b : Int64} {A R C P ls lw d : Nat → Int32} {n : Nat} {h : Nat → Int64} {o w v : Int32} : oStI (xT (dX S o w) g A R C P b n ls lw h d l) 400 0 12 v = xT (dX S v w) g A R C P b n ls lw h d l := by
  refine oS_ext (fun t i m => ?_) (fun t i m => rfl)
  show (if t = 400 ∧ i = 0 ∧ m = 12 then v else (mX 0 (lX 0 (gX (dX S o w) g A R C P) b n ls lw) h d l).1 t i m) = (mX 0 (lX 0 (gX (dX S v w) g A R C P) b n ls lw) h d l).1 t i m
  rw [mX_1, mX_1, lX_1, lX_1, gX_1, gX_1, dX_1, dX_1]
  grind (splits := 24)
theorem xT_d7 {S : oS} {g l b : Int64} {A R C P ls lw d : Nat → Int32} {n : Nat} {h : Nat → Int64} {o w v : Int32} : oStI (xT (dX S o w) g A R C P b n ls lw h d l) 900 0 7 v = xT (dX S o v) g A R C P b n ls lw h d l := by
  refine oS_ext (fun t i m => ?_) (fun t i m => rfl)
  show (if t = 900 ∧ i = 0 ∧ m = 7 then v else (mX 0 (lX 0 (gX (dX S o w) g A R C P) b n ls lw) h d l).1 t i m) = (mX 0 (lX 0 (gX (dX S o v) g A R C P) b n ls lw) h d l).1 t i m
  rw [mX_1, mX_1, lX_1, lX_1, gX_1, gX_1, dX_1, dX_1]
  grind (splits := 24)
set_option maxHeartbeats 1000000 in
theorem tick_X {S : oS} {c f : Nat} {M : Int} {x : tR} (hB : bsX S c f) (H : okR M x) {N i : Nat} (hi : i < N) (hN : N ≤ 60) : f_X8_ticks_L15 (nI N) (nI i, xK S x) = some (Sum.inl (nI (i + 1), xK S (tkR S c f x))) := by
  obtain ⟨g, A, R, C, P, b, n, ls, lw, h, d, l, o, w⟩ := x
  obtain ⟨H1, H2, H3, H4, H5⟩ := H
  obtain ⟨B1, B2, B3, B4, B5, B6, B7, B8⟩ := hB
  have p := pass_X (j := 0) (S := gX (dX S o w) g A R C P) (b := b) (ls := ls) (lw := lw) (h := h) (d := d) (l := l) (n := n) o H3 (show (gX (dX S o w) g A R C P).1 500 0 6 = nI f from B5) B6
  have p : f_X4_passTick 0 o (mX 0 (lX 0 (gX (dX S o w) g A R C P) b n ls lw) h d l) = some (xT (dX S o w) g A R C P (b + frO n ls lw) (n - 1) (shG ls n) (shG lw n) (tkH S f n ls lw h d o) (stD h d f (frO n ls lw)) (l + stL h d (S.1 503 0) (S.1 500 0 7) f (frO n ls lw) o)) := p
  have q := bake_X (S := dX S o w) (g := g) (A := A) (R := R) (C := C) (P := P) (b := b + frO n ls lw) (n := n - 1) (ls := shG ls n) (lw := shG lw n) (h := tkH S f n ls lw h d o) (d := stD h d f (frO n ls lw)) (l := l + stL h d (S.1 503 0) (S.1 500 0 7) f (frO n ls lw) o) B1 B2 B3 B4
  show (if nI N ≤ nI i then _ else (f_X4_passTick 0 o (mX 0 (lX 0 (gX (dX S o w) g A R C P) b n ls lw) h d l)).bind _) = _
  rw [if_neg (by rw [nI_leI (by omega) (by omega)]; omega), p, Option.bind_some, q, Option.bind_some, oLet_eq, xT_d12, oLet_eq, xT_d7, oLet_eq, nI_1]
  rfl
