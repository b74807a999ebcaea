/-- the reference's cells are those of the class, for a tick -/
def bsM (S T : oS) : Prop := T.1 1000 0 24 = S.1 400 0 8 ∧ T.1 1027 0 = S.1 404 0 ∧ T.1 1026 0 = S.1 403 0 ∧ T.1 1000 0 4 = S.1 500 0 6 ∧ T.1 1004 0 = S.1 503 0 ∧ T.1 1000 0 0 = S.1 500 0 7 ∧ (∀ k, S.1 205 0 k = T.1 1019 0 k ∧ S.1 206 0 k = T.1 1020 0 k ∧ S.1 208 0 k = T.1 1022 0 k ∧ S.1 209 0 k = T.1 1023 0 k ∧ S.1 210 0 k = T.1 1024 0 k) ∧ iSpa T
set_option maxHeartbeats 1000000 in
theorem k53_M {S T : oS} {c f : Nat} {M : Int} (hB : bsX S c f) (hT : bsM S T) {g b l t1 F : Int64} {A R C P ls lw dd : Nat → Int32} {n : Nat} {hh w1 : Nat → Int64} {o w : Int32} (hS : okS hh dd (S.1 503 0) (S.1 500 0 7) f F M) (N i : Nat) : f_X9_ticks_K53 (nI N) (nI i) F (zM T g A R C P b n ls lw hh dd l o w hh w1 dd t1) = some (Sum.inl (nI (i + 1), zM T (bkG (S.1 404 0) (stH hh dd (S.1 503 0) (S.1 500 0 7) f F o) g c) (gw A (eA (S.1 404 0)) c) (gw R (eR (S.1 404 0) (lvK S (S.1 404 0) (bkH (S.1 404 0) (stH hh dd (S.1 503 0) (S.1 500 0 7) f F o) c) A)) c) (gw C (eC (S.1 404 0) (lvK S (S.1 404 0) (bkH (S.1 404 0) (stH hh dd (S.1 503 0) (S.1 500 0 7) f F o) c) A)) c) (gw P (eP (S.1 404 0) (lvK S (S.1 404 0) (bkH (S.1 404 0) (stH hh dd (S.1 503 0) (S.1 500 0 7) f F o) c) A)) c) (b + F) n ls lw (bkH (S.1 404 0) (stH hh dd (S.1 503 0) (S.1 500 0 7) f F o) c) (stD hh dd f F) (l + stL hh dd (S.1 503 0) (S.1 500 0 7) f F o) 0 (w + 1) (bkH (S.1 404 0) (stH hh dd (S.1 503 0) (S.1 500 0 7) f F o) c) (wmH (stE hh dd (S.1 503 0) f F)) (stD hh dd f F) (stL hh dd (S.1 503 0) (S.1 500 0 7) f F o))) := by
  obtain ⟨B1, B2, B3, B4, B5, B6, B7, B8⟩ := hB
  obtain ⟨T1, T2, T3, T4, T5, T6, T7, T8⟩ := hT
  obtain ⟨-, -, s3, -⟩ := st_ok hS o
  have hM : M + F.toInt ≤ 1000000000000 := hS.2.2.2.2.2.2
  have p := step_M (S := gY (qM T b n ls lw hh dd l o w) g A R C P) (h := hh) (w := w1) (d := dd) (l := t1) (f := f) (F := F) (M := M) (show T.1 1000 0 4 = nI f by rw [T4]; exact B5) (by show okS hh dd (T.1 1004 0) (T.1 1000 0 0) f F M; rw [T5, T6]; exact hS) o
  have p : f_X9_step F o (zM T g A R C P b n ls lw hh dd l o w hh w1 dd t1) = some (nS (gY (qM T b n ls lw hh dd l o w) g A R C P) (stH hh dd (T.1 1004 0) (T.1 1000 0 0) f F o) (wmH (stE hh dd (T.1 1004 0) f F)) (stD hh dd f F) (stL hh dd (T.1 1004 0) (T.1 1000 0 0) f F o)) := p
  rw [T5, T6] at p
  have eq : (qM T b n ls lw hh dd l o w).1 1027 0 = S.1 404 0 := T2
  have ek : (qM T b n ls lw hh dd l o w).1 1026 0 = S.1 403 0 := T3
  have q := bake_M (S := qM T b n ls lw hh dd l o w) (g := g) (A := A) (R := R) (C := C) (P := P) (h := stH hh dd (S.1 503 0) (S.1 500 0 7) f F o) (w := wmH (stE hh dd (S.1 503 0) f F)) (d := stD hh dd f F) (l := stL hh dd (S.1 503 0) (S.1 500 0 7) f F o) (c := c) (v := lvK S (S.1 404 0) (bkH (S.1 404 0) (stH hh dd (S.1 503 0) (S.1 500 0 7) f F o) c) A) (M := M + F.toInt) (show T.1 1000 0 24 = nI c by rw [T1]; exact B1) B2 (by rw [eq]; exact B3) (by rw [ek]; exact B4) s3 hM (fun i hi => by
    rw [eq, ek]
    obtain ⟨y1, y2, y3, y4, y5⟩ := T7 (S.1 403 0 i).toNatClampNeg
    exact lk_sr (S := S) (T := T) _ _ y1 y2 y3 y4 y5 (T8 _))
  rw [eq] at q
  have q : f_X9_bake (nS (gY (qM T b n ls lw hh dd l o w) g A R C P) (stH hh dd (S.1 503 0) (S.1 500 0 7) f F o) (wmH (stE hh dd (S.1 503 0) f F)) (stD hh dd f F) (stL hh dd (S.1 503 0) (S.1 500 0 7) f F o)) = some (zM T (bkG (S.1 404 0) (stH hh dd (S.1 503 0) (S.1 500 0 7) f F o) g c) (gw A (eA (S.1 404 0)) c) (gw R (eR (S.1 404 0) (lvK S (S.1 404 0) (bkH (S.1 404 0) (stH hh dd (S.1 503 0) (S.1 500 0 7) f F o) c) A)) c) (gw C (eC (S.1 404 0) (lvK S (S.1 404 0) (bkH (S.1 404 0) (stH hh dd (S.1 503 0) (S.1 500 0 7) f F o) c) A)) c) (gw P (eP (S.1 404 0) (lvK S (S.1 404 0) (bkH (S.1 404 0) (stH hh dd (S.1 503 0) (S.1 500 0 7) f F o) c) A)) c) b n ls lw hh dd l o w (bkH (S.1 404 0) (stH hh dd (S.1 503 0) (S.1 500 0 7) f F o) c) (wmH (stE hh dd (S.1 503 0) f F)) (stD hh dd f F) (stL hh dd (S.1 503 0) (S.1 500 0 7) f F o)) := q
  unfold f_X9_ticks_K53
  rw [show (zM T g A R C P b n ls lw hh dd l o w hh w1 dd t1).1 1000 0 12 = o from rfl, p, Option.bind_some, q, Option.bind_some]
  generalize bkG (S.1 404 0) (stH hh dd (S.1 503 0) (S.1 500 0 7) f F o) g c = g2
  generalize lvK S (S.1 404 0) (bkH (S.1 404 0) (stH hh dd (S.1 503 0) (S.1 500 0 7) f F o) c) A = v2
  generalize bkH (S.1 404 0) (stH hh dd (S.1 503 0) (S.1 500 0 7) f F o) c = h2
  generalize stL hh dd (S.1 503 0) (S.1 500 0 7) f F o = l2
  generalize wmH (stE hh dd (S.1 503 0) f F) = w2
  generalize stD hh dd f F = d2
  generalize gw A (eA (S.1 404 0)) c = A2
  generalize gw R (eR (S.1 404 0) v2) c = R2
  generalize gw C (eC (S.1 404 0) v2) c = C2
  generalize gw P (eP (S.1 404 0) v2) c = P2
  rw [oLet_eq, show (zM T g2 A2 R2 C2 P2 b n ls lw hh dd l o w h2 w2 d2 l2).2 1000 0 8 = b from rfl, zM_sb, oLet_eq, show (zM T g2 A2 R2 C2 P2 (b + F) n ls lw hh dd l o w h2 w2 d2 l2).2 1000 0 9 = l from rfl, show (zM T g2 A2 R2 C2 P2 (b + F) n ls lw hh dd l o w h2 w2 d2 l2).2 1000 0 52 = l2 from rfl, zM_sl, oLet_eq, zM_s12, oLet_eq, show (zM T g2 A2 R2 C2 P2 (b + F) n ls lw hh dd (l + l2) 0 w h2 w2 d2 l2).1 1000 0 11 = w from rfl, zM_s11, backH_M, Option.bind_some, backD_M, Option.bind_some, oLet_eq, nI_1]
set_option maxHeartbeats 1000000 in
theorem tick_M {S T : oS} {c f : Nat} {M : Int} {x : tR} (hB : bsX S c f) (hT : bsM S T) (hM : M + 10000 ≤ 1000000000000) (H : okR M x) {N i : Nat} (hi : i < N) (hN : N ≤ 60) (h1 w1 : Nat → Int64) (d1 : Nat → Int32) (t1 : Int64) : ∃ h2 w2 d2 t2, f_X9_ticks_L15 (nI N) (nI i, zK T x h1 w1 d1 t1) = some (Sum.inl (nI (i + 1), zK T (tkR S c f x) h2 w2 d2 t2)) := by
  obtain ⟨g, A, R, C, P, b, n, ls, lw, h, d, l, o, w⟩ := x
  obtain ⟨H1, H2, H3, H4, H5⟩ := H
  have hF := frO_b (n := n) H4 H5
  have hS : okS h d (S.1 503 0) (S.1 500 0 7) f (frO n ls lw) M := ⟨H1, H2, hB.2.2.2.2.2.2.1, hB.2.2.2.2.2.2.2, hB.2.2.2.2.2.1, hF.1, by omega⟩
  refine ⟨bkH (S.1 404 0) (tkH S f n ls lw h d o) c, wmH (stE h d (S.1 503 0) f (frO n ls lw)), stD h d f (frO n ls lw), stL h d (S.1 503 0) (S.1 500 0 7) f (frO n ls lw) o, ?_⟩
  show (if nI N ≤ nI i then _ else (f_X9_takeNow (zM T g A R C P b n ls lw h d l o w h1 w1 d1 t1)).bind _) = _
  rw [if_neg (by rw [nI_leI (by omega) (by omega)]; omega), takeNow_M, Option.bind_some, show (zM T g A R C P b n ls lw h d l o w h w1 d t1).1 1000 0 5 = nI n from rfl]
  by_cases z : n = 0
  · subst z
    rw [if_pos (by decide)]
    have := k53_M hB hT (g := g) (A := A) (R := R) (C := C) (P := P) (b := b) (n := 0) (ls := ls) (lw := lw) (l := l) (o := o) (w := w) (w1 := w1) (t1 := t1) hS N i
    have e0 : frO 0 ls lw = 0 := rfl
    have es : ∀ gg : Nat → Int32, shG gg 0 = gg := fun gg => funext fun k => if_neg (by omega)
    rw [show (0 : Int64) = frO 0 ls lw from rfl, this]
    show _ = some (Sum.inl (nI (i + 1), zM T _ _ _ _ _ _ (0 - 1) (shG ls 0) (shG lw 0) _ _ _ _ _ _ _ _ _))
    rw [es, es]
    rfl
  · obtain ⟨m, rfl⟩ : ∃ m, n = m + 1 := ⟨n - 1, by omega⟩
    have eF : frO (m + 1) ls lw = coF (ls 0) (lw 0) := if_neg (by omega)
    have r7 : (zM T g A R C P b (m + 1) ls lw h d l o w h w1 d t1).1 1007 0 (Int32.toNatClampNeg (0 : Int32)) = ls 0 := rfl
    have r8 : (zM T g A R C P b (m + 1) ls lw h d l o w h w1 d t1).1 1008 0 (Int32.toNatClampNeg (0 : Int32)) = lw 0 := rfl
    have := k53_M hB hT (g := g) (A := A) (R := R) (C := C) (P := P) (b := b) (n := m) (ls := shG ls (m + 1)) (lw := shG lw (m + 1)) (l := l) (o := o) (w := w) (w1 := w1) (t1 := t1) hS N i
    rw [if_neg (show ¬ nI (m + 1) ≤ 0 by rw [i_le, nT (by omega), i0]; omega), r7, r8, burnt_M (H4 0) (H5 0), Option.bind_some]
    show (f_X9_dropLog (zM T g A R C P b (m + 1) ls lw h d l o w h w1 d t1)).bind _ = _
    rw [drop_M (by omega), Option.bind_some]
    show f_X9_ticks_K53 (nI N) (nI i) (coF (ls 0) (lw 0)) _ = _
    rw [← eF, this]
    rfl
