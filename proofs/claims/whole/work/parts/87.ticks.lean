theorem dX_id {S : oS} : dX S (S.1 400 0 12) (S.1 900 0 7) = S := by
  refine oS_ext (fun t i m => ?_) (fun t i m => rfl)
  rw [dX_1]
  by_cases g : t = 400 ∧ i = 0 ∧ m = 12
  · rw [if_pos g, g.1, g.2.1, g.2.2]
  · rw [if_neg g]
    by_cases g2 : t = 900 ∧ i = 0 ∧ m = 7
    · rw [if_pos g2, g2.1, g2.2.1, g2.2.2]
    · rw [if_neg g2]
theorem gX_id {S : oS} : gX S (S.2 400 0 11) (S.1 405 0) (S.1 406 0) (S.1 407 0) (S.1 408 0) = S := by
  refine oS_ext (fun t i m => ?_) (fun t i m => ?_)
  · rw [gX_1]
    by_cases g : t = 405 ∧ i = 0
    · rw [if_pos g, g.1, g.2]
    · rw [if_neg g]
      by_cases g : t = 406 ∧ i = 0
      · rw [if_pos g, g.1, g.2]
      · rw [if_neg g]
        by_cases g : t = 407 ∧ i = 0
        · rw [if_pos g, g.1, g.2]
        · rw [if_neg g]
          by_cases g : t = 408 ∧ i = 0
          · rw [if_pos g, g.1, g.2]
          · rw [if_neg g]
  · rw [gX_2]
    by_cases g : t = 400 ∧ i = 0 ∧ m = 11
    · rw [if_pos g, g.1, g.2.1, g.2.2]
    · rw [if_neg g]
theorem gY_id {S : oS} : gY S (S.2 1000 0 10) (S.1 1028 0) (S.1 1029 0) (S.1 1030 0) (S.1 1031 0) = S := by
  refine oS_ext (fun t i m => ?_) (fun t i m => ?_)
  · rw [gY_1]
    by_cases g : t = 1028 ∧ i = 0
    · rw [if_pos g, g.1, g.2]
    · rw [if_neg g]
      by_cases g : t = 1029 ∧ i = 0
      · rw [if_pos g, g.1, g.2]
      · rw [if_neg g]
        by_cases g : t = 1030 ∧ i = 0
        · rw [if_pos g, g.1, g.2]
        · rw [if_neg g]
          by_cases g : t = 1031 ∧ i = 0
          · rw [if_pos g, g.1, g.2]
          · rw [if_neg g]
  · rw [gY_2]
    by_cases g : t = 1000 ∧ i = 0 ∧ m = 10
    · rw [if_pos g, g.1, g.2.1, g.2.2]
    · rw [if_neg g]
theorem qM_id {T : oS} {n : Nat} {hh : Nat → Int64} {dd : Nat → Int32} (hn : T.1 1000 0 5 = nI n) (eh : ∀ k, k < 12 → hh k = T.2 1002 0 k) (ed : ∀ k, k < 4 → dd k = T.1 1003 0 k) : qM T (T.2 1000 0 8) n (T.1 1007 0) (T.1 1008 0) hh dd (T.2 1000 0 9) (T.1 1000 0 12) (T.1 1000 0 11) = T := by
  refine oS_ext (fun t i m => ?_) (fun t i m => ?_)
  · rw [qM_1]
    by_cases g : t = 1000 ∧ i = 0 ∧ m = 5
    · rw [if_pos g, g.1, g.2.1, g.2.2, hn]
    · rw [if_neg g]
      by_cases g : t = 1000 ∧ i = 0 ∧ m = 12
      · rw [if_pos g, g.1, g.2.1, g.2.2]
      · rw [if_neg g]
        by_cases g : t = 1000 ∧ i = 0 ∧ m = 11
        · rw [if_pos g, g.1, g.2.1, g.2.2]
        · rw [if_neg g]
          by_cases g : t = 1007 ∧ i = 0
          · rw [if_pos g, g.1, g.2]
          · rw [if_neg g]
            by_cases g : t = 1008 ∧ i = 0
            · rw [if_pos g, g.1, g.2]
            · rw [if_neg g]
              by_cases g : t = 1003 ∧ i = 0 ∧ m < 4
              · rw [if_pos g, g.1, g.2.1, ed m g.2.2]
              · rw [if_neg g]
  · rw [qM_2]
    by_cases g : t = 1002 ∧ i = 0 ∧ m < 12
    · rw [if_pos g, g.1, g.2.1, eh m g.2.2]
    · rw [if_neg g]
      by_cases g : t = 1000 ∧ i = 0 ∧ m = 8
      · rw [if_pos g, g.1, g.2.1, g.2.2]
      · rw [if_neg g]
        by_cases g : t = 1000 ∧ i = 0 ∧ m = 9
        · rw [if_pos g, g.1, g.2.1, g.2.2]
        · rw [if_neg g]
theorem it_ok {S : oS} {c f : Nat} {M : Int} {x : tR} (hB : bsX S c f) (hM : M + 600000 ≤ 1000000000000) (H : okR M x) : ∀ i : Nat, i ≤ 60 → okR (M + 10000 * i) (itR S c f x i) := by
  intro i
  induction i with
  | zero =>
    intro _
    have e : M + 10000 * ((0 : Nat) : Int) = M := by omega
    rw [e]
    exact H
  | succ i ih =>
    intro hi
    have := tk_ok hB (by omega) (ih (by omega))
    have e : M + 10000 * ((i + 1 : Nat) : Int) = M + 10000 * (i : Int) + 10000 := by omega
    rw [e]
    exact this
theorem ticks_X {S : oS} {c f : Nat} {M : Int} {x : tR} (hB : bsX S c f) (hM : M + 600000 ≤ 1000000000000) (H : okR M x) {N : Nat} (hN : N ≤ 60) : oLp (f_X8_ticks_L15 (nI N)) oFu ((0 : Int32), xK S x) = some (xK S (itR S c f x N)) := by
  refine oLp_eq (fun i => (nI i, xK S (itR S c f x i))) _ N (by omega) rfl ?_ ?_
  · intro i hi
    exact tick_X hB (it_ok hB hM H i (by omega)) hi hN
  · show (if nI N ≤ nI N then _ else _) = _
    rw [if_pos (by rw [i_le]; exact Int.le_refl _)]
theorem ticks_M {S T : oS} {c f : Nat} {M : Int} {x : tR} (hB : bsX S c f) (hT : bsM S T) (hM : M + 600000 ≤ 1000000000000) (H : okR M x) {N : Nat} (hN : N ≤ 60) (h1 w1 : Nat → Int64) (d1 : Nat → Int32) (t1 : Int64) : ∃ h2 w2 d2 t2, oLp (f_X9_ticks_L15 (nI N)) oFu ((0 : Int32), zK T x h1 w1 d1 t1) = some (zK T (itR S c f x N) h2 w2 d2 t2) := by
  have e : ∃ r, oLp (f_X9_ticks_L15 (nI N)) oFu ((0 : Int32), zK T x h1 w1 d1 t1) = some r ∧ ∃ h2 w2 d2 t2, r = zK T (itR S c f x N) h2 w2 d2 t2 := by
    refine oLp_all (fun i z => ∃ h2 w2 d2 t2, z = (nI i, zK T (itR S c f x i) h2 w2 d2 t2)) (fun r => ∃ h2 w2 d2 t2, r = zK T (itR S c f x N) h2 w2 d2 t2) N (by omega) ⟨h1, w1, d1, t1, rfl⟩ ?_ ?_
    · rintro i z hi ⟨h2, w2, d2, t2, rfl⟩
      obtain ⟨h3, w3, d3, t3, e⟩ := tick_M hB hT (by omega) (it_ok hB hM H i (by omega)) hi hN h2 w2 d2 t2
      exact ⟨_, e, h3, w3, d3, t3, rfl⟩
    · rintro z ⟨h2, w2, d2, t2, rfl⟩
      refine ⟨_, ?_, h2, w2, d2, t2, rfl⟩
      show (if nI N ≤ nI N then _ else _) = _
      rw [if_pos (by rw [i_le]; exact Int.le_refl _)]
  obtain ⟨r, e1, h2, w2, d2, t2, rfl⟩ := e
  exact ⟨h2, w2, d2, t2, e1⟩
def tO (x : tR) : Int32 := match x with
  | (_, _, _, _, _, _, _, _, _, _, _, _, o, _) => o
theorem it_o {S : oS} {c f : Nat} {x : tR} (h : oBl (tO x)) : ∀ i, oBl (tO (itR S c f x i)) := by
  intro i
  cases i with
  | zero => exact h
  | succ i =>
    show oBl (tO (tkR S c f (itR S c f x i)))
    generalize itR S c f x i = y
    obtain ⟨g, A, R, C, P, b, n, ls, lw, h, d, l, o, w⟩ := y
    exact Or.inl rfl
theorem inv_bs {n : Nat} {S : oS} (h : Inv n S) : ∃ c f n0 : Nat, bsX S c f ∧ n0 ≤ 30 ∧ S.1 500 0 5 = nI n0 ∧ S.1 1000 0 5 = nI n0 := by
  obtain ⟨⟨m1, m2, m3, ⟨m4, m4'⟩, ⟨m5, m5'⟩, -⟩, -, p3, p4, -⟩ := h
  obtain ⟨c, c1, c2, c3, c4, c5, -⟩ := lo_facts p3 p4
  obtain ⟨f, f1, f2, -⟩ := rg_nat m4'
  obtain ⟨n0, n1, n2, -⟩ := rg_nat m5'
  refine ⟨c, f, n0, ⟨c3, c1, fun i hi => ?_, fun i hi => ?_, m4.trans f2, by omega, fun r hr => by rw [(m3 r).1]; exact (m3 r).2, by rw [m1.1]; exact m1.2⟩, by omega, m5.trans n2, n2⟩
  · rw [(p4.2.1 i).2.1]
    exact ring_cases (p4.2.2.2.1 i (by omega)).2.2
  · rw [(p4.2.1 i).1]
    obtain ⟨k, k1, -, k3⟩ := c5 i hi
    exact ⟨k, k1, k3⟩
set_option maxHeartbeats 4000000 in
theorem pr_ticks (n : Nat) (hn : n ≤ 4096) (v : Int32) : oPair n (f_X8_ticks v) (f_X9_ticks v) := by
  intro S h
  have h0 := h
  by_cases hv : (1 : Int32) ≤ v ∧ v ≤ 60
  · obtain ⟨c, f, n0, hB, n1, n2, n3⟩ := inv_bs h
    obtain ⟨⟨m1, m2, m3, m4, m5, m6, m7, m8, m9, m10, m11⟩, ⟨d1, d2, d3, d4, d5⟩, p3, p4, p5, p6, p7⟩ := h
    obtain ⟨N, hN, rfl⟩ := wk_nat (w := v) (c := 60) (m := 60) rfl ⟨by rw [i_le] at hv ⊢; have := hv.1; rw [i1] at this; rw [i0]; omega, hv.2⟩
    obtain ⟨x, hx⟩ : ∃ x : tR, x = (S.2 400 0 11, S.1 405 0, S.1 406 0, S.1 407 0, S.1 408 0, S.2 500 0 8, n0, S.1 504 0, S.1 505 0, S.2 501 0, S.1 502 0, S.2 500 0 9, S.1 400 0 12, S.1 900 0 7) := ⟨_, rfl⟩
    have hxK : xK S x = S := by
      rw [hx]
      show mX 0 (lX 0 (gX (dX S (S.1 400 0 12) (S.1 900 0 7)) (S.2 400 0 11) (S.1 405 0) (S.1 406 0) (S.1 407 0) (S.1 408 0)) (S.2 500 0 8) n0 (S.1 504 0) (S.1 505 0)) (S.2 501 0) (S.1 502 0) (S.2 500 0 9) = S
      rw [dX_id, gX_id, lX_id n2, mX_id]
    have hok : okR (4000 + 600000 * n) x := by
      rw [hx]
      refine ⟨⟨fun k hk => ?_, ?_⟩, fun r _ => ?_, n1, fun k => ?_, fun k => ?_⟩
      · rw [(m8 k hk).1]; exact (m8 k hk).2
      · rw [hSum_cg (g := S.2 1002 0) (fun k hk => (m8 k hk).1)]; exact m9
      · rw [(m2 r).1]; exact (m2 r).2
      · rw [(m6 k).1]; exact (m6 k).2
      · rw [(m7 k).1]; exact (m7 k).2
    have hto : oBl (tO x) := by
      rw [hx]
      show oBl (S.1 400 0 12)
      rw [d2]; exact d3
    have hO := it_o (S := S) (c := c) (f := f) hto N
    have hI := it_ok hB (by omega) hok N (by omega)
    have eX := ticks_X hB (by omega) hok (N := N) (by omega)
    rw [hxK] at eX
    have mono : ∀ y : tR, okR (4000 + 600000 * n + 10000 * N) y → oBl (tO y) → (bsM S (xK S y) ∧ ∃ h2 w2 d2 t2, zK (xK S y) x h2 w2 d2 t2 = xK S y) ∧ ((xK S y).1 500 0 5 = (zK (xK S y) y (S.2 1050 0) (S.2 1051 0) (S.1 1052 0) (S.2 1000 0 52)).1 1000 0 5) ∧ ∀ h2 w2 d2 t2, (zK (xK S y) y h2 w2 d2 t2).1 1000 0 5 = (xK S y).1 500 0 5 ∧ Inv (n + 1) (zK (xK S y) y h2 w2 d2 t2) := by
      intro y oy ty
      obtain ⟨g, A, R, C, P, b, n', ls, lw, h, d, l, o, w⟩ := y
      obtain ⟨q1, q2, q3, q4, q5⟩ := oy
      refine ⟨⟨⟨?_, ?_, ?_, ?_, ?_, ?_, ?_, ?_⟩, ?_⟩, rfl, fun h2 w2 d2' t2 => ⟨rfl, ⟨⟨m1, ?_, m3, m4, ⟨rfl, ?_⟩, fun k => ⟨rfl, q4 k⟩, fun k => ⟨rfl, q5 k⟩, ?_, ?_, rfl, rfl⟩, ⟨rfl, rfl, ty, rfl, d5⟩, p3, ⟨p4.1, fun k => ⟨(p4.2.1 k).1, (p4.2.1 k).2.1, rfl, rfl, rfl, rfl⟩, p4.2.2⟩, p5, p6, p7⟩⟩⟩
      · exact p4.1.1.symm
      · exact funext fun k => (p4.2.1 k).2.1.symm
      · exact funext fun k => (p4.2.1 k).1.symm
      · exact m4.1.symm
      · exact funext fun k => (m3 k).1.symm
      · exact m1.1.symm
      · intro k
        obtain ⟨z1, z2, z3, z4, z5, z6, z7, z8, z9, z10⟩ := p3.2.1 k
        exact ⟨z5, z6, z8, z9, z10⟩
      · exact d5
      · refine ⟨S.2 1050 0, S.2 1051 0, S.1 1052 0, S.2 1000 0 52, ?_⟩
        rw [hx]
        generalize hT : xK S (g, A, R, C, P, b, n', ls, lw, h, d, l, o, w) = T
        have t8 : S.1 405 0 = T.1 1028 0 := by rw [← hT]; exact funext fun k => (p4.2.1 k).2.2.1
        have t9 : S.1 406 0 = T.1 1029 0 := by rw [← hT]; exact funext fun k => (p4.2.1 k).2.2.2.1
        have t10 : S.1 407 0 = T.1 1030 0 := by rw [← hT]; exact funext fun k => (p4.2.1 k).2.2.2.2.1
        have t11 : S.1 408 0 = T.1 1031 0 := by rw [← hT]; exact funext fun k => (p4.2.1 k).2.2.2.2.2
        have t0 : S.2 400 0 11 = T.2 1000 0 10 := by rw [← hT]; exact d4
        have u8 : S.2 500 0 8 = T.2 1000 0 8 := by rw [← hT]; exact m10
        have u9 : S.2 500 0 9 = T.2 1000 0 9 := by rw [← hT]; exact m11
        have u7 : S.1 504 0 = T.1 1007 0 := by rw [← hT]; exact funext fun k => (m6 k).1
        have u6 : S.1 505 0 = T.1 1008 0 := by rw [← hT]; exact funext fun k => (m7 k).1
        have u12 : S.1 400 0 12 = T.1 1000 0 12 := by rw [← hT]; exact d2
        have u11 : S.1 900 0 7 = T.1 1000 0 11 := by rw [← hT]; exact d1
        have v1 : S.2 1050 0 = T.2 1050 0 := by rw [← hT]; rfl
        have v2 : S.2 1051 0 = T.2 1051 0 := by rw [← hT]; rfl
        have v3 : S.1 1052 0 = T.1 1052 0 := by rw [← hT]; rfl
        have v4 : S.2 1000 0 52 = T.2 1000 0 52 := by rw [← hT]; rfl
        show nS (gY (qM T (S.2 500 0 8) n0 (S.1 504 0) (S.1 505 0) (S.2 501 0) (S.1 502 0) (S.2 500 0 9) (S.1 400 0 12) (S.1 900 0 7)) (S.2 400 0 11) (S.1 405 0) (S.1 406 0) (S.1 407 0) (S.1 408 0)) (S.2 1050 0) (S.2 1051 0) (S.1 1052 0) (S.2 1000 0 52) = T
        rw [u8, u7, u6, u9, u12, u11, qM_id (by rw [← hT]; exact n3) (fun k hk => by rw [← hT]; exact (m8 k hk).1) (fun k hk => by rw [← hT]; exact (m2 k).1), t0, t8, t9, t10, t11, gY_id, v1, v2, v3, v4, nS_id]
      · intro k
        show (if 502 = 502 ∧ 0 = 0 ∧ k < 4 then d k else S.1 502 0 k) = (if 1003 = 1003 ∧ 0 = 0 ∧ k < 4 then d k else S.1 1003 0 k) ∧ rg (if 1003 = 1003 ∧ 0 = 0 ∧ k < 4 then d k else S.1 1003 0 k) 0 1000
        by_cases z : k < 4
        · rw [if_pos ⟨rfl, rfl, z⟩, if_pos ⟨rfl, rfl, z⟩]; exact ⟨rfl, q2 k z⟩
        · rw [if_neg (fun y => z y.2.2), if_neg (fun y => z y.2.2)]; exact m2 k
      · show rg (nI n') 0 30
        exact ⟨by rw [nT (by omega)]; omega, by rw [nT (by omega)]; omega⟩
      · intro k hk
        show (if 501 = 501 ∧ 0 = 0 ∧ k < 12 then h k else _) = (if 1002 = 1002 ∧ 0 = 0 ∧ k < 12 then h k else _) ∧ 0 ≤ (if 1002 = 1002 ∧ 0 = 0 ∧ k < 12 then h k else _).toInt
        rw [if_pos ⟨rfl, rfl, hk⟩, if_pos ⟨rfl, rfl, hk⟩]
        exact ⟨rfl, q1.1 k hk⟩
      · have : hSum ((zK (xK S (g, A, R, C, P, b, n', ls, lw, h, d, l, o, w)) (g, A, R, C, P, b, n', ls, lw, h, d, l, o, w) h2 w2 d2' t2).2 1002 0) 12 = hSum h 12 := hSum_cg (fun k hk => if_pos ⟨rfl, rfl, hk⟩)
        rw [this]
        have := q1.2
        omega
    obtain ⟨⟨hT, h2, w2, d2', t2, hz⟩, -, hfin⟩ := mono _ hI hO
    obtain ⟨h3, w3, d3', t3, eM⟩ := ticks_M hB hT (by omega) hok (N := N) (by omega) h2 w2 d2' t2
    rw [hz] at eM
    obtain ⟨e5, eI⟩ := hfin h3 w3 d3' t3
    refine ⟨(xK S (itR S c f x N)).1 500 0 5, xK S (itR S c f x N), zK (xK S (itR S c f x N)) (itR S c f x N) h3 w3 d3' t3, ?_, ?_, eI⟩
    · unfold f_X8_ticks
      rw [wX, if_pos hv, Option.bind_some, if10, eX, Option.bind_some]
    · unfold f_X9_ticks
      rw [wM, if_pos hv, Option.bind_some, if10, eM, Option.bind_some, e5]
  · refine pair_id (r := -2) h0 ?_ ?_
    · unfold f_X8_ticks
      rw [wX, if_neg hv, Option.bind_some, if00]
    · unfold f_X9_ticks
      rw [wM, if_neg hv, Option.bind_some, if00]
