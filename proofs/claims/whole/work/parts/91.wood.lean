theorem woodO_M {T : oS} {M : Int} {n0 f q r : Nat} {h0 w0 : Nat → Int64} {d0 : Nat → Int32} {l0' : Int64} {s wt : Int32} (v : Int32) (hn : T.1 1000 0 5 = nI n0) (hn0 : n0 ≤ 30) (hq : q < 4) (hr : r ≤ 40) (hf : T.1 1000 0 4 = nI f) (hf2 : f ≤ 2) (H : okH (T.2 1002 0) M) (hM : M ≤ 900000000000) (hd : ∀ r, r < 4 → rg (T.1 1003 0 r) 0 1000) (hc : ∀ r, r < 4 → rg (T.1 1004 0 r) 0 4) (ha : rg (T.1 1000 0 0) 0 40) (hs : ∀ k, rg (T.1 1007 0 k) 0 50) (hw : ∀ k, rg (T.1 1008 0 k) 0 60) (h1 : rg s 0 50) (h2 : rg wt 0 60) : ∃ res h w d l, (oLp (f_X9_wood_L54 v (nI q) (nI r) s wt) oFu ((1 : Int32), nS T h0 w0 d0 l0')).bind (fun w => Sum.elim (fun zz14 => some ((-1 : Int32), zz14)) (fun r => some r) w) = some (res, nS T h w d l) ∧ wdQ v (wdF (T.1 1004 0) (T.1 1000 0 0) f (T.2 1002 0) (T.1 1003 0) n0 (T.1 1007 0) (T.1 1008 0) s wt q r) res := by
  obtain ⟨W, hW⟩ : ∃ W : Nat → Int64, W = wdF (T.1 1004 0) (T.1 1000 0 0) f (T.2 1002 0) (T.1 1003 0) n0 (T.1 1007 0) (T.1 1008 0) s wt q r := ⟨_, rfl⟩
  rw [← hW]
  have e : ∃ x, oLp (f_X9_wood_L54 v (nI q) (nI r) s wt) oFu ((1 : Int32), nS T h0 w0 d0 l0') = some x ∧ ∃ h w d l, ((x = Sum.inl (nS T h w d l) ∧ ∀ j, j < 30 → W (j + 1) < Int32.toInt64 v) ∨ ∃ k, k < 30 ∧ x = Sum.inr (nI (k + 1), nS T h w d l) ∧ (∀ j, j < k → W (j + 1) < Int32.toInt64 v) ∧ ¬ W (k + 1) < Int32.toInt64 v) := by
    refine oLp_inv (fun i st => (∃ h w d l, st = (nI (i + 1), nS T h w d l)) ∧ ∀ j, j < i → W (j + 1) < Int32.toInt64 v) (fun x => ∃ h w d l, ((x = Sum.inl (nS T h w d l) ∧ ∀ j, j < 30 → W (j + 1) < Int32.toInt64 v) ∨ ∃ k, k < 30 ∧ x = Sum.inr (nI (k + 1), nS T h w d l) ∧ (∀ j, j < k → W (j + 1) < Int32.toInt64 v) ∧ ¬ W (k + 1) < Int32.toInt64 v)) 30 oFu 0 ((1 : Int32), nS T h0 w0 d0 l0') ⟨⟨h0, w0, d0, l0', rfl⟩, fun j hj => absurd hj (Nat.not_lt_zero _)⟩ (by show 30 - 0 < 100000; omega) (by omega) ?_ ?_
    · rintro i st hi ⟨⟨h, w, d, l, rfl⟩, hI⟩
      obtain ⟨w2, l2, p⟩ := woodI_M (T := T) (k := i + 1) (w := w) (l := l) v (nI q) hn hn0 (by omega) hr hf hf2 H hM hd hc ha hs hw h1 h2
      have fa : f_X9_faceOf (nI q) (nS T (wdS (T.1 1004 0) (T.1 1000 0 0) f (T.2 1002 0) (T.1 1003 0) n0 (T.1 1007 0) (T.1 1008 0) s wt (i + 1) (n0 + (i + 1) + r)).1 w2 (wdS (T.1 1004 0) (T.1 1000 0 0) f (T.2 1002 0) (T.1 1003 0) n0 (T.1 1007 0) (T.1 1008 0) s wt (i + 1) (n0 + (i + 1) + r)).2 l2) = some (W (i + 1), nS T (wdS (T.1 1004 0) (T.1 1000 0 0) f (T.2 1002 0) (T.1 1003 0) n0 (T.1 1007 0) (T.1 1008 0) s wt (i + 1) (n0 + (i + 1) + r)).1 w2 (wdS (T.1 1004 0) (T.1 1000 0 0) f (T.2 1002 0) (T.1 1003 0) n0 (T.1 1007 0) (T.1 1008 0) s wt (i + 1) (n0 + (i + 1) + r)).2 l2) := by
        rw [face_M hq, hW]
        rfl
      generalize wdS (T.1 1004 0) (T.1 1000 0 0) f (T.2 1002 0) (T.1 1003 0) n0 (T.1 1007 0) (T.1 1008 0) s wt (i + 1) (n0 + (i + 1) + r) = x2 at p fa
      show (∃ s', (if (30 : Int32) < nI (i + 1) then _ else (f_X9_takeNow (nS T h w d l)).bind _) = _ ∧ _) ∨ (∃ r, (if (30 : Int32) < nI (i + 1) then _ else (f_X9_takeNow (nS T h w d l)).bind _) = _ ∧ _)
      rw [if_neg (show ¬ (30 : Int32) < nI (i + 1) by rw [i_lt, nT (by omega)]; have : (30 : Int32).toInt = 30 := rfl; omega), takeNow_N hn, Option.bind_some, p, Option.bind_some, fa, Option.bind_some]
      by_cases g : W (i + 1) < Int32.toInt64 v
      · refine Or.inl ⟨(nI (i + 1 + 1), nS T x2.1 w2 x2.2 l2), ?_, ⟨_, _, _, _, rfl⟩, fun j hj => ?_⟩
        · show (if W (i + 1) < Int32.toInt64 v then _ else _) = _
          rw [if_pos g, ← nI_1 (i + 1)]
          rfl
        · by_cases z : j = i
          · rw [z]; exact g
          · exact hI j (by omega)
      · refine Or.inr ⟨Sum.inr (nI (i + 1), nS T x2.1 w2 x2.2 l2), ?_, _, _, _, _, Or.inr ⟨i, hi, rfl, hI, g⟩⟩
        show (if W (i + 1) < Int32.toInt64 v then _ else _) = _
        rw [if_neg g]
    · rintro st ⟨⟨h, w, d, l, rfl⟩, hI⟩
      exact ⟨Sum.inl (nS T h w d l), rfl, h, w, d, l, Or.inl ⟨rfl, hI⟩⟩
  obtain ⟨x, e1, h, w, d, l, ⟨rfl, hI⟩ | ⟨k, hk, rfl, hI, g⟩⟩ := e
  · exact ⟨-1, h, w, d, l, by rw [e1]; rfl, Or.inl ⟨rfl, hI⟩⟩
  · exact ⟨nI (k + 1), h, w, d, l, by rw [e1]; rfl, Or.inr ⟨k, hk, rfl, hI, g⟩⟩
theorem inv_mas {n : Nat} {S : oS} (h : iMas n S) (hn : n ≤ 4096) : ∃ f n0 : Nat, f ≤ 2 ∧ n0 ≤ 30 ∧ S.1 1000 0 4 = nI f ∧ S.1 1000 0 5 = nI n0 ∧ okH (S.2 1002 0) (4000 + 600000 * n) ∧ (4000 + 600000 * n : Int) ≤ 900000000000 ∧ (∀ r, r < 4 → rg (S.1 1003 0 r) 0 1000) ∧ (∀ r, r < 4 → rg (S.1 1004 0 r) 0 4) ∧ rg (S.1 1000 0 0) 0 40 ∧ (∀ k, rg (S.1 1007 0 k) 0 50) ∧ (∀ k, rg (S.1 1008 0 k) 0 60) ∧ hM 0 S (S.2 1002 0) (S.1 1003 0) n0 (S.1 1007 0) (S.1 1008 0) (S.1 1004 0) (S.1 1000 0 0) f := by
  obtain ⟨m1, m2, m3, ⟨m4, m4'⟩, ⟨m5, m5'⟩, m6, m7, m8, m9, m10, m11⟩ := h
  obtain ⟨f, f1, f2, -⟩ := rg_nat m4'
  obtain ⟨n0, n1, n2, -⟩ := rg_nat m5'
  exact ⟨f, n0, by omega, by omega, f2, n2, ⟨fun k hk => (m8 k hk).2, m9⟩, by omega, fun r _ => (m2 r).2, fun r _ => (m3 r).2, m1.2, fun k => (m6 k).2, fun k => (m7 k).2, fun k hk => (m8 k hk).1, fun k _ => (m2 k).1, m5.trans n2, fun k _ => (m6 k).1, fun k _ => (m7 k).1, fun k _ => (m3 k).1, m1.1, m4.trans f2⟩
set_option maxHeartbeats 4000000 in
theorem pr_wood (n : Nat) (hn : n ≤ 4096) (v q r s w : Int32) : oPair n (f_X8_wood v q r s w) (f_X9_wood v q r s w) := by
  intro S h
  have h0 := h
  obtain ⟨p1, p2, p3, p4, p5, p6, p7⟩ := h
  have u := h0.up
  by_cases hv : (0 : Int32) ≤ v ∧ v ≤ 2000
  · by_cases hq : (0 : Int32) ≤ q ∧ q ≤ 3
    · by_cases hr : (0 : Int32) ≤ r ∧ r ≤ 40
      · by_cases hl : ((1 : Int32) ≤ s ∧ s ≤ 50) ∧ 0 ≤ w ∧ w ≤ 60
        · by_cases hi : S.1 400 0 9 ≤ 0
          · obtain ⟨f, n0, f1, n1, f2, n2, b1, b2, b3, b4, b5, b6, b7, b8⟩ := inv_mas p1 hn
            obtain ⟨q', hq', rfl⟩ := wk_nat (c := 3) (m := 3) rfl hq
            obtain ⟨r', hr', rfl⟩ := wk_nat (c := 40) (m := 40) rfl hr
            have s1 : rg s 0 50 := by have := rg_of (m := 1) (n := 50) rfl rfl hl.1; exact ⟨by have := this.1; omega, this.2⟩
            have s2 : rg w 0 60 := rg_of rfl rfl hl.2
            obtain ⟨Z, ls', lw', e1, H1, F1⟩ := begin_P n1 f1 b8
            obtain ⟨res, Y, e2, F2, Q1⟩ := wood_X v s w (q := q') (r := r') f1 (by omega) (by omega) H1 F1
            have eY := ov_eq F2
            generalize Y.1 = A at eY
            generalize Y.2 = B at eY
            subst eY
            obtain ⟨res2, h2, w2, d2, l2, e3, Q2⟩ := woodO_M (T := ovW S A B) (q := q') (r := r') (h0 := (ovW S A B).2 1050 0) (w0 := (ovW S A B).2 1051 0) (d0 := (ovW S A B).1 1052 0) (l0' := (ovW S A B).2 1000 0 52) v n2 n1 (by omega) (by omega) f2 f1 b1 b2 b3 b4 b5 b6 b7 s1 s2
            rw [nS_id] at e3
            have er : res = res2 := wdQ_u Q1 Q2
            subst er
            refine ⟨res, ovW S A B, nS (ovW S A B) h2 w2 d2 l2, ?_, ?_, u⟩
            · unfold f_X8_wood
              simp only [wX, rgX, lgX, Option.bind_some, if_pos hv, if_pos hq, if_pos hr, if_pos hl, if10, if_pos hi]
              rw [e1, Option.bind_some, e2]
            · unfold f_X9_wood
              simp only [wM, rgM, lgM, Option.bind_some, if_pos hv, if_pos hq, if_pos hr, if_pos hl, if10]
              rw [inside_M (S := S) (T := ovW S A B) p3 p4 rfl rfl, Option.bind_some, if_pos hi, e3]
          · refine pair_id (r := -3) h0 ?_ ?_
            · simp only [f_X8_wood, wX, rgX, lgX, Option.bind_some, if_pos hv, if_pos hq, if_pos hr, if_pos hl, if10, if_neg hi]
            · unfold f_X9_wood
              simp only [wM, rgM, lgM, Option.bind_some, if_pos hv, if_pos hq, if_pos hr, if_pos hl, if10]
              rw [inside_M (S := S) (T := S) p3 p4 rfl rfl, Option.bind_some, if_neg hi]
        · refine pair_id (r := -2) h0 ?_ ?_
          · simp only [f_X8_wood, wX, rgX, lgX, Option.bind_some, if_pos hv, if_pos hq, if_pos hr, if_neg hl, if10, if00, if_true]
          · simp only [f_X9_wood, wM, rgM, lgM, Option.bind_some, if_pos hv, if_pos hq, if_pos hr, if_neg hl, if10, if00, if_true]
      · refine pair_id (r := -2) h0 ?_ ?_
        · simp only [f_X8_wood, wX, rgX, Option.bind_some, if_pos hv, if_pos hq, if_neg hr, if10, if00, if_true]
        · simp only [f_X9_wood, wM, rgM, Option.bind_some, if_pos hv, if_pos hq, if_neg hr, if10, if00, if_true]
    · refine pair_id (r := -2) h0 ?_ ?_
      · simp only [f_X8_wood, wX, rgX, Option.bind_some, if_pos hv, if_neg hq, if10, if00, if_true]
      · simp only [f_X9_wood, wM, rgM, Option.bind_some, if_pos hv, if_neg hq, if10, if00, if_true]
  · refine pair_id (r := -2) h0 ?_ ?_
    · simp only [f_X8_wood, wX, Option.bind_some, if_neg hv, if00, if_true]
    · simp only [f_X9_wood, wM, Option.bind_some, if_neg hv, if00, if_true]
