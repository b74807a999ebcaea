def aS (T : oS) (A : Nat → Int64) : oS := (T.1, fun t i k => if t = 1057 ∧ i = 0 then A k else T.2 t i k)
theorem aS_2 {T : oS} {A : Nat → Int64} (t i k : Nat) : (aS T A).2 t i k = if t = 1057 ∧ i = 0 then A k else T.2 t i k := rfl
theorem aS_id {T : oS} : aS T (T.2 1057 0) = T := by
  refine oS_ext (fun t i k => rfl) (fun t i k => ?_)
  rw [aS_2]
  by_cases g : t = 1057 ∧ i = 0
  · rw [if_pos g, g.1, g.2]
  · rw [if_neg g]
theorem aS_s {T : oS} {A h w : Nat → Int64} {d : Nat → Int32} {l v : Int64} {m : Nat} (hm : m < 1000) : oStL (nS (aS T A) h w d l) 1057 0 (nI m).toNatClampNeg v = nS (aS T (uL A m v)) h w d l := by
  rw [ncl (by omega)]
  refine oS_ext (fun t i k => rfl) (fun t i k => ?_)
  show (if t = 1057 ∧ i = 0 ∧ k = m then v else (nS (aS T A) h w d l).2 t i k) = _
  rw [nS_2, nS_2, aS_2, aS_2]
  unfold uL
  grind (splits := 20)
theorem layL_M {T : oS} {A h w : Nat → Int64} {d : Nat → Int32} {l : Int64} {t0 : Nat} (ht : t0 ≤ 40) : oLp (f_X9_layAhead_L50 (nI t0)) oFu ((0 : Int32), nS (aS T A) h w d l) = some (nS (aS T (fun k => if 4 * t0 ≤ k ∧ k < 4 * t0 + 4 then h (3 * (k - 4 * t0)) / 10 else A k)) h w d l) := by
  refine oLp_eq (fun i => (nI i, nS (aS T (fun k => if 4 * t0 ≤ k ∧ k < 4 * t0 + i then h (3 * (k - 4 * t0)) / 10 else A k)) h w d l)) _ 4 (by omega) ?_ ?_ rfl
  · have : A = (fun k => if 4 * t0 ≤ k ∧ k < 4 * t0 + 0 then h (3 * (k - 4 * t0)) / 10 else A k) := funext fun k => (if_neg (by omega)).symm
    show _ = ((0 : Int32), nS (aS T (fun k => if 4 * t0 ≤ k ∧ k < 4 * t0 + 0 then h (3 * (k - 4 * t0)) / 10 else A k)) h w d l)
    rw [← this]
  · intro i hi
    have z : uL (fun k => if 4 * t0 ≤ k ∧ k < 4 * t0 + i then h (3 * (k - 4 * t0)) / 10 else A k) (4 * t0 + i) (h (3 * i) / 10) = (fun k => if 4 * t0 ≤ k ∧ k < 4 * t0 + (i + 1) then h (3 * (k - 4 * t0)) / 10 else A k) := funext fun k => by
      unfold uL
      by_cases y : k = 4 * t0 + i
      · rw [if_pos y, if_pos (by omega), show k - 4 * t0 = i by omega]
      · rw [if_neg y]
        show (if 4 * t0 ≤ k ∧ k < 4 * t0 + i then h (3 * (k - 4 * t0)) / 10 else A k) = _
        by_cases x : 4 * t0 ≤ k ∧ k < 4 * t0 + i
        · rw [if_pos x, if_pos (by omega)]
        · rw [if_neg x, if_neg (by omega)]
    show (if (4 : Int32) ≤ nI i then _ else _) = _
    rw [if_neg (le4 hi), face_M hi, Option.bind_some, n_40, if_pos ((nin (by omega)).mpr (by omega)), oLet_eq, aS_s (by omega), oLet_eq, nI_1, z]
theorem fiL_b {n : Nat} {ls lw : Nat → Int32} (hs : ∀ k, rg (ls k) 0 50) (hw : ∀ k, rg (lw k) 0 60) (t : Nat) : 0 ≤ (fiL n ls lw t).toInt ∧ (fiL n ls lw t).toInt ≤ 10000 := by
  unfold fiL
  by_cases z : t < n
  · rw [if_pos z]
    have := coF_b (hs t) (hw t)
    exact ⟨this.1, this.2.1⟩
  · rw [if_neg z, l0]
    omega
theorem lay_A {T : oS} {M : Int} {n0 f Q : Nat} {A0 h0 w0 : Nat → Int64} {d0 : Nat → Int32} {l0' : Int64} {U : Nat → Nat} (hn : T.1 1000 0 5 = nI n0) (hn0 : n0 ≤ 30) (hf : T.1 1000 0 4 = nI f) (hf2 : f ≤ 2) (H : okH (T.2 1002 0) M) (hM : M ≤ 900000000000) (hd : ∀ r, r < 4 → rg (T.1 1003 0 r) 0 1000) (hc : ∀ r, r < 4 → rg (T.1 1004 0 r) 0 4) (ha : rg (T.1 1000 0 0) 0 40) (hs : ∀ k, rg (T.1 1007 0 k) 0 50) (hw : ∀ k, rg (T.1 1008 0 k) 0 60) (hQ : T.1 1000 0 34 = nI Q) (h3 : Q ≤ 3) (hU : ∀ i, i < Q → T.1 1036 0 i = nI (U i) ∧ U i ≤ 40) : ∃ A h w d l, f_X9_layAhead (nS (aS T A0) h0 w0 d0 l0') = some (nS (aS T A) h w d l) ∧ ∀ t r, t ≤ 40 → r < 4 → A (4 * t + r) = fcV (T.1 1004 0) (T.1 1000 0 0) f (T.2 1002 0) (T.1 1003 0) (fiL n0 (T.1 1007 0) (T.1 1008 0)) (opF U Q) t r := by
  have e : ∃ x, oLp f_X9_layAhead_L6 oFu ((0 : Int32), nS (aS T A0) (T.2 1002 0) w0 (T.1 1003 0) l0') = some x ∧ ∃ A h w d l, x = nS (aS T A) h w d l ∧ ∀ t r, t ≤ 40 → r < 4 → A (4 * t + r) = fcV (T.1 1004 0) (T.1 1000 0 0) f (T.2 1002 0) (T.1 1003 0) (fiL n0 (T.1 1007 0) (T.1 1008 0)) (opF U Q) t r := by
    refine oLp_all (fun i s => ∃ A w l, s = (nI i, nS (aS T A) (itS (T.1 1004 0) (T.1 1000 0 0) f (T.2 1002 0) (T.1 1003 0) (fiL n0 (T.1 1007 0) (T.1 1008 0)) (opF U Q) i).1 w (itS (T.1 1004 0) (T.1 1000 0 0) f (T.2 1002 0) (T.1 1003 0) (fiL n0 (T.1 1007 0) (T.1 1008 0)) (opF U Q) i).2 l) ∧ ∀ t r, t < i → r < 4 → A (4 * t + r) = fcV (T.1 1004 0) (T.1 1000 0 0) f (T.2 1002 0) (T.1 1003 0) (fiL n0 (T.1 1007 0) (T.1 1008 0)) (opF U Q) t r) (fun x => ∃ A h w d l, x = nS (aS T A) h w d l ∧ ∀ t r, t ≤ 40 → r < 4 → A (4 * t + r) = fcV (T.1 1004 0) (T.1 1000 0 0) f (T.2 1002 0) (T.1 1003 0) (fiL n0 (T.1 1007 0) (T.1 1008 0)) (opF U Q) t r) 41 (by omega) ⟨A0, w0, l0', rfl, fun t r ht => absurd ht (Nat.not_lt_zero _)⟩ ?_ ?_
    · rintro i s hi ⟨A, w, l, rfl, hI⟩
      have hS := itS_ok (O := opF U Q) H hd hc ha hf2 (fiL_b (n := n0) hs hw) hM i (by omega)
      obtain ⟨w2, l2, p⟩ := step_E (S := aS T A) w l hf hS (opF U Q i)
      have p : f_X9_step (fiL n0 (T.1 1007 0) (T.1 1008 0) i) (opF U Q i) (nS (aS T A) (itS (T.1 1004 0) (T.1 1000 0 0) f (T.2 1002 0) (T.1 1003 0) (fiL n0 (T.1 1007 0) (T.1 1008 0)) (opF U Q) i).1 w (itS (T.1 1004 0) (T.1 1000 0 0) f (T.2 1002 0) (T.1 1003 0) (fiL n0 (T.1 1007 0) (T.1 1008 0)) (opF U Q) i).2 l) = some (nS (aS T A) (itS (T.1 1004 0) (T.1 1000 0 0) f (T.2 1002 0) (T.1 1003 0) (fiL n0 (T.1 1007 0) (T.1 1008 0)) (opF U Q) (i + 1)).1 w2 (itS (T.1 1004 0) (T.1 1000 0 0) f (T.2 1002 0) (T.1 1003 0) (fiL n0 (T.1 1007 0) (T.1 1008 0)) (opF U Q) (i + 1)).2 l2) := p
      have ev : ∀ r, fcV (T.1 1004 0) (T.1 1000 0 0) f (T.2 1002 0) (T.1 1003 0) (fiL n0 (T.1 1007 0) (T.1 1008 0)) (opF U Q) i r = (itS (T.1 1004 0) (T.1 1000 0 0) f (T.2 1002 0) (T.1 1003 0) (fiL n0 (T.1 1007 0) (T.1 1008 0)) (opF U Q) (i + 1)).1 (3 * r) / 10 := fun r => rfl
      generalize hx1 : itS (T.1 1004 0) (T.1 1000 0 0) f (T.2 1002 0) (T.1 1003 0) (fiL n0 (T.1 1007 0) (T.1 1008 0)) (opF U Q) i = x1 at p
      generalize hx2 : itS (T.1 1004 0) (T.1 1000 0 0) f (T.2 1002 0) (T.1 1003 0) (fiL n0 (T.1 1007 0) (T.1 1008 0)) (opF U Q) (i + 1) = x2 at p ev
      have hop := isOp_M (Y := nS (aS T A) x1.1 w x1.2 l) (T := U) (Q := Q) (t := i) hQ h3 hU (by omega)
      have key : ∀ F : Int64, F = fiL n0 (T.1 1007 0) (T.1 1008 0) i → f_X9_layAhead_K40 (nI i) F (nS (aS T A) x1.1 w x1.2 l) = some (Sum.inl (nI (i + 1), nS (aS T (fun k => if 4 * i ≤ k ∧ k < 4 * i + 4 then x2.1 (3 * (k - 4 * i)) / 10 else A k)) x2.1 w2 x2.2 l2)) := by
        intro F hF
        rw [hF]
        unfold f_X9_layAhead_K40
        rw [hop, Option.bind_some]
        show (f_X9_step (fiL n0 (T.1 1007 0) (T.1 1008 0) i) (opF U Q i) (nS (aS T A) x1.1 w x1.2 l)).bind _ = _
        rw [p, Option.bind_some, layL_M (by omega), Option.bind_some, oLet_eq, nI_1]
      refine ⟨(nI (i + 1), nS (aS T (fun k => if 4 * i ≤ k ∧ k < 4 * i + 4 then x2.1 (3 * (k - 4 * i)) / 10 else A k)) x2.1 w2 x2.2 l2), ?_, _, w2, l2, rfl, fun t r ht hr => ?_⟩
      · show (if (40 : Int32) < nI i then _ else (if T.1 1000 0 5 ≤ nI i then f_X9_layAhead_K40 (nI i) 0 (nS (aS T A) x1.1 w x1.2 l) else (if oIn (nI i) 30 then (if oIn (nI i) 30 then (f_X9_burnt (T.1 1007 0 (nI i).toNatClampNeg) (T.1 1008 0 (nI i).toNatClampNeg) (nS (aS T A) x1.1 w x1.2 l)).bind _ else none) else none))) = _
        rw [if_neg (show ¬ (40 : Int32) < nI i by rw [i_lt, nT (by omega)]; have : (40 : Int32).toInt = 40 := rfl; omega), hn]
        by_cases z : i < n0
        · have e7 : ∀ x : Nat, T.1 x 0 (nI i).toNatClampNeg = T.1 x 0 i := fun x => by rw [ncl (by omega)]
          rw [if_neg (by rw [nI_leI (by omega) (by omega)]; omega), if_pos ((nin (by omega)).mpr (by omega)), if_pos ((nin (by omega)).mpr (by omega)), e7, e7, burnt_M (hs i) (hw i), Option.bind_some]
          exact key _ (by unfold fiL; rw [if_pos z])
        · rw [if_pos (by rw [nI_leI (by omega) (by omega)]; omega)]
          exact key _ (by unfold fiL; rw [if_neg z])
      · by_cases z : t = i
        · subst z
          rw [if_pos (by omega), show 4 * t + r - 4 * t = r by omega, ev]
        · rw [if_neg (by omega)]
          exact hI t r (by omega) hr
    · rintro s ⟨A, w, l, rfl, hI⟩
      refine ⟨_, rfl, A, _, w, _, l, rfl, fun t r ht hr => hI t r (by omega) hr⟩
  obtain ⟨x, e1, A, h, w, d, l, rfl, hI⟩ := e
  refine ⟨A, h, w, d, l, ?_, hI⟩
  have tn := takeNow_N (T := aS T A0) (n0 := n0) (h := h0) (w := w0) (d := d0) (l := l0') hn
  have tn : f_X9_takeNow (nS (aS T A0) h0 w0 d0 l0') = some (nS (aS T A0) (T.2 1002 0) w0 (T.1 1003 0) l0') := tn
  unfold f_X9_layAhead
  rw [tn, Option.bind_some, e1, Option.bind_some]
