theorem itS_add {c : Nat → Int32} {a : Int32} {f : Nat} {h : Nat → Int64} {d : Nat → Int32} {F : Nat → Int64} {O : Nat → Int32} (m : Nat) : ∀ r : Nat, itS c a f h d F O (m + r) = itS c a f (itS c a f h d F O m).1 (itS c a f h d F O m).2 (fun t => F (m + t)) (fun t => O (m + t)) r := by
  intro r
  induction r with
  | zero => rfl
  | succ r ih =>
    show itS c a f h d F O (m + r + 1) = _
    rw [itS_s, itS_s, ih]
def fiW (n0 : Nat) (ls lw : Nat → Int32) (s w : Int32) (k t : Nat) : Int64 := if t < n0 then coF (ls t) (lw t) else if t < n0 + k then coF s w else 0
def wdS (c : Nat → Int32) (a : Int32) (f : Nat) (h : Nat → Int64) (d : Nat → Int32) (n0 : Nat) (ls lw : Nat → Int32) (s w : Int32) (k m : Nat) : (Nat → Int64) × (Nat → Int32) := itS c a f h d (fiW n0 ls lw s w k) (fun _ => 0) m
def wdF (c : Nat → Int32) (a : Int32) (f : Nat) (h : Nat → Int64) (d : Nat → Int32) (n0 : Nat) (ls lw : Nat → Int32) (s w : Int32) (q r k : Nat) : Int64 := (wdS c a f h d n0 ls lw s w k (n0 + k + r)).1 (3 * q) / 10
def ovW (S : oS) (A : Nat → Nat → Nat → Int32) (B : Nat → Nat → Nat → Int64) : oS := (fun t i k => if 500 ≤ t ∧ t ≤ 505 ∧ 1 ≤ i then A t i k else S.1 t i k, fun t i k => if 500 ≤ t ∧ t ≤ 505 ∧ 1 ≤ i then B t i k else S.2 t i k)
theorem ov_eq {S Y : oS} (F : FrW S Y) : Y = ovW S Y.1 Y.2 := by
  refine oS_ext (fun t i k => ?_) (fun t i k => ?_)
  · show Y.1 t i k = (if 500 ≤ t ∧ t ≤ 505 ∧ 1 ≤ i then Y.1 t i k else S.1 t i k)
    by_cases g : 500 ≤ t ∧ t ≤ 505 ∧ 1 ≤ i
    · rw [if_pos g]
    · rw [if_neg g]; exact F.1 t i k (by omega)
  · show Y.2 t i k = (if 500 ≤ t ∧ t ≤ 505 ∧ 1 ≤ i then Y.2 t i k else S.2 t i k)
    by_cases g : 500 ≤ t ∧ t ≤ 505 ∧ 1 ≤ i
    · rw [if_pos g]
    · rw [if_neg g]; exact F.2 t i k (by omega)
/-- which number of logs it is -/
def wdQ (v : Int32) (W : Nat → Int64) (res : Int32) : Prop := (res = -1 ∧ ∀ j, j < 30 → W (j + 1) < Int32.toInt64 v) ∨ ∃ k, k < 30 ∧ res = nI (k + 1) ∧ (∀ j, j < k → W (j + 1) < Int32.toInt64 v) ∧ ¬ W (k + 1) < Int32.toInt64 v
theorem wdQ_u {v : Int32} {W : Nat → Int64} {x y : Int32} (h1 : wdQ v W x) (h2 : wdQ v W y) : x = y := by
  rcases h1 with ⟨e1, a1⟩ | ⟨k, hk, e1, a1, b1⟩
  · rcases h2 with ⟨e2, a2⟩ | ⟨m, hm, e2, a2, b2⟩
    · rw [e1, e2]
    · exact absurd (a1 m hm) b2
  · rcases h2 with ⟨e2, a2⟩ | ⟨m, hm, e2, a2, b2⟩
    · exact absurd (a2 k hk) b1
    · have : k = m := by
        rcases Nat.lt_trichotomy k m with z | z | z
        · exact absurd (a2 k z) b1
        · exact z
        · exact absurd (a1 m z) b2
      rw [e1, e2, this]
theorem wood_X {S Z : oS} {h : Nat → Int64} {d : Nat → Int32} {n0 : Nat} {ls lw ls0 lw0 c : Nat → Int32} {a : Int32} {f q r : Nat} (v s w : Int32) (hf : f ≤ 2) (hq : q < 4) (hr : r ≤ 40) (H : hM 2 Z (itS c a f h d (fiL n0 ls lw) (fun _ => 0) n0).1 (itS c a f h d (fiL n0 ls lw) (fun _ => 0) n0).2 0 ls0 lw0 c a f) (F : FrW S Z) : ∃ res Y, (oLp (f_X8_wood_L68 v (nI q) (nI r) s w) oFu ((1 : Int32), Z)).bind (fun w => Sum.elim (fun zz9 => some ((-1 : Int32), zz9)) (fun r => some r) w) = some (res, Y) ∧ FrW S Y ∧ wdQ v (wdF c a f h d n0 ls lw s w q r) res := by
  have e : ∃ x, oLp (f_X8_wood_L68 v (nI q) (nI r) s w) oFu ((1 : Int32), Z) = some x ∧ ∃ Y, FrW S Y ∧ ((x = Sum.inl Y ∧ ∀ j, j < 30 → wdF c a f h d n0 ls lw s w q r (j + 1) < Int32.toInt64 v) ∨ ∃ k, k < 30 ∧ x = Sum.inr (nI (k + 1), Y) ∧ (∀ j, j < k → wdF c a f h d n0 ls lw s w q r (j + 1) < Int32.toInt64 v) ∧ ¬ wdF c a f h d n0 ls lw s w q r (k + 1) < Int32.toInt64 v) := by
    refine oLp_inv (fun i st => ∃ Y ls' lw', st = (nI (i + 1), Y) ∧ hM 2 Y (wdS c a f h d n0 ls lw s w i (n0 + i)).1 (wdS c a f h d n0 ls lw s w i (n0 + i)).2 0 ls' lw' c a f ∧ FrW S Y ∧ ∀ j, j < i → wdF c a f h d n0 ls lw s w q r (j + 1) < Int32.toInt64 v) (fun x => ∃ Y, FrW S Y ∧ ((x = Sum.inl Y ∧ ∀ j, j < 30 → wdF c a f h d n0 ls lw s w q r (j + 1) < Int32.toInt64 v) ∨ ∃ k, k < 30 ∧ x = Sum.inr (nI (k + 1), Y) ∧ (∀ j, j < k → wdF c a f h d n0 ls lw s w q r (j + 1) < Int32.toInt64 v) ∧ ¬ wdF c a f h d n0 ls lw s w q r (k + 1) < Int32.toInt64 v)) 30 oFu 0 ((1 : Int32), Z) ⟨Z, ls0, lw0, rfl, ?_, F, fun j hj => absurd hj (Nat.not_lt_zero _)⟩ (by show 30 - 0 < 100000; omega) (by omega) ?_ ?_
    · have eF : itS c a f h d (fiL n0 ls lw) (fun _ => 0) n0 = wdS c a f h d n0 ls lw s w 0 (n0 + 0) := itS_cg n0 (fun t ht => ⟨by unfold fiL fiW; rw [if_pos ht, if_pos ht], rfl⟩)
      rw [← eF]
      exact H
    · rintro i st hi ⟨Y, ls', lw', rfl, HY, FY, hI⟩
      obtain ⟨Y1, l1, w1, e1, H1, F1⟩ := more_P s w hf HY
      have eS : (stH (wdS c a f h d n0 ls lw s w i (n0 + i)).1 (wdS c a f h d n0 ls lw s w i (n0 + i)).2 c a f (coF s w) 0, stD (wdS c a f h d n0 ls lw s w i (n0 + i)).1 (wdS c a f h d n0 ls lw s w i (n0 + i)).2 f (coF s w)) = wdS c a f h d n0 ls lw s w (i + 1) (n0 + (i + 1)) := by
        have z1 : wdS c a f h d n0 ls lw s w i (n0 + i) = wdS c a f h d n0 ls lw s w (i + 1) (n0 + i) := itS_cg (n0 + i) (fun t ht => ⟨by
          unfold fiW
          by_cases z : t < n0
          · rw [if_pos z, if_pos z]
          · rw [if_neg z, if_neg z, if_pos ht, if_pos (by omega)], rfl⟩)
        have z2 : fiW n0 ls lw s w (i + 1) (n0 + i) = coF s w := by
          unfold fiW
          rw [if_neg (by omega), if_pos (by omega)]
        show _ = itS c a f h d (fiW n0 ls lw s w (i + 1)) (fun _ => 0) (n0 + i + 1)
        rw [itS_s, z1, z2]
        rfl
      rw [show stH (wdS c a f h d n0 ls lw s w i (n0 + i)).1 (wdS c a f h d n0 ls lw s w i (n0 + i)).2 c a f (coF s w) 0 = (wdS c a f h d n0 ls lw s w (i + 1) (n0 + (i + 1))).1 from congrArg Prod.fst eS, show stD (wdS c a f h d n0 ls lw s w i (n0 + i)).1 (wdS c a f h d n0 ls lw s w i (n0 + i)).2 f (coF s w) = (wdS c a f h d n0 ls lw s w (i + 1) (n0 + (i + 1))).2 from congrArg Prod.snd eS] at H1
      obtain ⟨Y2, e2, H2, F2⟩ := after_P hf hr hq H1
      have eV : itS c a f (wdS c a f h d n0 ls lw s w (i + 1) (n0 + (i + 1))).1 (wdS c a f h d n0 ls lw s w (i + 1) (n0 + (i + 1))).2 (fun _ => 0) (fun _ => 0) r = wdS c a f h d n0 ls lw s w (i + 1) (n0 + (i + 1) + r) := by
        unfold wdS
        rw [itS_add (n0 + (i + 1)) r]
        exact (itS_cg r (fun t ht => ⟨by unfold fiW; rw [if_neg (by omega), if_neg (by omega)], rfl⟩)).symm
      rw [eV] at e2
      have e2 : f_X7_warmthAfter (nI r) (nI q) Y1 = some (wdF c a f h d n0 ls lw s w q r (i + 1), Y2) := e2
      show (∃ s', (if (30 : Int32) < nI (i + 1) then _ else (f_X7_burnOneMore s w Y).bind _) = _ ∧ _) ∨ (∃ r, (if (30 : Int32) < nI (i + 1) then _ else (f_X7_burnOneMore s w Y).bind _) = _ ∧ _)
      rw [if_neg (show ¬ (30 : Int32) < nI (i + 1) by rw [i_lt, nT (by omega)]; have : (30 : Int32).toInt = 30 := rfl; omega), e1, Option.bind_some, e2, Option.bind_some]
      have F3 := FY.tr (F1.tr F2)
      by_cases g : wdF c a f h d n0 ls lw s w q r (i + 1) < Int32.toInt64 v
      · refine Or.inl ⟨(nI (i + 1 + 1), Y2), ?_, Y2, l1, w1, rfl, H2, F3, fun j hj => ?_⟩
        · show (if wdF c a f h d n0 ls lw s w q r (i + 1) < Int32.toInt64 v then _ else _) = _
          rw [if_pos g, ← nI_1 (i + 1)]
          rfl
        · by_cases z : j = i
          · rw [z]; exact g
          · exact hI j (by omega)
      · refine Or.inr ⟨Sum.inr (nI (i + 1), Y2), ?_, Y2, F3, Or.inr ⟨i, hi, rfl, hI, g⟩⟩
        show (if wdF c a f h d n0 ls lw s w q r (i + 1) < Int32.toInt64 v then _ else _) = _
        rw [if_neg g]
    · rintro st ⟨Y, ls', lw', rfl, HY, FY, hI⟩
      refine ⟨Sum.inl Y, ?_, Y, FY, Or.inl ⟨rfl, hI⟩⟩
      rfl
  obtain ⟨x, e1, Y, FY, ⟨rfl, hI⟩ | ⟨k, hk, rfl, hI, g⟩⟩ := e
  · exact ⟨-1, Y, by rw [e1]; rfl, FY, Or.inl ⟨rfl, hI⟩⟩
  · exact ⟨nI (k + 1), Y, by rw [e1]; rfl, FY, Or.inr ⟨k, hk, rfl, hI, g⟩⟩
theorem takeNow_N {T : oS} {n0 : Nat} {h w : Nat → Int64} {d : Nat → Int32} {l : Int64} (hn : T.1 1000 0 5 = nI n0) : f_X9_takeNow (nS T h w d l) = some (nS T (T.2 1002 0) w (T.1 1003 0) l) := by
  have := takeNow_M (S := T) (g := T.2 1000 0 10) (A := T.1 1028 0) (R := T.1 1029 0) (C := T.1 1030 0) (P := T.1 1031 0) (b := T.2 1000 0 8) (n := n0) (ls := T.1 1007 0) (lw := T.1 1008 0) (hh := T.2 1002 0) (dd := T.1 1003 0) (l := T.2 1000 0 9) (o := T.1 1000 0 12) (w := T.1 1000 0 11) (h1 := h) (w1 := w) (d1 := d) (t1 := l)
  unfold zM at this
  rw [qM_id hn (fun _ _ => rfl) (fun _ _ => rfl), gY_id] at this
  exact this
theorem fiW_b {n0 : Nat} {ls lw : Nat → Int32} {s w : Int32} {k : Nat} (hs : ∀ k, rg (ls k) 0 50) (hw : ∀ k, rg (lw k) 0 60) (h1 : rg s 0 50) (h2 : rg w 0 60) (t : Nat) : 0 ≤ (fiW n0 ls lw s w k t).toInt ∧ (fiW n0 ls lw s w k t).toInt ≤ 10000 := by
  unfold fiW
  by_cases z : t < n0
  · rw [if_pos z]
    have := coF_b (hs t) (hw t)
    exact ⟨this.1, this.2.1⟩
  · rw [if_neg z]
    by_cases y : t < n0 + k
    · rw [if_pos y]
      have := coF_b h1 h2
      exact ⟨this.1, this.2.1⟩
    · rw [if_neg y, l0]
      omega
theorem step_E {S : oS} {h : Nat → Int64} {d : Nat → Int32} {f : Nat} {F : Int64} {M : Int} (w : Nat → Int64) (l : Int64) (hf : S.1 1000 0 4 = nI f) (H : okS h d (S.1 1004 0) (S.1 1000 0 0) f F M) (o : Int32) : ∃ w2 l2, f_X9_step F o (nS S h w d l) = some (nS S (stH h d (S.1 1004 0) (S.1 1000 0 0) f F o) w2 (stD h d f F) l2) := ⟨_, _, step_M hf H o⟩
theorem woodI_M {T : oS} {M : Int} {n0 f k r : Nat} {h w : Nat → Int64} {d : Nat → Int32} {l : Int64} {s wt : Int32} (v q : Int32) (hn : T.1 1000 0 5 = nI n0) (hn0 : n0 ≤ 30) (hk : k ≤ 30) (hr : r ≤ 40) (hf : T.1 1000 0 4 = nI f) (hf2 : f ≤ 2) (H : okH h M) (hM : M ≤ 900000000000) (hd : ∀ r, r < 4 → rg (d r) 0 1000) (hc : ∀ r, r < 4 → rg (T.1 1004 0 r) 0 4) (ha : rg (T.1 1000 0 0) 0 40) (hs : ∀ k, rg (T.1 1007 0 k) 0 50) (hw : ∀ k, rg (T.1 1008 0 k) 0 60) (h1 : rg s 0 50) (h2 : rg wt 0 60) : ∃ w' l', oLp (f_X9_wood_L68 v q (nI r) s wt (nI k)) oFu ((0 : Int32), nS T h w d l) = some (nS T (wdS (T.1 1004 0) (T.1 1000 0 0) f h d n0 (T.1 1007 0) (T.1 1008 0) s wt k (n0 + k + r)).1 w' (wdS (T.1 1004 0) (T.1 1000 0 0) f h d n0 (T.1 1007 0) (T.1 1008 0) s wt k (n0 + k + r)).2 l') := by
  have e : ∃ x, oLp (f_X9_wood_L68 v q (nI r) s wt (nI k)) oFu ((0 : Int32), nS T h w d l) = some x ∧ ∃ w' l', x = nS T (wdS (T.1 1004 0) (T.1 1000 0 0) f h d n0 (T.1 1007 0) (T.1 1008 0) s wt k (n0 + k + r)).1 w' (wdS (T.1 1004 0) (T.1 1000 0 0) f h d n0 (T.1 1007 0) (T.1 1008 0) s wt k (n0 + k + r)).2 l' := by
    refine oLp_all (fun i st => ∃ w' l', st = (nI i, nS T (wdS (T.1 1004 0) (T.1 1000 0 0) f h d n0 (T.1 1007 0) (T.1 1008 0) s wt k i).1 w' (wdS (T.1 1004 0) (T.1 1000 0 0) f h d n0 (T.1 1007 0) (T.1 1008 0) s wt k i).2 l')) (fun x => ∃ w' l', x = nS T (wdS (T.1 1004 0) (T.1 1000 0 0) f h d n0 (T.1 1007 0) (T.1 1008 0) s wt k (n0 + k + r)).1 w' (wdS (T.1 1004 0) (T.1 1000 0 0) f h d n0 (T.1 1007 0) (T.1 1008 0) s wt k (n0 + k + r)).2 l') (n0 + k + r) (by omega) ⟨w, l, rfl⟩ ?_ ?_
    · rintro i st hi ⟨w', l', rfl⟩
      have hS := itS_ok (O := fun _ => 0) H hd hc ha hf2 (fiW_b (n0 := n0) (k := k) hs hw h1 h2) hM i (by omega)
      obtain ⟨w2, l2, p⟩ := step_E w' l' hf hS 0
      have p : f_X9_step (fiW n0 (T.1 1007 0) (T.1 1008 0) s wt k i) 0 (nS T (wdS (T.1 1004 0) (T.1 1000 0 0) f h d n0 (T.1 1007 0) (T.1 1008 0) s wt k i).1 w' (wdS (T.1 1004 0) (T.1 1000 0 0) f h d n0 (T.1 1007 0) (T.1 1008 0) s wt k i).2 l') = some (nS T (wdS (T.1 1004 0) (T.1 1000 0 0) f h d n0 (T.1 1007 0) (T.1 1008 0) s wt k (i + 1)).1 w2 (wdS (T.1 1004 0) (T.1 1000 0 0) f h d n0 (T.1 1007 0) (T.1 1008 0) s wt k (i + 1)).2 l2) := p
      refine ⟨(nI (i + 1), nS T (wdS (T.1 1004 0) (T.1 1000 0 0) f h d n0 (T.1 1007 0) (T.1 1008 0) s wt k (i + 1)).1 w2 (wdS (T.1 1004 0) (T.1 1000 0 0) f h d n0 (T.1 1007 0) (T.1 1008 0) s wt k (i + 1)).2 l2), ?_, w2, l2, rfl⟩
      generalize wdS (T.1 1004 0) (T.1 1000 0 0) f h d n0 (T.1 1007 0) (T.1 1008 0) s wt k i = x1 at p ⊢
      generalize wdS (T.1 1004 0) (T.1 1000 0 0) f h d n0 (T.1 1007 0) (T.1 1008 0) s wt k (i + 1) = x2 at p ⊢
      have key : ∀ F : Int64, F = fiW n0 (T.1 1007 0) (T.1 1008 0) s wt k i → f_X9_wood_K134 v q (nI r) s wt (nI k) (nI i) F (nS T x1.1 w' x1.2 l') = some (Sum.inl (nI (i + 1), nS T x2.1 w2 x2.2 l2)) := by
        intro F hF
        rw [hF]
        unfold f_X9_wood_K134
        rw [p, Option.bind_some, oLet_eq, nI_1]
      show (if T.1 1000 0 5 + nI k + nI r ≤ nI i then _ else (if T.1 1000 0 5 ≤ nI i then (if T.1 1000 0 5 + nI k ≤ nI i then f_X9_wood_K134 v q (nI r) s wt (nI k) (nI i) 0 (nS T x1.1 w' x1.2 l') else (f_X9_burnt s wt _).bind _) else (if oIn (nI i) 30 then (if oIn (nI i) 30 then (f_X9_burnt (T.1 1007 0 (nI i).toNatClampNeg) (T.1 1008 0 (nI i).toNatClampNeg) _).bind _ else none) else none))) = _
      rw [hn, nI_add, nI_add, if_neg (by rw [nI_leI (by omega) (by omega)]; omega)]
      by_cases z : i < n0
      · have e7 : ∀ x : Nat, T.1 x 0 (nI i).toNatClampNeg = T.1 x 0 i := fun x => by rw [ncl (by omega)]
        rw [if_neg (by rw [nI_leI (by omega) (by omega)]; omega), if_pos ((nin (by omega)).mpr (by omega)), if_pos ((nin (by omega)).mpr (by omega)), e7, e7, burnt_M (hs i) (hw i), Option.bind_some]
        exact key _ (by unfold fiW; rw [if_pos z])
      · rw [if_pos (by rw [nI_leI (by omega) (by omega)]; omega)]
        by_cases y : i < n0 + k
        · rw [if_neg (by rw [nI_leI (by omega) (by omega)]; omega), burnt_M h1 h2, Option.bind_some]
          exact key _ (by unfold fiW; rw [if_neg z, if_pos y])
        · rw [if_pos (by rw [nI_leI (by omega) (by omega)]; omega)]
          exact key _ (by unfold fiW; rw [if_neg z, if_neg y])
    · rintro st ⟨w', l', rfl⟩
      refine ⟨_, ?_, w', l', rfl⟩
      show (if T.1 1000 0 5 + nI k + nI r ≤ nI (n0 + k + r) then _ else _) = _
      rw [hn, nI_add, nI_add, if_pos (by rw [i_le]; exact Int.le_refl _)]
  obtain ⟨x, e1, w', l', rfl⟩ := e
  exact ⟨w', l', e1⟩
