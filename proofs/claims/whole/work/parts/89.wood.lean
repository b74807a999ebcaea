/-! Many steps; burning and resting -/
def itS (c : Nat → Int32) (a : Int32) (f : Nat) (h : Nat → Int64) (d : Nat → Int32) (F : Nat → Int64) (O : Nat → Int32) : Nat → (Nat → Int64) × (Nat → Int32)
  | 0 => (h, d)
  | t + 1 => (stH (itS c a f h d F O t).1 (itS c a f h d F O t).2 c a f (F t) (O t), stD (itS c a f h d F O t).1 (itS c a f h d F O t).2 f (F t))
theorem itS_s {c : Nat → Int32} {a : Int32} {f : Nat} {h : Nat → Int64} {d : Nat → Int32} {F : Nat → Int64} {O : Nat → Int32} (t : Nat) : itS c a f h d F O (t + 1) = (stH (itS c a f h d F O t).1 (itS c a f h d F O t).2 c a f (F t) (O t), stD (itS c a f h d F O t).1 (itS c a f h d F O t).2 f (F t)) := rfl
theorem itS_cg {c : Nat → Int32} {a : Int32} {f : Nat} {h : Nat → Int64} {d : Nat → Int32} {F G : Nat → Int64} {O P : Nat → Int32} : ∀ t : Nat, (∀ s, s < t → F s = G s ∧ O s = P s) → itS c a f h d F O t = itS c a f h d G P t := by
  intro t
  induction t with
  | zero => intro _; rfl
  | succ t ih =>
    intro e
    rw [itS_s, itS_s, ih (fun s hs => e s (by omega)), (e t (by omega)).1, (e t (by omega)).2]
theorem itS_ok {c : Nat → Int32} {a : Int32} {f : Nat} {h : Nat → Int64} {d : Nat → Int32} {F : Nat → Int64} {O : Nat → Int32} {M : Int} (H : okH h M) (hd : ∀ r, r < 4 → rg (d r) 0 1000) (hc : ∀ r, r < 4 → rg (c r) 0 4) (ha : rg a 0 40) (hf : f ≤ 2) (hF : ∀ t, 0 ≤ (F t).toInt ∧ (F t).toInt ≤ 10000) (hM : M ≤ 900000000000) : ∀ t : Nat, t ≤ 1000 → okS (itS c a f h d F O t).1 (itS c a f h d F O t).2 c a f (F t) (M + 10000 * t) := by
  intro t
  induction t with
  | zero =>
    intro _
    have := hF 0
    exact ⟨ok_le H (by omega), hd, hc, ha, hf, this.1, by omega⟩
  | succ t ih =>
    intro ht
    have h1 := ih (by omega)
    obtain ⟨-, -, s3, s4⟩ := st_ok h1 (O t)
    have f1 := hF t
    have f2 := hF (t + 1)
    rw [itS_s]
    exact ⟨ok_le s3 (by omega), s4, hc, ha, hf, f2.1, by omega⟩
/-- the logs behind t ticks -/
def shT (g : Nat → Int32) (n : Nat) : Nat → Nat → Int32
  | 0 => g
  | t + 1 => shG (shT g n t) (n - t)
theorem shT_k {g : Nat → Int32} {n : Nat} : ∀ t k, k + t < n → shT g n t k = g (k + t) := by
  intro t
  induction t with
  | zero => intro k _; rfl
  | succ t ih =>
    intro k hk
    show shG (shT g n t) (n - t) k = _
    unfold shG
    rw [if_pos (by omega), ih (k + 1) (by omega)]
    exact congrArg g (by omega)
def fiL (n : Nat) (ls lw : Nat → Int32) (t : Nat) : Int64 := if t < n then coF (ls t) (lw t) else 0
theorem frT {n : Nat} {ls lw : Nat → Int32} (t : Nat) : frO (n - t) (shT ls n t) (shT lw n t) = fiL n ls lw t := by
  unfold frO fiL
  by_cases g : t < n
  · rw [if_neg (by omega), if_pos g, shT_k t 0 (by omega), shT_k t 0 (by omega), Nat.zero_add]
  · rw [if_pos (by omega), if_neg g]
theorem wf_P {j r : Nat} {Z : oS} {h : Nat → Int64} {d : Nat → Int32} {n : Nat} {ls lw c : Nat → Int32} {a : Int32} {f : Nat} (H : hM j Z h d n ls lw c a f) (hr : r < 4) : f_X4_warmthOf j (nI r) 0 Z = some (h (3 * r) / 10, Z) := by
  have := wf0 (j := j) (S := Z) (h := Z.2 501 j) (d := Z.1 502 j) (l := Z.2 500 j 9) hr
  rw [mX_id, H.1 (3 * r) (by omega)] at this
  exact this
/-- t ticks with the door shut -/
theorem rest_P {j : Nat} {Z : oS} {h : Nat → Int64} {d : Nat → Int32} {n : Nat} {ls lw c : Nat → Int32} {a : Int32} {f m : Nat} {b : Int32 × oS → Option ((Int32 × oS) ⊕ oS)} (hb : ∀ (i : Nat) (Y : oS), i < m → b (nI i, Y) = (f_X4_passTick j 0 Y).bind fun z => some (Sum.inl (nI i + 1, z))) (he : ∀ Y, b (nI m, Y) = some (Sum.inr Y)) (hm : m ≤ 1000) (hn : n ≤ 30) (hf : f ≤ 2) (H : hM j Z h d n ls lw c a f) : ∃ Z', oLp b oFu ((0 : Int32), Z) = some Z' ∧ hM j Z' (itS c a f h d (fiL n ls lw) (fun _ => 0) m).1 (itS c a f h d (fiL n ls lw) (fun _ => 0) m).2 (n - m) (shT ls n m) (shT lw n m) c a f ∧ Fr j Z Z' := by
  refine oLp_all (fun i s => ∃ Y, s = (nI i, Y) ∧ hM j Y (itS c a f h d (fiL n ls lw) (fun _ => 0) i).1 (itS c a f h d (fiL n ls lw) (fun _ => 0) i).2 (n - i) (shT ls n i) (shT lw n i) c a f ∧ Fr j Z Y) (fun Z' => hM j Z' (itS c a f h d (fiL n ls lw) (fun _ => 0) m).1 (itS c a f h d (fiL n ls lw) (fun _ => 0) m).2 (n - m) (shT ls n m) (shT lw n m) c a f ∧ Fr j Z Z') m (by omega) ⟨Z, rfl, H, Fr.rf⟩ ?_ ?_
  · rintro i s hi ⟨Y, rfl, HY, FY⟩
    obtain ⟨Z', e1, e2, e3⟩ := pass_P 0 (by omega) hf HY
    rw [frT] at e2
    refine ⟨(nI i + 1, Z'), ?_, Z', by rw [nI_1], e2, FY.tr e3⟩
    rw [hb i Y hi, e1, Option.bind_some]
  · rintro s ⟨Y, rfl, HY, FY⟩
    exact ⟨Y, he Y, HY, FY⟩
/-- only masonries 2 and 3 have changed -/
def FrW (Z Z' : oS) : Prop := (∀ t i k, ((i ≠ 2 ∧ i ≠ 3) ∨ t < 500 ∨ 505 < t) → Z'.1 t i k = Z.1 t i k) ∧ ∀ t i k, ((i ≠ 2 ∧ i ≠ 3) ∨ t < 500 ∨ 505 < t) → Z'.2 t i k = Z.2 t i k
theorem FrW.tr {X Y Z : oS} (h1 : FrW X Y) (h2 : FrW Y Z) : FrW X Z := ⟨fun t i k h => (h2.1 t i k h).trans (h1.1 t i k h), fun t i k h => (h2.2 t i k h).trans (h1.2 t i k h)⟩
theorem FrW.of2 {X Y : oS} (h : Fr 2 X Y) : FrW X Y := ⟨fun t i k z => h.1 t i k (by omega), fun t i k z => h.2 t i k (by omega)⟩
theorem FrW.of3 {X Y : oS} (h : Fr 3 X Y) : FrW X Y := ⟨fun t i k z => h.1 t i k (by omega), fun t i k z => h.2 t i k (by omega)⟩
theorem begin_P {Z : oS} {h : Nat → Int64} {d : Nat → Int32} {n : Nat} {ls lw c : Nat → Int32} {a : Int32} {f : Nat} (hn : n ≤ 30) (hf : f ≤ 2) (H : hM 0 Z h d n ls lw c a f) : ∃ Z' ls' lw', f_X7_begin 0 Z = some Z' ∧ hM 2 Z' (itS c a f h d (fiL n ls lw) (fun _ => 0) n).1 (itS c a f h d (fiL n ls lw) (fun _ => 0) n).2 0 ls' lw' c a f ∧ FrW Z Z' := by
  obtain ⟨Z1, e1, H1, F1⟩ := copy_P (j := 2) (i0 := 0) (by decide) H
  obtain ⟨Z2, e2, H2, F2⟩ := rest_P (j := 2) (m := n) (b := f_X7_begin_L18 (nI n)) (fun i Y hi => by
    show (if nI n ≤ nI i then _ else _) = _
    rw [if_neg (by rw [nI_leI (by omega) (by omega)]; omega)]
    rfl) (fun Y => by
    show (if nI n ≤ nI n then _ else _) = _
    rw [if_pos (by rw [i_le]; exact Int.le_refl _)]) (by omega) hn hf H1
  rw [Nat.sub_self] at H2
  refine ⟨Z2, _, _, ?_, H2, (FrW.of2 F1).tr (FrW.of2 F2)⟩
  unfold f_X7_begin
  rw [e1, Option.bind_some, oLet_eq, H1.2.2.1, e2, Option.bind_some]
theorem more_P {Z : oS} {h : Nat → Int64} {d : Nat → Int32} {ls lw c : Nat → Int32} {a : Int32} {f : Nat} (s w : Int32) (hf : f ≤ 2) (H : hM 2 Z h d 0 ls lw c a f) : ∃ Z' ls' lw', f_X7_burnOneMore s w Z = some Z' ∧ hM 2 Z' (stH h d c a f (coF s w) 0) (stD h d f (coF s w)) 0 ls' lw' c a f ∧ FrW Z Z' := by
  obtain ⟨a1, a2, a3, a4, a5, a6, a7, a8⟩ := H
  have e0 : Z.1 500 2 5 = 0 := a3
  have l := layLog_ok (S := Z) (j := 2) (a := s) (b := w) (by rw [e0]; exact ⟨by decide, by decide⟩) (by rw [e0]; decide)
  rw [e0] at l
  have H1 : hM 2 (oStI (oStI (oStI Z 504 2 0 s) 505 2 0 w) 500 2 5 (0 + 1)) h d 1 (uI ls 0 s) (uI lw 0 w) c a f := by
    refine ⟨a1, a2, rfl, fun k hk => ?_, fun k hk => ?_, a6, a7, a8⟩
    · show (if 504 = 504 ∧ 2 = 2 ∧ k = 0 then s else Z.1 504 2 k) = (if k = 0 then s else ls k)
      by_cases z : k = 0
      · rw [if_pos ⟨rfl, rfl, z⟩, if_pos z]
      · rw [if_neg (fun y => z y.2.2), if_neg z, a4 k hk]
    · show (if 505 = 505 ∧ 2 = 2 ∧ k = 0 then w else Z.1 505 2 k) = (if k = 0 then w else lw k)
      by_cases z : k = 0
      · rw [if_pos ⟨rfl, rfl, z⟩, if_pos z]
      · rw [if_neg (fun y => z y.2.2), if_neg z, a5 k hk]
  have F1 : FrW Z (oStI (oStI (oStI Z 504 2 0 s) 505 2 0 w) 500 2 5 (0 + 1)) := by
    refine ⟨fun t i k z => ?_, fun t i k z => rfl⟩
    show (if t = 500 ∧ i = 2 ∧ k = 5 then _ else if t = 505 ∧ i = 2 ∧ k = 0 then w else if t = 504 ∧ i = 2 ∧ k = 0 then s else Z.1 t i k) = _
    rw [if_neg (by omega), if_neg (by omega), if_neg (by omega)]
  obtain ⟨Z2, e2, H2, F2⟩ := pass_P 0 (by omega) hf H1
  have eF : frO 1 (uI ls 0 s) (uI lw 0 w) = coF s w := rfl
  rw [eF] at H2
  refine ⟨Z2, _, _, ?_, H2, F1.tr (FrW.of2 F2)⟩
  unfold f_X7_burnOneMore
  rw [l, Option.bind_some]
  show (f_X4_passTick 2 0 (oStI (oStI (oStI Z 504 2 0 s) 505 2 0 w) 500 2 5 (0 + 1))).bind _ = _
  rw [e2, Option.bind_some]
theorem after_P {Z : oS} {h : Nat → Int64} {d : Nat → Int32} {ls lw c : Nat → Int32} {a : Int32} {f r q : Nat} (hf : f ≤ 2) (hr : r ≤ 40) (hq : q < 4) (H : hM 2 Z h d 0 ls lw c a f) : ∃ Z', f_X7_warmthAfter (nI r) (nI q) Z = some ((itS c a f h d (fun _ => 0) (fun _ => 0) r).1 (3 * q) / 10, Z') ∧ hM 2 Z' h d 0 ls lw c a f ∧ FrW Z Z' := by
  obtain ⟨Z1, e1, H1, F1⟩ := copy_P (j := 3) (i0 := 2) (by decide) H
  obtain ⟨Z2, e2, H2, F2⟩ := rest_P (j := 3) (m := r) (b := f_X7_warmthAfter_L13 (nI r) (nI q)) (fun i Y hi => by
    show (if nI r ≤ nI i then _ else _) = _
    rw [if_neg (by rw [nI_leI (by omega) (by omega)]; omega)]
    rfl) (fun Y => by
    show (if nI r ≤ nI r then _ else _) = _
    rw [if_pos (by rw [i_le]; exact Int.le_refl _)]) (by omega) (by omega) hf H1
  have eF : itS c a f h d (fiL 0 ls lw) (fun _ => 0) r = itS c a f h d (fun _ => 0) (fun _ => 0) r := itS_cg r (fun s _ => ⟨if_neg (by omega), rfl⟩)
  rw [eF] at H2
  refine ⟨Z2, ?_, hM_fr (by decide) (hM_fr (by decide) H F1) F2, (FrW.of3 F1).tr (FrW.of3 F2)⟩
  unfold f_X7_warmthAfter
  rw [e1, Option.bind_some, e2, Option.bind_some, wf_P H2 hq, Option.bind_some]
