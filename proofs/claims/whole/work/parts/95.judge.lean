/-! The class judges each choice of each order -/
def jS (Y : oS) (G H : Nat → Int32) : oS := (fun t i k => if t = 606 ∧ i = 0 then G k else if t = 607 ∧ i = 0 then H k else Y.1 t i k, Y.2)
theorem jS_1 {Y : oS} {G H : Nat → Int32} (t i k : Nat) : (jS Y G H).1 t i k = if t = 606 ∧ i = 0 then G k else if t = 607 ∧ i = 0 then H k else Y.1 t i k := rfl
theorem jS_id {Y : oS} : jS Y (Y.1 606 0) (Y.1 607 0) = Y := by
  refine oS_ext (fun t i k => ?_) (fun t i k => rfl)
  rw [jS_1]
  by_cases g : t = 606 ∧ i = 0
  · rw [if_pos g, g.1, g.2]
  · rw [if_neg g]
    by_cases g : t = 607 ∧ i = 0
    · rw [if_pos g, g.1, g.2]
    · rw [if_neg g]
theorem jS_sG {Y : oS} {G H : Nat → Int32} {m : Nat} {v : Int32} (hm : m < 1000) : oStI (jS Y G H) 606 0 (nI m).toNatClampNeg v = jS Y (uI G m v) H := by
  rw [ncl (by omega)]
  refine oS_ext (fun t i k => ?_) (fun t i k => rfl)
  show (if t = 606 ∧ i = 0 ∧ k = m then v else (jS Y G H).1 t i k) = _
  rw [jS_1, jS_1]
  unfold uI
  grind
theorem jS_sH {Y : oS} {G H : Nat → Int32} {m : Nat} {v : Int32} (hm : m < 1000) : oStI (jS Y G H) 607 0 (nI m).toNatClampNeg v = jS Y G (uI H m v) := by
  rw [ncl (by omega)]
  refine oS_ext (fun t i k => ?_) (fun t i k => rfl)
  show (if t = 607 ∧ i = 0 ∧ k = m then v else (jS Y G H).1 t i k) = _
  rw [jS_1, jS_1]
  unfold uI
  grind
theorem n12 (m i : Nat) : nI m * 12 + nI i = nI (12 * m + i) := by
  have h : ∀ m : Nat, nI m * 12 = nI (12 * m) := by
    intro m
    induction m with
    | zero => rfl
    | succ m ih =>
      rw [← nI_1, show 12 * (m + 1) = 12 * m + 12 by omega, ← nI_add, ← ih]
      have : nI 12 = 12 := rfl
      rw [this]
      grind
  rw [h, nI_add]
def anyG (g : Nat → Int32) : Nat → Int32
  | 0 => 0
  | n + 1 => if anyG g n = 0 then (if g n = 0 then 0 else 1) else 1
def ahN (gd : Nat → Nat → Int32) (o : Nat) : Nat := if anyG (gd o) 12 = 0 then 0 else 1
/-- how many of the last e of K orders have any good choice -/
def hpE (gd : Nat → Nat → Int32) (K : Nat) : Nat → Nat
  | 0 => 0
  | e + 1 => hpE gd K e + ahN gd (K - (e + 1))
theorem hpE_le {gd : Nat → Nat → Int32} {K : Nat} : ∀ e, hpE gd K e ≤ e := by
  intro e
  induction e with
  | zero => exact Nat.le_refl _
  | succ e ih =>
    have : ahN gd (K - (e + 1)) ≤ 1 := by
      unfold ahN
      by_cases g : anyG (gd (K - (e + 1))) 12 = 0
      · rw [if_pos g]; omega
      · rw [if_neg g]; omega
    show hpE gd K e + ahN gd (K - (e + 1)) ≤ e + 1
    omega
theorem anyG_0 {g : Nat → Int32} {c : Nat} (hg : ¬ g c = 0) : ∀ n, c < n → ¬ anyG g n = 0 := by
  intro n
  induction n with
  | zero => intro h; omega
  | succ n ih =>
    intro h
    show ¬ (if anyG g n = 0 then (if g n = 0 then (0 : Int32) else 1) else 1) = 0
    by_cases z : anyG g n = 0
    · have : c = n := by
        by_cases y : c = n
        · exact y
        · exact absurd z (ih (by omega))
      rw [if_pos z, if_neg (by rw [← this]; exact hg)]
      decide
    · rw [if_neg z]
      decide
/-- what the class knows while it judges -/
def jH (Y : oS) (L : Nat → Int32 → Int64 → Int32) (RS : Nat → Int32 → Int32 → Int32 → Int32) (fc : Nat → Nat → Int64) (T : Nat → Nat) (Q K : Nat) (kd : Nat → Nat) : Prop := Y.1 600 0 11 = nI Q ∧ opS T Q ∧ (∀ i, i < Q → Y.1 605 0 i = nI (T i)) ∧ Y.1 600 0 10 = nI K ∧ K ≤ 4 ∧ (∀ o, o < K → Y.1 604 0 o = nI (kd o) ∧ kd o < 8) ∧ (∀ k x w, lkX Y k x w = L k x w) ∧ (∀ k s r a, (if s ≤ Y.1 207 0 k then (if Y.1 203 0 k ≤ r then (if a ≤ Y.1 204 0 k then (1 : Int32) else 3) else 0) else 2) = RS k s r a) ∧ ∀ t r i, i < Q → t < T i → r < 4 → Y.2 603 0 (4 * t + r) = fc t r
def gdO (Y : oS) (L : Nat → Int32 → Int64 → Int32) (RS : Nat → Int32 → Int32 → Int32 → Int32) (fc : Nat → Nat → Int64) (T : Nat → Nat) (Q : Nat) (kd : Nat → Nat) (o ch : Nat) : Int32 := gdC L RS fc T Q (Y.1 201 0 (kd o)) (kd o) ch
theorem gdO_01 {Y : oS} {L : Nat → Int32 → Int64 → Int32} {RS : Nat → Int32 → Int32 → Int32 → Int32} {fc : Nat → Nat → Int64} {T : Nat → Nat} {Q : Nat} {kd : Nat → Nat} {o ch : Nat} : oBl (gdO Y L RS fc T Q kd o ch) := by
  unfold gdO gdC
  by_cases g : pO (ch / 4) < Q
  · rw [if_pos g]
    by_cases g2 : Y.1 201 0 (kd o) ≤ oROOM (ch % 4)
    · rw [if_pos g2]; exact bwV_01
    · rw [if_neg g2]; exact Or.inl rfl
  · rw [if_neg g]; exact Or.inl rfl
theorem judgeI_X {Y : oS} {L : Nat → Int32 → Int64 → Int32} {RS : Nat → Int32 → Int32 → Int32 → Int32} {fc : Nat → Nat → Int64} {T : Nat → Nat} {Q K : Nat} {kd : Nat → Nat} (hJ : jH Y L RS fc T Q K kd) {o : Nat} (ho : o < K) (G H : Nat → Int32) : ∃ G', oLp (f_X5_judgeChoices_L25 (nI o)) oFu ((0 : Int32), (0 : Int32), jS Y G H) = some (anyG (gdO Y L RS fc T Q kd o) 12, jS Y G' H) ∧ (∀ ch, ch < 12 → G' (12 * o + ch) = gdO Y L RS fc T Q kd o ch) ∧ ∀ x, 12 * o + 12 ≤ x → G' x = G x := by
  obtain ⟨j1, j2, j3, j4, j5, j6, j7, j8, j9⟩ := hJ
  obtain ⟨k1, k2⟩ := j6 o ho
  have e : ∃ x, oLp (f_X5_judgeChoices_L25 (nI o)) oFu ((0 : Int32), (0 : Int32), jS Y G H) = some x ∧ ∃ G', x = (anyG (gdO Y L RS fc T Q kd o) 12, jS Y G' H) ∧ (∀ ch, ch < 12 → G' (12 * o + ch) = gdO Y L RS fc T Q kd o ch) ∧ ∀ x, 12 * o + 12 ≤ x → G' x = G x := by
    refine oLp_all (fun i s => ∃ G', s = (anyG (gdO Y L RS fc T Q kd o) i, nI i, jS Y G' H) ∧ (∀ ch, ch < i → G' (12 * o + ch) = gdO Y L RS fc T Q kd o ch) ∧ ∀ x, 12 * o + 12 ≤ x → G' x = G x) (fun x => ∃ G', x = (anyG (gdO Y L RS fc T Q kd o) 12, jS Y G' H) ∧ (∀ ch, ch < 12 → G' (12 * o + ch) = gdO Y L RS fc T Q kd o ch) ∧ ∀ x, 12 * o + 12 ≤ x → G' x = G x) 12 (by omega) ⟨G, rfl, fun ch hc => absurd hc (Nat.not_lt_zero _), fun _ _ => rfl⟩ ?_ ?_
    · rintro i s hi ⟨G', rfl, hG, hG2⟩
      have ek : (jS Y G' H).1 604 0 (nI o).toNatClampNeg = nI (kd o) := by rw [ncl (by omega)]; exact k1
      have bw := bw_X (Y := jS Y G' H) (L := L) (RS := RS) (fc := fc) (T := T) (Q := Q) (k := kd o) (ch := i) k2 hi j1 j2 j3 (j7 _) (j8 _) j9
      have bw : f_X5_bakesWell (nI (kd o)) (nI i) (jS Y G' H) = some (gdO Y L RS fc T Q kd o i, jS Y G' H) := bw
      have h01 := gdO_01 (Y := Y) (L := L) (RS := RS) (fc := fc) (T := T) (Q := Q) (kd := kd) (o := o) (ch := i)
      refine ⟨(anyG (gdO Y L RS fc T Q kd o) (i + 1), nI (i + 1), jS Y (uI G' (12 * o + i) (gdO Y L RS fc T Q kd o i)) H), ?_, _, rfl, fun ch hc => ?_, fun x hx => ?_⟩
      · show (if (12 : Int32) ≤ nI i then _ else (if oIn (nI o) 4 then (f_X5_bakesWell ((jS Y G' H).1 604 0 (nI o).toNatClampNeg) (nI i) (jS Y G' H)).bind _ else none)) = _
        rw [if_neg (by rw [nle (m := 12) rfl (by omega)]; omega), if_pos ((nin (by omega)).mpr (by omega)), ek, bw, Option.bind_some, n12, if_pos ((nin (by omega)).mpr (by omega)), if_pos h01, oLet_eq, jS_sG (by omega)]
        generalize gdO Y L RS fc T Q kd o = g at h01 ⊢
        show (if anyG g i = 0 then (if g i = 0 then some (Sum.inl ((0 : Int32), nI i + 1, _)) else some (Sum.inl ((1 : Int32), nI i + 1, _))) else some (Sum.inl ((1 : Int32), nI i + 1, _))) = some (Sum.inl ((if anyG g i = 0 then (if g i = 0 then (0 : Int32) else 1) else 1), nI (i + 1), _))
        rw [nI_1]
        by_cases z : anyG g i = 0
        · rw [if_pos z, if_pos z]
          by_cases y : g i = 0
          · rw [if_pos y, if_pos y]
          · rw [if_neg y, if_neg y]
        · rw [if_neg z, if_neg z]
      · unfold uI
        by_cases z : ch = i
        · rw [if_pos (by omega), z]
        · rw [if_neg (by omega)]; exact hG ch (by omega)
      · unfold uI
        rw [if_neg (by omega)]
        exact hG2 x hx
    · rintro s ⟨G', rfl, hG, hG2⟩
      exact ⟨_, rfl, G', rfl, hG, hG2⟩
  obtain ⟨x, e1, G', rfl, hG, hG2⟩ := e
  exact ⟨G', e1, hG, hG2⟩
theorem judge_X {Y : oS} {L : Nat → Int32 → Int64 → Int32} {RS : Nat → Int32 → Int32 → Int32 → Int32} {fc : Nat → Nat → Int64} {T : Nat → Nat} {Q K : Nat} {kd : Nat → Nat} (hJ : jH Y L RS fc T Q K kd) : ∃ G H, f_X5_judgeChoices Y = some (jS Y G H) ∧ (∀ o ch, o < K → ch < 12 → G (12 * o + ch) = gdO Y L RS fc T Q kd o ch) ∧ ∀ e, e ≤ K → H (K - e) = nI (hpE (gdO Y L RS fc T Q kd) K e) := by
  have hJ' := hJ
  obtain ⟨j1, j2, j3, j4, j5, j6, j7, j8, j9⟩ := hJ
  have e : ∃ x, oLp f_X5_judgeChoices_L17 oFu (nI K - 1, jS Y (Y.1 606 0) (uI (Y.1 607 0) K 0)) = some x ∧ ∃ G H, x = jS Y G H ∧ (∀ o ch, o < K → ch < 12 → G (12 * o + ch) = gdO Y L RS fc T Q kd o ch) ∧ ∀ e, e ≤ K → H (K - e) = nI (hpE (gdO Y L RS fc T Q kd) K e) := by
    refine oLp_all (fun i s => ∃ G H, s = (nI (K - i) - 1, jS Y G H) ∧ (∀ o ch, K - i ≤ o → o < K → ch < 12 → G (12 * o + ch) = gdO Y L RS fc T Q kd o ch) ∧ ∀ e, e ≤ i → H (K - e) = nI (hpE (gdO Y L RS fc T Q kd) K e)) (fun x => ∃ G H, x = jS Y G H ∧ (∀ o ch, o < K → ch < 12 → G (12 * o + ch) = gdO Y L RS fc T Q kd o ch) ∧ ∀ e, e ≤ K → H (K - e) = nI (hpE (gdO Y L RS fc T Q kd) K e)) K (by omega) ⟨Y.1 606 0, uI (Y.1 607 0) K 0, rfl, fun o ch h1 h2 => by omega, fun e he => ?_⟩ ?_ ?_
    · have : e = 0 := by omega
      subst this
      exact if_pos rfl
    · rintro i s hi ⟨G, H, rfl, hG, hH⟩
      obtain ⟨m, hm⟩ : ∃ m, K - i = m + 1 := ⟨K - i - 1, by omega⟩
      have hm2 : K - (i + 1) = m := by omega
      obtain ⟨G', e1, e2, e3⟩ := judgeI_X hJ' (show m < K by omega) G H
      have eH : (jS Y G' H).1 607 0 (nI (m + 1)).toNatClampNeg = nI (hpE (gdO Y L RS fc T Q kd) K i) := by
        rw [ncl (by omega), ← hm]
        exact hH i (Nat.le_refl _)
      have key : ∀ x : Int32, x = nI (ahN (gdO Y L RS fc T Q kd) m) → f_X5_judgeChoices_K100 (nI m) (nI m) (nI (hpE (gdO Y L RS fc T Q kd) K i)) x (jS Y G' H) = some (Sum.inl (nI m - 1, jS Y G' (uI H m (nI (hpE (gdO Y L RS fc T Q kd) K (i + 1)))))) := by
        intro x hx
        unfold f_X5_judgeChoices_K100
        rw [if_pos ((nin (by omega)).mpr (by omega)), oLet_eq, oLet_eq, jS_sH (by omega), hx, nI_add, show nI m + -1 = nI m - 1 by grind]
        show _ = some (Sum.inl (nI m - 1, jS Y G' (uI H m (nI (hpE (gdO Y L RS fc T Q kd) K i + ahN (gdO Y L RS fc T Q kd) (K - (i + 1)))))))
        rw [hm2]
      refine ⟨(nI m - 1, jS Y G' (uI H m (nI (hpE (gdO Y L RS fc T Q kd) K (i + 1))))), ?_, G', _, by rw [hm2], fun o ch h1 h2 h3 => ?_, fun e he => ?_⟩
      · have hah : ahN (gdO Y L RS fc T Q kd) m = if anyG (gdO Y L RS fc T Q kd m) 12 = 0 then 0 else 1 := rfl
        generalize anyG (gdO Y L RS fc T Q kd m) 12 = av at e1 hah
        rw [hm, nPr]
        show (if nI m < 0 then _ else _) = _
        rw [if_neg (nI_pos (by omega)), e1, Option.bind_some]
        show (if oIn (nI m + 1) 5 then (if av = 0 then f_X5_judgeChoices_K100 (nI m) (nI m) ((jS Y G' H).1 607 0 (nI m + 1).toNatClampNeg) 0 (jS Y G' H) else f_X5_judgeChoices_K100 (nI m) (nI m) ((jS Y G' H).1 607 0 (nI m + 1).toNatClampNeg) 1 (jS Y G' H)) else none) = _
        rw [nI_1, if_pos ((nin (by omega)).mpr (by omega)), eH]
        by_cases z : av = 0
        · rw [if_pos z]
          exact key _ (by rw [hah, if_pos z]; rfl)
        · rw [if_neg z]
          exact key _ (by rw [hah, if_neg z]; rfl)
      · by_cases z : o = m
        · subst z; exact e2 ch h3
        · rw [e3 _ (by omega)]; exact hG o ch (by omega) h2 h3
      · unfold uI
        by_cases z : e = i + 1
        · rw [if_pos (by omega), z]
        · rw [if_neg (by omega)]; exact hH e (by omega)
    · rintro s ⟨G, H, rfl, hG, hH⟩
      refine ⟨jS Y G H, ?_, G, H, rfl, fun o ch h1 h2 => hG o ch (by omega) h1 h2, hH⟩
      rw [Nat.sub_self]
      rfl
  obtain ⟨x, e1, G, H, rfl, hG, hH⟩ := e
  refine ⟨G, H, ?_, hG, hH⟩
  have w := jS_sH (Y := Y) (G := Y.1 606 0) (H := Y.1 607 0) (m := K) (v := 0) (by omega)
  rw [jS_id] at w
  unfold f_X5_judgeChoices
  rw [j4, if_pos ((nin (by omega)).mpr (by omega)), oLet_eq, w, oLet_eq]
  show (oLp f_X5_judgeChoices_L17 oFu (Y.1 600 0 10 - 1, jS Y (Y.1 606 0) (uI (Y.1 607 0) K 0))).bind _ = _
  rw [j4, e1, Option.bind_some]
