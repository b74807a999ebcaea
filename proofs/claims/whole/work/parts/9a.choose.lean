/-! The class chooses -/
def wyQ (Q : Nat) : Nat := if Q = 3 then 12 else if Q = 2 then 4 else 0
theorem wy_12 (Q : Nat) : wyQ Q ≤ 12 := by
  unfold wyQ
  by_cases g : Q = 3
  · rw [if_pos g]; omega
  · rw [if_neg g]
    by_cases g : Q = 2
    · rw [if_pos g]; omega
    · rw [if_neg g]; omega
theorem wy_iff {Q w : Nat} (h3 : Q ≤ 3) (hw : w < 12) : w < wyQ Q ↔ pO (w / 4) < Q := by
  unfold wyQ pO
  rcases (by omega : Q = 3 ∨ Q = 2 ∨ Q < 2) with g | g | g
  · rw [if_pos g]
    by_cases z : w / 4 = 0
    · rw [if_pos z]; omega
    · rw [if_neg z]; omega
  · rw [if_neg (by omega), if_pos g]
    by_cases z : w / 4 = 0
    · rw [if_pos z]; omega
    · rw [if_neg z]; omega
  · rw [if_neg (by omega), if_neg (by omega)]
    by_cases z : w / 4 = 0
    · rw [if_pos z]; omega
    · rw [if_neg z]; omega
/-- the plan as the class's cells tell it -/
def plnX (S : oS) (W K : Nat) (gd : Nat → Nat → Int32) (on cr bg : Nat → Nat) (Z : oS) : Prop := ∃ z, chK W K (Z.1 600 0 12) (Z.1 610 0) z ∧ Bsf (plV W K gd on cr bg) (plC W K) ((W + 1) ^ K) (Z.1 600 0 12).toInt z
/-- only the planner's own scratch has changed -/
def FrC (Y Z : oS) : Prop := Z.2 = Y.2 ∧ ∀ t i k, ¬ (t = 600 ∧ i = 0 ∧ k = 12) → ¬ (606 ≤ t ∧ t ≤ 610 ∧ i = 0) → Z.1 t i k = Y.1 t i k
set_option maxHeartbeats 1000000 in
theorem choose_X {Y : oS} {L : Nat → Int32 → Int64 → Int32} {RS : Nat → Int32 → Int32 → Int32 → Int32} {fc : Nat → Nat → Int64} {T : Nat → Nat} {Q K : Nat} {kd on cr bg : Nat → Nat} (hJ : jH Y L RS fc T Q K kd) (hk : kdK on cr bg K) (hS : kdS Y kd on cr bg K) (hl : ∀ j k, 4 ≤ j → j < 12 → k < 3 → Y.1 300 j k = 0) : ∃ Z, f_X5_choose Y = some Z ∧ FrC Y Z ∧ plnX Y (wyQ Q) K (gdO Y L RS fc T Q kd) on cr bg Z := by
  have hJ' := hJ
  obtain ⟨j1, ⟨o1, o2, o3⟩, j3, j4, j5, j6, j7, j8, j9⟩ := hJ
  obtain ⟨G, H, e1, e2, e3⟩ := judge_X hJ'
  have hb : sBase (jS Y G H) (wyQ Q) K (gdO Y L RS fc T Q kd) kd on cr bg := by
    refine ⟨j4, j5, wy_12 Q, hk, hS, e2, e3, fun o ch ho hc hw => ?_⟩
    unfold gdO gdC
    rw [if_neg (fun z => absurd ((wy_iff o1 hc).mpr z) (by omega))]
  have est : oStI (jS Y G H) 600 0 12 (-1) = sW (jS Y G H) (-1) (Y.1 609 0) (Y.1 610 0) (LD (jS Y G H) (wyQ Q) on cr bg (fun _ => 0) 0) := by
    refine oS_ext (fun t i k => ?_) (fun t i k => rfl)
    show (if t = 600 ∧ i = 0 ∧ k = 12 then (-1 : Int32) else (jS Y G H).1 t i k) = _
    rw [sW_1]
    by_cases g : t = 600 ∧ i = 0 ∧ k = 12
    · rw [if_pos g, if_pos g]
    · rw [if_neg g, if_neg g]
      by_cases g : t = 609 ∧ i = 0
      · rw [if_pos g, g.1, g.2]; rfl
      · rw [if_neg g]
        by_cases g : t = 610 ∧ i = 0
        · rw [if_pos g, g.1, g.2]; rfl
        · rw [if_neg g]
          by_cases g : t = 300 ∧ 4 ≤ i ∧ i < 12
          · rw [if_pos g, g.1]
            by_cases y : k < 3
            · have hy : (jS Y G H).1 300 i k = 0 := hl i k g.2.1 g.2.2 y
              rw [hy]
              rcases (by omega : k = 0 ∨ k = 1 ∨ k = 2) with rfl | rfl | rfl <;> rfl
            · rw [LD_3 (by omega)]
          · rw [if_neg g]
  obtain ⟨mb, tr, ch, z, r1, r2, r3, r4⟩ := srch hb K 0 8 (fun _ => 0) (-1) (Y.1 609 0) (Y.1 610 0) 0 (by omega) (by omega) ⟨fun o ho => by omega, fun s r _ _ => Nat.zero_le _⟩ (fun i hi => by omega) (Or.inl rfl) (Or.inl ⟨rfl, fun k hk => by
    have : k < 0 * (wyQ Q + 1) ^ K := hk
    rw [Nat.zero_mul] at this
    omega⟩)
  have r4 : Bsf (plV (wyQ Q) K (gdO Y L RS fc T Q kd) on cr bg) (plC (wyQ Q) K) ((0 + 1) * (wyQ Q + 1) ^ K) mb.toInt z := r4
  rw [Nat.zero_add, Nat.one_mul] at r4
  refine ⟨sW (jS Y G H) mb tr ch (LD (jS Y G H) (wyQ Q) on cr bg (fun _ => 0) 0), ?_, ⟨rfl, fun t i k h1 h2 => ?_⟩, z, r3, r4⟩
  · unfold f_X5_choose
    rw [e1, Option.bind_some, oLet_eq, est]
    show (f_X5_searchN 8 (nI 0) (nI (cntP (wyQ Q) (fun _ => 0) 0)) _).bind _ = _
    rw [r1, Option.bind_some]
  · rw [sW_1, if_neg h1, if_neg (by omega), if_neg (by omega)]
    by_cases g : t = 300 ∧ 4 ≤ i ∧ i < 12
    · rw [if_pos g, g.1]
      by_cases y : k < 3
      · rw [hl i k g.2.1 g.2.2 y]
        rcases (by omega : k = 0 ∨ k = 1 ∨ k = 2) with rfl | rfl | rfl <;> rfl
      · rw [LD_3 (by omega)]
        rfl
    · rw [if_neg g, jS_1, if_neg (by omega), if_neg (by omega)]
