/-! Class and reference find the same plan -/
theorem num_W (W : Nat) : ∀ n, num (W + 1) (fun _ => W) n + 1 = (W + 1) ^ n := by
  intro n
  induction n with
  | zero => rfl
  | succ n ih =>
    show num (W + 1) (fun _ => W) n * (W + 1) + W + 1 = _
    rw [Nat.pow_succ, ← ih, Nat.add_mul, Nat.one_mul]
    omega
theorem some_V {W K Q : Nat} {gm : Nat → Nat → Int32} {on cr bg : Nat → Nat} : ∃ k, k < (W + 1) ^ K ∧ mdV W K Q gm on cr bg k := by
  have hn := num_W W K
  have hd := pre_dg (W := W) (K := K) (o := K) (e := 0) (k := num (W + 1) (fun _ => W) K) (g := fun _ => W) rfl (fun _ _ => by omega) (by rw [Nat.pow_zero]; omega) (by rw [Nat.pow_zero]; omega)
  refine ⟨num (W + 1) (fun _ => W) K, by omega, fun o ho => Or.inl (hd o ho), fun s r _ _ => ?_⟩
  have hz : ∀ o, o < K → ctb W (dg (W + 1) K (num (W + 1) (fun _ => W) K) o) s r = 0 := fun o ho => by rw [hd o ho]; exact ctb_W
  unfold us
  rw [sm_z K hz, sm_z K hz, sm_z K hz]
  omega
theorem core {Y U0 U : oS} {L : Nat → Int32 → Int64 → Int32} {RS : Nat → Int32 → Int32 → Int32 → Int32} {fc : Nat → Nat → Int64} {T : Nat → Nat} {Q K : Nat} {kd on cr bg : Nat → Nat} {Z : oS} (hJ : jH Y L RS fc T Q K kd) (hk : kdK on cr bg K) (hZ : plnX Y (wyQ Q) K (gdO Y L RS fc T Q kd) on cr bg Z) (hpl : ∀ o, o < K → Y.1 201 0 (kd o) = nI (on o + bg o)) (h0 : f_X9_layAhead U0 = some U) (hM : mH U L RS fc T Q K kd) (hSM : kdM' U kd on cr bg K) : ∃ (I O R G D : Nat → Int32) (b o c g : Int32) (z : Nat), f_X9_findPlan U0 = some (Z.1 600 0 12, cmS (dS (wS U (wyQ Q) I O R G) D b) o c g) ∧ wyOK L RS fc T K kd (wyQ Q) I O R G ∧ b = nI z ∧ z < 100000 ∧ (∀ i, i < K → Z.1 610 0 i = cdW (wyQ Q) (dg (wyQ Q + 1) K z i)) ∧ 0 ≤ (Z.1 600 0 12).toInt ∧ (Z.1 600 0 12).toInt ≤ K := by
  obtain ⟨best, I, O, R, G, D, b, o, c, g, z, e1, e2, e3, e4, e5⟩ := find_M h0 hM hk hSM
  obtain ⟨z', c1, c2⟩ := hZ
  obtain ⟨-, ⟨o1, -, -⟩, -⟩ := hM
  have hV : mdV (wyQ Q) K Q (gmO L RS fc T kd) on cr bg = plV (wyQ Q) K (gdO Y L RS fc T Q kd) on cr bg := funext fun k => propext (V_eq (pl := fun o => Y.1 201 0 (kd o)) o1 rfl hk hpl (fun o w ho hw => by
    have hpo : pO (w / 4) < Q := (wy_iff o1 (by have := wy_12 Q; omega)).mp hw
    unfold gdO gdC
    rw [if_pos hpo]
    rfl) k)
  rw [← hV] at c2
  obtain ⟨u1, u2⟩ := Bsf_u c2 e5
  have hne : (Z.1 600 0 12).toInt ≠ -1 := by
    intro y
    rcases c2 with ⟨-, v⟩ | ⟨-, -, v, -⟩
    · obtain ⟨k, k1, k2⟩ := some_V (W := wyQ Q) (K := K) (Q := Q) (gm := gmO L RS fc T kd) (on := on) (cr := cr) (bg := bg)
      exact v k k1 k2
    · omega
  have hzz := u2 hne
  have hbe : best = Z.1 600 0 12 := i_eq.mpr u1.symm
  have hb : b = nI z := by
    rcases e3 with y | y
    · rw [hbe] at y
      exact absurd (by rw [y]; rfl) hne
    · exact y
  have hch : ∀ i, i < K → Z.1 610 0 i = cdW (wyQ Q) (dg (wyQ Q + 1) K z i) := by
    rcases c1 with y | y
    · exact absurd (by rw [y]; rfl) hne
    · rw [← hzz]; exact y
  refine ⟨I, O, R, G, D, b, o, c, g, z, by rw [← hbe]; exact e1, e2, hb, e4, hch, ?_, ?_⟩
  · rcases c2 with ⟨v, -⟩ | ⟨-, -, v, -⟩
    · exact absurd v hne
    · omega
  · rcases c2 with ⟨v, -⟩ | ⟨-, -, v, -⟩
    · omega
    · have := cntP_le (W := wyQ Q) (g := dg (wyQ Q + 1) K z') K
      have : plC (wyQ Q) K z' ≤ K := this
      omega
/-- the class's state behind its planning, seen over the state before -/
def ovP (S : oS) (A : Nat → Nat → Nat → Int32) (B : Nat → Nat → Nat → Int64) : oS := (fun t i k => if (500 ≤ t ∧ t ≤ 505 ∧ 1 ≤ i) ∨ (t = 600 ∧ 12 ≤ k) ∨ (606 ≤ t ∧ t ≤ 610) then A t i k else S.1 t i k, fun t i k => if (500 ≤ t ∧ t ≤ 505 ∧ 1 ≤ i) ∨ t = 603 then B t i k else S.2 t i k)
theorem ovP_eq {S Y Z : oS} (F : FrP S Y) (C : FrC Y Z) : Z = ovP S Z.1 Z.2 := by
  refine oS_ext (fun t i k => ?_) (fun t i k => ?_)
  · show Z.1 t i k = (if (500 ≤ t ∧ t ≤ 505 ∧ 1 ≤ i) ∨ (t = 600 ∧ 12 ≤ k) ∨ (606 ≤ t ∧ t ≤ 610) then Z.1 t i k else S.1 t i k)
    by_cases g : (500 ≤ t ∧ t ≤ 505 ∧ 1 ≤ i) ∨ (t = 600 ∧ 12 ≤ k) ∨ (606 ≤ t ∧ t ≤ 610)
    · rw [if_pos g]
    · rw [if_neg g, C.2 t i k (by omega) (by omega)]
      exact F.1 t i k (by omega)
  · show Z.2 t i k = (if (500 ≤ t ∧ t ≤ 505 ∧ 1 ≤ i) ∨ t = 603 then Z.2 t i k else S.2 t i k)
    by_cases g : (500 ≤ t ∧ t ≤ 505 ∧ 1 ≤ i) ∨ t = 603
    · rw [if_pos g]
    · rw [if_neg g, C.1]
      exact F.2 t i k (by omega) (by omega)
/-- orders and openings as natural numbers -/
def onK (S : oS) (kd : Nat → Nat) (o : Nat) : Nat := if S.1 1015 0 (kd o) = 1 then 1 else 0
def crK (S : oS) (kd : Nat → Nat) (o : Nat) : Nat := if S.1 1016 0 (kd o) = 0 then 0 else 1
def bgK (S : oS) (kd : Nat → Nat) (o : Nat) : Nat := if 1 < S.1 1015 0 (kd o) then (S.1 1015 0 (kd o)).toInt.toNat else 0
theorem kin_o {S : oS} (hk : iKin S) {kd : Nat → Nat} {K : Nat} (hkd : ∀ o, o < K → ((kd o : Nat) : Int) < (S.1 1000 0 13).toInt) : kdK (onK S kd) (crK S kd) (bgK S kd) K ∧ (∀ o, o < K → kOn S (kd o) = nI (onK S kd o) ∧ kCr S (kd o) = nI (crK S kd o) ∧ kBg S (kd o) = nI (bgK S kd o)) ∧ (∀ o, o < K → mOn S (kd o) = nI (onK S kd o) ∧ mCr S (kd o) = nI (crK S kd o) ∧ mBg S (kd o) = nI (bgK S kd o)) ∧ ∀ o, o < K → S.1 201 0 (kd o) = nI (onK S kd o + bgK S kd o) := by
  have key : ∀ o, o < K → ((onK S kd o = 1 ∧ crK S kd o = 0 ∧ bgK S kd o = 0) ∨ (onK S kd o = 0 ∧ crK S kd o ≤ 1 ∧ 2 ≤ bgK S kd o ∧ bgK S kd o ≤ 3)) ∧ (mOn S (kd o) = nI (onK S kd o) ∧ mCr S (kd o) = nI (crK S kd o) ∧ mBg S (kd o) = nI (bgK S kd o)) ∧ S.1 1015 0 (kd o) = nI (onK S kd o + bgK S kd o) := by
    intro o ho
    obtain ⟨k1, k2⟩ := hk.2.2.2 (kd o)
    obtain ⟨⟨k3, k4⟩, k5⟩ := k2 (hkd o ho)
    have eC : mCr S (kd o) = nI (crK S kd o) := by
      unfold mCr crK
      by_cases y : S.1 1016 0 (kd o) = 0
      · rw [if_pos y, if_pos y]; rfl
      · rw [if_neg y, if_neg y]; rfl
    by_cases z : S.1 1015 0 (kd o) = 1
    · have n1 : ¬ (1 : Int32) < S.1 1015 0 (kd o) := by rw [z]; decide
      have c0 : S.1 1016 0 (kd o) = 0 := by
        rcases k1 with y | y
        · exact y
        · have := k5 y
          rw [z, i1] at this
          omega
      have a1 : onK S kd o = 1 := if_pos z
      have a2 : crK S kd o = 0 := if_pos c0
      have a3 : bgK S kd o = 0 := if_neg n1
      refine ⟨Or.inl ⟨a1, a2, a3⟩, ⟨?_, eC, ?_⟩, ?_⟩
      · rw [a1]; exact if_pos z
      · rw [a3]; exact if_neg n1
      · rw [a1, a3, z]; rfl
    · have zi : ¬ (S.1 1015 0 (kd o)).toInt = 1 := fun y => z (i_eq.mpr y)
      have n1 : (1 : Int32) < S.1 1015 0 (kd o) := by rw [i_lt, i1]; omega
      have a1 : onK S kd o = 0 := if_neg z
      have a3 : bgK S kd o = (S.1 1015 0 (kd o)).toInt.toNat := if_pos n1
      have a2 : crK S kd o ≤ 1 := by
        unfold crK
        by_cases y : S.1 1016 0 (kd o) = 0
        · rw [if_pos y]; omega
        · rw [if_neg y]; omega
      have e : S.1 1015 0 (kd o) = nI (bgK S kd o) := by rw [a3]; exact i_nat (by omega)
      refine ⟨Or.inr ⟨a1, a2, by omega, by omega⟩, ⟨?_, eC, ?_⟩, ?_⟩
      · rw [a1]; exact if_neg z
      · rw [← e]; exact if_pos n1
      · rw [a1, Nat.zero_add]; exact e
  refine ⟨fun o ho => (key o ho).1, fun o ho => ?_, fun o ho => (key o ho).2.1, fun o ho => by rw [(hk.2.1 (kd o)).1]; exact (key o ho).2.2⟩
  obtain ⟨q1, q2, q3, -, -⟩ := kd_eq hk (hkd o ho)
  obtain ⟨-, ⟨y1, y2, y3⟩, -⟩ := key o ho
  exact ⟨q1.trans y1, q2.trans y2, q3.trans y3⟩
theorem inv_pla {S : oS} (h : iPla S) : ∃ (K Q : Nat) (T kd : Nat → Nat), K ≤ 4 ∧ Q ≤ 3 ∧ S.1 600 0 10 = nI K ∧ S.1 1000 0 32 = nI K ∧ S.1 600 0 11 = nI Q ∧ S.1 1000 0 34 = nI Q ∧ opS T Q ∧ (∀ i, i < Q → S.1 605 0 i = nI (T i) ∧ S.1 1036 0 i = nI (T i)) ∧ (∀ o, o < K → S.1 604 0 o = nI (kd o) ∧ S.1 1034 0 o = nI (kd o) ∧ ((kd o : Nat) : Int) < (S.1 1000 0 13).toInt) ∧ ∀ j k : Nat, 4 ≤ j → j < 12 → k < 3 → S.1 300 j k = 0 := by
  obtain ⟨⟨h1, h1'⟩, ⟨h2, h2'⟩, h3, h4, h5, h6⟩ := h
  obtain ⟨K, k1, k2, k3⟩ := rg_nat h1'
  obtain ⟨Q, q1, q2, q3⟩ := rg_nat h2'
  have ht : ∀ i, i < Q → S.1 1036 0 i = nI (S.1 1036 0 i).toInt.toNat ∧ (S.1 1036 0 i).toInt.toNat ≤ 40 ∧ ((S.1 1036 0 i).toInt.toNat : Int) = (S.1 1036 0 i).toInt := fun i hi => by
    obtain ⟨a1, a2, a3⟩ := h4 i (by omega)
    exact ⟨i_nat (by omega), by omega, by omega⟩
  have mono : ∀ d i, i + d + 1 < Q → (S.1 1036 0 i).toInt.toNat < (S.1 1036 0 (i + d + 1)).toInt.toNat := by
    intro d
    induction d with
    | zero =>
      intro i hi
      have a := h5 i (by omega)
      have b := (ht i (by omega)).2.2
      have c := (ht (i + 1) (by omega)).2.2
      show (S.1 1036 0 i).toInt.toNat < (S.1 1036 0 (i + 1)).toInt.toNat
      omega
    | succ d ih =>
      intro i hi
      have a := ih i (by omega)
      have a' := h5 (i + d + 1) (by omega)
      have b := (ht (i + d + 1) (by omega)).2.2
      have c := (ht (i + d + 1 + 1) (by omega)).2.2
      show (S.1 1036 0 i).toInt.toNat < (S.1 1036 0 (i + d + 1 + 1)).toInt.toNat
      omega
  refine ⟨K, Q, fun i => (S.1 1036 0 i).toInt.toNat, fun o => (S.1 1034 0 o).toInt.toNat, by omega, by omega, h1.trans k2, k2, h2.trans q2, q2, ⟨by omega, fun i hi => (ht i hi).2.1, fun i j hij hj => ?_⟩, fun i hi => ⟨(h4 i (by omega)).1.trans (ht i hi).1, (ht i hi).1⟩, fun o ho => ?_, h6⟩
  · have := mono (j - i - 1) i (by omega)
    rw [show i + (j - i - 1) + 1 = j by omega] at this
    exact this
  · obtain ⟨a1, a2, a3⟩ := h3 o (by omega)
    have e := i_nat a2
    exact ⟨a1.trans e, e, by show ((S.1 1034 0 o).toInt.toNat : Int) < _; omega⟩
