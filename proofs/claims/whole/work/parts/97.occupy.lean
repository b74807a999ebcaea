/-! The search's cells; a choice takes its room and gives it back -/
def sW (S : oS) (mb : Int32) (tr ch : Nat → Int32) (ld : Nat → Nat → Int32) : oS := (fun t i k => if t = 600 ∧ i = 0 ∧ k = 12 then mb else if t = 609 ∧ i = 0 then tr k else if t = 610 ∧ i = 0 then ch k else if t = 300 ∧ 4 ≤ i ∧ i < 12 then ld i k else S.1 t i k, S.2)
theorem sW_1 {S : oS} {mb : Int32} {tr ch : Nat → Int32} {ld : Nat → Nat → Int32} (t i k : Nat) : (sW S mb tr ch ld).1 t i k = if t = 600 ∧ i = 0 ∧ k = 12 then mb else if t = 609 ∧ i = 0 then tr k else if t = 610 ∧ i = 0 then ch k else if t = 300 ∧ 4 ≤ i ∧ i < 12 then ld i k else S.1 t i k := rfl
theorem sW_ld {S : oS} {mb : Int32} {tr ch : Nat → Int32} {ld : Nat → Nat → Int32} {i k : Nat} (h4 : 4 ≤ i) (h12 : i < 12) : (sW S mb tr ch ld).1 300 i k = ld i k := by
  rw [sW_1, if_neg (fun z => absurd z.1 (by decide)), if_neg (fun z => absurd z.1 (by decide)), if_neg (fun z => absurd z.1 (by decide)), if_pos ⟨rfl, h4, h12⟩]
theorem sW_cg {S : oS} {mb : Int32} {tr ch : Nat → Int32} {ld ld' : Nat → Nat → Int32} (e : ∀ i k, 4 ≤ i → i < 12 → ld i k = ld' i k) : sW S mb tr ch ld = sW S mb tr ch ld' := by
  refine oS_ext (fun t i k => ?_) (fun t i k => rfl)
  rw [sW_1, sW_1]
  by_cases g : t = 300 ∧ 4 ≤ i ∧ i < 12
  · rw [if_pos g, if_pos g, e i k g.2.1 g.2.2]
  · rw [if_neg g, if_neg g]
theorem sW_ldS {S : oS} {mb : Int32} {tr ch : Nat → Int32} {ld : Nat → Nat → Int32} {j : Nat} {b o c : Int32} (h4 : 4 ≤ j) (h12 : j < 12) : ldS (sW S mb tr ch ld) j b o c = sW S mb tr ch (fun i k => if i = j then (if k = 2 then c else if k = 1 then o else if k = 0 then b else ld i k) else ld i k) := by
  refine oS_ext (fun t i k => ?_) (fun t i k => rfl)
  rw [ldS_1, sW_1, sW_1]
  by_cases g : t = 300 ∧ i = j
  · have n1 : ¬ (t = 600 ∧ i = 0 ∧ k = 12) := by omega
    have n2 : ¬ (t = 609 ∧ i = 0) := by omega
    have n3 : ¬ (t = 610 ∧ i = 0) := by omega
    have n4 : t = 300 ∧ 4 ≤ i ∧ i < 12 := by omega
    simp only [if_pos g, if_neg n1, if_neg n2, if_neg n3, if_pos n4, if_pos g.2]
  · rw [if_neg g]
    by_cases g2 : t = 300 ∧ 4 ≤ i ∧ i < 12
    · rw [if_pos g2, if_pos g2, if_neg (fun z => g ⟨g2.1, z⟩)]
    · rw [if_neg g2, if_neg g2]
theorem sW_str {S : oS} {mb : Int32} {tr ch : Nat → Int32} {ld : Nat → Nat → Int32} {m : Nat} {v : Int32} (hm : m < 1000) : oStI (sW S mb tr ch ld) 609 0 (nI m).toNatClampNeg v = sW S mb (uI tr m v) ch ld := by
  rw [ncl (by omega)]
  refine oS_ext (fun t i k => ?_) (fun t i k => rfl)
  show (if t = 609 ∧ i = 0 ∧ k = m then v else (sW S mb tr ch ld).1 t i k) = _
  rw [sW_1, sW_1]
  unfold uI
  grind
theorem used_g (j : Nat) (Y : oS) : f_X2_used j Y = some (usX (Y.1 300 j 0) (Y.1 300 j 1) (Y.1 300 j 2), Y) := rfl
theorem usX_n {b o c : Nat} (hb : b < 1000) (ho : o < 1000) (hc : c < 1000) : usX (nI b) (nI o) (nI c) = nI (b + (o - c)) := by
  unfold usX oMaxI
  rw [← nI_add]
  by_cases g : c < o
  · rw [n_sub (by omega), if_pos (by rw [i_lt, nT (by omega), i0]; omega)]
  · have e : (nI o - nI c).toInt = (o : Int) - c := by rw [i_sub (by rw [nT (by omega), nT (by omega)]; omega) (by rw [nT (by omega), nT (by omega)]; omega), nT (by omega), nT (by omega)]
    rw [if_neg (by rw [i_lt, e, i0]; omega), show o - c = 0 by omega]
    rfl
theorem rm_n {r : Nat} : oROOM r = nI (rmN r) := by
  unfold oROOM rmN
  by_cases g0 : r = 0
  · rw [if_pos g0, if_pos g0]; rfl
  · rw [if_neg g0, if_neg g0]
    by_cases g1 : r = 1
    · rw [if_pos g1, if_pos g1]; rfl
    · rw [if_neg g1, if_neg g1]; rfl
theorem rmN_b (r : Nat) : rmN r ≤ 4 := by
  unfold rmN
  by_cases g0 : r = 0
  · rw [if_pos g0]; omega
  · rw [if_neg g0]
    by_cases g1 : r = 1
    · rw [if_pos g1]; omega
    · rw [if_neg g1]; omega
def mixL (A B : Nat → Nat → Int32) (a r i j k : Nat) : Int32 := if (j - 4) % 4 = r ∧ a ≤ (j - 4) / 4 ∧ (j - 4) / 4 < a + i then B j k else A j k
def kpt (B : Nat → Nat → Int32) (a r : Nat) : Nat → Int32
  | 0 => 1
  | i + 1 => if kpt B a r i = 0 then 0 else if oROOM r < usX (B (4 + (4 * (a + i) + r)) 0) (B (4 + (4 * (a + i) + r)) 1) (B (4 + (4 * (a + i) + r)) 2) then 0 else 1
theorem kpt_01 {B : Nat → Nat → Int32} {a r : Nat} : ∀ i, oBl (kpt B a r i) := by
  intro i
  cases i with
  | zero => exact Or.inr rfl
  | succ i =>
    show oBl (if kpt B a r i = 0 then 0 else if oROOM r < usX (B (4 + (4 * (a + i) + r)) 0) (B (4 + (4 * (a + i) + r)) 1) (B (4 + (4 * (a + i) + r)) 2) then 0 else 1)
    by_cases z : kpt B a r i = 0
    · rw [if_pos z]; exact Or.inl rfl
    · rw [if_neg z]
      by_cases y : oROOM r < usX (B (4 + (4 * (a + i) + r)) 0) (B (4 + (4 * (a + i) + r)) 1) (B (4 + (4 * (a + i) + r)) 2)
      · rw [if_pos y]; exact Or.inl rfl
      · rw [if_neg y]; exact Or.inr rfl
theorem occ_g {S : oS} {mb : Int32} {tr ch : Nat → Int32} {A B : Nat → Nat → Int32} {o p r k : Nat} {t : Int32} (ho : o < 4) (hp : p < 3) (hr : r < 4) (hk : k < 8) (hkk : S.1 604 0 o = nI k) (h0 : ∀ s, pI p ≤ s → s < pO p → B (4 + (4 * s + r)) 0 = A (4 + (4 * s + r)) 0 + t * kBg S k ∧ B (4 + (4 * s + r)) 1 = A (4 + (4 * s + r)) 1 + t * kOn S k ∧ B (4 + (4 * s + r)) 2 = A (4 + (4 * s + r)) 2 + t * kCr S k ∧ ∀ i, 3 ≤ i → B (4 + (4 * s + r)) i = A (4 + (4 * s + r)) i) : oLp (f_X5_occupy_L21 (nI o) t (nI p) (nI r)) oFu ((1 : Int32), nI (pI p), sW S mb tr ch A) = some (kpt B (pI p) r (pO p - pI p), sW S mb tr ch (mixL A B (pI p) r (pO p - pI p))) := by
  obtain ⟨p1, p2, p3, p4⟩ := pIO hp
  have ip : oIn (nI p) 3 := (nin (by omega)).mpr hp
  have io : oIn (nI o) 4 := (nin (by omega)).mpr ho
  have ir : oIn (nI r) 4 := (nin (by omega)).mpr hr
  have r1 : oPOUT (nI p).toNatClampNeg = nI (pO p) := by rw [ncl (by omega)]; exact p2
  have r2 : oROOM (nI r).toNatClampNeg = oROOM r := by rw [ncl (by omega)]
  refine oLp_eq (fun i => (kpt B (pI p) r i, nI (pI p + i), sW S mb tr ch (mixL A B (pI p) r i))) _ (pO p - pI p) (by omega) ?_ ?_ ?_
  · have : sW S mb tr ch A = sW S mb tr ch (mixL A B (pI p) r 0) := sW_cg (fun i k _ _ => by unfold mixL; rw [if_neg (by omega)])
    rw [this]
    rfl
  · intro i hi
    obtain ⟨a0, a1, a2, a3⟩ := h0 (pI p + i) (by omega) (by omega)
    obtain ⟨j, hj⟩ : ∃ j, j = 4 + (4 * (pI p + i) + r) := ⟨_, rfl⟩
    have j4 : 4 ≤ j := by omega
    have j12 : j < 12 := by omega
    rw [← hj] at a0 a1 a2 a3
    have eA : ∀ k, mixL A B (pI p) r i j k = A j k := fun k => by unfold mixL; rw [if_neg (by omega)]
    have ek : (sW S mb tr ch (mixL A B (pI p) r i)).1 604 0 (nI o).toNatClampNeg = nI k := by rw [ncl (by omega)]; exact hkk
    have chg := change_ok (S := sW S mb tr ch (mixL A B (pI p) r i)) (j := j) (k := k) (t := t) hk
    rw [sW_ld j4 j12, sW_ld j4 j12, sW_ld j4 j12, eA, eA, eA] at chg
    have chg : f_X2_change j (nI k) t (sW S mb tr ch (mixL A B (pI p) r i)) = some (ldS (sW S mb tr ch (mixL A B (pI p) r i)) j (A j 0 + t * kBg S k) (A j 1 + t * kOn S k) (A j 2 + t * kCr S k)) := chg
    rw [← a0, ← a1, ← a2, sW_ldS j4 j12] at chg
    have eM : sW S mb tr ch (fun i' k' => if i' = j then (if k' = 2 then B j 2 else if k' = 1 then B j 1 else if k' = 0 then B j 0 else mixL A B (pI p) r i i' k') else mixL A B (pI p) r i i' k') = sW S mb tr ch (mixL A B (pI p) r (i + 1)) := sW_cg (fun i' k' h4 h12 => by
      by_cases z : i' = j
      · rw [if_pos z]
        have e1 : mixL A B (pI p) r (i + 1) i' k' = B j k' := by unfold mixL; rw [if_pos (by omega), z]
        have e2 : mixL A B (pI p) r i i' k' = A j k' := by rw [z]; exact eA k'
        rw [e1, e2]
        by_cases y2 : k' = 2
        · rw [if_pos y2, y2]
        · rw [if_neg y2]
          by_cases y1 : k' = 1
          · rw [if_pos y1, y1]
          · rw [if_neg y1]
            by_cases y0 : k' = 0
            · rw [if_pos y0, y0]
            · rw [if_neg y0, a3 k' (by omega)]
      · rw [if_neg z]
        unfold mixL
        by_cases y : (i' - 4) % 4 = r ∧ pI p ≤ (i' - 4) / 4 ∧ (i' - 4) / 4 < pI p + i
        · rw [if_pos y, if_pos (by omega)]
        · rw [if_neg y, if_neg (by omega)])
    rw [eM] at chg
    have hus : f_X2_used j (sW S mb tr ch (mixL A B (pI p) r (i + 1))) = some (usX (B j 0) (B j 1) (B j 2), sW S mb tr ch (mixL A B (pI p) r (i + 1))) := by
      have e1 : ∀ k', mixL A B (pI p) r (i + 1) j k' = B j k' := fun k' => by unfold mixL; rw [if_pos (by omega)]
      rw [used_g, sW_ld j4 j12, sW_ld j4 j12, sW_ld j4 j12, e1, e1, e1]
    have cj : 4 + (nI (4 * (pI p + i) + r)).toNatClampNeg = j := by rw [ncl (by omega), hj]
    show (if oIn (nI p) 3 then (if oPOUT (nI p).toNatClampNeg ≤ nI (pI p + i) then _ else (if oIn (nI (pI p + i) * 4 + nI r) 8 then oLet (4 + (nI (pI p + i) * 4 + nI r).toNatClampNeg) _ else none)) else none) = some (Sum.inl ((if kpt B (pI p) r i = 0 then (0 : Int32) else if oROOM r < usX (B (4 + (4 * (pI p + i) + r)) 0) (B (4 + (4 * (pI p + i) + r)) 1) (B (4 + (4 * (pI p + i) + r)) 2) then 0 else 1), nI (pI p + i + 1), sW S mb tr ch (mixL A B (pI p) r (i + 1))))
    generalize hY : sW S mb tr ch (mixL A B (pI p) r (i + 1)) = Y at chg hus ⊢
    rw [if_pos ip, r1, if_neg (by rw [nI_leI (by omega) (by omega)]; omega), n4, if_pos ((nin (by omega)).mpr (by omega)), cj, oLet_eq, if_pos io, ek, chg, Option.bind_some, ← hj, hus, Option.bind_some, if_pos ir, r2]
    show (if kpt B (pI p) r i = 0 then some (Sum.inl ((0 : Int32), nI (pI p + i) + 1, Y)) else (if oROOM r < usX (B j 0) (B j 1) (B j 2) then some (Sum.inl ((0 : Int32), nI (pI p + i) + 1, Y)) else some (Sum.inl ((1 : Int32), nI (pI p + i) + 1, Y)))) = _
    rw [nI_1]
    by_cases z : kpt B (pI p) r i = 0
    · rw [if_pos z, if_pos z]
    · rw [if_neg z, if_neg z]
      by_cases y : oROOM r < usX (B j 0) (B j 1) (B j 2)
      · rw [if_pos y, if_pos y]
      · rw [if_neg y, if_neg y]
  · show (if oIn (nI p) 3 then (if oPOUT (nI p).toNatClampNeg ≤ nI (pI p + (pO p - pI p)) then _ else _) else none) = _
    rw [if_pos ip, r1, if_pos (by rw [nI_leI (by omega) (by omega)]; omega)]
theorem occ_f {S : oS} {mb : Int32} {tr ch : Nat → Int32} {A B : Nat → Nat → Int32} {o c k : Nat} {t : Int32} (ho : o < 4) (hc : c < 12) (hk : k < 8) (hkk : S.1 604 0 o = nI k) (h0 : ∀ s, pI (c / 4) ≤ s → s < pO (c / 4) → B (4 + (4 * s + c % 4)) 0 = A (4 + (4 * s + c % 4)) 0 + t * kBg S k ∧ B (4 + (4 * s + c % 4)) 1 = A (4 + (4 * s + c % 4)) 1 + t * kOn S k ∧ B (4 + (4 * s + c % 4)) 2 = A (4 + (4 * s + c % 4)) 2 + t * kCr S k ∧ ∀ i, 3 ≤ i → B (4 + (4 * s + c % 4)) i = A (4 + (4 * s + c % 4)) i) (h1 : ∀ j k, 4 ≤ j → j < 12 → ¬ ((j - 4) % 4 = c % 4 ∧ pI (c / 4) ≤ (j - 4) / 4 ∧ (j - 4) / 4 < pO (c / 4)) → B j k = A j k) : f_X5_occupy (nI o) (nI c) t (sW S mb tr ch A) = some (kpt B (pI (c / 4)) (c % 4) (pO (c / 4) - pI (c / 4)), sW S mb tr ch B) := by
  obtain ⟨p1, p2, p3, p4⟩ := pIO (p := c / 4) (by omega)
  have r1 : oPIN (nI (c / 4)).toNatClampNeg = nI (pI (c / 4)) := by rw [ncl (by omega)]; exact p1
  have e : sW S mb tr ch (mixL A B (pI (c / 4)) (c % 4) (pO (c / 4) - pI (c / 4))) = sW S mb tr ch B := sW_cg (fun j k h4 h12 => by
    unfold mixL
    by_cases z : (j - 4) % 4 = c % 4 ∧ pI (c / 4) ≤ (j - 4) / 4 ∧ (j - 4) / 4 < pI (c / 4) + (pO (c / 4) - pI (c / 4))
    · rw [if_pos z]
    · rw [if_neg z]
      exact (h1 j k h4 h12 (by omega)).symm)
  unfold f_X5_occupy
  rw [oLet_eq, oLet_eq, n4d (by omega), n4m (by omega), if_pos ((nin (by omega)).mpr (by omega)), oLet_eq, r1, occ_g ho (by omega) (by omega) hk hkk h0, Option.bind_some, e, if_pos (kpt_01 _)]
