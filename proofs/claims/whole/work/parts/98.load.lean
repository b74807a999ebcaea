/-- the loads of the first n orders of a plan -/
def LD (S : oS) (W : Nat) (on cr bg g : Nat → Nat) (n i k : Nat) : Int32 := if k = 0 then nI (sm W bg g ((i - 4) / 4) ((i - 4) % 4) n) else if k = 1 then nI (sm W on g ((i - 4) / 4) ((i - 4) % 4) n) else if k = 2 then nI (sm W cr g ((i - 4) / 4) ((i - 4) % 4) n) else S.1 300 i k
theorem LD_cg {S : oS} {W : Nat} {on cr bg g h : Nat → Nat} {n : Nat} (e : ∀ i, i < n → g i = h i) : LD S W on cr bg g n = LD S W on cr bg h n := funext fun i => funext fun k => by
  unfold LD
  rw [sm_cg n e, sm_cg n e, sm_cg n e]
theorem LD_0 {S : oS} {W : Nat} {on cr bg g : Nat → Nat} {n i : Nat} : LD S W on cr bg g n i 0 = nI (sm W bg g ((i - 4) / 4) ((i - 4) % 4) n) := if_pos rfl
theorem LD_1 {S : oS} {W : Nat} {on cr bg g : Nat → Nat} {n i : Nat} : LD S W on cr bg g n i 1 = nI (sm W on g ((i - 4) / 4) ((i - 4) % 4) n) := rfl
theorem LD_2 {S : oS} {W : Nat} {on cr bg g : Nat → Nat} {n i : Nat} : LD S W on cr bg g n i 2 = nI (sm W cr g ((i - 4) / 4) ((i - 4) % 4) n) := rfl
theorem LD_3 {S : oS} {W : Nat} {on cr bg g : Nat → Nat} {n i k : Nat} (h : 3 ≤ k) : LD S W on cr bg g n i k = S.1 300 i k := by
  unfold LD
  rw [if_neg (by omega), if_neg (by omega), if_neg (by omega)]
theorem sm_s {W : Nat} {x g : Nat → Nat} {s r o : Nat} : sm W x g s r (o + 1) = sm W x g s r o + ctb W (g o) s r * x o := rfl
theorem ctb_y {W w s : Nat} (hw : w < W) (h1 : pI (w / 4) ≤ s) (h2 : s < pO (w / 4)) : ctb W w s (w % 4) = 1 := if_pos ⟨hw, rfl, h1, h2⟩
theorem ctb_n {W w s r : Nat} (h : ¬ (r = w % 4 ∧ pI (w / 4) ≤ s ∧ s < pO (w / 4))) : ctb W w s r = 0 := if_neg (fun z => h ⟨z.2.1.symm, z.2.2.1, z.2.2.2⟩)
theorem ctb_W {W s r : Nat} : ctb W W s r = 0 := if_neg (fun z => absurd z.1 (Nat.lt_irrefl _))
theorem LD_n {S : oS} {W : Nat} {on cr bg g : Nat → Nat} {o j : Nat} (h : ctb W (g o) ((j - 4) / 4) ((j - 4) % 4) = 0) (k : Nat) : LD S W on cr bg g (o + 1) j k = LD S W on cr bg g o j k := by
  unfold LD
  rw [sm_s, sm_s, sm_s, h, Nat.zero_mul, Nat.zero_mul, Nat.zero_mul, Nat.add_zero, Nat.add_zero, Nat.add_zero]
/-- what the kinds of the orders take -/
def kdS (S : oS) (kd on cr bg : Nat → Nat) (K : Nat) : Prop := ∀ o, o < K → S.1 604 0 o = nI (kd o) ∧ kd o < 8 ∧ kOn S (kd o) = nI (on o) ∧ kCr S (kd o) = nI (cr o) ∧ kBg S (kd o) = nI (bg o)
theorem occ_in {S : oS} {W K : Nat} {kd on cr bg g : Nat → Nat} (hS : kdS S kd on cr bg K) (hK : K ≤ 4) {o c : Nat} (ho : o < K) (hW : W ≤ 12) (hc : c < W) (hg : g o = c) (mb : Int32) (tr ch : Nat → Int32) : f_X5_occupy (nI o) (nI c) 1 (sW S mb tr ch (LD S W on cr bg g o)) = some (kpt (LD S W on cr bg g (o + 1)) (pI (c / 4)) (c % 4) (pO (c / 4) - pI (c / 4)), sW S mb tr ch (LD S W on cr bg g (o + 1))) := by
  obtain ⟨k1, k2, k3, k4, k5⟩ := hS o ho
  refine occ_f (by omega) (by omega) k2 k1 (fun s h1 h2 => ?_) (fun j k h4 h12 hn => ?_)
  · have e1 : (4 + (4 * s + c % 4) - 4) / 4 = s := by omega
    have e2 : (4 + (4 * s + c % 4) - 4) % 4 = c % 4 := by omega
    refine ⟨?_, ?_, ?_, fun i hi => by rw [LD_3 hi, LD_3 hi]⟩
    · rw [LD_0, LD_0, e1, e2, sm_s, hg, ctb_y hc h1 h2, k5, ← nI_add, Nat.one_mul, Int32.one_mul]
    · rw [LD_1, LD_1, e1, e2, sm_s, hg, ctb_y hc h1 h2, k3, ← nI_add, Nat.one_mul, Int32.one_mul]
    · rw [LD_2, LD_2, e1, e2, sm_s, hg, ctb_y hc h1 h2, k4, ← nI_add, Nat.one_mul, Int32.one_mul]
  · exact LD_n (by rw [hg]; exact ctb_n hn) k
theorem occ_out {S : oS} {W K : Nat} {kd on cr bg g : Nat → Nat} (hS : kdS S kd on cr bg K) (hK : K ≤ 4) {o c : Nat} (ho : o < K) (hW : W ≤ 12) (hc : c < W) (hg : g o = c) (mb : Int32) (tr ch : Nat → Int32) : ∃ x, f_X5_occupy (nI o) (nI c) (-1) (sW S mb tr ch (LD S W on cr bg g (o + 1))) = some (x, sW S mb tr ch (LD S W on cr bg g o)) := by
  obtain ⟨k1, k2, k3, k4, k5⟩ := hS o ho
  refine ⟨_, occ_f (by omega) (by omega) k2 k1 (fun s h1 h2 => ?_) (fun j k h4 h12 hn => ?_)⟩
  · have e1 : (4 + (4 * s + c % 4) - 4) / 4 = s := by omega
    have e2 : (4 + (4 * s + c % 4) - 4) % 4 = c % 4 := by omega
    refine ⟨?_, ?_, ?_, fun i hi => by rw [LD_3 hi, LD_3 hi]⟩
    · rw [LD_0, LD_0, e1, e2, sm_s, hg, ctb_y hc h1 h2, k5, ← nI_add, Nat.one_mul]; grind
    · rw [LD_1, LD_1, e1, e2, sm_s, hg, ctb_y hc h1 h2, k3, ← nI_add, Nat.one_mul]; grind
    · rw [LD_2, LD_2, e1, e2, sm_s, hg, ctb_y hc h1 h2, k4, ← nI_add, Nat.one_mul]; grind
  · exact (LD_n (by rw [hg]; exact ctb_n hn) k).symm
theorem kd3 {on cr bg : Nat → Nat} {K : Nat} (hk : kdK on cr bg K) : (∀ o, o < K → on o ≤ 3) ∧ (∀ o, o < K → cr o ≤ 3) ∧ ∀ o, o < K → bg o ≤ 3 := ⟨fun o ho => by have := hk o ho; omega, fun o ho => by have := hk o ho; omega, fun o ho => by have := hk o ho; omega⟩
theorem kpt_us {S : oS} {W K : Nat} {on cr bg g : Nat → Nat} (hk : kdK on cr bg K) (hK : K ≤ 4) {n a r : Nat} (hn : n ≤ K) (hr : r < 4) : ∀ i, (kpt (LD S W on cr bg g n) a r i = 1 ∧ ∀ s, a ≤ s → s < a + i → us W on cr bg g s r n ≤ rmN r) ∨ (kpt (LD S W on cr bg g n) a r i = 0 ∧ ∃ s, a ≤ s ∧ s < a + i ∧ rmN r < us W on cr bg g s r n) := by
  obtain ⟨x1, x2, x3⟩ := kd3 hk
  intro i
  induction i with
  | zero => exact Or.inl ⟨rfl, fun s h1 h2 => by omega⟩
  | succ i ih =>
    have e1 : (4 + (4 * (a + i) + r) - 4) / 4 = a + i := by omega
    have e2 : (4 + (4 * (a + i) + r) - 4) % 4 = r := by omega
    have b1 := sm_le (W := W) (g := g) (s := a + i) (r := r) x1 n hn
    have b2 := sm_le (W := W) (g := g) (s := a + i) (r := r) x2 n hn
    have b3 := sm_le (W := W) (g := g) (s := a + i) (r := r) x3 n hn
    have hu : usX (LD S W on cr bg g n (4 + (4 * (a + i) + r)) 0) (LD S W on cr bg g n (4 + (4 * (a + i) + r)) 1) (LD S W on cr bg g n (4 + (4 * (a + i) + r)) 2) = nI (us W on cr bg g (a + i) r n) := by
      rw [LD_0, LD_1, LD_2, e1, e2, usX_n (by omega) (by omega) (by omega)]
      rfl
    have hb : us W on cr bg g (a + i) r n < 1000 := by unfold us; omega
    have hrm := rmN_b r
    show ((if kpt (LD S W on cr bg g n) a r i = 0 then (0 : Int32) else if oROOM r < usX (LD S W on cr bg g n (4 + (4 * (a + i) + r)) 0) (LD S W on cr bg g n (4 + (4 * (a + i) + r)) 1) (LD S W on cr bg g n (4 + (4 * (a + i) + r)) 2) then 0 else 1) = 1 ∧ _) ∨ ((if kpt (LD S W on cr bg g n) a r i = 0 then (0 : Int32) else if oROOM r < usX (LD S W on cr bg g n (4 + (4 * (a + i) + r)) 0) (LD S W on cr bg g n (4 + (4 * (a + i) + r)) 1) (LD S W on cr bg g n (4 + (4 * (a + i) + r)) 2) then 0 else 1) = 0 ∧ _)
    rw [hu, rm_n]
    rcases ih with ⟨h1, h2⟩ | ⟨h1, s, h2, h3, h4⟩
    · rw [if_neg (by rw [h1]; decide)]
      by_cases z : nI (rmN r) < nI (us W on cr bg g (a + i) r n)
      · rw [if_pos z]
        rw [nI_ltI (by omega) (by omega)] at z
        exact Or.inr ⟨rfl, a + i, by omega, by omega, z⟩
      · rw [if_neg z]
        rw [nI_ltI (by omega) (by omega)] at z
        refine Or.inl ⟨rfl, fun s q1 q2 => ?_⟩
        by_cases y : s = a + i
        · rw [y]; omega
        · exact h2 s q1 (by omega)
    · rw [if_pos h1]
      exact Or.inr ⟨rfl, s, h2, by omega, h4⟩
theorem keep_X {S : oS} {mb : Int32} {tr ch : Nat → Int32} {ld : Nat → Nat → Int32} {v : Int32} : f_X5_keepIfBetter v (sW S mb tr ch ld) = some (if v ≤ mb then sW S mb tr ch ld else sW S v tr (fun k => if k < 4 then tr k else ch k) ld) := by
  have c0 : Int32.toNatClampNeg (0 : Int32) = 0 := rfl
  have c4 : Int32.toNatClampNeg (4 : Int32) = 4 := rfl
  have e1 : oStI (sW S mb tr ch ld) 600 0 12 v = sW S v tr ch ld := by
    refine oS_ext (fun t i k => ?_) (fun t i k => rfl)
    show (if t = 600 ∧ i = 0 ∧ k = 12 then v else (sW S mb tr ch ld).1 t i k) = _
    rw [sW_1, sW_1]
    grind
  have e2 : oCpI (sW S v tr ch ld) 609 0 0 610 0 0 4 = sW S v tr (fun k => if k < 4 then tr k else ch k) ld := by
    refine oS_ext (fun t i k => ?_) (fun t i k => rfl)
    show (if t = 610 ∧ i = 0 ∧ 0 ≤ k ∧ k < 0 + 4 then (sW S v tr ch ld).1 609 0 (0 + (k - 0)) else (sW S v tr ch ld).1 t i k) = _
    rw [show (sW S v tr ch ld).1 609 0 (0 + (k - 0)) = tr k by rw [Nat.zero_add, Nat.sub_zero]; rfl, sW_1, sW_1]
    grind
  unfold f_X5_keepIfBetter
  show (if v ≤ mb then _ else _) = _
  by_cases g : v ≤ mb
  · rw [if_pos g, if_pos g]
  · rw [if_neg g, if_neg g, oLet_eq, e1, oLet_eq, c0, c4, e2]
