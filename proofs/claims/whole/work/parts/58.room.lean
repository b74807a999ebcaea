theorem lB_none {F : Nat → Int32} {c : Nat} (hc : c ≤ 200) : cSum (lB F (-1)) c = cSum F c := cSum_cg (fun k hk => by
  unfold lB
  rw [if_neg (fun z => by rw [i_eq, nT (by omega)] at z; have : (-1 : Int32).toInt = -1 := rfl; omega)])
theorem lB_but {F : Nat → Int32} {l : Nat} : ∀ c : Nat, c ≤ 200 → l < 200 → cSum (lB F (nI l)) c + (if l < c then F l else 0) = cSum F c := by
  intro c
  induction c with
  | zero => intro _ _; rw [if_neg (by omega)]; rfl
  | succ c ih =>
    intro hc hl
    have := ih (by omega) hl
    show cSum (lB F (nI l)) c + lB F (nI l) c + _ = cSum F c + F c
    unfold lB
    by_cases h : c = l
    · subst h
      rw [if_neg (by omega)] at this
      rw [if_pos rfl, if_pos (by omega), ← this]
      show cSum (lB F (nI c)) c + 0 + F c = _
      unfold lB
      grind
    · rw [if_neg (fun z => h ((nI_eq (by omega) (by omega)).mp z)), ← this]
      by_cases h2 : l < c
      · rw [if_pos h2, if_pos (by omega)]
        show cSum (lB F (nI l)) c + F c + F l = _
        grind
      · rw [if_neg h2, if_neg (by omega)]
        show cSum (lB F (nI l)) c + F c + 0 = _
        grind
/-- the loaves as both sides have them -/
theorem lo_facts {S : oS} (hk : iKin S) (hl : iLoa S) : ∃ c : Nat, c ≤ 200 ∧ S.1 1000 0 24 = nI c ∧ S.1 400 0 8 = nI c ∧ (S.1 1000 0 24).toInt = c ∧ (∀ l, l < c → ∃ k : Nat, k < 8 ∧ (k : Int) < (S.1 1000 0 13).toInt ∧ S.1 1026 0 l = nI k) ∧ (∀ q, q < 4 → S.1 300 q 0 = cSum (lBig S (nI q)) c ∧ S.1 300 q 1 = cSum (lOne S (nI q)) c ∧ S.1 300 q 2 = cSum (lCro S (nI q)) c) ∧ S.1 400 0 9 = cSum (lIn S) c := by
  obtain ⟨⟨a1, a2⟩, -, -, d, e, f⟩ := hl
  obtain ⟨⟨k1, k2⟩, -⟩ := hk
  obtain ⟨c, c1, c2, c3⟩ := rg_nat a2
  have ct : (S.1 1000 0 24).toInt.toNat = c := by rw [c3]; omega
  rw [ct] at f e
  refine ⟨c, by omega, c2, a1.trans c2, c3, fun l hl => ?_, f, e.1⟩
  have := d l (by omega)
  exact ⟨(S.1 1026 0 l).toInt.toNat, by have := k2.2; omega, by omega, i_nat this.1⟩
theorem lOne_01 (S : oS) (q : Int32) (l : Nat) : lOne S q l = 0 ∨ lOne S q l = 1 := by
  unfold lOne
  by_cases h : S.1 1027 0 l = q
  · rw [if_pos h]
    by_cases g : S.1 1015 0 (S.1 1026 0 l).toNatClampNeg = 1
    · rw [if_pos g]; exact Or.inr rfl
    · rw [if_neg g]; exact Or.inl rfl
  · rw [if_neg h]; exact Or.inl rfl
theorem lCro_01 (S : oS) (q : Int32) (l : Nat) : lCro S q l = 0 ∨ lCro S q l = 1 := by
  unfold lCro
  by_cases h : S.1 1027 0 l = q
  · rw [if_pos h]
    by_cases g : S.1 1016 0 (S.1 1026 0 l).toNatClampNeg = 0
    · rw [if_pos g]; exact Or.inl rfl
    · rw [if_neg g]; exact Or.inr rfl
  · rw [if_neg h]; exact Or.inl rfl
theorem lB_01 {F : Nat → Int32} (h : ∀ l, F l = 0 ∨ F l = 1) (but : Int32) (l : Nat) : lB F but l = 0 ∨ lB F but l = 1 := by
  unfold lB
  by_cases g : nI l = but
  · rw [if_pos g]; exact Or.inl rfl
  · rw [if_neg g]; exact h l
theorem rg_up {x : Int32} {a b c : Int} (h : rg x a b) (hb : b ≤ c) : rg x a c := ⟨h.1, by have := h.2; omega⟩
/-- the reference's count of a ring is the class's load -/
theorem ring_eq {S : oS} (hk : iKin S) (hl : iLoa S) {q : Nat} (hq : q < 4) : f_X9_countRing (nI q) (-1) S = some (cmS S (S.1 300 q 1) (S.1 300 q 2) (S.1 300 q 0)) ∧ rg (S.1 300 q 1) 0 200 ∧ rg (S.1 300 q 2) 0 200 := by
  obtain ⟨c, c1, c2, c3, c4, c5, c6, c7⟩ := lo_facts hk hl
  obtain ⟨f0, f1, f2⟩ := c6 q hq
  refine ⟨?_, ?_, ?_⟩
  · rw [countRing_ok c2 c1 (fun l hl => by obtain ⟨k, k1, -, k2⟩ := c5 l hl; exact ⟨k, k1, k2⟩), lB_none c1, lB_none c1, lB_none c1, f0, f1, f2]
  · rw [f1]; exact rg_up (cSum_01 c (by omega) (fun k _ => lOne_01 S _ k)) (by omega)
  · rw [f2]; exact rg_up (cSum_01 c (by omega) (fun k _ => lCro_01 S _ k)) (by omega)
set_option maxHeartbeats 1000000 in
theorem pr_room (n : Nat) (q : Int32) : oPair n (f_X8_room q) (f_X9_room q) := by
  intro S h
  by_cases hq : (0 : Int32) ≤ q ∧ q ≤ 3
  · obtain ⟨p1, p2, p3, p4, p5⟩ := h.up
    obtain ⟨r, hr, rfl⟩ := wk_nat (m := 3) rfl hq
    obtain ⟨e1, e2, e3⟩ := ring_eq p3 p4 (q := r) (by omega)
    have hin : oIn (nI r) 4 := (nin (by omega)).mpr (by omega)
    have hu := us_eq (b := S.1 300 r 0) (rg_up e2 (by decide)) (rg_up e3 (by decide))
    have e0 : 0 + (nI r).toNatClampNeg = r := by rw [ncl (by omega)]; omega
    have e00 : (nI r).toNatClampNeg = r := ncl (by omega)
    refine ⟨oROOM r - usM (S.1 300 r 0) (S.1 300 r 1) (S.1 300 r 2), S, cmS S (S.1 300 r 1) (S.1 300 r 2) (S.1 300 r 0), ?_, ?_, ⟨p1, p2, p3, p4, p5⟩⟩
    · simp only [f_X8_room, rgX, Option.bind_some, if_pos hq, if10, if_pos hin, oLet, f_X2_used, e0]
      rw [e00, ← hu]
      rfl
    · simp only [f_X9_room, rgM, Option.bind_some, if_pos hq, if10, e1, roomOf_ok _ (show r < 4 by omega), used_ok]
  · exact pair_id (r := -2) h (by simp only [f_X8_room, rgX, Option.bind_some, if_neg hq, if_true]) (by simp only [f_X9_room, rgM, Option.bind_some, if_neg hq, if_true])
/-- does a kind fit into a ring: both sides -/
theorem kd_eq {S : oS} (hk : iKin S) {k : Nat} (h : (k : Int) < (S.1 1000 0 13).toInt) : kOn S k = mOn S k ∧ kCr S k = mCr S k ∧ kBg S k = mBg S k ∧ (mOn S k = 0 ∨ mOn S k = 1) ∧ (mCr S k = 0 ∨ mCr S k = 1) := by
  obtain ⟨-, k2, -, k4⟩ := hk
  obtain ⟨a1, a2, -⟩ := k2 k
  obtain ⟨b1, b2⟩ := (k4 k).2 h
  unfold kOn mOn kCr mCr kBg mBg
  rw [a1, a2]
  refine ⟨rfl, rfl, ?_, ?_, ?_⟩
  · by_cases g : S.1 1015 0 k = 1
    · rw [if_pos g, if_neg (by rw [g]; decide)]
    · rw [if_neg g, if_pos (by
        rw [i_lt]
        have : ¬ (S.1 1015 0 k).toInt = 1 := fun z => g (i_eq.mpr z)
        have := b1.1
        show (1 : Int) < _
        omega)]
  · by_cases g : S.1 1015 0 k = 1
    · rw [if_pos g]; exact Or.inr rfl
    · rw [if_neg g]; exact Or.inl rfl
  · by_cases g : S.1 1016 0 k = 0
    · rw [if_pos g]; exact Or.inl rfl
    · rw [if_neg g]; exact Or.inr rfl
theorem rg_01 {x y : Int32} {N : Int} (h : rg x 0 N) (hy : y = 0 ∨ y = 1) (hN : N ≤ 900) : rg (x + y) 0 (N + 1) := by
  obtain ⟨a, b⟩ := h
  rcases hy with rfl | rfl
  · rw [Int32.add_zero]; exact ⟨a, by omega⟩
  · have e : (x + 1).toInt = x.toInt + 1 := i_add (by show _ ≤ _ + (1 : Int); omega) (by show _ + (1 : Int) ≤ _; omega)
    exact ⟨by omega, by omega⟩
def fitB (S : oS) (q k : Nat) : Int32 := if oROOM q < usM (S.1 300 q 0 + mBg S k) (S.1 300 q 1 + mOn S k) (S.1 300 q 2 + mCr S k) then 0 else 1
theorem fits_X {S : oS} (hk : iKin S) (hl : iLoa S) {q k : Nat} (hq : q < 4) (h8 : k < 8) (h : (k : Int) < (S.1 1000 0 13).toInt) : f_X3_fits (nI k) (nI q) S = some (fitB S q k, S) := by
  obtain ⟨-, e2, e3⟩ := ring_eq hk hl hq
  obtain ⟨d1, d2, d3, d4, d5⟩ := kd_eq hk h
  unfold f_X3_fits
  rw [usedWith_ok h8 hq, Option.bind_some, if_pos ((nin (by omega)).mpr hq)]
  have e00 : oROOM (nI q).toNatClampNeg = oROOM q := by rw [ncl (by omega)]
  rw [e00]
  have o1 : ∀ x : Int32, (1 : Int32) * x = x := fun x => by grind
  show (if oROOM q < usX (S.1 300 q 0 + 1 * kBg S k) (S.1 300 q 1 + 1 * kOn S k) (S.1 300 q 2 + 1 * kCr S k) then _ else _) = _
  rw [o1, o1, o1, d1, d2, d3, us_eq (rg_up (rg_01 e2 d4 (by decide)) (by decide)) (rg_up (rg_01 e3 d5 (by decide)) (by decide))]
  unfold fitB
  by_cases g : oROOM q < usM (S.1 300 q 0 + mBg S k) (S.1 300 q 1 + mOn S k) (S.1 300 q 2 + mCr S k)
  · rw [if_pos g, if_pos g]
  · rw [if_neg g, if_neg g]
theorem fits_M {S T : oS} (hk : iKin S) (hl : iLoa S) (hT : iKin T ∧ iLoa T) (e3 : ∀ q, q < 4 → T.1 300 q = S.1 300 q) (e15 : T.1 1015 0 = S.1 1015 0) (e16 : T.1 1016 0 = S.1 1016 0) {q k : Nat} (hq : q < 4) (h8 : k < 8) : f_X9_hasRoom (nI q) (nI k) T = some (fitB S q k, cmS T (S.1 300 q 1 + mOn S k) (S.1 300 q 2 + mCr S k) (S.1 300 q 0 + mBg S k)) := by
  obtain ⟨r1, -, -⟩ := ring_eq hT.1 hT.2 hq
  unfold f_X9_hasRoom
  rw [r1, Option.bind_some, countKind_ok h8, Option.bind_some, used_ok, Option.bind_some, roomOf_ok _ hq, Option.bind_some]
  have a1 : mOn T k = mOn S k := by unfold mOn; rw [e15]
  have a2 : mCr T k = mCr S k := by unfold mCr; rw [e16]
  have a3 : mBg T k = mBg S k := by unfold mBg; rw [e15]
  rw [a1, a2, a3, e3 q hq]
  unfold fitB
  show (if oROOM q < usM _ _ _ then _ else _) = _
  by_cases g : oROOM q < usM (S.1 300 q 0 + mBg S k) (S.1 300 q 1 + mOn S k) (S.1 300 q 2 + mCr S k)
  · rw [if_pos g, if_pos g]
  · rw [if_neg g, if_neg g]
