/-! Does a plan keep the room of each ring between its openings? -/
theorem usM_n {b o c : Nat} (hb : b < 1000) (ho : o < 1000) (hc : c < 1000) : usM (nI b) (nI o) (nI c) = nI (b + (o - c)) := by
  unfold usM
  by_cases g : o ≤ c
  · rw [if_pos (by rw [nI_leI (by omega) (by omega)]; exact g), Int32.add_zero, show b + (o - c) = b by omega]
  · rw [if_neg (by rw [nI_leI (by omega) (by omega)]; exact g), n_sub (by omega), nI_add]
theorem none_M {X : oS} {o c g : Int32} : f_X9_countNone (cmS X o c g) = some (cmS X 0 0 0) := by
  unfold f_X9_countNone
  simp only [oLet, cmS_o, cmS_c, cmS_g]
/-- what the kinds of the orders take, by the reference's cells -/
def kdM' (X : oS) (kd on cr bg : Nat → Nat) (K : Nat) : Prop := ∀ o, o < K → X.1 1034 0 o = nI (kd o) ∧ kd o < 8 ∧ mOn X (kd o) = nI (on o) ∧ mCr X (kd o) = nI (cr o) ∧ mBg X (kd o) = nI (bg o)
/-- the plan and its ways in the reference's cells -/
def rmH (X : oS) (W K Q : Nat) (g kd on cr bg : Nat → Nat) : Prop := X.1 1000 0 32 = nI K ∧ K ≤ 4 ∧ X.1 1000 0 57 = nI W ∧ W ≤ 12 ∧ X.1 1000 0 34 = nI Q ∧ Q ≤ 3 ∧ kdK on cr bg K ∧ kdM' X kd on cr bg K ∧ (∀ o, o < K → X.1 1063 0 o = nI (g o) ∧ g o ≤ W) ∧ ∀ w, w < W → X.1 1059 0 w = nI (pI (w / 4)) ∧ X.1 1060 0 w = nI (pO (w / 4)) ∧ X.1 1061 0 w = nI (w % 4)
theorem room25 {X : oS} {W K Q : Nat} {g kd on cr bg : Nat → Nat} (h : rmH X W K Q g kd on cr bg) {s r : Nat} (hs : s < 3) (hr : r < 4) : oLp (f_X9_keepsRoom_L25 (nI s) (nI r)) oFu ((0 : Int32), cmS X 0 0 0) = some (cmS X (nI (sm W on g s r K)) (nI (sm W cr g s r K)) (nI (sm W bg g s r K))) := by
  obtain ⟨h1, h2, h3, h4, h5, h6, h7, h8, h9, h10⟩ := h
  refine oLp_eq (fun i => (nI i, cmS X (nI (sm W on g s r i)) (nI (sm W cr g s r i)) (nI (sm W bg g s r i)))) _ K (by omega) rfl ?_ ?_
  · intro i hi
    obtain ⟨k1, k2, k3, k4, k5⟩ := h8 i hi
    obtain ⟨g1, g2⟩ := h9 i hi
    have c1 : (nI i).toNatClampNeg = i := ncl (by omega)
    have i4 : oIn (nI i) 4 := (nin (by omega)).mpr (by omega)
    have eg : X.1 1063 0 (nI i).toNatClampNeg = nI (g i) := by rw [c1]; exact g1
    have ek : X.1 1034 0 (nI i).toNatClampNeg = nI (kd i) := by rw [c1]; exact k1
    have skip : ctb W (g i) s r = 0 → some (Sum.inl (nI i + 1, cmS X (nI (sm W on g s r i)) (nI (sm W cr g s r i)) (nI (sm W bg g s r i)))) = (some (Sum.inl (nI (i + 1), cmS X (nI (sm W on g s r (i + 1))) (nI (sm W cr g s r (i + 1))) (nI (sm W bg g s r (i + 1))))) : Option ((Int32 × oS) ⊕ oS)) := by
      intro z
      rw [sm_s, sm_s, sm_s, z, Nat.zero_mul, Nat.zero_mul, Nat.zero_mul, nI_1]
      rfl
    have ck := countKind_ok (S := X) (k := kd i) (o := nI (sm W on g s r i)) (c := nI (sm W cr g s r i)) (g := nI (sm W bg g s r i)) k2
    rw [k3, k4, k5, nI_add, nI_add, nI_add] at ck
    show (if X.1 1000 0 32 ≤ nI i then _ else (if oIn (nI i) 4 then oLet (X.1 1063 0 (nI i).toNatClampNeg) _ else none)) = _
    rw [h1, if_neg (by rw [nI_leI (by omega) (by omega)]; omega), if_pos i4, eg, oLet_eq]
    show (if X.1 1000 0 57 ≤ nI (g i) then _ else (if oIn (nI (g i)) 13 then (if X.1 1061 0 (nI (g i)).toNatClampNeg = nI r then (if oIn (nI (g i)) 13 then (if nI s < X.1 1059 0 (nI (g i)).toNatClampNeg then _ else (if oIn (nI (g i)) 13 then (if X.1 1060 0 (nI (g i)).toNatClampNeg ≤ nI s then _ else (if oIn (nI i) 4 then (f_X9_countKind (X.1 1034 0 (nI i).toNatClampNeg) (cmS X (nI (sm W on g s r i)) (nI (sm W cr g s r i)) (nI (sm W bg g s r i)))).bind _ else none)) else none)) else none) else _) else none)) = _
    rw [h3]
    by_cases z : W ≤ g i
    · rw [if_pos (by rw [nI_leI (by omega) (by omega)]; exact z), oLet_eq]
      exact skip (if_neg (fun y => by omega))
    · obtain ⟨w1, w2, w3⟩ := h10 (g i) (by omega)
      have cg : (nI (g i)).toNatClampNeg = g i := ncl (by omega)
      have i13 : oIn (nI (g i)) 13 := (nin (by omega)).mpr (by omega)
      have e1 : X.1 1059 0 (nI (g i)).toNatClampNeg = nI (pI (g i / 4)) := by rw [cg]; exact w1
      have e2 : X.1 1060 0 (nI (g i)).toNatClampNeg = nI (pO (g i / 4)) := by rw [cg]; exact w2
      have e3 : X.1 1061 0 (nI (g i)).toNatClampNeg = nI (g i % 4) := by rw [cg]; exact w3
      obtain ⟨p1, p2, p3, p4⟩ := pIO (p := g i / 4) (by omega)
      rw [if_neg (by rw [nI_leI (by omega) (by omega)]; exact z), if_pos i13, e3]
      by_cases y : g i % 4 = r
      · rw [if_pos (by rw [y]), if_pos i13, e1]
        by_cases x : s < pI (g i / 4)
        · rw [if_pos (by rw [nI_ltI (by omega) (by omega)]; exact x), oLet_eq]
          exact skip (if_neg (fun v => by omega))
        · rw [if_neg (by rw [nI_ltI (by omega) (by omega)]; exact x), if_pos i13, e2]
          by_cases u : pO (g i / 4) ≤ s
          · rw [if_pos (by rw [nI_leI (by omega) (by omega)]; exact u), oLet_eq]
            exact skip (if_neg (fun v => by omega))
          · rw [if_neg (by rw [nI_leI (by omega) (by omega)]; exact u), if_pos i4, ek, ck, Option.bind_some, oLet_eq, nI_1]
            have z1 : ctb W (g i) s r = 1 := if_pos ⟨by omega, y, by omega, by omega⟩
            show _ = some (Sum.inl (nI (i + 1), cmS X (nI (sm W on g s r i + ctb W (g i) s r * on i)) (nI (sm W cr g s r i + ctb W (g i) s r * cr i)) (nI (sm W bg g s r i + ctb W (g i) s r * bg i))))
            rw [z1, Nat.one_mul, Nat.one_mul, Nat.one_mul]
      · rw [if_neg (by rw [nI_eq (by omega) (by omega)]; exact y), oLet_eq]
        exact skip (if_neg (fun v => y v.2.1))
  · show (if X.1 1000 0 32 ≤ nI K then _ else _) = _
    rw [h1, if_pos (by rw [i_le]; exact Int.le_refl _)]
theorem room14 {X : oS} {W K Q : Nat} {g kd on cr bg : Nat → Nat} (h : rmH X W K Q g kd on cr bg) {s : Nat} (hs : s < 3) (o c b : Int32) : ∃ o' c' b' x, oLp (f_X9_keepsRoom_L14 (nI s)) oFu ((0 : Int32), cmS X o c b) = some x ∧ ((x = Sum.inl (cmS X o' c' b') ∧ ∀ r, r < 4 → us W on cr bg g s r K ≤ rmN r) ∨ (x = Sum.inr ((0 : Int32), cmS X o' c' b') ∧ ∃ r, r < 4 ∧ rmN r < us W on cr bg g s r K)) := by
  have h' := h
  obtain ⟨h1, h2, h3, h4, h5, h6, h7, h8, h9, h10⟩ := h'
  obtain ⟨x1, x2, x3⟩ := kd3 h7
  have e : ∃ x, oLp (f_X9_keepsRoom_L14 (nI s)) oFu ((0 : Int32), cmS X o c b) = some x ∧ ∃ o' c' b', ((x = Sum.inl (cmS X o' c' b') ∧ ∀ r, r < 4 → us W on cr bg g s r K ≤ rmN r) ∨ (x = Sum.inr ((0 : Int32), cmS X o' c' b') ∧ ∃ r, r < 4 ∧ rmN r < us W on cr bg g s r K)) := by
    refine oLp_inv (fun i st => (∃ o' c' b', st = (nI i, cmS X o' c' b')) ∧ ∀ r, r < i → us W on cr bg g s r K ≤ rmN r) (fun x => ∃ o' c' b', ((x = Sum.inl (cmS X o' c' b') ∧ ∀ r, r < 4 → us W on cr bg g s r K ≤ rmN r) ∨ (x = Sum.inr ((0 : Int32), cmS X o' c' b') ∧ ∃ r, r < 4 ∧ rmN r < us W on cr bg g s r K))) 4 oFu 0 ((0 : Int32), cmS X o c b) ⟨⟨o, c, b, rfl⟩, fun r hr => absurd hr (Nat.not_lt_zero _)⟩ (by show 4 - 0 < 100000; omega) (by omega) ?_ ?_
    · rintro i st hi ⟨⟨o', c', b', rfl⟩, hI⟩
      have b1 := sm_le (W := W) (g := g) (s := s) (r := i) x1 K (Nat.le_refl _)
      have b2 := sm_le (W := W) (g := g) (s := s) (r := i) x2 K (Nat.le_refl _)
      have b3 := sm_le (W := W) (g := g) (s := s) (r := i) x3 K (Nat.le_refl _)
      have hu : usM (nI (sm W bg g s i K)) (nI (sm W on g s i K)) (nI (sm W cr g s i K)) = nI (us W on cr bg g s i K) := usM_n (by omega) (by omega) (by omega)
      have hb : us W on cr bg g s i K < 1000 := by unfold us; omega
      have hrm := rmN_b i
      show (∃ s', (if (4 : Int32) ≤ nI i then _ else _) = _ ∧ _) ∨ (∃ r, (if (4 : Int32) ≤ nI i then _ else _) = _ ∧ _)
      rw [if_neg (le4 hi), none_M, Option.bind_some, room25 h hs hi, Option.bind_some, used_ok, Option.bind_some, roomOf_ok _ hi, Option.bind_some, hu, rm_n]
      by_cases z : us W on cr bg g s i K ≤ rmN i
      · refine Or.inl ⟨(nI (i + 1), cmS X (nI (sm W on g s i K)) (nI (sm W cr g s i K)) (nI (sm W bg g s i K))), ?_, ⟨_, _, _, rfl⟩, fun r hr => ?_⟩
        · show (if nI (us W on cr bg g s i K) ≤ nI (rmN i) then _ else _) = _
          rw [if_pos (by rw [nI_leI (by omega) (by omega)]; exact z), oLet_eq, nI_1]
        · by_cases y : r = i
          · rw [y]; exact z
          · exact hI r (by omega)
      · refine Or.inr ⟨Sum.inr ((0 : Int32), cmS X (nI (sm W on g s i K)) (nI (sm W cr g s i K)) (nI (sm W bg g s i K))), ?_, _, _, _, Or.inr ⟨rfl, i, hi, by omega⟩⟩
        show (if nI (us W on cr bg g s i K) ≤ nI (rmN i) then _ else _) = _
        rw [if_neg (by rw [nI_leI (by omega) (by omega)]; exact z)]
    · rintro st ⟨⟨o', c', b', rfl⟩, hI⟩
      exact ⟨_, rfl, o', c', b', Or.inl ⟨rfl, hI⟩⟩
  obtain ⟨x, e1, o', c', b', e2⟩ := e
  exact ⟨o', c', b', x, e1, e2⟩
theorem room_M {X : oS} {W K Q : Nat} {g kd on cr bg : Nat → Nat} (h : rmH X W K Q g kd on cr bg) (o c b : Int32) : ∃ o' c' b' x, f_X9_keepsRoom (cmS X o c b) = some (x, cmS X o' c' b') ∧ ((x = 1 ∧ ∀ s r, s + 1 < Q → r < 4 → us W on cr bg g s r K ≤ rmN r) ∨ (x = 0 ∧ ∃ s r, s + 1 < Q ∧ r < 4 ∧ rmN r < us W on cr bg g s r K)) := by
  have h' := h
  obtain ⟨h1, h2, h3, h4, h5, h6, -⟩ := h'
  have e : ∃ x, oLp f_X9_keepsRoom_L2 oFu ((0 : Int32), cmS X o c b) = some x ∧ ∃ o' c' b', ((x = Sum.inl (cmS X o' c' b') ∧ ∀ s r, s + 1 < Q → r < 4 → us W on cr bg g s r K ≤ rmN r) ∨ (x = Sum.inr ((0 : Int32), cmS X o' c' b') ∧ ∃ s r, s + 1 < Q ∧ r < 4 ∧ rmN r < us W on cr bg g s r K)) := by
    refine oLp_inv (fun i st => (∃ o' c' b', st = (nI i, cmS X o' c' b')) ∧ ∀ s r, s < i → r < 4 → us W on cr bg g s r K ≤ rmN r) (fun x => ∃ o' c' b', ((x = Sum.inl (cmS X o' c' b') ∧ ∀ s r, s + 1 < Q → r < 4 → us W on cr bg g s r K ≤ rmN r) ∨ (x = Sum.inr ((0 : Int32), cmS X o' c' b') ∧ ∃ s r, s + 1 < Q ∧ r < 4 ∧ rmN r < us W on cr bg g s r K))) (Q - 1) oFu 0 ((0 : Int32), cmS X o c b) ⟨⟨o, c, b, rfl⟩, fun s r hr => absurd hr (Nat.not_lt_zero _)⟩ (by show Q - 1 - 0 < 100000; omega) (by omega) ?_ ?_
    · rintro i st hi ⟨⟨o', c', b', rfl⟩, hI⟩
      obtain ⟨o2, c2, b2, x, l1, l2⟩ := room14 h (s := i) (by omega) o' c' b'
      show (∃ s', (if X.1 1000 0 34 ≤ nI i + 1 then _ else _) = _ ∧ _) ∨ (∃ r, (if X.1 1000 0 34 ≤ nI i + 1 then _ else _) = _ ∧ _)
      rw [h5, nI_1, if_neg (by rw [nI_leI (by omega) (by omega)]; omega), l1, Option.bind_some]
      rcases l2 with ⟨rfl, y⟩ | ⟨rfl, r, y1, y2⟩
      · refine Or.inl ⟨(nI (i + 1), cmS X o2 c2 b2), ?_, ⟨_, _, _, rfl⟩, fun s r hs hr => ?_⟩
        · rw [← nI_1]
          rfl
        · by_cases z : s = i
          · rw [z]; exact y r hr
          · exact hI s r (by omega) hr
      · exact Or.inr ⟨Sum.inr ((0 : Int32), cmS X o2 c2 b2), rfl, o2, c2, b2, Or.inr ⟨rfl, i, r, by omega, y1, y2⟩⟩
    · rintro st ⟨⟨o', c', b', rfl⟩, hI⟩
      refine ⟨Sum.inl (cmS X o' c' b'), ?_, o', c', b', Or.inl ⟨rfl, fun s r hs hr => hI s r (by omega) hr⟩⟩
      show (if X.1 1000 0 34 ≤ nI (Q - 1) + 1 then _ else _) = _
      rw [h5, nI_1, if_pos (by rw [nI_leI (by omega) (by omega)]; omega)]
  unfold f_X9_keepsRoom
  obtain ⟨x, e1, o', c', b', ⟨rfl, y⟩ | ⟨rfl, y⟩⟩ := e
  · exact ⟨o', c', b', 1, by rw [e1]; rfl, Or.inl ⟨rfl, y⟩⟩
  · exact ⟨o', c', b', 0, by rw [e1]; rfl, Or.inr ⟨rfl, y⟩⟩
