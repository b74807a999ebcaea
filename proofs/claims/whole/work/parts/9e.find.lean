def mdV (W K Q : Nat) (gm : Nat → Nat → Int32) (on cr bg : Nat → Nat) (k : Nat) : Prop := (∀ o, o < K → dg (W + 1) K k o = W ∨ ¬ gm o (dg (W + 1) K k o) = 0) ∧ ∀ s r, s + 1 < Q → r < 4 → us W on cr bg (dg (W + 1) K k) s r K ≤ rmN r
theorem n_mul {a b : Nat} (ha : a < 2147483648) (hb : b < 2147483648) (h : a * b < 2147483648) : nI a * nI b = nI (a * b) := by
  have e : ((a * b : Nat) : Int) = (a : Int) * (b : Int) := Int.natCast_mul a b
  rw [i_eq, nT h, i_mul (by rw [nT ha, nT hb]; omega) (by rw [nT ha, nT hb]; omega), nT ha, nT hb, e]
theorem pow_b {W i : Nat} (hW : W ≤ 12) (hi : i ≤ 4) : (W + 1) ^ i ≤ 28561 := Nat.le_trans (Nat.pow_le_pow_left (show W + 1 ≤ 13 by omega) i) (Nat.le_trans (Nat.pow_le_pow_right (by decide) hi) (by decide))
theorem all_M {V : oS} {W K : Nat} (hK : V.1 1000 0 32 = nI K) (hK4 : K ≤ 4) (hW : V.1 1000 0 57 = nI W) (hW12 : W ≤ 12) : oLp f_X9_findPlan_L8 oFu ((1 : Int32), (0 : Int32), V) = some (nI ((W + 1) ^ K), V) := by
  refine oLp_eq (fun i => (nI ((W + 1) ^ i), nI i, V)) _ K (by omega) rfl ?_ ?_
  · intro i hi
    have h1 := pow_b hW12 (show i ≤ 4 by omega)
    have h2 := pow_b hW12 (show i + 1 ≤ 4 by omega)
    have h3 : (W + 1) ^ i * (W + 1) = (W + 1) ^ (i + 1) := (Nat.pow_succ (W + 1) i).symm
    show (if V.1 1000 0 32 ≤ nI i then _ else some (Sum.inl (nI ((W + 1) ^ i) * (V.1 1000 0 57 + 1), nI i + 1, V))) = _
    rw [hK, if_neg (by rw [nI_leI (by omega) (by omega)]; omega), hW, nI_1, nI_1, n_mul (by omega) (by omega) (by omega), h3]
  · show (if V.1 1000 0 32 ≤ nI K then _ else _) = _
    rw [hK, if_pos (by rw [i_le]; exact Int.le_refl _)]
set_option maxHeartbeats 1000000 in
theorem find_M {U0 U : oS} {L : Nat → Int32 → Int64 → Int32} {RS : Nat → Int32 → Int32 → Int32 → Int32} {fc : Nat → Nat → Int64} {T : Nat → Nat} {Q K : Nat} {kd on cr bg : Nat → Nat} (h0 : f_X9_layAhead U0 = some U) (hM : mH U L RS fc T Q K kd) (hk : kdK on cr bg K) (hS : kdM' U kd on cr bg K) : ∃ (best : Int32) (I O R G D : Nat → Int32) (b o c g : Int32) (z : Nat), f_X9_findPlan U0 = some (best, cmS (dS (wS U (wyQ Q) I O R G) D b) o c g) ∧ wyOK L RS fc T K kd (wyQ Q) I O R G ∧ (best = -1 ∨ b = nI z) ∧ z < 100000 ∧ Bsf (mdV (wyQ Q) K Q (gmO L RS fc T kd) on cr bg) (plC (wyQ Q) K) ((wyQ Q + 1) ^ K) best.toInt z := by
  obtain ⟨I, O, R, G, e1, e2⟩ := ways_M h0 hM
  obtain ⟨m1, ⟨o1, o2, o3⟩, m3, m4, m5, m6, m7, m8, m9⟩ := hM
  have hW12 := wy_12 Q
  generalize hW : wyQ Q = W at e1 e2 hW12 ⊢
  have hB := pow_b hW12 m5
  have ha := all_M (V := wS U W I O R G) (W := W) (K := K) m4 m5 rfl hW12
  have hG : ∀ o w, o < K → w < W → (wS U W I O R G).1 1062 0 (13 * o + w) = G (13 * o + w) := fun _ _ _ _ => rfl
  have lp : ∃ x, oLp (f_X9_findPlan_L35 (nI ((W + 1) ^ K))) oFu ((-1 : Int32), (0 : Int32), wS U W I O R G) = some x ∧ ∃ (best : Int32) (D : Nat → Int32) (b o c g : Int32) (z : Nat), x = (best, cmS (dS (wS U W I O R G) D b) o c g) ∧ (best = -1 ∨ b = nI z) ∧ z < 100000 ∧ Bsf (mdV W K Q (gmO L RS fc T kd) on cr bg) (plC W K) ((W + 1) ^ K) best.toInt z := by
    refine oLp_all (fun k s => ∃ (best : Int32) (D : Nat → Int32) (b o c g : Int32) (z : Nat), s = (best, nI k, cmS (dS (wS U W I O R G) D b) o c g) ∧ (best = -1 ∨ b = nI z) ∧ z < 100000 ∧ Bsf (mdV W K Q (gmO L RS fc T kd) on cr bg) (plC W K) k best.toInt z) (fun x => ∃ (best : Int32) (D : Nat → Int32) (b o c g : Int32) (z : Nat), x = (best, cmS (dS (wS U W I O R G) D b) o c g) ∧ (best = -1 ∨ b = nI z) ∧ z < 100000 ∧ Bsf (mdV W K Q (gmO L RS fc T kd) on cr bg) (plC W K) ((W + 1) ^ K) best.toInt z) ((W + 1) ^ K) (by omega) ⟨-1, (wS U W I O R G).1 1063 0, (wS U W I O R G).1 1000 0 63, (wS U W I O R G).1 1000 0 53, (wS U W I O R G).1 1000 0 54, (wS U W I O R G).1 1000 0 55, 0, ?_, Or.inl rfl, by omega, Or.inl ⟨rfl, fun k hk => absurd hk (Nat.not_lt_zero _)⟩⟩ ?_ ?_
    · rw [dS_id, cmS_id]
      rfl
    · rintro k s hki ⟨best, D, b, o, c, g, z, rfl, hb, hz, hbs⟩
      obtain ⟨D', l1, l2⟩ := given_M (V := wS U W I O R G) (W := W) (K := K) (k := k) (G := G) m4 m5 rfl hW12 hG (by omega) D b o c g
      have hd : ∀ x, x < K → D' x = nI (dg (W + 1) K k x) ∧ dg (W + 1) K k x ≤ W := fun x hx => ⟨l2 x hx, by have := dg_lt (W := W) (K := K) (k := k) (o := x); omega⟩
      have hcl := cntP_le (W := W) (g := dg (W + 1) K k) K
      have bk : ∀ o c g, f_X9_bakedMany (cmS (dS (wS U W I O R G) D' b) o c g) = some (nI (plC W K k), cmS (dS (wS U W I O R G) D' b) o c g) := fun o c g => baked_M (Y := cmS (dS (wS U W I O R G) D' b) o c g) (W := W) (K := K) (g := dg (W + 1) K k) m4 m5 rfl hW12 (fun x hx => ⟨(hd x hx).1, by have := (hd x hx).2; omega⟩)
      have hcl : plC W K k ≤ K := hcl
      obtain ⟨o', c', b', x, q1, q2⟩ := room_M (X := dS (wS U W I O R G) D' b) (W := W) (K := K) (Q := Q) (g := dg (W + 1) K k) (kd := kd) (on := on) (cr := cr) (bg := bg) ⟨m4, m5, rfl, hW12, m1, o1, hk, hS, hd, fun w hw => by obtain ⟨a1, a2, a3, -⟩ := e2 w hw; exact ⟨a1, a2, a3⟩⟩ o c g
      have hgm : ∀ x, x < K → dg (W + 1) K k x < W → G (13 * x + dg (W + 1) K k x) = gmO L RS fc T kd x (dg (W + 1) K k x) := fun x hx hw => (e2 _ hw).2.2.2 x hx
      have hok := isG_ok (W := W) (K := K) (G := G) (k := k) K (Nat.le_refl _)
      generalize isG W K G k K = ig at l1 hok
      show ∃ s', (if nI ((W + 1) ^ K) ≤ nI k then _ else (f_X9_layGiven (nI k) (cmS (dS (wS U W I O R G) D b) o c g)).bind _) = _ ∧ _
      rw [if_neg (by rw [nI_leI (by omega) (by omega)]; omega), l1, Option.bind_some]
      show ∃ s', (if ig = 0 then _ else (f_X9_bakedMany (cmS (dS (wS U W I O R G) D' b) o c g)).bind _) = _ ∧ _
      rcases hok with ⟨hig, hall⟩ | ⟨hig, y, y1, y2, y3⟩
      · rw [if_neg (by rw [hig]; decide), bk, Option.bind_some]
        have hall' : ∀ x, x < K → dg (W + 1) K k x = W ∨ ¬ gmO L RS fc T kd x (dg (W + 1) K k x) = 0 := fun x hx => by
          rcases hall x (by omega) hx with v | v
          · exact Or.inl v
          · by_cases w : dg (W + 1) K k x = W
            · exact Or.inl w
            · rw [hgm x hx (by have := (hd x hx).2; omega)] at v
              exact Or.inr v
        show ∃ s', (if nI (plC W K k) ≤ best then _ else (f_X9_keepsRoom (cmS (dS (wS U W I O R G) D' b) o c g)).bind _) = _ ∧ _
        by_cases v : nI (plC W K k) ≤ best
        · rw [if_pos v]
          refine ⟨(best, nI (k + 1), cmS (dS (wS U W I O R G) D' b) o c g), by rw [oLet_eq, nI_1], best, D', b, o, c, g, z, rfl, hb, hz, Bsf_sk hbs (by omega) (fun j j1 j2 _ => ?_)⟩
          have : j = k := by omega
          rw [this]
          rw [i_le, nT (by omega)] at v
          exact v
        · rw [if_neg v, q1, Option.bind_some]
          rw [i_le, nT (by omega)] at v
          show ∃ s', (if x = 0 then _ else (f_X9_bakedMany (cmS (dS (wS U W I O R G) D' b) o' c' b')).bind _) = _ ∧ _
          rcases q2 with ⟨rfl, hr⟩ | ⟨rfl, s1, r1, w1, w2, w3⟩
          · rw [if10, bk, Option.bind_some]
            refine ⟨(nI (plC W K k), nI (k + 1), cmS (dS (wS U W I O R G) D' (nI k)) o' c' b'), by rw [oLet_eq, dS_sb, oLet_eq, nI_1], nI (plC W K k), D', nI k, o', c', b', k, rfl, Or.inr rfl, by omega, ?_⟩
            rw [nT (by omega)]
            exact Bsf_up hbs ⟨hall', hr⟩ (by omega)
          · rw [if00]
            refine ⟨(best, nI (k + 1), cmS (dS (wS U W I O R G) D' b) o' c' b'), by rw [oLet_eq, nI_1], best, D', b, o', c', b', z, rfl, hb, hz, Bsf_sk hbs (by omega) (fun j j1 j2 hv => ?_)⟩
            have : j = k := by omega
            rw [this] at hv
            have := hv.2 s1 r1 w1 w2
            omega
      · rw [if_pos hig]
        refine ⟨(best, nI (k + 1), cmS (dS (wS U W I O R G) D' b) o c g), by rw [oLet_eq, nI_1], best, D', b, o, c, g, z, rfl, hb, hz, Bsf_sk hbs (by omega) (fun j j1 j2 hv => ?_)⟩
        have : j = k := by omega
        rw [this] at hv
        rcases hv.1 y y1 with v | v
        · exact absurd v y2
        · rw [hgm y y1 (by have := (hd y y1).2; omega)] at y3
          exact absurd y3 v
    · rintro s ⟨best, D, b, o, c, g, z, rfl, hb, hz, hbs⟩
      refine ⟨_, ?_, best, D, b, o, c, g, z, rfl, hb, hz, hbs⟩
      show (if nI ((W + 1) ^ K) ≤ nI ((W + 1) ^ K) then _ else _) = _
      rw [if_pos (by rw [i_le]; exact Int.le_refl _)]
  obtain ⟨x, l1, best, D, b, o, c, g, z, rfl, hb, hz, hbs⟩ := lp
  refine ⟨best, I, O, R, G, D, b, o, c, g, z, ?_, e2, hb, hz, hbs⟩
  unfold f_X9_findPlan
  rw [e1, Option.bind_some, ha, Option.bind_some]
  show (oLp (f_X9_findPlan_L35 (nI ((W + 1) ^ K))) oFu ((-1 : Int32), (0 : Int32), wS U W I O R G)).bind _ = _
  rw [l1, Option.bind_some]
/-- what a plan takes in a ring is at least what each of its orders takes there -/
theorem sm_ge {W : Nat} {x g : Nat → Nat} {s r o : Nat} (hc : ctb W (g o) s r = 1) : ∀ n, o < n → x o ≤ sm W x g s r n := by
  intro n
  induction n with
  | zero => intro h; omega
  | succ n ih =>
    intro h
    rw [sm_s]
    by_cases y : o = n
    · rw [← y, hc, Nat.one_mul]; omega
    · have := ih (by omega)
      omega
theorem sm_z {W : Nat} {x g : Nat → Nat} {s r : Nat} : ∀ n, (∀ o, o < n → ctb W (g o) s r = 0) → sm W x g s r n = 0 := by
  intro n
  induction n with
  | zero => intro _; rfl
  | succ n ih =>
    intro h
    rw [sm_s, ih (fun o ho => h o (by omega)), h n (by omega), Nat.zero_mul]
theorem V_eq {W K Q : Nat} {gd gm : Nat → Nat → Int32} {on cr bg : Nat → Nat} {pl : Nat → Int32} (h3 : Q ≤ 3) (hW : W = wyQ Q) (hk : kdK on cr bg K) (hpl : ∀ o, o < K → pl o = nI (on o + bg o)) (hgd : ∀ o w, o < K → w < W → gd o w = if pl o ≤ oROOM (w % 4) then gm o w else 0) (k : Nat) : mdV W K Q gm on cr bg k ↔ plV W K gd on cr bg k := by
  have hW12 : W ≤ 12 := by rw [hW]; exact wy_12 Q
  have hpO : ∀ w, w < W → pO (w / 4) < Q := fun w hw => (wy_iff h3 (by omega)).mp (by rw [← hW]; exact hw)
  constructor
  · rintro ⟨h1, h2⟩
    refine ⟨fun o ho => ?_, fun s r hs hr => ?_⟩
    · have hl := dg_lt (W := W) (K := K) (k := k) (o := o)
      rcases h1 o ho with y | y
      · exact Or.inl y
      · by_cases z : dg (W + 1) K k o = W
        · exact Or.inl z
        · have hlt : dg (W + 1) K k o < W := by omega
          refine Or.inr ⟨hlt, ?_⟩
          obtain ⟨p1, p2, p3, p4⟩ := pIO (p := dg (W + 1) K k o / 4) (by omega)
          have hq := hpO _ hlt
          have hr := h2 (pI (dg (W + 1) K k o / 4)) (dg (W + 1) K k o % 4) (by omega) (by omega)
          have hge := sm_ge (x := bg) (g := dg (W + 1) K k) (ctb_y (s := pI (dg (W + 1) K k o / 4)) hlt (Nat.le_refl _) p3) K ho
          have hb := rmN_b (dg (W + 1) K k o % 4)
          have h2' : 2 ≤ rmN (dg (W + 1) K k o % 4) := by
            unfold rmN
            by_cases g0 : dg (W + 1) K k o % 4 = 0
            · rw [if_pos g0]; omega
            · rw [if_neg g0]
              by_cases g1 : dg (W + 1) K k o % 4 = 1
              · rw [if_pos g1]; omega
              · rw [if_neg g1]; omega
          have hkk := hk o ho
          unfold us at hr
          rw [hgd o _ ho hlt, hpl o ho, rm_n, if_pos (by rw [nI_leI (by omega) (by omega)]; omega)]
          exact y
    · by_cases y : s + 1 < Q
      · exact h2 s r y hr
      · have hz : ∀ o, o < K → ctb W (dg (W + 1) K k o) s r = 0 := fun o ho => if_neg (fun v => by have := hpO _ v.1; omega)
        unfold us
        rw [sm_z K hz, sm_z K hz, sm_z K hz]
        omega
  · rintro ⟨h1, h2⟩
    refine ⟨fun o ho => ?_, fun s r hs hr => h2 s r (by omega) hr⟩
    rcases h1 o ho with y | ⟨y1, y2⟩
    · exact Or.inl y
    · refine Or.inr (fun v => y2 ?_)
      rw [hgd o _ ho y1, v]
      by_cases z : pl o ≤ oROOM (dg (W + 1) K k o % 4)
      · rw [if_pos z]
      · rw [if_neg z]
