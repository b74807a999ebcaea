/-! The class's search finds the first best plan -/
def cdW (W w : Nat) : Int32 := if w = W then 12 else nI w
def uN (g : Nat → Nat) (o c : Nat) : Nat → Nat := fun i => if i = o then c else g i
theorem uN_y {g : Nat → Nat} {o c : Nat} : uN g o c o = c := if_pos rfl
theorem uN_n {g : Nat → Nat} {o c i : Nat} (h : i < o) : uN g o c i = g i := if_neg (by omega)
theorem num_cg {B : Nat} {g h : Nat → Nat} : ∀ n, (∀ i, i < n → g i = h i) → num B g n = num B h n := by
  intro n
  induction n with
  | zero => intro _; rfl
  | succ n ih =>
    intro e
    show num B g n * B + g n = num B h n * B + h n
    rw [ih (fun i hi => e i (by omega)), e n (by omega)]
theorem num_u {B : Nat} {g : Nat → Nat} {o c : Nat} : num B (uN g o c) (o + 1) = num B g o * B + c := by
  show num B (uN g o c) o * B + uN g o c o = _
  rw [num_cg o (fun i hi => uN_n hi), uN_y]
def plV (W K : Nat) (gd : Nat → Nat → Int32) (on cr bg : Nat → Nat) (k : Nat) : Prop := vldP W gd on cr bg (dg (W + 1) K k) K
def plC (W K : Nat) (k : Nat) : Nat := cntP W (dg (W + 1) K k) K
def chK (W K : Nat) (mb : Int32) (ch : Nat → Int32) (z : Nat) : Prop := mb = -1 ∨ ∀ i, i < K → ch i = cdW W (dg (W + 1) K z i)
/-- what the search reads of the state beneath -/
def sBase (S : oS) (W K : Nat) (gd : Nat → Nat → Int32) (kd on cr bg : Nat → Nat) : Prop := S.1 600 0 10 = nI K ∧ K ≤ 4 ∧ W ≤ 12 ∧ kdK on cr bg K ∧ kdS S kd on cr bg K ∧ (∀ o ch, o < K → ch < 12 → S.1 606 0 (12 * o + ch) = gd o ch) ∧ (∀ e, e ≤ K → S.1 607 0 (K - e) = nI (hpE gd K e)) ∧ ∀ o ch, o < K → ch < 12 → W ≤ ch → gd o ch = 0
theorem us_s {W : Nat} {on cr bg g : Nat → Nat} {s r o : Nat} (h : ctb W (g o) s r = 0) : us W on cr bg g s r (o + 1) = us W on cr bg g s r o := by
  unfold us
  rw [sm_s, sm_s, sm_s, h, Nat.zero_mul, Nat.zero_mul, Nat.zero_mul, Nat.add_zero, Nat.add_zero, Nat.add_zero]
/-- numbers below a prefix: they begin with its digits -/
theorem pre_dg {W K o e k : Nat} {g : Nat → Nat} (hoe : o + e = K) (hg : ∀ i, i < o → g i < W + 1) (h1 : num (W + 1) g o * (W + 1) ^ e ≤ k) (h2 : k < (num (W + 1) g o + 1) * (W + 1) ^ e) : ∀ i, i < o → dg (W + 1) K k i = g i := by
  refine dg_pre (by omega) hg ?_
  rw [show K - o = e by omega]
  exact iv_div h1 h2
theorem pre_V {W K o e k : Nat} {g : Nat → Nat} {gd : Nat → Nat → Int32} {on cr bg : Nat → Nat} (hk : kdK on cr bg K) (hoe : o + e = K) (hg : ∀ i, i < o → g i < W + 1) (h1 : num (W + 1) g o * (W + 1) ^ e ≤ k) (h2 : k < (num (W + 1) g o + 1) * (W + 1) ^ e) (hv : plV W K gd on cr bg k) : vldP W gd on cr bg g o := vldP_cg (pre_dg hoe hg h1 h2) (vldP_dn hk (by omega) hv)
set_option maxHeartbeats 4000000 in
theorem srch {S : oS} {W K : Nat} {gd : Nat → Nat → Int32} {kd on cr bg : Nat → Nat} (hB : sBase S W K gd kd on cr bg) : ∀ (e o n : Nat) (g : Nat → Nat) (mb : Int32) (tr ch : Nat → Int32) (z : Nat), o + e = K → e < n → vldP W gd on cr bg g o → (∀ i, i < o → tr i = cdW W (g i)) → chK W K mb ch z → Bsf (plV W K gd on cr bg) (plC W K) (num (W + 1) g o * (W + 1) ^ e) mb.toInt z → ∃ mb' tr' ch' z', f_X5_searchN n (nI o) (nI (cntP W g o)) (sW S mb tr ch (LD S W on cr bg g o)) = some (sW S mb' tr' ch' (LD S W on cr bg g o)) ∧ (∀ i, i < o → tr' i = tr i) ∧ chK W K mb' ch' z' ∧ Bsf (plV W K gd on cr bg) (plC W K) ((num (W + 1) g o + 1) * (W + 1) ^ e) mb'.toInt z' := by
  obtain ⟨b1, b2, b3, b4, b5, b6, b7, b8⟩ := hB
  intro e
  induction e with
  | zero =>
    intro o n g mb tr ch z hoe hn hv htr hch hbs
    obtain ⟨n, rfl⟩ : ∃ m, n = m + 1 := ⟨n - 1, by omega⟩
    have hoK : o = K := by omega
    subst hoK
    have hg : ∀ i, i < o → g i < W + 1 := fun i hi => by have := hv.1 i hi; omega
    rw [Nat.pow_zero, Nat.mul_one] at hbs ⊢
    have hd := pre_dg (e := 0) (k := num (W + 1) g o) (K := o) rfl hg (by rw [Nat.pow_zero]; omega) (by rw [Nat.pow_zero]; omega)
    have hV : plV W o gd on cr bg (num (W + 1) g o) := vldP_cg (fun i hi => (hd i hi).symm) hv
    have hC : plC W o (num (W + 1) g o) = cntP W g o := cntP_cg o hd
    have hle := cntP_le (W := W) (g := g) o
    have e1 : f_X5_searchN (n + 1) (nI o) (nI (cntP W g o)) (sW S mb tr ch (LD S W on cr bg g o)) = (f_X5_keepIfBetter (nI (cntP W g o)) (sW S mb tr ch (LD S W on cr bg g o))).bind fun z => some z := by
      show (if nI o < S.1 600 0 10 then _ else _) = _
      rw [b1, if_neg (by rw [nI_ltI (by omega) (by omega)]; omega)]
    rw [e1, keep_X, Option.bind_some]
    by_cases gq : nI (cntP W g o) ≤ mb
    · refine ⟨mb, tr, ch, z, by rw [if_pos gq], fun _ _ => rfl, hch, Bsf_sk hbs (by omega) (fun k h1 h2 _ => ?_)⟩
      have : k = num (W + 1) g o := by omega
      rw [this, hC]
      rw [i_le, nT (by omega)] at gq
      exact gq
    · rw [i_le, nT (by omega)] at gq
      refine ⟨nI (cntP W g o), tr, fun k => if k < 4 then tr k else ch k, num (W + 1) g o, by rw [if_neg (by rw [i_le, nT (by omega)]; exact gq)], fun _ _ => rfl, Or.inr (fun i hi => ?_), ?_⟩
      · show (if i < 4 then tr i else ch i) = _
        rw [if_pos (by omega), hd i hi]
        exact htr i hi
      · have := Bsf_up hbs hV (by rw [hC]; omega)
        rw [hC] at this
        rw [nT (by omega)]
        exact this
  | succ e ih =>
    intro o n g mb tr ch z hoe hn hv htr hch hbs
    obtain ⟨n, rfl⟩ : ∃ m, n = m + 1 := ⟨n - 1, by omega⟩
    have hg : ∀ i, i < o → g i < W + 1 := fun i hi => by have := hv.1 i hi; omega
    have hle := cntP_le (W := W) (g := g) o
    have hhe := hpE_le (gd := gd) (K := K) (e + 1)
    have ho : o < K := by omega
    have hKo : K - (e + 1) = o := by omega
    have hh : S.1 607 0 (nI o).toNatClampNeg = nI (hpE gd K (e + 1)) := by
      rw [ncl (by omega)]
      have := b7 (e + 1) (by omega)
      rw [hKo] at this
      exact this
    have epow : (W + 1) ^ (e + 1) = (W + 1) * (W + 1) ^ e := by rw [Nat.pow_succ, Nat.mul_comm]
    generalize hP : num (W + 1) g o = p at hbs ⊢
    generalize hq : (W + 1) ^ e = q at epow ih
    rw [epow] at hbs ⊢
    have ex1 : (p + 1) * ((W + 1) * q) = p * ((W + 1) * q) + (W + 1) * q := by rw [Nat.add_mul, Nat.one_mul]
    have e0 : f_X5_searchN (n + 1) (nI o) (nI (cntP W g o)) (sW S mb tr ch (LD S W on cr bg g o)) = (if S.1 600 0 10 ≤ nI o then none else if mb < nI (cntP W g o) + nI (hpE gd K (e + 1)) then (oLp (f_X5_search_L32 (f_X5_searchN n) (nI o) (nI (cntP W g o))) oFu ((0 : Int32), sW S mb tr ch (LD S W on cr bg g o))).bind (fun zz7 => if oIn (nI o) 4 then (oLet (oStI zz7 609 0 (Int32.toNatClampNeg (nI o)) (12 : Int32)) fun zS8 => (f_X5_searchN n (nI o + (1 : Int32)) (nI (cntP W g o)) zS8).bind fun zz9 => some zz9) else none) else some (sW S mb tr ch (LD S W on cr bg g o))) := by
      show (if nI o < S.1 600 0 10 then (if oIn (nI o) 5 then (if mb < nI (cntP W g o) + S.1 607 0 (nI o).toNatClampNeg then _ else _) else none) else _) = _
      rw [b1, if_pos (by rw [nI_ltI (by omega) (by omega)]; omega), if_pos ((nin (by omega)).mpr (by omega)), hh, if_neg (c := nI K ≤ nI o) (by rw [nI_leI (by omega) (by omega)]; omega)]
    rw [e0, b1, if_neg (by rw [nI_leI (by omega) (by omega)]; omega), nI_add]
    by_cases gp : mb < nI (cntP W g o + hpE gd K (e + 1))
    · rw [if_pos gp]
      -- the choices
      have lp : ∃ Z, oLp (f_X5_search_L32 (f_X5_searchN n) (nI o) (nI (cntP W g o))) oFu ((0 : Int32), sW S mb tr ch (LD S W on cr bg g o)) = some Z ∧ ∃ mb' tr' ch' z', Z = sW S mb' tr' ch' (LD S W on cr bg g o) ∧ (∀ i, i < o → tr' i = tr i) ∧ chK W K mb' ch' z' ∧ Bsf (plV W K gd on cr bg) (plC W K) (p * ((W + 1) * q) + W * q) mb'.toInt z' := by
        refine oLp_all (fun c s => ∃ mb' tr' ch' z', s = (nI c, sW S mb' tr' ch' (LD S W on cr bg g o)) ∧ (∀ i, i < o → tr' i = tr i) ∧ chK W K mb' ch' z' ∧ Bsf (plV W K gd on cr bg) (plC W K) (p * ((W + 1) * q) + min c W * q) mb'.toInt z') (fun Z => ∃ mb' tr' ch' z', Z = sW S mb' tr' ch' (LD S W on cr bg g o) ∧ (∀ i, i < o → tr' i = tr i) ∧ chK W K mb' ch' z' ∧ Bsf (plV W K gd on cr bg) (plC W K) (p * ((W + 1) * q) + W * q) mb'.toInt z') 12 (by omega) ⟨mb, tr, ch, z, rfl, fun _ _ => rfl, hch, ?_⟩ ?_ ?_
        · rw [Nat.zero_min, Nat.zero_mul, Nat.add_zero]
          exact hbs
        · rintro c s hc ⟨mb1, tr1, ch1, z1, rfl, t1, k1, f1⟩
          have eg : (sW S mb1 tr1 ch1 (LD S W on cr bg g o)).1 606 0 (nI (12 * o + c)).toNatClampNeg = gd o c := by
            rw [ncl (by omega)]
            exact b6 o c ho hc
          have hnum : num (W + 1) (uN g o c) (o + 1) = p * (W + 1) + c := by rw [num_u, hP]
          have hmul : (p * (W + 1) + c) * q = p * ((W + 1) * q) + c * q := by rw [Nat.add_mul, Nat.mul_assoc]
          have hmul2 : (p * (W + 1) + c + 1) * q = p * ((W + 1) * q) + (c + 1) * q := by rw [Nat.add_assoc, Nat.add_mul, Nat.mul_assoc]
          have gu : c < W + 1 → ∀ i, i < o + 1 → uN g o c i < W + 1 := fun hcW i hi => by
            by_cases y : i = o
            · rw [y, uN_y]; exact hcW
            · rw [uN_n (by omega)]; exact hg i (by omega)
          -- skipping the numbers of this choice
          have skip : (c < W → ∀ k, (p * (W + 1) + c) * q ≤ k → k < (p * (W + 1) + c + 1) * q → ¬ plV W K gd on cr bg k) → Bsf (plV W K gd on cr bg) (plC W K) (p * ((W + 1) * q) + min (c + 1) W * q) mb1.toInt z1 := by
            intro hs
            by_cases hcW : c < W
            · rw [Nat.min_eq_left (show c ≤ W by omega)] at f1
              rw [Nat.min_eq_left (show c + 1 ≤ W by omega)]
              refine Bsf_sk f1 (Nat.add_le_add_left (Nat.mul_le_mul_right q (by omega)) _) (fun k h1 h2 hvk => ?_)
              exact absurd hvk (hs hcW k (by rw [hmul]; exact h1) (by rw [hmul2]; exact h2))
            · rw [Nat.min_eq_right (show W ≤ c by omega)] at f1
              rw [Nat.min_eq_right (show W ≤ c + 1 by omega)]
              exact f1
          show ∃ s', (if (12 : Int32) ≤ nI c then _ else (if oIn (nI o * 12 + nI c) 48 then (if (sW S mb1 tr1 ch1 (LD S W on cr bg g o)).1 606 0 (nI o * 12 + nI c).toNatClampNeg = 0 then _ else _) else none)) = _ ∧ _
          rw [if_neg (by rw [nle (m := 12) rfl (by omega)]; omega), n12, if_pos ((nin (by omega)).mpr (by omega)), eg]
          by_cases gg : gd o c = 0
          · rw [if_pos gg]
            refine ⟨(nI (c + 1), sW S mb1 tr1 ch1 (LD S W on cr bg g o)), by rw [oLet_eq, nI_1], mb1, tr1, ch1, z1, rfl, t1, k1, skip (fun hcW k h1 h2 hvk => ?_)⟩
            have hvv := pre_V (g := uN g o c) (o := o + 1) (e := e) b4 (by omega) (gu (by omega)) (by rw [hnum, hq]; exact h1) (by rw [hnum, hq]; exact h2) hvk
            rcases hvv.1 o (by omega) with y | ⟨y, x⟩
            · rw [uN_y] at y; omega
            · rw [uN_y] at x; exact x gg
          · have hcW : c < W := by
              by_cases y : c < W
              · exact y
              · exact absurd (b8 o c ho hc (by omega)) gg
            have eLD : LD S W on cr bg g o = LD S W on cr bg (uN g o c) o := LD_cg (fun i hi => (uN_n hi).symm)
            have k79 : ∀ mbx trx chx, f_X5_search_K79 (f_X5_searchN n) (nI o) (nI (cntP W g o)) (nI c) (sW S mbx trx chx (LD S W on cr bg (uN g o c) (o + 1))) = some (Sum.inl (nI (c + 1), sW S mbx trx chx (LD S W on cr bg g o))) := by
              intro mbx trx chx
              obtain ⟨x9, oo⟩ := occ_out b5 b2 (g := uN g o c) ho b3 hcW uN_y mbx trx chx
              unfold f_X5_search_K79
              rw [oo, Option.bind_some, oLet_eq, nI_1, eLD]
            have oi := occ_in b5 b2 (g := uN g o c) ho b3 hcW uN_y mb1 (uI tr1 o (nI c)) ch1
            have hku := kpt_us (S := S) (W := W) (g := uN g o c) b4 b2 (n := o + 1) (a := pI (c / 4)) (r := c % 4) (by omega) (by omega) (pO (c / 4) - pI (c / 4))
            obtain ⟨p1, p2, p3, p4⟩ := pIO (p := c / 4) (by omega)
            rw [if_neg gg, if_pos ((nin (by omega)).mpr (by omega)), oLet_eq, sW_str (by omega), eLD, oi, Option.bind_some]
            generalize kpt (LD S W on cr bg (uN g o c) (o + 1)) (pI (c / 4)) (c % 4) (pO (c / 4) - pI (c / 4)) = kp at hku
            show ∃ s', (if kp = 0 then f_X5_search_K79 (f_X5_searchN n) (nI o) (nI (cntP W g o)) (nI c) (sW S mb1 (uI tr1 o (nI c)) ch1 (LD S W on cr bg (uN g o c) (o + 1))) else (f_X5_searchN n (nI o + 1) (nI (cntP W g o) + 1) (sW S mb1 (uI tr1 o (nI c)) ch1 (LD S W on cr bg (uN g o c) (o + 1)))).bind fun zz6 => f_X5_search_K79 (f_X5_searchN n) (nI o) (nI (cntP W g o)) (nI c) zz6) = _ ∧ _
            have tru : ∀ i, i < o → uI tr1 o (nI c) i = tr i := fun i hi => by
              rw [← t1 i hi]
              exact if_neg (by omega)
            rcases hku with ⟨hkp, hus⟩ | ⟨hkp, s, s1, s2, s3⟩
            · have hv' : vldP W gd on cr bg (uN g o c) (o + 1) := by
                refine ⟨fun i hi => ?_, fun s r hs hr => ?_⟩
                · by_cases y : i = o
                  · rw [y, uN_y]; exact Or.inr ⟨hcW, gg⟩
                  · rw [uN_n (by omega)]; exact hv.1 i (by omega)
                · by_cases y : r = c % 4 ∧ pI (c / 4) ≤ s ∧ s < pO (c / 4)
                  · rw [y.1]; exact hus s y.2.1 (by omega)
                  · rw [us_s (by rw [uN_y]; exact ctb_n y), us_cg (fun i hi => uN_n hi)]
                    exact hv.2 s r hs hr
              have hcn : cntP W (uN g o c) (o + 1) = cntP W g o + 1 := by
                show cntP W (uN g o c) o + (if uN g o c o = W then 0 else 1) = _
                rw [cntP_cg o (fun i hi => uN_n hi), uN_y, if_neg (by omega)]
              rw [Nat.min_eq_left (show c ≤ W by omega)] at f1
              obtain ⟨mb2, tr2, ch2, z2, r1, r2, r3, r4⟩ := ih (o + 1) n (uN g o c) mb1 (uI tr1 o (nI c)) ch1 z1 (by omega) (by omega) hv' (fun i hi => by
                by_cases y : i = o
                · rw [y, uN_y]
                  unfold cdW
                  rw [if_neg (by omega)]
                  exact if_pos rfl
                · rw [uN_n (by omega), tru i (by omega)]
                  exact htr i (by omega)) k1 (by rw [hnum, hmul]; exact f1)
              rw [hcn] at r1
              rw [hnum, hmul2] at r4
              refine ⟨(nI (c + 1), sW S mb2 tr2 ch2 (LD S W on cr bg (uN g o c) o)), ?_, mb2, tr2, ch2, z2, rfl, fun i hi => ?_, r3, ?_⟩
              · rw [if_neg (by rw [hkp]; decide), nI_1, nI_1, r1, Option.bind_some, k79, eLD]
              · rw [r2 i (by omega)]; exact tru i hi
              · rw [Nat.min_eq_left (show c + 1 ≤ W by omega)]
                exact r4
            · refine ⟨(nI (c + 1), sW S mb1 (uI tr1 o (nI c)) ch1 (LD S W on cr bg (uN g o c) o)), ?_, mb1, uI tr1 o (nI c), ch1, z1, rfl, tru, k1, skip (fun _ k h1 h2 hvk => ?_)⟩
              · rw [if_pos hkp, k79, eLD]
              · have hvv := pre_V (g := uN g o c) (o := o + 1) (e := e) b4 (by omega) (gu (by omega)) (by rw [hnum, hq]; exact h1) (by rw [hnum, hq]; exact h2) hvk
                have := hvv.2 s (c % 4) (by omega) (by omega)
                omega
        · rintro s ⟨mb1, tr1, ch1, z1, rfl, t1, k1, f1⟩
          rw [Nat.min_eq_right b3] at f1
          exact ⟨_, rfl, mb1, tr1, ch1, z1, rfl, t1, k1, f1⟩
      obtain ⟨Z, l1, mb1, tr1, ch1, z1, rfl, t1, k1, f1⟩ := lp
      have hnum : num (W + 1) (uN g o W) (o + 1) = p * (W + 1) + W := by rw [num_u, hP]
      have hmul : (p * (W + 1) + W) * q = p * ((W + 1) * q) + W * q := by rw [Nat.add_mul, Nat.mul_assoc]
      have hmul2 : (p * (W + 1) + W + 1) * q = (p + 1) * ((W + 1) * q) := by rw [Nat.add_assoc, Nat.add_mul, Nat.mul_assoc, Nat.add_mul p 1, Nat.one_mul]
      have eLD : LD S W on cr bg g o = LD S W on cr bg (uN g o W) (o + 1) := by
        rw [LD_cg (h := uN g o W) (fun i hi => (uN_n hi).symm)]
        exact funext fun i => funext fun k => (LD_n (by rw [uN_y]; exact ctb_W) k).symm
      have hv' : vldP W gd on cr bg (uN g o W) (o + 1) := by
        refine ⟨fun i hi => ?_, fun s r hs hr => ?_⟩
        · by_cases y : i = o
          · rw [y, uN_y]; exact Or.inl rfl
          · rw [uN_n (by omega)]; exact hv.1 i (by omega)
        · rw [us_s (by rw [uN_y]; exact ctb_W), us_cg (fun i hi => uN_n hi)]
          exact hv.2 s r hs hr
      have hcn : cntP W (uN g o W) (o + 1) = cntP W g o := by
        show cntP W (uN g o W) o + (if uN g o W o = W then 0 else 1) = _
        rw [cntP_cg o (fun i hi => uN_n hi), uN_y, if_pos rfl]
        rfl
      have tru : ∀ i, i < o → uI tr1 o 12 i = tr i := fun i hi => by
        rw [← t1 i hi]
        exact if_neg (by omega)
      obtain ⟨mb2, tr2, ch2, z2, r1, r2, r3, r4⟩ := ih (o + 1) n (uN g o W) mb1 (uI tr1 o 12) ch1 z1 (by omega) (by omega) hv' (fun i hi => by
        by_cases y : i = o
        · rw [y, uN_y]
          unfold cdW
          rw [if_pos rfl]
          exact if_pos rfl
        · rw [uN_n (by omega), tru i (by omega)]
          exact htr i (by omega)) k1 (by rw [hnum, hmul]; exact f1)
      rw [hcn, ← eLD] at r1
      rw [hnum, hmul2] at r4
      refine ⟨mb2, tr2, ch2, z2, ?_, fun i hi => by rw [r2 i (by omega)]; exact tru i hi, r3, r4⟩
      rw [l1, Option.bind_some, if_pos ((nin (by omega)).mpr (by omega)), oLet_eq, sW_str (by omega), nI_1, r1, Option.bind_some]
    · rw [if_neg gp]
      refine ⟨mb, tr, ch, z, rfl, fun _ _ => rfl, hch, Bsf_sk hbs (by rw [ex1]; omega) (fun k h1 h2 hvk => ?_)⟩
      have hd := pre_dg (W := W) (K := K) (o := o) (e := e + 1) (k := k) hoe hg (by rw [hP, Nat.pow_succ, Nat.mul_comm _ (W + 1), hq]; exact h1) (by rw [hP, Nat.pow_succ, Nat.mul_comm _ (W + 1), hq]; exact h2)
      have hc := hope_ok b3 hvk (e + 1) (by omega)
      rw [hKo, cntP_cg o hd] at hc
      rw [i_lt, nT (by omega)] at gp
      show ((cntP W (dg (W + 1) K k) K : Nat) : Int) ≤ mb.toInt
      omega
