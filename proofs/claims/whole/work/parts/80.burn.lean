/-! The fire; a whole step of the masonry -/
def brH (h : Nat → Int64) (f : Nat) (F : Int64) : Nat → Int64 := uL (uL (uL h (3 * f) (h (3 * f) + F / 2)) (3 * (f + 1)) (h (3 * (f + 1)) + (F - F / 2) / 2)) (3 * (f - 1)) (uL (uL h (3 * f) (h (3 * f) + F / 2)) (3 * (f + 1)) (h (3 * (f + 1)) + (F - F / 2) / 2) (3 * (f - 1)) + (F - F / 2 - (F - F / 2) / 2))
theorem brH_0 {h : Nat → Int64} {f : Nat} (k : Nat) : brH h f 0 k = h k := by
  have e1 : (0 : Int64) / 2 = 0 := rfl
  have e2 : ((0 : Int64) - 0) / 2 = 0 := rfl
  have e3 : (0 : Int64) - 0 - 0 = 0 := rfl
  unfold brH
  rw [e1, e2, e3, Int64.add_zero, Int64.add_zero, Int64.add_zero]
  unfold uL
  grind
theorem ok_burn {h : Nat → Int64} {M : Int} (H : okH h M) {f : Nat} (hf : f ≤ 2) {F : Int64} (hF : 0 ≤ F.toInt) (hM : M + F.toInt ≤ 1000000000000) : okH (brH h f F) (M + F.toInt) := by
  have hM0 : 0 ≤ M := by have := (hSum_k (k := 0) 12 H.1).1; have := H.2; omega
  have e1 := d2 hF
  have e2 : (F - F / 2).toInt = F.toInt - F.toInt / 2 := by rw [l_sub (by omega) (by omega), e1]
  have e3 : ((F - F / 2) / 2).toInt = (F.toInt - F.toInt / 2) / 2 := by rw [d2 (by omega), e2]
  have e4 : (F - F / 2 - (F - F / 2) / 2).toInt = F.toInt - F.toInt / 2 - (F.toInt - F.toInt / 2) / 2 := by rw [l_sub (by omega) (by omega), e2, e3]
  have s0 := ok_add H (k := 3 * f) (by omega) (v := F / 2) (by omega) (by omega)
  have s1 := ok_add s0 (k := 3 * (f + 1)) (by omega) (v := (F - F / 2) / 2) (by omega) (by omega)
  rw [uL_n (show ¬ 3 * (f + 1) = 3 * f by omega)] at s1
  have s2 := ok_add s1 (k := 3 * (f - 1)) (by omega) (v := F - F / 2 - (F - F / 2) / 2) (by omega) (by omega)
  exact ok_le s2 (by omega)
def stE (h : Nat → Int64) (d c : Nat → Int32) (f : Nat) (F : Int64) : Nat → Int64 := evH (soH (dryH (brH h f F) d 4) c 4) 3
def stH (h : Nat → Int64) (d c : Nat → Int32) (a : Int32) (f : Nat) (F : Int64) (o : Int32) : Nat → Int64 := loH (stE h d c f F) c a o 4
def stD (h : Nat → Int64) (d : Nat → Int32) (f : Nat) (F : Int64) : Nat → Int32 := dryD (brH h f F) d 4
def stL (h : Nat → Int64) (d c : Nat → Int32) (a : Int32) (f : Nat) (F : Int64) (o : Int32) : Int64 := lSum (fun r => 25 * dr (brH h f F) d r) 4 + lSum (fun r => skL (stE h d c f F) c a r + lnL (stE h d c f F) a o r) 4
/-- what a step may start from -/
def okS (h : Nat → Int64) (d c : Nat → Int32) (a : Int32) (f : Nat) (F : Int64) (M : Int) : Prop := okH h M ∧ (∀ r, r < 4 → rg (d r) 0 1000) ∧ (∀ r, r < 4 → rg (c r) 0 4) ∧ rg a 0 40 ∧ f ≤ 2 ∧ 0 ≤ F.toInt ∧ M + F.toInt ≤ 1000000000000
theorem st_ok {h : Nat → Int64} {d c : Nat → Int32} {a : Int32} {f : Nat} {F : Int64} {M : Int} (H : okS h d c a f F M) (o : Int32) : okH (brH h f F) (M + F.toInt) ∧ okH (stE h d c f F) (M + F.toInt) ∧ okH (stH h d c a f F o) (M + F.toInt) ∧ ∀ r, r < 4 → rg (stD h d f F r) 0 1000 := by
  obtain ⟨H1, H2, H3, H4, H5, H6, H7⟩ := H
  have b := ok_burn H1 H5 H6 H7
  have b2 := ok_even (ok_soak (ok_dry b H7 H2 4 (by omega)) H7 H3 4 (by omega)) H7 3 (by omega)
  exact ⟨b, b2, ok_lose b2 H7 H3 H4 o 4 (by omega), dryD_b b H7 H2⟩
theorem oLet_eq {α β : Type} (x : α) (f : α → β) : oLet x f = f x := Eq.trans (Eq.refl (oLet x f)) (show oLet x f = f x from rfl)
theorem k81_w {S : oS} {h w : Nat → Int64} {d : Nat → Int32} {l : Int64} (F : Int64) {f : Nat} (hf : f < 4) (o : Int32) (x y : Int64) : f_X9_step_K81 F o x y (nI f) (nS S h w d l) = (f_X9_layWarm (nS S (uL h (3 * f) (h (3 * f) + (F - x - y))) w d l)).bind fun zz10 => (oLp (f_X9_step_L103 o) oFu ((0 : Int32), zz10)).bind fun zz20 => (f_X9_layWarm zz20).bind fun zz21 => (oLp (f_X9_step_L226 o) oFu ((0 : Int32), zz21)).bind fun zz33 => (f_X9_layWarm zz33).bind fun zz34 => (oLp (f_X9_step_L338 o) oFu ((0 : Int32), zz34)).bind fun zz41 => (f_X9_layWarm zz41).bind fun zz42 => (oLp (f_X9_step_L400 o) oFu ((0 : Int32), zz42)).bind fun zz50 => some zz50 := by
  have e : f_X9_cellOf (nI f) 0 (nS S h w d l) = some (nI (3 * f), nS S h w d l) := by
    unfold f_X9_cellOf
    rw [m3_0]
  unfold f_X9_step_K81
  rw [e, Option.bind_some, if_pos (in12 (show 3 * f < 12 by omega)), if_pos (in12 (show 3 * f < 12 by omega)), oLet_eq, nS_h (show 3 * f < 12 by omega), nS_sh (show 3 * f < 12 by omega)]
theorem k81_x {S : oS} {h w : Nat → Int64} {d : Nat → Int32} {l : Int64} {M : Int} (o : Int32) (b1 : okH h M) (hM : M ≤ 1000000000000) (hd : ∀ r, r < 4 → rg (d r) 0 1000) (hc : ∀ r, r < 4 → rg (S.1 1004 0 r) 0 4) (ha : rg (S.1 1000 0 0) 0 40) : ((f_X9_layWarm (nS S h w d l)).bind fun zz10 => (oLp (f_X9_step_L103 o) oFu ((0 : Int32), zz10)).bind fun zz20 => (f_X9_layWarm zz20).bind fun zz21 => (oLp (f_X9_step_L226 o) oFu ((0 : Int32), zz21)).bind fun zz33 => (f_X9_layWarm zz33).bind fun zz34 => (oLp (f_X9_step_L338 o) oFu ((0 : Int32), zz34)).bind fun zz41 => (f_X9_layWarm zz41).bind fun zz42 => (oLp (f_X9_step_L400 o) oFu ((0 : Int32), zz42)).bind fun zz50 => some zz50) = some (nS S (loH (evH (soH (dryH h d 4) (S.1 1004 0) 4) 3) (S.1 1004 0) (S.1 1000 0 0) o 4) (wmH (evH (soH (dryH h d 4) (S.1 1004 0) 4) 3)) (dryD h d 4) (l + lSum (fun r => 25 * dr h d r) 4 + lSum (fun r => skL (evH (soH (dryH h d 4) (S.1 1004 0) 4) 3) (S.1 1004 0) (S.1 1000 0 0) r + lnL (evH (soH (dryH h d 4) (S.1 1004 0) 4) 3) (S.1 1000 0 0) o r) 4)) := by
  have b2 := ok_even (ok_soak (ok_dry b1 hM hd 4 (by omega)) hM hc 4 (by omega)) hM 3 (by omega)
  have hcl : ∀ r, r < 4 → cl0 (25 * dr h d r) = 25 * dr h d r := fun r hr => by
    obtain ⟨a0, a1⟩ := okH_k b1 (k := 3 * r) (by omega)
    obtain ⟨q1, q2, q3, q4⟩ := dr_b (d := d) (r := r) a0 (by omega) (hd r hr)
    exact cl0_nn (by omega)
  rw [warm_ok, Option.bind_some, dry_M o hcl, Option.bind_some, warm_ok, Option.bind_some, soak_M, Option.bind_some, warm_ok, Option.bind_some, even_M, Option.bind_some, warm_ok, Option.bind_some, outs_M o (fun r hr => (sk_b b2 hM hc ha hr).2.2) (fun r hr => (ln_b b2 hM ha o hr).2.2), Option.bind_some]
set_option maxHeartbeats 1000000 in
theorem step_M {S : oS} {h w : Nat → Int64} {d : Nat → Int32} {l : Int64} {f : Nat} {F : Int64} {M : Int} (hf : S.1 1000 0 4 = nI f) (H : okS h d (S.1 1004 0) (S.1 1000 0 0) f F M) (o : Int32) : f_X9_step F o (nS S h w d l) = some (nS S (stH h d (S.1 1004 0) (S.1 1000 0 0) f F o) (wmH (stE h d (S.1 1004 0) f F)) (stD h d f F) (stL h d (S.1 1004 0) (S.1 1000 0 0) f F o)) := by
  obtain ⟨b1, -⟩ := st_ok H o
  obtain ⟨H1, H2, H3, H4, H5, H6, H7⟩ := H
  have key : f_X9_step_K81 F o (F / 2) ((F - F / 2) / 2) (nI (f - 1)) (nS S (uL (uL h (3 * f) (h (3 * f) + F / 2)) (3 * (f + 1)) (h (3 * (f + 1)) + (F - F / 2) / 2)) w d 0) = some (nS S (stH h d (S.1 1004 0) (S.1 1000 0 0) f F o) (wmH (stE h d (S.1 1004 0) f F)) (stD h d f F) (stL h d (S.1 1004 0) (S.1 1000 0 0) f F o)) := by
    rw [k81_w F (show f - 1 < 4 by omega) o]
    have x := k81_x (w := w) (l := 0) o b1 H7 H2 H3 H4
    unfold brH at x
    rw [x, Int64.zero_add]
    unfold stH stE stD stL brH
    rfl
  unfold f_X9_step f_X9_cellOf
  simp only [oLet, Option.bind_some, nS_sl, nS_a, hf, nI_1, m3_0, if_pos (in12 (show 3 * f < 12 by omega)), if_pos (in12 (show 3 * (f + 1) < 12 by omega)), nS_h (show 3 * f < 12 by omega), nS_h (show 3 * (f + 1) < 12 by omega), nS_sh (show 3 * f < 12 by omega), nS_sh (show 3 * (f + 1) < 12 by omega), uL_n (show ¬ 3 * (f + 1) = 3 * f by omega)]
  by_cases g : f = 0
  · rw [if_pos (by rw [g]; rfl)]
    rw [g] at key ⊢
    exact key
  · rw [if_neg (nI_ne0 (by omega) (by omega))]
    have e : nI f - 1 = nI (f - 1) := by
      obtain ⟨e, rfl⟩ : ∃ e, f = e + 1 := ⟨f - 1, by omega⟩
      rw [nPr]
      rfl
    rw [e]
    exact key
/-- the logs of an instance, laid over a state -/
def lX (j : Nat) (S : oS) (b : Int64) (n : Nat) (ls lw : Nat → Int32) : oS := (fun t i k => if t = 500 ∧ i = j ∧ k = 5 then nI n else if t = 504 ∧ i = j then ls k else if t = 505 ∧ i = j then lw k else S.1 t i k, fun t i k => if t = 500 ∧ i = j ∧ k = 8 then b else S.2 t i k)
theorem lX_1 {j : Nat} {S : oS} {b : Int64} {n : Nat} {ls lw : Nat → Int32} (t i k : Nat) : (lX j S b n ls lw).1 t i k = if t = 500 ∧ i = j ∧ k = 5 then nI n else if t = 504 ∧ i = j then ls k else if t = 505 ∧ i = j then lw k else S.1 t i k := rfl
theorem lX_2 {j : Nat} {S : oS} {b : Int64} {n : Nat} {ls lw : Nat → Int32} (t i k : Nat) : (lX j S b n ls lw).2 t i k = if t = 500 ∧ i = j ∧ k = 8 then b else S.2 t i k := rfl
theorem lX_n {j : Nat} {S : oS} {b : Int64} {n : Nat} {ls lw : Nat → Int32} : (lX j S b n ls lw).1 500 j 5 = nI n := by rw [lX_1, if_pos ⟨rfl, rfl, rfl⟩]
theorem lX_6 {j : Nat} {S : oS} {b : Int64} {n : Nat} {ls lw : Nat → Int32} : (lX j S b n ls lw).1 500 j 6 = S.1 500 j 6 := by rw [lX_1, if_neg (fun z => absurd z.2.2 (by decide)), if_neg (fun z => absurd z.1 (by decide)), if_neg (fun z => absurd z.1 (by decide))]
theorem lX_7 {j : Nat} {S : oS} {b : Int64} {n : Nat} {ls lw : Nat → Int32} : (lX j S b n ls lw).1 500 j 7 = S.1 500 j 7 := by rw [lX_1, if_neg (fun z => absurd z.2.2 (by decide)), if_neg (fun z => absurd z.1 (by decide)), if_neg (fun z => absurd z.1 (by decide))]
theorem lX_c {j : Nat} {S : oS} {b : Int64} {n : Nat} {ls lw : Nat → Int32} : (lX j S b n ls lw).1 503 j = S.1 503 j := rfl
theorem lX_s {j : Nat} {S : oS} {b : Int64} {n : Nat} {ls lw : Nat → Int32} (k : Nat) : (lX j S b n ls lw).1 504 j k = ls k := by rw [lX_1, if_neg (fun z => absurd z.1 (by decide)), if_pos ⟨rfl, rfl⟩]
theorem lX_w {j : Nat} {S : oS} {b : Int64} {n : Nat} {ls lw : Nat → Int32} (k : Nat) : (lX j S b n ls lw).1 505 j k = lw k := by rw [lX_1, if_neg (fun z => absurd z.1 (by decide)), if_neg (fun z => absurd z.1 (by decide)), if_pos ⟨rfl, rfl⟩]
theorem lX_b {j : Nat} {S : oS} {b : Int64} {n : Nat} {ls lw : Nat → Int32} : (lX j S b n ls lw).2 500 j 8 = b := by rw [lX_2, if_pos ⟨rfl, rfl, rfl⟩]
theorem lX_cg {j : Nat} {S : oS} {b b' : Int64} {n n' : Nat} {ls lw ls' lw' : Nat → Int32} (e1 : b = b') (e2 : n = n') (e3 : ∀ k, ls k = ls' k) (e4 : ∀ k, lw k = lw' k) : lX j S b n ls lw = lX j S b' n' ls' lw' := by
  rw [e1, e2, show ls = ls' from funext e3, show lw = lw' from funext e4]
theorem lX_id {j n : Nat} {S : oS} (hn : S.1 500 j 5 = nI n) : lX j S (S.2 500 j 8) n (S.1 504 j) (S.1 505 j) = S := by
  refine oS_ext (fun t i m => ?_) (fun t i m => ?_)
  · rw [lX_1]
    by_cases g : t = 500 ∧ i = j ∧ m = 5
    · rw [if_pos g, g.1, g.2.1, g.2.2, hn]
    · rw [if_neg g]
      by_cases g2 : t = 504 ∧ i = j
      · rw [if_pos g2, g2.1, g2.2]
      · rw [if_neg g2]
        by_cases g3 : t = 505 ∧ i = j
        · rw [if_pos g3, g3.1, g3.2]
        · rw [if_neg g3]
  · rw [lX_2]
    by_cases g : t = 500 ∧ i = j ∧ m = 8
    · rw [if_pos g, g.1, g.2.1, g.2.2]
    · rw [if_neg g]
def coF (s w : Int32) : Int64 := Int32.toInt64 (s * (2000 - 26 * w) / 10)
def frO (n : Nat) (ls lw : Nat → Int32) : Int64 := if n = 0 then 0 else coF (ls 0) (lw 0)
def shG (g : Nat → Int32) (n k : Nat) : Int32 := if k < n - 1 then g (k + 1) else g k
theorem mxF {f : Nat} (hf : f ≤ 2) : oMaxI 0 (nI f - 1) = nI (f - 1) := by
  rcases (by omega : f = 0 ∨ f = 1 ∨ f = 2) with rfl | rfl | rfl <;> rfl
theorem bu_n {j m n : Nat} {S : oS} {b : Int64} {ls lw : Nat → Int32} {h : Nat → Int64} {d : Nat → Int32} {l : Int64} : oStI (mX j (lX j S b n ls lw) h d l) 500 j 5 (nI m) = mX j (lX j S b m ls lw) h d l := by
  refine oS_ext (fun t i k => ?_) (fun t i k => rfl)
  show (if t = 500 ∧ i = j ∧ k = 5 then nI m else (mX j (lX j S b n ls lw) h d l).1 t i k) = _
  rw [mX_1, mX_1, lX_1, lX_1]
  grind
theorem bu_s {j m : Nat} {S : oS} {b : Int64} {ls lw : Nat → Int32} {h : Nat → Int64} {d : Nat → Int32} {l : Int64} : oCpI (mX j (lX j S b m ls lw) h d l) 504 j 1 504 j 0 m = mX j (lX j S b m (shG ls (m + 1)) lw) h d l := by
  refine oS_ext (fun t i k => ?_) (fun t i k => rfl)
  show (if t = 504 ∧ i = j ∧ 0 ≤ k ∧ k < 0 + m then (mX j (lX j S b m ls lw) h d l).1 504 j (1 + (k - 0)) else (mX j (lX j S b m ls lw) h d l).1 t i k) = _
  rw [mX_1, mX_1, mX_1, lX_1, lX_1, lX_1]
  unfold shG
  grind
theorem bu_w {j m : Nat} {S : oS} {b : Int64} {ls lw : Nat → Int32} {h : Nat → Int64} {d : Nat → Int32} {l : Int64} : oCpI (mX j (lX j S b m ls lw) h d l) 505 j 1 505 j 0 m = mX j (lX j S b m ls (shG lw (m + 1))) h d l := by
  refine oS_ext (fun t i k => ?_) (fun t i k => rfl)
  show (if t = 505 ∧ i = j ∧ 0 ≤ k ∧ k < 0 + m then (mX j (lX j S b m ls lw) h d l).1 505 j (1 + (k - 0)) else (mX j (lX j S b m ls lw) h d l).1 t i k) = _
  rw [mX_1, mX_1, mX_1, lX_1, lX_1, lX_1]
  unfold shG
  grind
theorem bu_b {j m : Nat} {S : oS} {b v : Int64} {ls lw : Nat → Int32} {h : Nat → Int64} {d : Nat → Int32} {l : Int64} : oStL (mX j (lX j S b m ls lw) h d l) 500 j 8 v = mX j (lX j S v m ls lw) h d l := by
  refine oS_ext (fun t i k => rfl) (fun t i k => ?_)
  show (if t = 500 ∧ i = j ∧ k = 8 then v else (mX j (lX j S b m ls lw) h d l).2 t i k) = _
  rw [mX_2, mX_2, lX_2, lX_2]
  grind
theorem bu_rb {j m : Nat} {S : oS} {b : Int64} {ls lw : Nat → Int32} {h : Nat → Int64} {d : Nat → Int32} {l : Int64} : (mX j (lX j S b m ls lw) h d l).2 500 j 8 = b := by
  rw [mX_2, if_neg (fun z => absurd z.1 (by decide)), if_neg (fun z => absurd z.2.2 (by decide)), lX_b]
theorem bu_rs {j m k : Nat} {S : oS} {b : Int64} {ls lw : Nat → Int32} {h : Nat → Int64} {d : Nat → Int32} {l : Int64} : (mX j (lX j S b m ls lw) h d l).1 504 j k = ls k := by
  rw [mX_1, if_neg (fun z => absurd z.1 (by decide)), lX_s]
theorem bu_rw {j m k : Nat} {S : oS} {b : Int64} {ls lw : Nat → Int32} {h : Nat → Int64} {d : Nat → Int32} {l : Int64} : (mX j (lX j S b m ls lw) h d l).1 505 j k = lw k := by
  rw [mX_1, if_neg (fun z => absurd z.1 (by decide)), lX_w]
set_option maxHeartbeats 1000000 in
theorem burn_X {j n f : Nat} {S : oS} {b : Int64} {ls lw : Nat → Int32} {h : Nat → Int64} {d : Nat → Int32} {l : Int64} (hn : n ≤ 30) (hf : S.1 500 j 6 = nI f) (hf2 : f ≤ 2) : f_X4_burn j (mX j (lX j S b n ls lw) h d l) = some (mX j (lX j S (b + frO n ls lw) (n - 1) (shG ls n) (shG lw n)) (brH h f (frO n ls lw)) d l) := by
  unfold f_X4_burn
  rw [mX_a, lX_n]
  by_cases g : n = 0
  · subst g
    rw [if_neg (by decide)]
    have e : lX j S b 0 ls lw = lX j S (b + frO 0 ls lw) (0 - 1) (shG ls 0) (shG lw 0) := lX_cg (by show b = b + 0; rw [Int64.add_zero]) rfl (fun k => by unfold shG; rw [if_neg (by omega)]) (fun k => by unfold shG; rw [if_neg (by omega)])
    rw [← e]
    exact congrArg some (mX_cg (fun k _ => (brH_0 k).symm) (fun _ _ => rfl) rfl)
  · obtain ⟨m, rfl⟩ : ∃ m, n = m + 1 := ⟨n - 1, by omega⟩
    have eF : frO (m + 1) ls lw = coF (ls 0) (lw 0) := if_neg (by omega)
    have c0 : Int32.toNatClampNeg (0 : Int32) = 0 := rfl
    have c1 : Int32.toNatClampNeg (1 : Int32) = 1 := rfl
    have cm : (nI m).toNatClampNeg = m := ncl (by omega)
    have hg : ¬ ((1 : Int32) < 0 ∨ (0 : Int32) < 0 ∨ nI m < 0 ∨ 30 < Int32.toNatClampNeg (1 : Int32) + Int32.toNatClampNeg (nI m) ∨ 30 < Int32.toNatClampNeg (0 : Int32) + Int32.toNatClampNeg (nI m)) := by
      rw [c0, c1, cm]
      rintro (z | z | z | z | z)
      · exact absurd z (by decide)
      · exact absurd z (by decide)
      · exact nI_pos (by omega) z
      · omega
      · omega
    have eC : Int32.toInt64 (ls 0 * (2000 - 26 * lw 0) / 10) = frO (m + 1) ls lw := eF.symm
    rw [if_pos (show 0 < nI (m + 1) by rw [i_lt, nT (by omega), i0]; omega)]
    rw [c0, c1, cm] at hg
    simp only [oLet, nPr, bu_n, mX_a, lX_n, c0, c1, cm, bu_s, bu_w, lX_6, hf, mxF hf2, nI_1, n3_0, if_pos (in12 (show 3 * f < 12 by omega)), if_pos (in12 (show 3 * (f + 1) < 12 by omega)), if_pos (in12 (show 3 * (f - 1) < 12 by omega)), mX_h (show 3 * f < 12 by omega), mX_h (show 3 * (f + 1) < 12 by omega), mX_h (show 3 * (f - 1) < 12 by omega), mX_sh (show 3 * f < 12 by omega), mX_sh (show 3 * (f + 1) < 12 by omega), mX_sh (show 3 * (f - 1) < 12 by omega), uL_n (show ¬ 3 * (f + 1) = 3 * f by omega), bu_rs, bu_rw, eC, bu_rb, bu_b]
    rw [if_pos hg, if_pos hg]
    rfl
theorem pass_X {j n f : Nat} {S : oS} {b : Int64} {ls lw : Nat → Int32} {h : Nat → Int64} {d : Nat → Int32} {l : Int64} (o : Int32) (hn : n ≤ 30) (hf : S.1 500 j 6 = nI f) (hf2 : f ≤ 2) : f_X4_passTick j o (mX j (lX j S b n ls lw) h d l) = some (mX j (lX j S (b + frO n ls lw) (n - 1) (shG ls n) (shG lw n)) (stH h d (S.1 503 j) (S.1 500 j 7) f (frO n ls lw) o) (stD h d f (frO n ls lw)) (l + stL h d (S.1 503 j) (S.1 500 j 7) f (frO n ls lw) o)) := by
  unfold f_X4_passTick
  rw [burn_X hn hf hf2, Option.bind_some, dry_ok, Option.bind_some, soak_ok, Option.bind_some, even_ok, Option.bind_some, outs_ok, Option.bind_some, lX_7, lX_c]
  refine congrArg some (mX_cg (fun _ _ => rfl) (fun _ _ => rfl) ?_)
  rw [Int64.add_assoc]
  rfl
