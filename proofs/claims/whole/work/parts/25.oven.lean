def f_X8_air  (za1 : Int32) (S : oS) : Option (Int32 × oS) :=
  (f_X8_within za1 (0 : Int32) (40 : Int32) S).bind fun zz1 =>
  if zz1.1 = 0 then (
  some ((-2 : Int32), zz1.2)) else (
  oLet (zz1.2.1 500 0 7) fun zx2 =>
  oLet (oStI zz1.2 500 0 7 za1) fun zS3 =>
  some (zx2, zS3))
set_option maxHeartbeats 4000000 in
theorem s_X8_air {G : oG} {r : oR} (d : Nat) (hd : 2 ≤ d) {za1 : Int32}  {S : oS} {P : Int32 × oS → Prop} (h : oH (f_X8_air za1 S) P) : oCt G r d yX8_air mX8_air [orf 900 0, oi za1] S (oQi P) := by
  unfold f_X8_air at h
  refine oCt_of (by decide) rfl (Nat.le_of_ble_eq_true rfl) ?_
  intro X hG hr hE0 hR
  subst hG; subst hr
  obtain ⟨e, rfl⟩ : ∃ e, d = e + 1 := ⟨d - 1, by omega⟩
  have he : 1 ≤ e := by omega
  have hE := oEI_of hE0 rfl
  clear hE0 hd
  show oVv X mX8_air 0 [(0, orf 900 0), (1, oi za1)] [] S
  refine o_iload_n (pc := 0) dX8_air_0 rfl 1 rfl ?_
  refine o_iconst (v := 0) (pc := 1) dX8_air_1 (by decide) ?_
  refine o_bipush (v := 40) (pc := 2) dX8_air_2 (by decide) ?_
  have h := oH_bind h
  refine o_callSi (pc := 4) (st := []) [oi za1, oi (0 : Int32), oi (40 : Int32)] hR md_X8_within wd_375 wd_376 rfl (Nat.le_of_ble_eq_true rfl) rfl dX8_air_4 (s_X8_within e (by omega)  h) (fun zz1 h => ?_)
  refine o_if_ne 13 (pc := 7) dX8_air_7 (by decide) (fun hc => ?_) (fun hc => ?_)
  · have h := oH_F hc h
    refine o_aload_n (pc := 13) dX8_air_13 rfl 0 rfl ?_
    refine o_getF (pc := 14) fd_RX8_10 ft_900_0 j_900 dX8_air_14 ?_
    refine o_getI (pc := 17) fd_RX8_68 ft_500_7 j_500_0 dX8_air_17 ?_
    refine o_nmI (fun zx2 hx => ?_)
    have h := oH_let h zx2 hx
    clear hx
    refine o_istore_n (lv1 := [(0, orf 900 0), (1, oi za1), (2, oi zx2)]) (pc := 20) dX8_air_20 rfl (by decide) rfl ?_
    refine o_aload_n (pc := 21) dX8_air_21 rfl 0 rfl ?_
    refine o_getF (pc := 22) fd_RX8_10 ft_900_0 j_900 dX8_air_22 ?_
    refine o_iload_n (pc := 25) dX8_air_25 rfl 1 rfl ?_
    refine o_putI (pc := 26) fd_RX8_68 fp_500_7 ft_500_7 rfl rfl j_500_0 dX8_air_26 ?_
    refine o_nmS (fun zS3 hx => ?_)
    have h := oH_let h zS3 hx
    clear hx
    refine o_iload_n (pc := 29) dX8_air_29 rfl 2 rfl ?_
    exact hE _ _ _ _ dX8_air_30 (oH_some h)
  · have h := oH_T hc h
    refine o_bipush (v := -2) (pc := 10) dX8_air_10 (by decide) ?_
    exact hE _ _ _ _ dX8_air_12 (oH_some h)
def f_X8_at  (za1 : Int32) (za2 : Int32) (S : oS) : Option (Int32 × oS) :=
  (f_X8_isWeek za1 S).bind fun zz1 =>
  if zz1.1 = 0 then (
  some ((-2 : Int32), zz1.2)) else (
  (f_X8_within za2 (0 : Int32) ((zz1.2.1 700 0 6) - (1 : Int32)) zz1.2).bind fun zz2 =>
  if zz2.1 = 0 then (
  some ((-2 : Int32), zz2.2)) else (
  (f_X6_makeRow za1 zz2.2).bind fun zz3 =>
  if oIn za2 8 then (
  some (zz3.1 705 0 (Int32.toNatClampNeg za2), zz3)) else none))
set_option maxHeartbeats 4000000 in
theorem s_X8_at {G : oG} {r : oR} (d : Nat) (hd : 4 ≤ d) {za1 : Int32} {za2 : Int32}  {S : oS} {P : Int32 × oS → Prop} (h : oH (f_X8_at za1 za2 S) P) : oCt G r d yX8_at mX8_at [orf 900 0, oi za1, oi za2] S (oQi P) := by
  unfold f_X8_at at h
  refine oCt_of (by decide) rfl (Nat.le_of_ble_eq_true rfl) ?_
  intro X hG hr hE0 hR
  subst hG; subst hr
  obtain ⟨e, rfl⟩ : ∃ e, d = e + 1 := ⟨d - 1, by omega⟩
  have he : 3 ≤ e := by omega
  have hE := oEI_of hE0 rfl
  clear hE0 hd
  show oVv X mX8_at 0 [(0, orf 900 0), (1, oi za1), (2, oi za2)] [] S
  refine o_iload_n (pc := 0) dX8_at_0 rfl 1 rfl ?_
  have h := oH_bind h
  refine o_callSi (pc := 1) (st := []) [oi za1] hR md_X8_isWeek wd_729 wd_730 rfl (Nat.le_of_ble_eq_true rfl) rfl dX8_at_1 (s_X8_isWeek e (by omega)  h) (fun zz1 h => ?_)
  refine o_if_eq 24 (pc := 4) dX8_at_4 (by decide) (fun hc => ?_) (fun hc => ?_)
  · have h := oH_T hc h
    refine o_bipush (v := -2) (pc := 24) dX8_at_24 (by decide) ?_
    exact hE _ _ _ _ dX8_at_26 (oH_some h)
  · have h := oH_F hc h
    refine o_iload_n (pc := 7) dX8_at_7 rfl 2 rfl ?_
    refine o_iconst (v := 0) (pc := 8) dX8_at_8 (by decide) ?_
    refine o_aload_n (pc := 9) dX8_at_9 rfl 0 rfl ?_
    refine o_getF (pc := 10) fd_RX8_49 ft_900_5 j_900 dX8_at_10 ?_
    refine o_getI (pc := 13) fd_RX8_256 ft_700_6 j_700 dX8_at_13 ?_
    refine o_iconst (v := 1) (pc := 16) dX8_at_16 (by decide) ?_
    refine o_isub (pc := 17) dX8_at_17 ?_
    have h := oH_bind h
    refine o_callSi (pc := 18) (st := []) [oi za2, oi (0 : Int32), oi ((zz1.2.1 700 0 6) - (1 : Int32))] hR md_X8_within wd_375 wd_376 rfl (Nat.le_of_ble_eq_true rfl) rfl dX8_at_18 (s_X8_within e (by omega)  h) (fun zz2 h => ?_)
    refine o_if_ne 27 (pc := 21) dX8_at_21 (by decide) (fun hc => ?_) (fun hc => ?_)
    · have h := oH_F hc h
      refine o_aload_n (pc := 27) dX8_at_27 rfl 0 rfl ?_
      refine o_getF (pc := 28) fd_RX8_49 ft_900_5 j_900 dX8_at_28 ?_
      refine o_iload_n (pc := 31) dX8_at_31 rfl 1 rfl ?_
      have h := oH_bind h
      refine o_callVv (pc := 32) (st := []) [oi za1] hR md_X6_makeRow wd_749 wd_750 wd_751 tc_700 j_700 rfl (Nat.le_of_ble_eq_true rfl) rfl dX8_at_32 (s_X6_makeRow e (by omega)  h) (fun zz3 h => ?_)
      refine o_aload_n (pc := 35) dX8_at_35 rfl 0 rfl ?_
      refine o_getF (pc := 36) fd_RX8_49 ft_900_5 j_900 dX8_at_36 ?_
      refine o_getA (pc := 39) fd_RX8_281 ft_700_4 j_700 dX8_at_39 ?_
      refine o_iload_n (pc := 42) dX8_at_42 rfl 2 rfl ?_
      obtain ⟨hg, h⟩ := oH_G h
      refine o_iald (pc := 43) kd_705 j_705 hg dX8_at_43 ?_
      exact hE _ _ _ _ dX8_at_44 (oH_some h)
    · have h := oH_T hc h
      refine o_bipush (v := -2) (pc := 24) dX8_at_24 (by decide) ?_
      exact hE _ _ _ _ dX8_at_26 (oH_some h)
def f_X8_best  (za1 : Int32) (S : oS) : Option (Int32 × oS) :=
  (f_X8_within za1 (0 : Int32) (3 : Int32) S).bind fun zz1 =>
  if zz1.1 = 0 then (
  some ((-2 : Int32), zz1.2)) else (
  (f_X0_findBest zz1.2).bind fun zz2 =>
  if za1 = 0 then (
  some (zz2.1 100 0 4, zz2)) else if za1 = 1 then (
  some (zz2.1 100 0 5, zz2)) else if za1 = 2 then (
  some (zz2.1 100 0 6, zz2)) else (
  some (zz2.1 100 0 7, zz2)))
set_option maxHeartbeats 4000000 in
theorem s_X8_best {G : oG} {r : oR} (d : Nat) (hd : 4 ≤ d) {za1 : Int32}  {S : oS} {P : Int32 × oS → Prop} (h : oH (f_X8_best za1 S) P) : oCt G r d yX8_best mX8_best [orf 900 0, oi za1] S (oQi P) := by
  unfold f_X8_best at h
  refine oCt_of (by decide) rfl (Nat.le_of_ble_eq_true rfl) ?_
  intro X hG hr hE0 hR
  subst hG; subst hr
  obtain ⟨e, rfl⟩ : ∃ e, d = e + 1 := ⟨d - 1, by omega⟩
  have he : 3 ≤ e := by omega
  have hE := oEI_of hE0 rfl
  clear hE0 hd
  show oVv X mX8_best 0 [(0, orf 900 0), (1, oi za1)] [] S
  refine o_iload_n (pc := 0) dX8_best_0 rfl 1 rfl ?_
  refine o_iconst (v := 0) (pc := 1) dX8_best_1 (by decide) ?_
  refine o_iconst (v := 3) (pc := 2) dX8_best_2 (by decide) ?_
  have h := oH_bind h
  refine o_callSi (pc := 3) (st := []) [oi za1, oi (0 : Int32), oi (3 : Int32)] hR md_X8_within wd_375 wd_376 rfl (Nat.le_of_ble_eq_true rfl) rfl dX8_best_3 (s_X8_within e (by omega)  h) (fun zz1 h => ?_)
  refine o_if_ne 12 (pc := 6) dX8_best_6 (by decide) (fun hc => ?_) (fun hc => ?_)
  · have h := oH_F hc h
    refine o_aload_n (pc := 12) dX8_best_12 rfl 0 rfl ?_
    refine o_getF (pc := 13) fd_RX8_56 ft_900_6 j_900 dX8_best_13 ?_
    have h := oH_bind h
    refine o_callVv (pc := 16) (st := []) [] hR md_X0_findBest wd_814 wd_815 wd_816 tc_100 j_100 rfl (Nat.le_of_ble_eq_true rfl) rfl dX8_best_16 (s_X0_findBest e (by omega)  h) (fun zz2 h => ?_)
    refine o_iload_n (pc := 19) dX8_best_19 rfl 1 rfl ?_
    by_cases hc0 : za1 = 0
    · have h := oH_T hc0 h
      refine o_tabIn 48 (pc := 20) (off := 28) dX8_best_20 (by rw [hc0]; decide) (by rw [hc0]; decide) (by rw [hc0]; rfl) (by decide) ?_
      refine o_aload_n (pc := 48) dX8_best_48 rfl 0 rfl ?_
      refine o_getF (pc := 49) fd_RX8_56 ft_900_6 j_900 dX8_best_49 ?_
      refine o_getI (pc := 52) fd_RX8_306 ft_100_4 j_100 dX8_best_52 ?_
      exact hE _ _ _ _ dX8_best_55 (oH_some h)
    have h := oH_F hc0 h
    by_cases hc1 : za1 = 1
    · have h := oH_T hc1 h
      refine o_tabIn 56 (pc := 20) (off := 36) dX8_best_20 (by rw [hc1]; decide) (by rw [hc1]; decide) (by rw [hc1]; rfl) (by decide) ?_
      refine o_aload_n (pc := 56) dX8_best_56 rfl 0 rfl ?_
      refine o_getF (pc := 57) fd_RX8_56 ft_900_6 j_900 dX8_best_57 ?_
      refine o_getI (pc := 60) fd_RX8_309 ft_100_5 j_100 dX8_best_60 ?_
      exact hE _ _ _ _ dX8_best_63 (oH_some h)
    have h := oH_F hc1 h
    by_cases hc2 : za1 = 2
    · have h := oH_T hc2 h
      refine o_tabIn 64 (pc := 20) (off := 44) dX8_best_20 (by rw [hc2]; decide) (by rw [hc2]; decide) (by rw [hc2]; rfl) (by decide) ?_
      refine o_aload_n (pc := 64) dX8_best_64 rfl 0 rfl ?_
      refine o_getF (pc := 65) fd_RX8_56 ft_900_6 j_900 dX8_best_65 ?_
      refine o_getI (pc := 68) fd_RX8_312 ft_100_6 j_100 dX8_best_68 ?_
      exact hE _ _ _ _ dX8_best_71 (oH_some h)
    have h := oH_F hc2 h
    refine o_tabOut 72 (pc := 20) dX8_best_20 (by
        have g0 : ¬ Int32.toInt za1 = 0 := fun z => hc0 (Int32.toInt_inj.mp z)
        have g1 : ¬ Int32.toInt za1 = 1 := fun z => hc1 (Int32.toInt_inj.mp z)
        have g2 : ¬ Int32.toInt za1 = 2 := fun z => hc2 (Int32.toInt_inj.mp z)
        omega) (by decide) ?_
    refine o_aload_n (pc := 72) dX8_best_72 rfl 0 rfl ?_
    refine o_getF (pc := 73) fd_RX8_56 ft_900_6 j_900 dX8_best_73 ?_
    refine o_getI (pc := 76) fd_RX8_315 ft_100_7 j_100 dX8_best_76 ?_
    exact hE _ _ _ _ dX8_best_79 (oH_some h)
  · have h := oH_T hc h
    refine o_bipush (v := -2) (pc := 9) dX8_best_9 (by decide) ?_
    exact hE _ _ _ _ dX8_best_11 (oH_some h)
def f_X8_bricks  (za1 : Int32) (za2 : Int32) (S : oS) : Option (Int32 × oS) :=
  (f_X8_isRing za1 S).bind fun zz1 =>
  if zz1.1 = 0 then (
  some ((-2 : Int32), zz1.2)) else (
  (f_X8_isWeek za2 zz1.2).bind fun zz2 =>
  if zz2.1 = 0 then (
  some ((-2 : Int32), zz2.2)) else (
  if (zz2.2.1 100 0 3) < (10 : Int32) then (
  (f_X0_addBricks za1 za2 zz2.2).bind fun zz3 =>
  some (zz3.1, zz3.2)) else (
  some ((-4 : Int32), zz2.2))))
set_option maxHeartbeats 4000000 in
theorem s_X8_bricks {G : oG} {r : oR} (d : Nat) (hd : 3 ≤ d) {za1 : Int32} {za2 : Int32}  {S : oS} {P : Int32 × oS → Prop} (h : oH (f_X8_bricks za1 za2 S) P) : oCt G r d yX8_bricks mX8_bricks [orf 900 0, oi za1, oi za2] S (oQi P) := by
  unfold f_X8_bricks at h
  refine oCt_of (by decide) rfl (Nat.le_of_ble_eq_true rfl) ?_
  intro X hG hr hE0 hR
  subst hG; subst hr
  obtain ⟨e, rfl⟩ : ∃ e, d = e + 1 := ⟨d - 1, by omega⟩
  have he : 2 ≤ e := by omega
  have hE := oEI_of hE0 rfl
  clear hE0 hd
  show oVv X mX8_bricks 0 [(0, orf 900 0), (1, oi za1), (2, oi za2)] [] S
  refine o_iload_n (pc := 0) dX8_bricks_0 rfl 1 rfl ?_
  have h := oH_bind h
  refine o_callSi (pc := 1) (st := []) [oi za1] hR md_X8_isRing wd_382 wd_383 rfl (Nat.le_of_ble_eq_true rfl) rfl dX8_bricks_1 (s_X8_isRing e (by omega)  h) (fun zz1 h => ?_)
  refine o_if_eq 14 (pc := 4) dX8_bricks_4 (by decide) (fun hc => ?_) (fun hc => ?_)
  · have h := oH_T hc h
    refine o_bipush (v := -2) (pc := 14) dX8_bricks_14 (by decide) ?_
    exact hE _ _ _ _ dX8_bricks_16 (oH_some h)
  · have h := oH_F hc h
    refine o_iload_n (pc := 7) dX8_bricks_7 rfl 2 rfl ?_
    have h := oH_bind h
    refine o_callSi (pc := 8) (st := []) [oi za2] hR md_X8_isWeek wd_729 wd_730 rfl (Nat.le_of_ble_eq_true rfl) rfl dX8_bricks_8 (s_X8_isWeek e (by omega)  h) (fun zz2 h => ?_)
    refine o_if_ne 17 (pc := 11) dX8_bricks_11 (by decide) (fun hc => ?_) (fun hc => ?_)
    · have h := oH_F hc h
      refine o_aload_n (pc := 17) dX8_bricks_17 rfl 0 rfl ?_
      refine o_getF (pc := 18) fd_RX8_56 ft_900_6 j_900 dX8_bricks_18 ?_
      refine o_getI (pc := 21) fd_RX8_297 ft_100_3 j_100 dX8_bricks_21 ?_
      refine o_bipush (v := 10) (pc := 24) dX8_bricks_24 (by decide) ?_
      refine o_icmp_lt 32 (pc := 26) dX8_bricks_26 (by decide) (fun hc => ?_) (fun hc => ?_)
      · have h := oH_T hc h
        refine o_aload_n (pc := 32) dX8_bricks_32 rfl 0 rfl ?_
        refine o_getF (pc := 33) fd_RX8_56 ft_900_6 j_900 dX8_bricks_33 ?_
        refine o_iload_n (pc := 36) dX8_bricks_36 rfl 1 rfl ?_
        refine o_iload_n (pc := 37) dX8_bricks_37 rfl 2 rfl ?_
        have h := oH_bind h
        refine o_callVi (pc := 38) (st := []) [oi za1, oi za2] hR md_X0_addBricks wd_806 wd_807 wd_808 tc_100 j_100 rfl (Nat.le_of_ble_eq_true rfl) rfl dX8_bricks_38 (s_X0_addBricks e (by omega)  h) (fun zz3 h => ?_)
        exact hE _ _ _ _ dX8_bricks_41 (oH_some h)
      · have h := oH_F hc h
        refine o_bipush (v := -4) (pc := 29) dX8_bricks_29 (by decide) ?_
        exact hE _ _ _ _ dX8_bricks_31 (oH_some h)
    · have h := oH_T hc h
      refine o_bipush (v := -2) (pc := 14) dX8_bricks_14 (by decide) ?_
      exact hE _ _ _ _ dX8_bricks_16 (oH_some h)
def f_X8_clear   (S : oS) : Option (Int32 × oS) :=
  oLet (S.1 600 0 10) fun zx1 =>
  oLet (oStI S 600 0 10 (0 : Int32)) fun zS2 =>
  oLet (oStI zS2 600 0 11 (0 : Int32)) fun zS3 =>
  some (zx1, zS3)
set_option maxHeartbeats 4000000 in
theorem s_X8_clear {G : oG} {r : oR} (d : Nat) (hd : 1 ≤ d)   {S : oS} {P : Int32 × oS → Prop} (h : oH (f_X8_clear  S) P) : oCt G r d yX8_clear mX8_clear [orf 900 0] S (oQi P) := by
  unfold f_X8_clear at h
  refine oCt_of (by decide) rfl (Nat.le_of_ble_eq_true rfl) ?_
  intro X hG hr hE0 hR
  subst hG; subst hr
  obtain ⟨e, rfl⟩ : ∃ e, d = e + 1 := ⟨d - 1, by omega⟩
  have he : 0 ≤ e := by omega
  have hE := oEI_of hE0 rfl
  clear hE0 hd
  show oVv X mX8_clear 0 [(0, orf 900 0)] [] S
  refine o_aload_n (pc := 0) dX8_clear_0 rfl 0 rfl ?_
  refine o_getF (pc := 1) fd_RX8_35 ft_900_3 j_900 dX8_clear_1 ?_
  refine o_getI (pc := 4) fd_RX8_214 ft_600_10 j_600 dX8_clear_4 ?_
  refine o_nmI (fun zx1 hx => ?_)
  have h := oH_let h zx1 hx
  clear hx
  refine o_istore_n (lv1 := [(0, orf 900 0), (1, oi zx1)]) (pc := 7) dX8_clear_7 rfl (by decide) rfl ?_
  refine o_aload_n (pc := 8) dX8_clear_8 rfl 0 rfl ?_
  refine o_getF (pc := 9) fd_RX8_35 ft_900_3 j_900 dX8_clear_9 ?_
  refine o_iconst (v := 0) (pc := 12) dX8_clear_12 (by decide) ?_
  refine o_putI (pc := 13) fd_RX8_214 fp_600_10 ft_600_10 rfl rfl j_600 dX8_clear_13 ?_
  refine o_nmS (fun zS2 hx => ?_)
  have h := oH_let h zS2 hx
  clear hx
  refine o_aload_n (pc := 16) dX8_clear_16 rfl 0 rfl ?_
  refine o_getF (pc := 17) fd_RX8_35 ft_900_3 j_900 dX8_clear_17 ?_
  refine o_iconst (v := 0) (pc := 20) dX8_clear_20 (by decide) ?_
  refine o_putI (pc := 21) fd_RX8_223 fp_600_11 ft_600_11 rfl rfl j_600 dX8_clear_21 ?_
  refine o_nmS (fun zS3 hx => ?_)
  have h := oH_let h zS3 hx
  clear hx
  refine o_iload_n (pc := 24) dX8_clear_24 rfl 1 rfl ?_
  exact hE _ _ _ _ dX8_clear_25 (oH_some h)
def f_X8_count  (za1 : Int32) (S : oS) : Option (Int32 × oS) :=
  if za1 = 0 then (
  some (S.1 500 0 5, S)) else if za1 = 1 then (
  some (S.1 400 0 9, S)) else if za1 = 2 then (
  some (S.1 200 0 10, S)) else if za1 = 3 then (
  some (S.1 600 0 10, S)) else if za1 = 4 then (
  some (S.1 600 0 11, S)) else if za1 = 5 then (
  some (S.1 900 0 7, S)) else if za1 = 6 then (
  some (S.1 400 0 10, S)) else if za1 = 7 then (
  (f_X0_knownNotes S).bind fun zz1 =>
  some (zz1.1, zz1.2)) else if za1 = 8 then (
  some (S.1 700 0 5, S)) else (
  some ((-2 : Int32), S))
set_option maxHeartbeats 4000000 in
theorem s_X8_count {G : oG} {r : oR} (d : Nat) (hd : 2 ≤ d) {za1 : Int32}  {S : oS} {P : Int32 × oS → Prop} (h : oH (f_X8_count za1 S) P) : oCt G r d yX8_count mX8_count [orf 900 0, oi za1] S (oQi P) := by
  unfold f_X8_count at h
  refine oCt_of (by decide) rfl (Nat.le_of_ble_eq_true rfl) ?_
  intro X hG hr hE0 hR
  subst hG; subst hr
  obtain ⟨e, rfl⟩ : ∃ e, d = e + 1 := ⟨d - 1, by omega⟩
  have he : 1 ≤ e := by omega
  have hE := oEI_of hE0 rfl
  clear hE0 hd
  show oVv X mX8_count 0 [(0, orf 900 0), (1, oi za1)] [] S
  refine o_iload_n (pc := 0) dX8_count_0 rfl 1 rfl ?_
  by_cases hc0 : za1 = 0
  · have h := oH_T hc0 h
    refine o_tabIn 52 (pc := 1) (off := 51) dX8_count_1 (by rw [hc0]; decide) (by rw [hc0]; decide) (by rw [hc0]; rfl) (by decide) ?_
    refine o_aload_n (pc := 52) dX8_count_52 rfl 0 rfl ?_
    refine o_getF (pc := 53) fd_RX8_10 ft_900_0 j_900 dX8_count_53 ?_
    refine o_getI (pc := 56) fd_RX8_89 ft_500_5 j_500_0 dX8_count_56 ?_
    exact hE _ _ _ _ dX8_count_59 (oH_some h)
  have h := oH_F hc0 h
  by_cases hc1 : za1 = 1
  · have h := oH_T hc1 h
    refine o_tabIn 60 (pc := 1) (off := 59) dX8_count_1 (by rw [hc1]; decide) (by rw [hc1]; decide) (by rw [hc1]; rfl) (by decide) ?_
    refine o_aload_n (pc := 60) dX8_count_60 rfl 0 rfl ?_
    refine o_getF (pc := 61) fd_RX8_28 ft_900_2 j_900 dX8_count_61 ?_
    refine o_getI (pc := 64) fd_RX8_159 ft_400_9 j_400 dX8_count_64 ?_
    exact hE _ _ _ _ dX8_count_67 (oH_some h)
  have h := oH_F hc1 h
  by_cases hc2 : za1 = 2
  · have h := oH_T hc2 h
    refine o_tabIn 68 (pc := 1) (off := 67) dX8_count_1 (by rw [hc2]; decide) (by rw [hc2]; decide) (by rw [hc2]; rfl) (by decide) ?_
    refine o_aload_n (pc := 68) dX8_count_68 rfl 0 rfl ?_
    refine o_getF (pc := 69) fd_RX8_19 ft_900_1 j_900 dX8_count_69 ?_
    refine o_getI (pc := 72) fd_RX8_136 ft_200_10 j_200 dX8_count_72 ?_
    exact hE _ _ _ _ dX8_count_75 (oH_some h)
  have h := oH_F hc2 h
  by_cases hc3 : za1 = 3
  · have h := oH_T hc3 h
    refine o_tabIn 76 (pc := 1) (off := 75) dX8_count_1 (by rw [hc3]; decide) (by rw [hc3]; decide) (by rw [hc3]; rfl) (by decide) ?_
    refine o_aload_n (pc := 76) dX8_count_76 rfl 0 rfl ?_
    refine o_getF (pc := 77) fd_RX8_35 ft_900_3 j_900 dX8_count_77 ?_
    refine o_getI (pc := 80) fd_RX8_214 ft_600_10 j_600 dX8_count_80 ?_
    exact hE _ _ _ _ dX8_count_83 (oH_some h)
  have h := oH_F hc3 h
  by_cases hc4 : za1 = 4
  · have h := oH_T hc4 h
    refine o_tabIn 84 (pc := 1) (off := 83) dX8_count_1 (by rw [hc4]; decide) (by rw [hc4]; decide) (by rw [hc4]; rfl) (by decide) ?_
    refine o_aload_n (pc := 84) dX8_count_84 rfl 0 rfl ?_
    refine o_getF (pc := 85) fd_RX8_35 ft_900_3 j_900 dX8_count_85 ?_
    refine o_getI (pc := 88) fd_RX8_223 ft_600_11 j_600 dX8_count_88 ?_
    exact hE _ _ _ _ dX8_count_91 (oH_some h)
  have h := oH_F hc4 h
  by_cases hc5 : za1 = 5
  · have h := oH_T hc5 h
    refine o_tabIn 92 (pc := 1) (off := 91) dX8_count_1 (by rw [hc5]; decide) (by rw [hc5]; decide) (by rw [hc5]; rfl) (by decide) ?_
    refine o_aload_n (pc := 92) dX8_count_92 rfl 0 rfl ?_
    refine o_getI (pc := 93) fd_RX8_60 ft_900_7 j_900 dX8_count_93 ?_
    exact hE _ _ _ _ dX8_count_96 (oH_some h)
  have h := oH_F hc5 h
  by_cases hc6 : za1 = 6
  · have h := oH_T hc6 h
    refine o_tabIn 97 (pc := 1) (off := 96) dX8_count_1 (by rw [hc6]; decide) (by rw [hc6]; decide) (by rw [hc6]; rfl) (by decide) ?_
    refine o_aload_n (pc := 97) dX8_count_97 rfl 0 rfl ?_
    refine o_getF (pc := 98) fd_RX8_28 ft_900_2 j_900 dX8_count_98 ?_
    refine o_getI (pc := 101) fd_RX8_324 ft_400_10 j_400 dX8_count_101 ?_
    exact hE _ _ _ _ dX8_count_104 (oH_some h)
  have h := oH_F hc6 h
  by_cases hc7 : za1 = 7
  · have h := oH_T hc7 h
    refine o_tabIn 105 (pc := 1) (off := 104) dX8_count_1 (by rw [hc7]; decide) (by rw [hc7]; decide) (by rw [hc7]; rfl) (by decide) ?_
    refine o_aload_n (pc := 105) dX8_count_105 rfl 0 rfl ?_
    refine o_getF (pc := 106) fd_RX8_56 ft_900_6 j_900 dX8_count_106 ?_
    have h := oH_bind h
    refine o_callVi (pc := 109) (st := []) [] hR md_X0_knownNotes wd_847 wd_848 wd_849 tc_100 j_100 rfl (Nat.le_of_ble_eq_true rfl) rfl dX8_count_109 (s_X0_knownNotes e (by omega)  h) (fun zz1 h => ?_)
    exact hE _ _ _ _ dX8_count_112 (oH_some h)
  have h := oH_F hc7 h
  by_cases hc8 : za1 = 8
  · have h := oH_T hc8 h
    refine o_tabIn 113 (pc := 1) (off := 112) dX8_count_1 (by rw [hc8]; decide) (by rw [hc8]; decide) (by rw [hc8]; rfl) (by decide) ?_
    refine o_aload_n (pc := 113) dX8_count_113 rfl 0 rfl ?_
    refine o_getF (pc := 114) fd_RX8_49 ft_900_5 j_900 dX8_count_114 ?_
    refine o_getI (pc := 117) fd_RX8_257 ft_700_5 j_700 dX8_count_117 ?_
    exact hE _ _ _ _ dX8_count_120 (oH_some h)
  have h := oH_F hc8 h
  refine o_tabOut 121 (pc := 1) dX8_count_1 (by
      have g0 : ¬ Int32.toInt za1 = 0 := fun z => hc0 (Int32.toInt_inj.mp z)
      have g1 : ¬ Int32.toInt za1 = 1 := fun z => hc1 (Int32.toInt_inj.mp z)
      have g2 : ¬ Int32.toInt za1 = 2 := fun z => hc2 (Int32.toInt_inj.mp z)
      have g3 : ¬ Int32.toInt za1 = 3 := fun z => hc3 (Int32.toInt_inj.mp z)
      have g4 : ¬ Int32.toInt za1 = 4 := fun z => hc4 (Int32.toInt_inj.mp z)
      have g5 : ¬ Int32.toInt za1 = 5 := fun z => hc5 (Int32.toInt_inj.mp z)
      have g6 : ¬ Int32.toInt za1 = 6 := fun z => hc6 (Int32.toInt_inj.mp z)
      have g7 : ¬ Int32.toInt za1 = 7 := fun z => hc7 (Int32.toInt_inj.mp z)
      have g8 : ¬ Int32.toInt za1 = 8 := fun z => hc8 (Int32.toInt_inj.mp z)
      omega) (by decide) ?_
  refine o_bipush (v := -2) (pc := 121) dX8_count_121 (by decide) ?_
  exact hE _ _ _ _ dX8_count_123 (oH_some h)
def f_X8_crack  (za1 : Int32) (za2 : Int32) (S : oS) : Option (Int32 × oS) :=
  (f_X8_isRing za1 S).bind fun zz1 =>
  if zz1.1 = 0 then (
  some ((-2 : Int32), zz1.2)) else (
  (f_X8_within za2 (0 : Int32) (4 : Int32) zz1.2).bind fun zz2 =>
  if zz2.1 = 0 then (
  some ((-2 : Int32), zz2.2)) else (
  if oIn za1 4 then (
  oLet (zz2.2.1 503 0 (Int32.toNatClampNeg za1)) fun zx3 =>
  if oIn za1 4 then (
  oLet (oStI zz2.2 503 0 (Int32.toNatClampNeg za1) za2) fun zS4 =>
  some (zx3, zS4)) else none) else none))
set_option maxHeartbeats 4000000 in
theorem s_X8_crack {G : oG} {r : oR} (d : Nat) (hd : 3 ≤ d) {za1 : Int32} {za2 : Int32}  {S : oS} {P : Int32 × oS → Prop} (h : oH (f_X8_crack za1 za2 S) P) : oCt G r d yX8_crack mX8_crack [orf 900 0, oi za1, oi za2] S (oQi P) := by
  unfold f_X8_crack at h
  refine oCt_of (by decide) rfl (Nat.le_of_ble_eq_true rfl) ?_
  intro X hG hr hE0 hR
  subst hG; subst hr
  obtain ⟨e, rfl⟩ : ∃ e, d = e + 1 := ⟨d - 1, by omega⟩
  have he : 2 ≤ e := by omega
  have hE := oEI_of hE0 rfl
  clear hE0 hd
  show oVv X mX8_crack 0 [(0, orf 900 0), (1, oi za1), (2, oi za2)] [] S
  refine o_iload_n (pc := 0) dX8_crack_0 rfl 1 rfl ?_
  have h := oH_bind h
  refine o_callSi (pc := 1) (st := []) [oi za1] hR md_X8_isRing wd_382 wd_383 rfl (Nat.le_of_ble_eq_true rfl) rfl dX8_crack_1 (s_X8_isRing e (by omega)  h) (fun zz1 h => ?_)
  refine o_if_eq 16 (pc := 4) dX8_crack_4 (by decide) (fun hc => ?_) (fun hc => ?_)
  · have h := oH_T hc h
    refine o_bipush (v := -2) (pc := 16) dX8_crack_16 (by decide) ?_
    exact hE _ _ _ _ dX8_crack_18 (oH_some h)
  · have h := oH_F hc h
    refine o_iload_n (pc := 7) dX8_crack_7 rfl 2 rfl ?_
    refine o_iconst (v := 0) (pc := 8) dX8_crack_8 (by decide) ?_
    refine o_iconst (v := 4) (pc := 9) dX8_crack_9 (by decide) ?_
    have h := oH_bind h
    refine o_callSi (pc := 10) (st := []) [oi za2, oi (0 : Int32), oi (4 : Int32)] hR md_X8_within wd_375 wd_376 rfl (Nat.le_of_ble_eq_true rfl) rfl dX8_crack_10 (s_X8_within e (by omega)  h) (fun zz2 h => ?_)
    refine o_if_ne 19 (pc := 13) dX8_crack_13 (by decide) (fun hc => ?_) (fun hc => ?_)
    · have h := oH_F hc h
      refine o_aload_n (pc := 19) dX8_crack_19 rfl 0 rfl ?_
      refine o_getF (pc := 20) fd_RX8_10 ft_900_0 j_900 dX8_crack_20 ?_
      refine o_getA (pc := 23) fd_RX8_79 ft_500_2 j_500_0 dX8_crack_23 ?_
      refine o_iload_n (pc := 26) dX8_crack_26 rfl 1 rfl ?_
      obtain ⟨hg, h⟩ := oH_G h
      refine o_iald (pc := 27) kd_503 (jc_503 j_500_0) hg dX8_crack_27 ?_
      refine o_nmI (fun zx3 hx => ?_)
      have h := oH_let h zx3 hx
      clear hx
      refine o_istore_n (lv1 := [(0, orf 900 0), (1, oi za1), (2, oi za2), (3, oi zx3)]) (pc := 28) dX8_crack_28 rfl (by decide) rfl ?_
      refine o_aload_n (pc := 29) dX8_crack_29 rfl 0 rfl ?_
      refine o_getF (pc := 30) fd_RX8_10 ft_900_0 j_900 dX8_crack_30 ?_
      refine o_getA (pc := 33) fd_RX8_79 ft_500_2 j_500_0 dX8_crack_33 ?_
      refine o_iload_n (pc := 36) dX8_crack_36 rfl 1 rfl ?_
      refine o_iload_n (pc := 37) dX8_crack_37 rfl 2 rfl ?_
      obtain ⟨hg, h⟩ := oH_G h
      have hgi := hg
      refine o_iast (pc := 38) kd_503 (jc_503 j_500_0) hgi dX8_crack_38 ?_
      refine o_nmS (fun zS4 hx => ?_)
      have h := oH_let h zS4 hx
      clear hx
      refine o_iload_n (pc := 39) dX8_crack_39 rfl 3 rfl ?_
      exact hE _ _ _ _ dX8_crack_40 (oH_some h)
    · have h := oH_T hc h
      refine o_bipush (v := -2) (pc := 16) dX8_crack_16 (by decide) ?_
      exact hE _ _ _ _ dX8_crack_18 (oH_some h)
def f_X8_custom  (za1 : Int32) (za2 : Int32) (S : oS) : Option (Int32 × oS) :=
  (f_X8_within za1 (0 : Int32) (1 : Int32) S).bind fun zz1 =>
  if zz1.1 = 0 then (
  some ((-2 : Int32), zz1.2)) else (
  if 0 ≤ za2 then (
  oLet (oStI zz1.2 700 0 7 za1) fun zS2 =>
  oLet (oStI zS2 700 0 8 za2) fun zS3 =>
  some ((1 : Int32), zS3)) else (
  some ((-2 : Int32), zz1.2)))
set_option maxHeartbeats 4000000 in
theorem s_X8_custom {G : oG} {r : oR} (d : Nat) (hd : 2 ≤ d) {za1 : Int32} {za2 : Int32}  {S : oS} {P : Int32 × oS → Prop} (h : oH (f_X8_custom za1 za2 S) P) : oCt G r d yX8_custom mX8_custom [orf 900 0, oi za1, oi za2] S (oQi P) := by
  unfold f_X8_custom at h
  refine oCt_of (by decide) rfl (Nat.le_of_ble_eq_true rfl) ?_
  intro X hG hr hE0 hR
  subst hG; subst hr
  obtain ⟨e, rfl⟩ : ∃ e, d = e + 1 := ⟨d - 1, by omega⟩
  have he : 1 ≤ e := by omega
  have hE := oEI_of hE0 rfl
  clear hE0 hd
  show oVv X mX8_custom 0 [(0, orf 900 0), (1, oi za1), (2, oi za2)] [] S
  refine o_iload_n (pc := 0) dX8_custom_0 rfl 1 rfl ?_
  refine o_iconst (v := 0) (pc := 1) dX8_custom_1 (by decide) ?_
  refine o_iconst (v := 1) (pc := 2) dX8_custom_2 (by decide) ?_
  have h := oH_bind h
  refine o_callSi (pc := 3) (st := []) [oi za1, oi (0 : Int32), oi (1 : Int32)] hR md_X8_within wd_375 wd_376 rfl (Nat.le_of_ble_eq_true rfl) rfl dX8_custom_3 (s_X8_within e (by omega)  h) (fun zz1 h => ?_)
  refine o_if_eq 13 (pc := 6) dX8_custom_6 (by decide) (fun hc => ?_) (fun hc => ?_)
  · have h := oH_T hc h
    refine o_bipush (v := -2) (pc := 13) dX8_custom_13 (by decide) ?_
    exact hE _ _ _ _ dX8_custom_15 (oH_some h)
  · have h := oH_F hc h
    refine o_iload_n (pc := 9) dX8_custom_9 rfl 2 rfl ?_
    refine o_if_ge 16 (pc := 10) dX8_custom_10 (by decide) (fun hc => ?_) (fun hc => ?_)
    · have h := oH_T hc h
      refine o_aload_n (pc := 16) dX8_custom_16 rfl 0 rfl ?_
      refine o_getF (pc := 17) fd_RX8_49 ft_900_5 j_900 dX8_custom_17 ?_
      refine o_iload_n (pc := 20) dX8_custom_20 rfl 1 rfl ?_
      refine o_putI (pc := 21) fd_RX8_260 fp_700_7 ft_700_7 rfl rfl j_700 dX8_custom_21 ?_
      refine o_nmS (fun zS2 hx => ?_)
      have h := oH_let h zS2 hx
      clear hx
      refine o_aload_n (pc := 24) dX8_custom_24 rfl 0 rfl ?_
      refine o_getF (pc := 25) fd_RX8_49 ft_900_5 j_900 dX8_custom_25 ?_
      refine o_iload_n (pc := 28) dX8_custom_28 rfl 2 rfl ?_
      refine o_putI (pc := 29) fd_RX8_263 fp_700_8 ft_700_8 rfl rfl j_700 dX8_custom_29 ?_
      refine o_nmS (fun zS3 hx => ?_)
      have h := oH_let h zS3 hx
      clear hx
      refine o_iconst (v := 1) (pc := 32) dX8_custom_32 (by decide) ?_
      exact hE _ _ _ _ dX8_custom_33 (oH_some h)
    · have h := oH_F hc h
      refine o_bipush (v := -2) (pc := 13) dX8_custom_13 (by decide) ?_
      exact hE _ _ _ _ dX8_custom_15 (oH_some h)
def f_X8_damp  (za1 : Int32) (za2 : Int32) (S : oS) : Option (Int32 × oS) :=
  (f_X8_isRing za1 S).bind fun zz1 =>
  if zz1.1 = 0 then (
  some ((-2 : Int32), zz1.2)) else (
  (f_X8_within za2 (0 : Int32) (1000 : Int32) zz1.2).bind fun zz2 =>
  if zz2.1 = 0 then (
  some ((-2 : Int32), zz2.2)) else (
  if oIn za1 4 then (
  oLet (zz2.2.1 502 0 (Int32.toNatClampNeg za1)) fun zx3 =>
  if oIn za1 4 then (
  oLet (oStI zz2.2 502 0 (Int32.toNatClampNeg za1) za2) fun zS4 =>
  some (zx3, zS4)) else none) else none))
set_option maxHeartbeats 4000000 in
theorem s_X8_damp {G : oG} {r : oR} (d : Nat) (hd : 3 ≤ d) {za1 : Int32} {za2 : Int32}  {S : oS} {P : Int32 × oS → Prop} (h : oH (f_X8_damp za1 za2 S) P) : oCt G r d yX8_damp mX8_damp [orf 900 0, oi za1, oi za2] S (oQi P) := by
  unfold f_X8_damp at h
  refine oCt_of (by decide) rfl (Nat.le_of_ble_eq_true rfl) ?_
  intro X hG hr hE0 hR
  subst hG; subst hr
  obtain ⟨e, rfl⟩ : ∃ e, d = e + 1 := ⟨d - 1, by omega⟩
  have he : 2 ≤ e := by omega
  have hE := oEI_of hE0 rfl
  clear hE0 hd
  show oVv X mX8_damp 0 [(0, orf 900 0), (1, oi za1), (2, oi za2)] [] S
  refine o_iload_n (pc := 0) dX8_damp_0 rfl 1 rfl ?_
  have h := oH_bind h
  refine o_callSi (pc := 1) (st := []) [oi za1] hR md_X8_isRing wd_382 wd_383 rfl (Nat.le_of_ble_eq_true rfl) rfl dX8_damp_1 (s_X8_isRing e (by omega)  h) (fun zz1 h => ?_)
  refine o_if_eq 18 (pc := 4) dX8_damp_4 (by decide) (fun hc => ?_) (fun hc => ?_)
  · have h := oH_T hc h
    refine o_bipush (v := -2) (pc := 18) dX8_damp_18 (by decide) ?_
    exact hE _ _ _ _ dX8_damp_20 (oH_some h)
  · have h := oH_F hc h
    refine o_iload_n (pc := 7) dX8_damp_7 rfl 2 rfl ?_
    refine o_iconst (v := 0) (pc := 8) dX8_damp_8 (by decide) ?_
    refine o_sipush (v := 1000) (pc := 9) dX8_damp_9 (by decide) ?_
    have h := oH_bind h
    refine o_callSi (pc := 12) (st := []) [oi za2, oi (0 : Int32), oi (1000 : Int32)] hR md_X8_within wd_375 wd_376 rfl (Nat.le_of_ble_eq_true rfl) rfl dX8_damp_12 (s_X8_within e (by omega)  h) (fun zz2 h => ?_)
    refine o_if_ne 21 (pc := 15) dX8_damp_15 (by decide) (fun hc => ?_) (fun hc => ?_)
    · have h := oH_F hc h
      refine o_aload_n (pc := 21) dX8_damp_21 rfl 0 rfl ?_
      refine o_getF (pc := 22) fd_RX8_10 ft_900_0 j_900 dX8_damp_22 ?_
      refine o_getA (pc := 25) fd_RX8_75 ft_500_1 j_500_0 dX8_damp_25 ?_
      refine o_iload_n (pc := 28) dX8_damp_28 rfl 1 rfl ?_
      obtain ⟨hg, h⟩ := oH_G h
      refine o_iald (pc := 29) kd_502 (jc_502 j_500_0) hg dX8_damp_29 ?_
      refine o_nmI (fun zx3 hx => ?_)
      have h := oH_let h zx3 hx
      clear hx
      refine o_istore_n (lv1 := [(0, orf 900 0), (1, oi za1), (2, oi za2), (3, oi zx3)]) (pc := 30) dX8_damp_30 rfl (by decide) rfl ?_
      refine o_aload_n (pc := 31) dX8_damp_31 rfl 0 rfl ?_
      refine o_getF (pc := 32) fd_RX8_10 ft_900_0 j_900 dX8_damp_32 ?_
      refine o_getA (pc := 35) fd_RX8_75 ft_500_1 j_500_0 dX8_damp_35 ?_
      refine o_iload_n (pc := 38) dX8_damp_38 rfl 1 rfl ?_
      refine o_iload_n (pc := 39) dX8_damp_39 rfl 2 rfl ?_
      obtain ⟨hg, h⟩ := oH_G h
      have hgi := hg
      refine o_iast (pc := 40) kd_502 (jc_502 j_500_0) hgi dX8_damp_40 ?_
      refine o_nmS (fun zS4 hx => ?_)
      have h := oH_let h zS4 hx
      clear hx
      refine o_iload_n (pc := 41) dX8_damp_41 rfl 3 rfl ?_
      exact hE _ _ _ _ dX8_damp_42 (oH_some h)
    · have h := oH_T hc h
      refine o_bipush (v := -2) (pc := 18) dX8_damp_18 (by decide) ?_
      exact hE _ _ _ _ dX8_damp_20 (oH_some h)
def f_X8_explains  (za1 : Int32) (za2 : Int32) (za3 : Int32) (S : oS) : Option (Int32 × oS) :=
  (f_X8_within za1 (0 : Int32) (2 : Int32) S).bind fun zz1 =>
  if zz1.1 = 0 then (
  some ((-2 : Int32), zz1.2)) else (
  (f_X8_isRing za2 zz1.2).bind fun zz2 =>
  if zz2.1 = 0 then (
  some ((-2 : Int32), zz2.2)) else (
  (f_X8_isWeek za3 zz2.2).bind fun zz3 =>
  if zz3.1 = 0 then (
  some ((-2 : Int32), zz3.2)) else (
  if za1 = 0 then (
  if za2 = 0 then (
  if za3 = 0 then (
  (f_X0_wellNotes zz3.2).bind fun zz6 =>
  some (zz6.1, zz6.2)) else (
  some ((-2 : Int32), zz3.2))) else (
  some ((-2 : Int32), zz3.2))) else (
  (f_X0_wellNotes zz3.2).bind fun zz4 =>
  (f_X0_gain za1 za2 za3 zz4.2).bind fun zz5 =>
  some ((zz4.1 + zz5.1), zz5.2)))))
set_option maxHeartbeats 4000000 in
theorem s_X8_explains {G : oG} {r : oR} (d : Nat) (hd : 3 ≤ d) {za1 : Int32} {za2 : Int32} {za3 : Int32}  {S : oS} {P : Int32 × oS → Prop} (h : oH (f_X8_explains za1 za2 za3 S) P) : oCt G r d yX8_explains mX8_explains [orf 900 0, oi za1, oi za2, oi za3] S (oQi P) := by
  unfold f_X8_explains at h
  refine oCt_of (by decide) rfl (Nat.le_of_ble_eq_true rfl) ?_
  intro X hG hr hE0 hR
  subst hG; subst hr
  obtain ⟨e, rfl⟩ : ∃ e, d = e + 1 := ⟨d - 1, by omega⟩
  have he : 2 ≤ e := by omega
  have hE := oEI_of hE0 rfl
  clear hE0 hd
  show oVv X mX8_explains 0 [(0, orf 900 0), (1, oi za1), (2, oi za2), (3, oi za3)] [] S
  refine o_iload_n (pc := 0) dX8_explains_0 rfl 1 rfl ?_
  refine o_iconst (v := 0) (pc := 1) dX8_explains_1 (by decide) ?_
  refine o_iconst (v := 2) (pc := 2) dX8_explains_2 (by decide) ?_
  have h := oH_bind h
  refine o_callSi (pc := 3) (st := []) [oi za1, oi (0 : Int32), oi (2 : Int32)] hR md_X8_within wd_375 wd_376 rfl (Nat.le_of_ble_eq_true rfl) rfl dX8_explains_3 (s_X8_within e (by omega)  h) (fun zz1 h => ?_)
  refine o_if_eq 23 (pc := 6) dX8_explains_6 (by decide) (fun hc => ?_) (fun hc => ?_)
  · have h := oH_T hc h
    refine o_bipush (v := -2) (pc := 23) dX8_explains_23 (by decide) ?_
    exact hE _ _ _ _ dX8_explains_25 (oH_some h)
  · have h := oH_F hc h
    refine o_iload_n (pc := 9) dX8_explains_9 rfl 2 rfl ?_
    have h := oH_bind h
    refine o_callSi (pc := 10) (st := []) [oi za2] hR md_X8_isRing wd_382 wd_383 rfl (Nat.le_of_ble_eq_true rfl) rfl dX8_explains_10 (s_X8_isRing e (by omega)  h) (fun zz2 h => ?_)
    refine o_if_eq 23 (pc := 13) dX8_explains_13 (by decide) (fun hc => ?_) (fun hc => ?_)
    · have h := oH_T hc h
      refine o_bipush (v := -2) (pc := 23) dX8_explains_23 (by decide) ?_
      exact hE _ _ _ _ dX8_explains_25 (oH_some h)
    · have h := oH_F hc h
      refine o_iload_n (pc := 16) dX8_explains_16 rfl 3 rfl ?_
      have h := oH_bind h
      refine o_callSi (pc := 17) (st := []) [oi za3] hR md_X8_isWeek wd_729 wd_730 rfl (Nat.le_of_ble_eq_true rfl) rfl dX8_explains_17 (s_X8_isWeek e (by omega)  h) (fun zz3 h => ?_)
      refine o_if_ne 26 (pc := 20) dX8_explains_20 (by decide) (fun hc => ?_) (fun hc => ?_)
      · have h := oH_F hc h
        refine o_iload_n (pc := 26) dX8_explains_26 rfl 1 rfl ?_
        refine o_if_ne 51 (pc := 27) dX8_explains_27 (by decide) (fun hc => ?_) (fun hc => ?_)
        · have h := oH_F hc h
          refine o_aload_n (pc := 51) dX8_explains_51 rfl 0 rfl ?_
          refine o_getF (pc := 52) fd_RX8_56 ft_900_6 j_900 dX8_explains_52 ?_
          have h := oH_bind h
          refine o_callVi (pc := 55) (st := []) [] hR md_X0_wellNotes wd_841 wd_819 wd_820 tc_100 j_100 rfl (Nat.le_of_ble_eq_true rfl) rfl dX8_explains_55 (s_X0_wellNotes e (by omega)  h) (fun zz4 h => ?_)
          refine o_aload_n (pc := 58) dX8_explains_58 rfl 0 rfl ?_
          refine o_getF (pc := 59) fd_RX8_56 ft_900_6 j_900 dX8_explains_59 ?_
          refine o_iload_n (pc := 62) dX8_explains_62 rfl 1 rfl ?_
          refine o_iload_n (pc := 63) dX8_explains_63 rfl 2 rfl ?_
          refine o_iload_n (pc := 64) dX8_explains_64 rfl 3 rfl ?_
          have h := oH_bind h
          refine o_callVi (pc := 65) (st := [oi zz4.1]) [oi za1, oi za2, oi za3] hR md_X0_gain wd_842 wd_823 wd_824 tc_100 j_100 rfl (Nat.le_of_ble_eq_true rfl) rfl dX8_explains_65 (s_X0_gain e (by omega)  h) (fun zz5 h => ?_)
          refine o_iadd (pc := 68) dX8_explains_68 ?_
          exact hE _ _ _ _ dX8_explains_69 (oH_some h)
        · have h := oH_T hc h
          refine o_iload_n (pc := 30) dX8_explains_30 rfl 2 rfl ?_
          refine o_if_ne 48 (pc := 31) dX8_explains_31 (by decide) (fun hc => ?_) (fun hc => ?_)
          · have h := oH_F hc h
            refine o_bipush (v := -2) (pc := 48) dX8_explains_48 (by decide) ?_
            exact hE _ _ _ _ dX8_explains_50 (oH_some h)
          · have h := oH_T hc h
            refine o_iload_n (pc := 34) dX8_explains_34 rfl 3 rfl ?_
            refine o_if_ne 48 (pc := 35) dX8_explains_35 (by decide) (fun hc => ?_) (fun hc => ?_)
            · have h := oH_F hc h
              refine o_bipush (v := -2) (pc := 48) dX8_explains_48 (by decide) ?_
              exact hE _ _ _ _ dX8_explains_50 (oH_some h)
            · have h := oH_T hc h
              refine o_aload_n (pc := 38) dX8_explains_38 rfl 0 rfl ?_
              refine o_getF (pc := 39) fd_RX8_56 ft_900_6 j_900 dX8_explains_39 ?_
              have h := oH_bind h
              refine o_callVi (pc := 42) (st := []) [] hR md_X0_wellNotes wd_841 wd_819 wd_820 tc_100 j_100 rfl (Nat.le_of_ble_eq_true rfl) rfl dX8_explains_42 (s_X0_wellNotes e (by omega)  h) (fun zz6 h => ?_)
              refine o_goto 50 (pc := 45) dX8_explains_45 (by decide) ?_
              exact hE _ _ _ _ dX8_explains_50 (oH_some h)
      · have h := oH_T hc h
        refine o_bipush (v := -2) (pc := 23) dX8_explains_23 (by decide) ?_
        exact hE _ _ _ _ dX8_explains_25 (oH_some h)
def f_X8_fire  (za1 : Int32) (S : oS) : Option (Int32 × oS) :=
  (f_X8_within za1 (0 : Int32) (2 : Int32) S).bind fun zz1 =>
  if zz1.1 = 0 then (
  some ((-2 : Int32), zz1.2)) else (
  oLet (zz1.2.1 500 0 6) fun zx2 =>
  oLet (oStI zz1.2 500 0 6 za1) fun zS3 =>
  some (zx2, zS3))
set_option maxHeartbeats 4000000 in
theorem s_X8_fire {G : oG} {r : oR} (d : Nat) (hd : 2 ≤ d) {za1 : Int32}  {S : oS} {P : Int32 × oS → Prop} (h : oH (f_X8_fire za1 S) P) : oCt G r d yX8_fire mX8_fire [orf 900 0, oi za1] S (oQi P) := by
  unfold f_X8_fire at h
  refine oCt_of (by decide) rfl (Nat.le_of_ble_eq_true rfl) ?_
  intro X hG hr hE0 hR
  subst hG; subst hr
  obtain ⟨e, rfl⟩ : ∃ e, d = e + 1 := ⟨d - 1, by omega⟩
  have he : 1 ≤ e := by omega
  have hE := oEI_of hE0 rfl
  clear hE0 hd
  show oVv X mX8_fire 0 [(0, orf 900 0), (1, oi za1)] [] S
  refine o_iload_n (pc := 0) dX8_fire_0 rfl 1 rfl ?_
  refine o_iconst (v := 0) (pc := 1) dX8_fire_1 (by decide) ?_
  refine o_iconst (v := 2) (pc := 2) dX8_fire_2 (by decide) ?_
  have h := oH_bind h
  refine o_callSi (pc := 3) (st := []) [oi za1, oi (0 : Int32), oi (2 : Int32)] hR md_X8_within wd_375 wd_376 rfl (Nat.le_of_ble_eq_true rfl) rfl dX8_fire_3 (s_X8_within e (by omega)  h) (fun zz1 h => ?_)
  refine o_if_ne 12 (pc := 6) dX8_fire_6 (by decide) (fun hc => ?_) (fun hc => ?_)
  · have h := oH_F hc h
    refine o_aload_n (pc := 12) dX8_fire_12 rfl 0 rfl ?_
    refine o_getF (pc := 13) fd_RX8_10 ft_900_0 j_900 dX8_fire_13 ?_
    refine o_getI (pc := 16) fd_RX8_82 ft_500_6 j_500_0 dX8_fire_16 ?_
    refine o_nmI (fun zx2 hx => ?_)
    have h := oH_let h zx2 hx
    clear hx
    refine o_istore_n (lv1 := [(0, orf 900 0), (1, oi za1), (2, oi zx2)]) (pc := 19) dX8_fire_19 rfl (by decide) rfl ?_
    refine o_aload_n (pc := 20) dX8_fire_20 rfl 0 rfl ?_
    refine o_getF (pc := 21) fd_RX8_10 ft_900_0 j_900 dX8_fire_21 ?_
    refine o_iload_n (pc := 24) dX8_fire_24 rfl 1 rfl ?_
    refine o_putI (pc := 25) fd_RX8_82 fp_500_6 ft_500_6 rfl rfl j_500_0 dX8_fire_25 ?_
    refine o_nmS (fun zS3 hx => ?_)
    have h := oH_let h zS3 hx
    clear hx
    refine o_iload_n (pc := 28) dX8_fire_28 rfl 2 rfl ?_
    exact hE _ _ _ _ dX8_fire_29 (oH_some h)
  · have h := oH_T hc h
    refine o_bipush (v := -2) (pc := 9) dX8_fire_9 (by decide) ?_
    exact hE _ _ _ _ dX8_fire_11 (oH_some h)
def f_X8_heat  (za1 : Int32) (za2 : Int32) (za3 : Int32) (S : oS) : Option (Int64 × oS) :=
  (f_X8_isRing za1 S).bind fun zz1 =>
  if zz1.1 = 0 then (
  some ((-2 : Int64), zz1.2)) else (
  (f_X8_within za2 (0 : Int32) (2 : Int32) zz1.2).bind fun zz2 =>
  if zz2.1 = 0 then (
  some ((-2 : Int64), zz2.2)) else (
  (f_X8_within za3 (0 : Int32) (1 : Int32) zz2.2).bind fun zz3 =>
  if zz3.1 = 0 then (
  some ((-2 : Int64), zz3.2)) else (
  if za3 = 0 then (
  (f_X4_heatOf 0 za1 za2 zz3.2).bind fun zz5 =>
  some (zz5.1, zz5.2)) else (
  (f_X4_warmthOf 0 za1 za2 zz3.2).bind fun zz4 =>
  some (zz4.1, zz4.2)))))
set_option maxHeartbeats 4000000 in
theorem s_X8_heat {G : oG} {r : oR} (d : Nat) (hd : 3 ≤ d) {za1 : Int32} {za2 : Int32} {za3 : Int32}  {S : oS} {P : Int64 × oS → Prop} (h : oH (f_X8_heat za1 za2 za3 S) P) : oCt G r d yX8_heat mX8_heat [orf 900 0, oi za1, oi za2, oi za3] S (oQl P) := by
  unfold f_X8_heat at h
  refine oCt_of (by decide) rfl (Nat.le_of_ble_eq_true rfl) ?_
  intro X hG hr hE0 hR
  subst hG; subst hr
  obtain ⟨e, rfl⟩ : ∃ e, d = e + 1 := ⟨d - 1, by omega⟩
  have he : 2 ≤ e := by omega
  have hE := oEL_of hE0 rfl
  clear hE0 hd
  show oVv X mX8_heat 0 [(0, orf 900 0), (1, oi za1), (2, oi za2), (3, oi za3)] [] S
  refine o_iload_n (pc := 0) dX8_heat_0 rfl 1 rfl ?_
  have h := oH_bind h
  refine o_callSi (pc := 1) (st := []) [oi za1] hR md_X8_isRing wd_382 wd_383 rfl (Nat.le_of_ble_eq_true rfl) rfl dX8_heat_1 (s_X8_isRing e (by omega)  h) (fun zz1 h => ?_)
  refine o_if_eq 25 (pc := 4) dX8_heat_4 (by decide) (fun hc => ?_) (fun hc => ?_)
  · have h := oH_T hc h
    refine o_ldc2 (v := -2) (pc := 25) dX8_heat_25 wd_488 ?_
    exact hE _ _ _ _ dX8_heat_28 (oH_some h)
  · have h := oH_F hc h
    refine o_iload_n (pc := 7) dX8_heat_7 rfl 2 rfl ?_
    refine o_iconst (v := 0) (pc := 8) dX8_heat_8 (by decide) ?_
    refine o_iconst (v := 2) (pc := 9) dX8_heat_9 (by decide) ?_
    have h := oH_bind h
    refine o_callSi (pc := 10) (st := []) [oi za2, oi (0 : Int32), oi (2 : Int32)] hR md_X8_within wd_375 wd_376 rfl (Nat.le_of_ble_eq_true rfl) rfl dX8_heat_10 (s_X8_within e (by omega)  h) (fun zz2 h => ?_)
    refine o_if_eq 25 (pc := 13) dX8_heat_13 (by decide) (fun hc => ?_) (fun hc => ?_)
    · have h := oH_T hc h
      refine o_ldc2 (v := -2) (pc := 25) dX8_heat_25 wd_488 ?_
      exact hE _ _ _ _ dX8_heat_28 (oH_some h)
    · have h := oH_F hc h
      refine o_iload_n (pc := 16) dX8_heat_16 rfl 3 rfl ?_
      refine o_iconst (v := 0) (pc := 17) dX8_heat_17 (by decide) ?_
      refine o_iconst (v := 1) (pc := 18) dX8_heat_18 (by decide) ?_
      have h := oH_bind h
      refine o_callSi (pc := 19) (st := []) [oi za3, oi (0 : Int32), oi (1 : Int32)] hR md_X8_within wd_375 wd_376 rfl (Nat.le_of_ble_eq_true rfl) rfl dX8_heat_19 (s_X8_within e (by omega)  h) (fun zz3 h => ?_)
      refine o_if_ne 29 (pc := 22) dX8_heat_22 (by decide) (fun hc => ?_) (fun hc => ?_)
      · have h := oH_F hc h
        refine o_iload_n (pc := 29) dX8_heat_29 rfl 3 rfl ?_
        refine o_if_ne 45 (pc := 30) dX8_heat_30 (by decide) (fun hc => ?_) (fun hc => ?_)
        · have h := oH_F hc h
          refine o_aload_n (pc := 45) dX8_heat_45 rfl 0 rfl ?_
          refine o_getF (pc := 46) fd_RX8_10 ft_900_0 j_900 dX8_heat_46 ?_
          refine o_iload_n (pc := 49) dX8_heat_49 rfl 1 rfl ?_
          refine o_iload_n (pc := 50) dX8_heat_50 rfl 2 rfl ?_
          have h := oH_bind h
          refine o_callVl (pc := 51) (st := []) [oi za1, oi za2] hR md_X4_warmthOf wd_493 wd_428 wd_429 tc_500 j_500_0 rfl (Nat.le_of_ble_eq_true rfl) rfl dX8_heat_51 (s_X4_warmthOf e (by omega) j_500_0 h) (fun zz4 h => ?_)
          exact hE _ _ _ _ dX8_heat_54 (oH_some h)
        · have h := oH_T hc h
          refine o_aload_n (pc := 33) dX8_heat_33 rfl 0 rfl ?_
          refine o_getF (pc := 34) fd_RX8_10 ft_900_0 j_900 dX8_heat_34 ?_
          refine o_iload_n (pc := 37) dX8_heat_37 rfl 1 rfl ?_
          refine o_iload_n (pc := 38) dX8_heat_38 rfl 2 rfl ?_
          have h := oH_bind h
          refine o_callVl (pc := 39) (st := []) [oi za1, oi za2] hR md_X4_heatOf wd_489 wd_490 wd_491 tc_500 j_500_0 rfl (Nat.le_of_ble_eq_true rfl) rfl dX8_heat_39 (s_X4_heatOf e (by omega) j_500_0 h) (fun zz5 h => ?_)
          refine o_goto 54 (pc := 42) dX8_heat_42 (by decide) ?_
          exact hE _ _ _ _ dX8_heat_54 (oH_some h)
      · have h := oH_T hc h
        refine o_ldc2 (v := -2) (pc := 25) dX8_heat_25 wd_488 ?_
        exact hE _ _ _ _ dX8_heat_28 (oH_some h)
def f_X8_households  (za1 : Int32) (S : oS) : Option (Int32 × oS) :=
  (f_X8_within za1 (2 : Int32) (8 : Int32) S).bind fun zz1 =>
  if zz1.1 = 0 then (
  some ((-2 : Int32), zz1.2)) else (
  oLet (zz1.2.1 700 0 6) fun zx2 =>
  oLet (oStI zz1.2 700 0 6 za1) fun zS3 =>
  oLet (oStI zS3 700 0 5 (0 : Int32)) fun zS4 =>
  some (zx2, zS4))
set_option maxHeartbeats 4000000 in
theorem s_X8_households {G : oG} {r : oR} (d : Nat) (hd : 2 ≤ d) {za1 : Int32}  {S : oS} {P : Int32 × oS → Prop} (h : oH (f_X8_households za1 S) P) : oCt G r d yX8_households mX8_households [orf 900 0, oi za1] S (oQi P) := by
  unfold f_X8_households at h
  refine oCt_of (by decide) rfl (Nat.le_of_ble_eq_true rfl) ?_
  intro X hG hr hE0 hR
  subst hG; subst hr
  obtain ⟨e, rfl⟩ : ∃ e, d = e + 1 := ⟨d - 1, by omega⟩
  have he : 1 ≤ e := by omega
  have hE := oEI_of hE0 rfl
  clear hE0 hd
  show oVv X mX8_households 0 [(0, orf 900 0), (1, oi za1)] [] S
  refine o_iload_n (pc := 0) dX8_households_0 rfl 1 rfl ?_
  refine o_iconst (v := 2) (pc := 1) dX8_households_1 (by decide) ?_
  refine o_bipush (v := 8) (pc := 2) dX8_households_2 (by decide) ?_
  have h := oH_bind h
  refine o_callSi (pc := 4) (st := []) [oi za1, oi (2 : Int32), oi (8 : Int32)] hR md_X8_within wd_375 wd_376 rfl (Nat.le_of_ble_eq_true rfl) rfl dX8_households_4 (s_X8_within e (by omega)  h) (fun zz1 h => ?_)
  refine o_if_ne 13 (pc := 7) dX8_households_7 (by decide) (fun hc => ?_) (fun hc => ?_)
  · have h := oH_F hc h
    refine o_aload_n (pc := 13) dX8_households_13 rfl 0 rfl ?_
    refine o_getF (pc := 14) fd_RX8_49 ft_900_5 j_900 dX8_households_14 ?_
    refine o_getI (pc := 17) fd_RX8_256 ft_700_6 j_700 dX8_households_17 ?_
    refine o_nmI (fun zx2 hx => ?_)
    have h := oH_let h zx2 hx
    clear hx
    refine o_istore_n (lv1 := [(0, orf 900 0), (1, oi za1), (2, oi zx2)]) (pc := 20) dX8_households_20 rfl (by decide) rfl ?_
    refine o_aload_n (pc := 21) dX8_households_21 rfl 0 rfl ?_
    refine o_getF (pc := 22) fd_RX8_49 ft_900_5 j_900 dX8_households_22 ?_
    refine o_iload_n (pc := 25) dX8_households_25 rfl 1 rfl ?_
    refine o_putI (pc := 26) fd_RX8_256 fp_700_6 ft_700_6 rfl rfl j_700 dX8_households_26 ?_
    refine o_nmS (fun zS3 hx => ?_)
    have h := oH_let h zS3 hx
    clear hx
    refine o_aload_n (pc := 29) dX8_households_29 rfl 0 rfl ?_
    refine o_getF (pc := 30) fd_RX8_49 ft_900_5 j_900 dX8_households_30 ?_
    refine o_iconst (v := 0) (pc := 33) dX8_households_33 (by decide) ?_
    refine o_putI (pc := 34) fd_RX8_257 fp_700_5 ft_700_5 rfl rfl j_700 dX8_households_34 ?_
    refine o_nmS (fun zS4 hx => ?_)
    have h := oH_let h zS4 hx
    clear hx
    refine o_iload_n (pc := 37) dX8_households_37 rfl 2 rfl ?_
    exact hE _ _ _ _ dX8_households_38 (oH_some h)
  · have h := oH_T hc h
    refine o_bipush (v := -2) (pc := 10) dX8_households_10 (by decide) ?_
    exact hE _ _ _ _ dX8_households_12 (oH_some h)
def f_X8_kind_K21 (zv1 : Int32) (zv2 : Int32) (zv3 : Int32) (zv4 : Int32) (zv5 : Int32) (zv6 : Int32) (zv7 : Int32) (S : oS) : Option (Int32 × oS) :=
  (f_X8_within zv3 (1 : Int32) (30 : Int32) S).bind fun zz2 =>
  if zz2.1 = 0 then (
  some ((-2 : Int32), zz2.2)) else (
  (f_X8_within zv4 zv3 (60 : Int32) zz2.2).bind fun zz3 =>
  if zz3.1 = 0 then (
  some ((-2 : Int32), zz3.2)) else (
  (f_X8_isSpan zv5 zv6 zz3.2).bind fun zz4 =>
  if zz4.1 = 0 then (
  some ((-2 : Int32), zz4.2)) else (
  (f_X8_within zv7 (0 : Int32) (9 : Int32) zz4.2).bind fun zz5 =>
  if zz5.1 = 0 then (
  some ((-2 : Int32), zz5.2)) else (
  if (zz5.2.1 200 0 10) < (8 : Int32) then (
  (f_X1_addKind zv1 zv2 zv3 zv4 zv5 zv6 zv7 zz5.2).bind fun zz6 =>
  some (zz6.1, zz6.2)) else (
  some ((-4 : Int32), zz5.2))))))
set_option maxHeartbeats 4000000 in
theorem s_X8_kind_K21 {X : oX} {e : Nat} (he : 2 ≤ e) (hR : oRoom X (e + 1)) {zv1 : Int32} {zv2 : Int32} {zv3 : Int32} {zv4 : Int32} {zv5 : Int32} {zv6 : Int32} {zv7 : Int32} {P : Int32 × oS → Prop} (hE : oEI X mX8_kind P) {S : oS} (h : oH (f_X8_kind_K21 zv1 zv2 zv3 zv4 zv5 zv6 zv7 S) P) : oVv X mX8_kind 21 [(0, orf 900 0), (1, oi zv1), (2, oi zv2), (3, oi zv3), (4, oi zv4), (5, oi zv5), (6, oi zv6), (7, oi zv7)] [] S := by
  unfold f_X8_kind_K21 at h
  refine o_iload_n (pc := 21) dX8_kind_21 rfl 3 rfl ?_
  refine o_iconst (v := 1) (pc := 22) dX8_kind_22 (by decide) ?_
  refine o_bipush (v := 30) (pc := 23) dX8_kind_23 (by decide) ?_
  have h := oH_bind h
  refine o_callSi (pc := 25) (st := []) [oi zv3, oi (1 : Int32), oi (30 : Int32)] hR md_X8_within wd_375 wd_376 rfl (Nat.le_of_ble_eq_true rfl) rfl dX8_kind_25 (s_X8_within e (by omega)  h) (fun zz2 h => ?_)
  refine o_if_eq 42 (pc := 28) dX8_kind_28 (by decide) (fun hc => ?_) (fun hc => ?_)
  · have h := oH_T hc h
    refine o_bipush (v := -2) (pc := 42) dX8_kind_42 (by decide) ?_
    exact hE _ _ _ _ dX8_kind_44 (oH_some h)
  · have h := oH_F hc h
    refine o_iload (pc := 31) dX8_kind_31 4 rfl ?_
    refine o_iload_n (pc := 33) dX8_kind_33 rfl 3 rfl ?_
    refine o_bipush (v := 60) (pc := 34) dX8_kind_34 (by decide) ?_
    have h := oH_bind h
    refine o_callSi (pc := 36) (st := []) [oi zv4, oi zv3, oi (60 : Int32)] hR md_X8_within wd_375 wd_376 rfl (Nat.le_of_ble_eq_true rfl) rfl dX8_kind_36 (s_X8_within e (by omega)  h) (fun zz3 h => ?_)
    refine o_if_ne 45 (pc := 39) dX8_kind_39 (by decide) (fun hc => ?_) (fun hc => ?_)
    · have h := oH_F hc h
      refine o_iload (pc := 45) dX8_kind_45 5 rfl ?_
      refine o_iload (pc := 47) dX8_kind_47 6 rfl ?_
      have h := oH_bind h
      refine o_callSi (pc := 49) (st := []) [oi zv5, oi zv6] hR md_X8_isSpan wd_507 wd_508 rfl (Nat.le_of_ble_eq_true rfl) rfl dX8_kind_49 (s_X8_isSpan e (by omega)  h) (fun zz4 h => ?_)
      refine o_if_eq 66 (pc := 52) dX8_kind_52 (by decide) (fun hc => ?_) (fun hc => ?_)
      · have h := oH_T hc h
        refine o_bipush (v := -2) (pc := 66) dX8_kind_66 (by decide) ?_
        exact hE _ _ _ _ dX8_kind_68 (oH_some h)
      · have h := oH_F hc h
        refine o_iload (pc := 55) dX8_kind_55 7 rfl ?_
        refine o_iconst (v := 0) (pc := 57) dX8_kind_57 (by decide) ?_
        refine o_bipush (v := 9) (pc := 58) dX8_kind_58 (by decide) ?_
        have h := oH_bind h
        refine o_callSi (pc := 60) (st := []) [oi zv7, oi (0 : Int32), oi (9 : Int32)] hR md_X8_within wd_375 wd_376 rfl (Nat.le_of_ble_eq_true rfl) rfl dX8_kind_60 (s_X8_within e (by omega)  h) (fun zz5 h => ?_)
        refine o_if_ne 69 (pc := 63) dX8_kind_63 (by decide) (fun hc => ?_) (fun hc => ?_)
        · have h := oH_F hc h
          refine o_aload_n (pc := 69) dX8_kind_69 rfl 0 rfl ?_
          refine o_getF (pc := 70) fd_RX8_19 ft_900_1 j_900 dX8_kind_70 ?_
          refine o_getI (pc := 73) fd_RX8_136 ft_200_10 j_200 dX8_kind_73 ?_
          refine o_bipush (v := 8) (pc := 76) dX8_kind_76 (by decide) ?_
          refine o_icmp_lt 84 (pc := 78) dX8_kind_78 (by decide) (fun hc => ?_) (fun hc => ?_)
          · have h := oH_T hc h
            refine o_aload_n (pc := 84) dX8_kind_84 rfl 0 rfl ?_
            refine o_getF (pc := 85) fd_RX8_19 ft_900_1 j_900 dX8_kind_85 ?_
            refine o_iload_n (pc := 88) dX8_kind_88 rfl 1 rfl ?_
            refine o_iload_n (pc := 89) dX8_kind_89 rfl 2 rfl ?_
            refine o_iload_n (pc := 90) dX8_kind_90 rfl 3 rfl ?_
            refine o_iload (pc := 91) dX8_kind_91 4 rfl ?_
            refine o_iload (pc := 93) dX8_kind_93 5 rfl ?_
            refine o_iload (pc := 95) dX8_kind_95 6 rfl ?_
            refine o_iload (pc := 97) dX8_kind_97 7 rfl ?_
            have h := oH_bind h
            refine o_callVi (pc := 99) (st := []) [oi zv1, oi zv2, oi zv3, oi zv4, oi zv5, oi zv6, oi zv7] hR md_X1_addKind wd_510 wd_511 wd_512 tc_200 j_200 rfl (Nat.le_of_ble_eq_true rfl) rfl dX8_kind_99 (s_X1_addKind e (by omega)  h) (fun zz6 h => ?_)
            exact hE _ _ _ _ dX8_kind_102 (oH_some h)
          · have h := oH_F hc h
            refine o_bipush (v := -4) (pc := 81) dX8_kind_81 (by decide) ?_
            exact hE _ _ _ _ dX8_kind_83 (oH_some h)
        · have h := oH_T hc h
          refine o_bipush (v := -2) (pc := 66) dX8_kind_66 (by decide) ?_
          exact hE _ _ _ _ dX8_kind_68 (oH_some h)
    · have h := oH_T hc h
      refine o_bipush (v := -2) (pc := 42) dX8_kind_42 (by decide) ?_
      exact hE _ _ _ _ dX8_kind_44 (oH_some h)
def f_X8_kind  (za1 : Int32) (za2 : Int32) (za3 : Int32) (za4 : Int32) (za5 : Int32) (za6 : Int32) (za7 : Int32) (S : oS) : Option (Int32 × oS) :=
  (f_X8_within za1 (1 : Int32) (3 : Int32) S).bind fun zz1 =>
  if zz1.1 = 0 then (
  some ((-2 : Int32), zz1.2)) else (
  if za2 = 0 then (
  f_X8_kind_K21 za1 za2 za3 za4 za5 za6 za7 zz1.2) else (
  if za1 = (1 : Int32) then (
  some ((-2 : Int32), zz1.2)) else (
  f_X8_kind_K21 za1 za2 za3 za4 za5 za6 za7 zz1.2)))
set_option maxHeartbeats 4000000 in
theorem s_X8_kind {G : oG} {r : oR} (d : Nat) (hd : 3 ≤ d) {za1 : Int32} {za2 : Int32} {za3 : Int32} {za4 : Int32} {za5 : Int32} {za6 : Int32} {za7 : Int32}  {S : oS} {P : Int32 × oS → Prop} (h : oH (f_X8_kind za1 za2 za3 za4 za5 za6 za7 S) P) : oCt G r d yX8_kind mX8_kind [orf 900 0, oi za1, oi za2, oi za3, oi za4, oi za5, oi za6, oi za7] S (oQi P) := by
  unfold f_X8_kind at h
  refine oCt_of (by decide) rfl (Nat.le_of_ble_eq_true rfl) ?_
  intro X hG hr hE0 hR
  subst hG; subst hr
  obtain ⟨e, rfl⟩ : ∃ e, d = e + 1 := ⟨d - 1, by omega⟩
  have he : 2 ≤ e := by omega
  have hE := oEI_of hE0 rfl
  clear hE0 hd
  show oVv X mX8_kind 0 [(0, orf 900 0), (1, oi za1), (2, oi za2), (3, oi za3), (4, oi za4), (5, oi za5), (6, oi za6), (7, oi za7)] [] S
  refine o_iload_n (pc := 0) dX8_kind_0 rfl 1 rfl ?_
  refine o_iconst (v := 1) (pc := 1) dX8_kind_1 (by decide) ?_
  refine o_iconst (v := 3) (pc := 2) dX8_kind_2 (by decide) ?_
  have h := oH_bind h
  refine o_callSi (pc := 3) (st := []) [oi za1, oi (1 : Int32), oi (3 : Int32)] hR md_X8_within wd_375 wd_376 rfl (Nat.le_of_ble_eq_true rfl) rfl dX8_kind_3 (s_X8_within e (by omega)  h) (fun zz1 h => ?_)
  refine o_if_eq 18 (pc := 6) dX8_kind_6 (by decide) (fun hc => ?_) (fun hc => ?_)
  · have h := oH_T hc h
    refine o_bipush (v := -2) (pc := 18) dX8_kind_18 (by decide) ?_
    exact hE _ _ _ _ dX8_kind_20 (oH_some h)
  · have h := oH_F hc h
    refine o_iload_n (pc := 9) dX8_kind_9 rfl 2 rfl ?_
    refine o_if_eq 21 (pc := 10) dX8_kind_10 (by decide) (fun hc => ?_) (fun hc => ?_)
    · have h := oH_T hc h
      exact s_X8_kind_K21 he hR  hE h
    · have h := oH_F hc h
      refine o_iload_n (pc := 13) dX8_kind_13 rfl 1 rfl ?_
      refine o_iconst (v := 1) (pc := 14) dX8_kind_14 (by decide) ?_
      refine o_icmp_ne 21 (pc := 15) dX8_kind_15 (by decide) (fun hc => ?_) (fun hc => ?_)
      · have h := oH_F hc h
        exact s_X8_kind_K21 he hR  hE h
      · have h := oH_T hc h
        refine o_bipush (v := -2) (pc := 18) dX8_kind_18 (by decide) ?_
        exact hE _ _ _ _ dX8_kind_20 (oH_some h)
def f_X8_last  (za1 : Int32) (S : oS) : Option (Int32 × oS) :=
  (f_X8_within za1 (0 : Int32) (1 : Int32) S).bind fun zz1 =>
  if zz1.1 = 0 then (
  some ((-2 : Int32), zz1.2)) else (
  if (zz1.2.1 400 0 9) ≤ 0 then (
  if (zz1.2.1 600 0 11) < (3 : Int32) then (
  (f_X5_findBestLast 0 zz1.2).bind fun zz2 =>
  if za1 = 0 then (
  some (zz2.1 600 0 13, zz2)) else (
  some (zz2.1 600 0 14, zz2))) else (
  some ((-4 : Int32), zz1.2))) else (
  some ((-3 : Int32), zz1.2)))
set_option maxHeartbeats 4000000 in
theorem s_X8_last {G : oG} {r : oR} (d : Nat) (hd : 14 ≤ d) {za1 : Int32}  {S : oS} {P : Int32 × oS → Prop} (h : oH (f_X8_last za1 S) P) : oCt G r d yX8_last mX8_last [orf 900 0, oi za1] S (oQi P) := by
  unfold f_X8_last at h
  refine oCt_of (by decide) rfl (Nat.le_of_ble_eq_true rfl) ?_
  intro X hG hr hE0 hR
  subst hG; subst hr
  obtain ⟨e, rfl⟩ : ∃ e, d = e + 1 := ⟨d - 1, by omega⟩
  have he : 13 ≤ e := by omega
  have hE := oEI_of hE0 rfl
  clear hE0 hd
  show oVv X mX8_last 0 [(0, orf 900 0), (1, oi za1)] [] S
  refine o_iload_n (pc := 0) dX8_last_0 rfl 1 rfl ?_
  refine o_iconst (v := 0) (pc := 1) dX8_last_1 (by decide) ?_
  refine o_iconst (v := 1) (pc := 2) dX8_last_2 (by decide) ?_
  have h := oH_bind h
  refine o_callSi (pc := 3) (st := []) [oi za1, oi (0 : Int32), oi (1 : Int32)] hR md_X8_within wd_375 wd_376 rfl (Nat.le_of_ble_eq_true rfl) rfl dX8_last_3 (s_X8_within e (by omega)  h) (fun zz1 h => ?_)
  refine o_if_ne 12 (pc := 6) dX8_last_6 (by decide) (fun hc => ?_) (fun hc => ?_)
  · have h := oH_F hc h
    refine o_aload_n (pc := 12) dX8_last_12 rfl 0 rfl ?_
    refine o_getF (pc := 13) fd_RX8_28 ft_900_2 j_900 dX8_last_13 ?_
    refine o_getI (pc := 16) fd_RX8_159 ft_400_9 j_400 dX8_last_16 ?_
    refine o_if_le 25 (pc := 19) dX8_last_19 (by decide) (fun hc => ?_) (fun hc => ?_)
    · have h := oH_T hc h
      refine o_aload_n (pc := 25) dX8_last_25 rfl 0 rfl ?_
      refine o_getF (pc := 26) fd_RX8_35 ft_900_3 j_900 dX8_last_26 ?_
      refine o_getI (pc := 29) fd_RX8_223 ft_600_11 j_600 dX8_last_29 ?_
      refine o_iconst (v := 3) (pc := 32) dX8_last_32 (by decide) ?_
      refine o_icmp_lt 39 (pc := 33) dX8_last_33 (by decide) (fun hc => ?_) (fun hc => ?_)
      · have h := oH_T hc h
        refine o_aload_n (pc := 39) dX8_last_39 rfl 0 rfl ?_
        refine o_getF (pc := 40) fd_RX8_35 ft_900_3 j_900 dX8_last_40 ?_
        refine o_aload_n (pc := 43) dX8_last_43 rfl 0 rfl ?_
        refine o_getF (pc := 44) fd_RX8_10 ft_900_0 j_900 dX8_last_44 ?_
        have h := oH_bind h
        refine o_callVv (pc := 47) (st := []) [orf 500 0] hR md_X5_findBestLast wd_691 wd_692 wd_693 tc_600 j_600 rfl (Nat.le_of_ble_eq_true rfl) rfl dX8_last_47 (s_X5_findBestLast e (by omega) j_500_0 h) (fun zz2 h => ?_)
        refine o_iload_n (pc := 50) dX8_last_50 rfl 1 rfl ?_
        refine o_if_ne 64 (pc := 51) dX8_last_51 (by decide) (fun hc => ?_) (fun hc => ?_)
        · have h := oH_F hc h
          refine o_aload_n (pc := 64) dX8_last_64 rfl 0 rfl ?_
          refine o_getF (pc := 65) fd_RX8_35 ft_900_3 j_900 dX8_last_65 ?_
          refine o_getI (pc := 68) fd_RX8_244 ft_600_14 j_600 dX8_last_68 ?_
          exact hE _ _ _ _ dX8_last_71 (oH_some h)
        · have h := oH_T hc h
          refine o_aload_n (pc := 54) dX8_last_54 rfl 0 rfl ?_
          refine o_getF (pc := 55) fd_RX8_35 ft_900_3 j_900 dX8_last_55 ?_
          refine o_getI (pc := 58) fd_RX8_241 ft_600_13 j_600 dX8_last_58 ?_
          refine o_goto 71 (pc := 61) dX8_last_61 (by decide) ?_
          exact hE _ _ _ _ dX8_last_71 (oH_some h)
      · have h := oH_F hc h
        refine o_bipush (v := -4) (pc := 36) dX8_last_36 (by decide) ?_
        exact hE _ _ _ _ dX8_last_38 (oH_some h)
    · have h := oH_F hc h
      refine o_bipush (v := -3) (pc := 22) dX8_last_22 (by decide) ?_
      exact hE _ _ _ _ dX8_last_24 (oH_some h)
  · have h := oH_T hc h
    refine o_bipush (v := -2) (pc := 9) dX8_last_9 (by decide) ?_
    exact hE _ _ _ _ dX8_last_11 (oH_some h)
def f_X8_loaf  (za1 : Int32) (za2 : Int32) (S : oS) : Option (Int32 × oS) :=
  (f_X3_has za1 S).bind fun zz1 =>
  if zz1.1 = 0 then (
  some ((-2 : Int32), zz1.2)) else (
  if za2 = 0 then (
  if oIn za1 200 then (
  some (zz1.2.1 403 0 (Int32.toNatClampNeg za1), zz1.2)) else none) else if za2 = 1 then (
  if oIn za1 200 then (
  some (zz1.2.1 404 0 (Int32.toNatClampNeg za1), zz1.2)) else none) else if za2 = 2 then (
  if oIn za1 200 then (
  some (zz1.2.1 405 0 (Int32.toNatClampNeg za1), zz1.2)) else none) else if za2 = 3 then (
  if oIn za1 200 then (
  some (zz1.2.1 406 0 (Int32.toNatClampNeg za1), zz1.2)) else none) else if za2 = 4 then (
  if oIn za1 200 then (
  some (zz1.2.1 407 0 (Int32.toNatClampNeg za1), zz1.2)) else none) else if za2 = 5 then (
  if oIn za1 200 then (
  some (zz1.2.1 408 0 (Int32.toNatClampNeg za1), zz1.2)) else none) else (
  some ((-2 : Int32), zz1.2)))
set_option maxHeartbeats 4000000 in
theorem s_X8_loaf {G : oG} {r : oR} (d : Nat) (hd : 3 ≤ d) {za1 : Int32} {za2 : Int32}  {S : oS} {P : Int32 × oS → Prop} (h : oH (f_X8_loaf za1 za2 S) P) : oCt G r d yX8_loaf mX8_loaf [orf 900 0, oi za1, oi za2] S (oQi P) := by
  unfold f_X8_loaf at h
  refine oCt_of (by decide) rfl (Nat.le_of_ble_eq_true rfl) ?_
  intro X hG hr hE0 hR
  subst hG; subst hr
  obtain ⟨e, rfl⟩ : ∃ e, d = e + 1 := ⟨d - 1, by omega⟩
  have he : 2 ≤ e := by omega
  have hE := oEI_of hE0 rfl
  clear hE0 hd
  show oVv X mX8_loaf 0 [(0, orf 900 0), (1, oi za1), (2, oi za2)] [] S
  refine o_aload_n (pc := 0) dX8_loaf_0 rfl 0 rfl ?_
  refine o_getF (pc := 1) fd_RX8_28 ft_900_2 j_900 dX8_loaf_1 ?_
  refine o_iload_n (pc := 4) dX8_loaf_4 rfl 1 rfl ?_
  have h := oH_bind h
  refine o_callVi (pc := 5) (st := []) [oi za1] hR md_X3_has wd_563 wd_564 wd_565 tc_400 j_400 rfl (Nat.le_of_ble_eq_true rfl) rfl dX8_loaf_5 (s_X3_has e (by omega)  h) (fun zz1 h => ?_)
  refine o_if_ne 14 (pc := 8) dX8_loaf_8 (by decide) (fun hc => ?_) (fun hc => ?_)
  · have h := oH_F hc h
    refine o_iload_n (pc := 14) dX8_loaf_14 rfl 2 rfl ?_
    by_cases hc0 : za2 = 0
    · have h := oH_T hc0 h
      refine o_tabIn 52 (pc := 15) (off := 37) dX8_loaf_15 (by rw [hc0]; decide) (by rw [hc0]; decide) (by rw [hc0]; rfl) (by decide) ?_
      refine o_aload_n (pc := 52) dX8_loaf_52 rfl 0 rfl ?_
      refine o_getF (pc := 53) fd_RX8_28 ft_900_2 j_900 dX8_loaf_53 ?_
      refine o_getA (pc := 56) fd_RX8_176 ft_400_2 j_400 dX8_loaf_56 ?_
      refine o_iload_n (pc := 59) dX8_loaf_59 rfl 1 rfl ?_
      obtain ⟨hg, h⟩ := oH_G h
      refine o_iald (pc := 60) kd_403 j_403 hg dX8_loaf_60 ?_
      exact hE _ _ _ _ dX8_loaf_61 (oH_some h)
    have h := oH_F hc0 h
    by_cases hc1 : za2 = 1
    · have h := oH_T hc1 h
      refine o_tabIn 62 (pc := 15) (off := 47) dX8_loaf_15 (by rw [hc1]; decide) (by rw [hc1]; decide) (by rw [hc1]; rfl) (by decide) ?_
      refine o_aload_n (pc := 62) dX8_loaf_62 rfl 0 rfl ?_
      refine o_getF (pc := 63) fd_RX8_28 ft_900_2 j_900 dX8_loaf_63 ?_
      refine o_getA (pc := 66) fd_RX8_170 ft_400_3 j_400 dX8_loaf_66 ?_
      refine o_iload_n (pc := 69) dX8_loaf_69 rfl 1 rfl ?_
      obtain ⟨hg, h⟩ := oH_G h
      refine o_iald (pc := 70) kd_404 j_404 hg dX8_loaf_70 ?_
      exact hE _ _ _ _ dX8_loaf_71 (oH_some h)
    have h := oH_F hc1 h
    by_cases hc2 : za2 = 2
    · have h := oH_T hc2 h
      refine o_tabIn 72 (pc := 15) (off := 57) dX8_loaf_15 (by rw [hc2]; decide) (by rw [hc2]; decide) (by rw [hc2]; rfl) (by decide) ?_
      refine o_aload_n (pc := 72) dX8_loaf_72 rfl 0 rfl ?_
      refine o_getF (pc := 73) fd_RX8_28 ft_900_2 j_900 dX8_loaf_73 ?_
      refine o_getA (pc := 76) fd_RX8_189 ft_400_4 j_400 dX8_loaf_76 ?_
      refine o_iload_n (pc := 79) dX8_loaf_79 rfl 1 rfl ?_
      obtain ⟨hg, h⟩ := oH_G h
      refine o_iald (pc := 80) kd_405 j_405 hg dX8_loaf_80 ?_
      exact hE _ _ _ _ dX8_loaf_81 (oH_some h)
    have h := oH_F hc2 h
    by_cases hc3 : za2 = 3
    · have h := oH_T hc3 h
      refine o_tabIn 82 (pc := 15) (off := 67) dX8_loaf_15 (by rw [hc3]; decide) (by rw [hc3]; decide) (by rw [hc3]; rfl) (by decide) ?_
      refine o_aload_n (pc := 82) dX8_loaf_82 rfl 0 rfl ?_
      refine o_getF (pc := 83) fd_RX8_28 ft_900_2 j_900 dX8_loaf_83 ?_
      refine o_getA (pc := 86) fd_RX8_192 ft_400_5 j_400 dX8_loaf_86 ?_
      refine o_iload_n (pc := 89) dX8_loaf_89 rfl 1 rfl ?_
      obtain ⟨hg, h⟩ := oH_G h
      refine o_iald (pc := 90) kd_406 j_406 hg dX8_loaf_90 ?_
      exact hE _ _ _ _ dX8_loaf_91 (oH_some h)
    have h := oH_F hc3 h
    by_cases hc4 : za2 = 4
    · have h := oH_T hc4 h
      refine o_tabIn 92 (pc := 15) (off := 77) dX8_loaf_15 (by rw [hc4]; decide) (by rw [hc4]; decide) (by rw [hc4]; rfl) (by decide) ?_
      refine o_aload_n (pc := 92) dX8_loaf_92 rfl 0 rfl ?_
      refine o_getF (pc := 93) fd_RX8_28 ft_900_2 j_900 dX8_loaf_93 ?_
      refine o_getA (pc := 96) fd_RX8_195 ft_400_6 j_400 dX8_loaf_96 ?_
      refine o_iload_n (pc := 99) dX8_loaf_99 rfl 1 rfl ?_
      obtain ⟨hg, h⟩ := oH_G h
      refine o_iald (pc := 100) kd_407 j_407 hg dX8_loaf_100 ?_
      exact hE _ _ _ _ dX8_loaf_101 (oH_some h)
    have h := oH_F hc4 h
    by_cases hc5 : za2 = 5
    · have h := oH_T hc5 h
      refine o_tabIn 102 (pc := 15) (off := 87) dX8_loaf_15 (by rw [hc5]; decide) (by rw [hc5]; decide) (by rw [hc5]; rfl) (by decide) ?_
      refine o_aload_n (pc := 102) dX8_loaf_102 rfl 0 rfl ?_
      refine o_getF (pc := 103) fd_RX8_28 ft_900_2 j_900 dX8_loaf_103 ?_
      refine o_getA (pc := 106) fd_RX8_198 ft_400_7 j_400 dX8_loaf_106 ?_
      refine o_iload_n (pc := 109) dX8_loaf_109 rfl 1 rfl ?_
      obtain ⟨hg, h⟩ := oH_G h
      refine o_iald (pc := 110) kd_408 j_408 hg dX8_loaf_110 ?_
      exact hE _ _ _ _ dX8_loaf_111 (oH_some h)
    have h := oH_F hc5 h
    refine o_tabOut 112 (pc := 15) dX8_loaf_15 (by
        have g0 : ¬ Int32.toInt za2 = 0 := fun z => hc0 (Int32.toInt_inj.mp z)
        have g1 : ¬ Int32.toInt za2 = 1 := fun z => hc1 (Int32.toInt_inj.mp z)
        have g2 : ¬ Int32.toInt za2 = 2 := fun z => hc2 (Int32.toInt_inj.mp z)
        have g3 : ¬ Int32.toInt za2 = 3 := fun z => hc3 (Int32.toInt_inj.mp z)
        have g4 : ¬ Int32.toInt za2 = 4 := fun z => hc4 (Int32.toInt_inj.mp z)
        have g5 : ¬ Int32.toInt za2 = 5 := fun z => hc5 (Int32.toInt_inj.mp z)
        omega) (by decide) ?_
    refine o_bipush (v := -2) (pc := 112) dX8_loaf_112 (by decide) ?_
    exact hE _ _ _ _ dX8_loaf_114 (oH_some h)
  · have h := oH_T hc h
    refine o_bipush (v := -2) (pc := 11) dX8_loaf_11 (by decide) ?_
    exact hE _ _ _ _ dX8_loaf_13 (oH_some h)
def f_X8_log  (za1 : Int32) (za2 : Int32) (S : oS) : Option (Int32 × oS) :=
  (f_X8_isLog za1 za2 S).bind fun zz1 =>
  if zz1.1 = 0 then (
  some ((-2 : Int32), zz1.2)) else (
  if (zz1.2.1 500 0 5) < (30 : Int32) then (
  (f_X4_layLog 0 za1 za2 zz1.2).bind fun zz2 =>
  some (zz2.1 500 0 5, zz2)) else (
  some ((-4 : Int32), zz1.2)))
set_option maxHeartbeats 4000000 in
theorem s_X8_log {G : oG} {r : oR} (d : Nat) (hd : 3 ≤ d) {za1 : Int32} {za2 : Int32}  {S : oS} {P : Int32 × oS → Prop} (h : oH (f_X8_log za1 za2 S) P) : oCt G r d yX8_log mX8_log [orf 900 0, oi za1, oi za2] S (oQi P) := by
  unfold f_X8_log at h
  refine oCt_of (by decide) rfl (Nat.le_of_ble_eq_true rfl) ?_
  intro X hG hr hE0 hR
  subst hG; subst hr
  obtain ⟨e, rfl⟩ : ∃ e, d = e + 1 := ⟨d - 1, by omega⟩
  have he : 2 ≤ e := by omega
  have hE := oEI_of hE0 rfl
  clear hE0 hd
  show oVv X mX8_log 0 [(0, orf 900 0), (1, oi za1), (2, oi za2)] [] S
  refine o_iload_n (pc := 0) dX8_log_0 rfl 1 rfl ?_
  refine o_iload_n (pc := 1) dX8_log_1 rfl 2 rfl ?_
  have h := oH_bind h
  refine o_callSi (pc := 2) (st := []) [oi za1, oi za2] hR md_X8_isLog wd_397 wd_398 rfl (Nat.le_of_ble_eq_true rfl) rfl dX8_log_2 (s_X8_isLog e (by omega)  h) (fun zz1 h => ?_)
  refine o_if_ne 11 (pc := 5) dX8_log_5 (by decide) (fun hc => ?_) (fun hc => ?_)
  · have h := oH_F hc h
    refine o_aload_n (pc := 11) dX8_log_11 rfl 0 rfl ?_
    refine o_getF (pc := 12) fd_RX8_10 ft_900_0 j_900 dX8_log_12 ?_
    refine o_getI (pc := 15) fd_RX8_89 ft_500_5 j_500_0 dX8_log_15 ?_
    refine o_bipush (v := 30) (pc := 18) dX8_log_18 (by decide) ?_
    refine o_icmp_lt 26 (pc := 20) dX8_log_20 (by decide) (fun hc => ?_) (fun hc => ?_)
    · have h := oH_T hc h
      refine o_aload_n (pc := 26) dX8_log_26 rfl 0 rfl ?_
      refine o_getF (pc := 27) fd_RX8_10 ft_900_0 j_900 dX8_log_27 ?_
      refine o_iload_n (pc := 30) dX8_log_30 rfl 1 rfl ?_
      refine o_iload_n (pc := 31) dX8_log_31 rfl 2 rfl ?_
      have h := oH_bind h
      refine o_callVv (pc := 32) (st := []) [oi za1, oi za2] hR md_X4_layLog wd_400 wd_401 wd_402 tc_500 j_500_0 rfl (Nat.le_of_ble_eq_true rfl) rfl dX8_log_32 (s_X4_layLog e (by omega) j_500_0 h) (fun zz2 h => ?_)
      refine o_aload_n (pc := 35) dX8_log_35 rfl 0 rfl ?_
      refine o_getF (pc := 36) fd_RX8_10 ft_900_0 j_900 dX8_log_36 ?_
      refine o_getI (pc := 39) fd_RX8_89 ft_500_5 j_500_0 dX8_log_39 ?_
      exact hE _ _ _ _ dX8_log_42 (oH_some h)
    · have h := oH_F hc h
      refine o_bipush (v := -4) (pc := 23) dX8_log_23 (by decide) ?_
      exact hE _ _ _ _ dX8_log_25 (oH_some h)
  · have h := oH_T hc h
    refine o_bipush (v := -2) (pc := 8) dX8_log_8 (by decide) ?_
    exact hE _ _ _ _ dX8_log_10 (oH_some h)
def f_X8_lose  (za1 : Int32) (S : oS) : Option (Int32 × oS) :=
  (f_X8_isWeek za1 S).bind fun zz1 =>
  if zz1.1 = 0 then (
  some ((-2 : Int32), zz1.2)) else (
  (f_X0_forget za1 zz1.2).bind fun zz2 =>
  some (zz2.1, zz2.2))
set_option maxHeartbeats 4000000 in
theorem s_X8_lose {G : oG} {r : oR} (d : Nat) (hd : 3 ≤ d) {za1 : Int32}  {S : oS} {P : Int32 × oS → Prop} (h : oH (f_X8_lose za1 S) P) : oCt G r d yX8_lose mX8_lose [orf 900 0, oi za1] S (oQi P) := by
  unfold f_X8_lose at h
  refine oCt_of (by decide) rfl (Nat.le_of_ble_eq_true rfl) ?_
  intro X hG hr hE0 hR
  subst hG; subst hr
  obtain ⟨e, rfl⟩ : ∃ e, d = e + 1 := ⟨d - 1, by omega⟩
  have he : 2 ≤ e := by omega
  have hE := oEI_of hE0 rfl
  clear hE0 hd
  show oVv X mX8_lose 0 [(0, orf 900 0), (1, oi za1)] [] S
  refine o_iload_n (pc := 0) dX8_lose_0 rfl 1 rfl ?_
  have h := oH_bind h
  refine o_callSi (pc := 1) (st := []) [oi za1] hR md_X8_isWeek wd_729 wd_730 rfl (Nat.le_of_ble_eq_true rfl) rfl dX8_lose_1 (s_X8_isWeek e (by omega)  h) (fun zz1 h => ?_)
  refine o_if_ne 10 (pc := 4) dX8_lose_4 (by decide) (fun hc => ?_) (fun hc => ?_)
  · have h := oH_F hc h
    refine o_aload_n (pc := 10) dX8_lose_10 rfl 0 rfl ?_
    refine o_getF (pc := 11) fd_RX8_56 ft_900_6 j_900 dX8_lose_11 ?_
    refine o_iload_n (pc := 14) dX8_lose_14 rfl 1 rfl ?_
    have h := oH_bind h
    refine o_callVi (pc := 15) (st := []) [oi za1] hR md_X0_forget wd_798 wd_799 wd_800 tc_100 j_100 rfl (Nat.le_of_ble_eq_true rfl) rfl dX8_lose_15 (s_X0_forget e (by omega)  h) (fun zz2 h => ?_)
    exact hE _ _ _ _ dX8_lose_18 (oH_some h)
  · have h := oH_T hc h
    refine o_bipush (v := -2) (pc := 7) dX8_lose_7 (by decide) ?_
    exact hE _ _ _ _ dX8_lose_9 (oH_some h)
def f_X8_move  (za1 : Int32) (za2 : Int32) (S : oS) : Option (Int32 × oS) :=
  (f_X3_has za1 S).bind fun zz1 =>
  if zz1.1 = 0 then (
  some ((-2 : Int32), zz1.2)) else (
  (f_X8_isRing za2 zz1.2).bind fun zz2 =>
  if zz2.1 = 0 then (
  some ((-2 : Int32), zz2.2)) else (
  if oIn za1 200 then (
  if (zz2.2.1 404 0 (Int32.toNatClampNeg za1)) = za2 then (
  some ((-2 : Int32), zz2.2)) else (
  (f_X3_isOut za1 zz2.2).bind fun zz3 =>
  if zz3.1 = 0 then (
  if oIn za1 200 then (
  (f_X3_fits (zz3.2.1 403 0 (Int32.toNatClampNeg za1)) za2 zz3.2).bind fun zz4 =>
  if zz4.1 = 0 then (
  some ((-3 : Int32), zz4.2)) else (
  (f_X3_mayLeave za1 zz4.2).bind fun zz5 =>
  if zz5.1 = 0 then (
  some ((-3 : Int32), zz5.2)) else (
  (f_X3_shift za1 za2 zz5.2).bind fun zz6 =>
  some (zz6.1, zz6.2)))) else none) else (
  some ((-3 : Int32), zz3.2)))) else none))
set_option maxHeartbeats 4000000 in
theorem s_X8_move {G : oG} {r : oR} (d : Nat) (hd : 4 ≤ d) {za1 : Int32} {za2 : Int32}  {S : oS} {P : Int32 × oS → Prop} (h : oH (f_X8_move za1 za2 S) P) : oCt G r d yX8_move mX8_move [orf 900 0, oi za1, oi za2] S (oQi P) := by
  unfold f_X8_move at h
  refine oCt_of (by decide) rfl (Nat.le_of_ble_eq_true rfl) ?_
  intro X hG hr hE0 hR
  subst hG; subst hr
  obtain ⟨e, rfl⟩ : ∃ e, d = e + 1 := ⟨d - 1, by omega⟩
  have he : 3 ≤ e := by omega
  have hE := oEI_of hE0 rfl
  clear hE0 hd
  show oVv X mX8_move 0 [(0, orf 900 0), (1, oi za1), (2, oi za2)] [] S
  refine o_aload_n (pc := 0) dX8_move_0 rfl 0 rfl ?_
  refine o_getF (pc := 1) fd_RX8_28 ft_900_2 j_900 dX8_move_1 ?_
  refine o_iload_n (pc := 4) dX8_move_4 rfl 1 rfl ?_
  have h := oH_bind h
  refine o_callVi (pc := 5) (st := []) [oi za1] hR md_X3_has wd_563 wd_564 wd_565 tc_400 j_400 rfl (Nat.le_of_ble_eq_true rfl) rfl dX8_move_5 (s_X3_has e (by omega)  h) (fun zz1 h => ?_)
  refine o_if_eq 31 (pc := 8) dX8_move_8 (by decide) (fun hc => ?_) (fun hc => ?_)
  · have h := oH_T hc h
    refine o_bipush (v := -2) (pc := 31) dX8_move_31 (by decide) ?_
    exact hE _ _ _ _ dX8_move_33 (oH_some h)
  · have h := oH_F hc h
    refine o_iload_n (pc := 11) dX8_move_11 rfl 2 rfl ?_
    have h := oH_bind h
    refine o_callSi (pc := 12) (st := []) [oi za2] hR md_X8_isRing wd_382 wd_383 rfl (Nat.le_of_ble_eq_true rfl) rfl dX8_move_12 (s_X8_isRing e (by omega)  h) (fun zz2 h => ?_)
    refine o_if_eq 31 (pc := 15) dX8_move_15 (by decide) (fun hc => ?_) (fun hc => ?_)
    · have h := oH_T hc h
      refine o_bipush (v := -2) (pc := 31) dX8_move_31 (by decide) ?_
      exact hE _ _ _ _ dX8_move_33 (oH_some h)
    · have h := oH_F hc h
      refine o_aload_n (pc := 18) dX8_move_18 rfl 0 rfl ?_
      refine o_getF (pc := 19) fd_RX8_28 ft_900_2 j_900 dX8_move_19 ?_
      refine o_getA (pc := 22) fd_RX8_170 ft_400_3 j_400 dX8_move_22 ?_
      refine o_iload_n (pc := 25) dX8_move_25 rfl 1 rfl ?_
      obtain ⟨hg, h⟩ := oH_G h
      refine o_iald (pc := 26) kd_404 j_404 hg dX8_move_26 ?_
      refine o_iload_n (pc := 27) dX8_move_27 rfl 2 rfl ?_
      refine o_icmp_ne 34 (pc := 28) dX8_move_28 (by decide) (fun hc => ?_) (fun hc => ?_)
      · have h := oH_F hc h
        refine o_aload_n (pc := 34) dX8_move_34 rfl 0 rfl ?_
        refine o_getF (pc := 35) fd_RX8_28 ft_900_2 j_900 dX8_move_35 ?_
        refine o_iload_n (pc := 38) dX8_move_38 rfl 1 rfl ?_
        have h := oH_bind h
        refine o_callVi (pc := 39) (st := []) [oi za1] hR md_X3_isOut wd_568 wd_463 wd_464 tc_400 j_400 rfl (Nat.le_of_ble_eq_true rfl) rfl dX8_move_39 (s_X3_isOut e (by omega)  h) (fun zz3 h => ?_)
        refine o_if_ne 76 (pc := 42) dX8_move_42 (by decide) (fun hc => ?_) (fun hc => ?_)
        · have h := oH_F hc h
          refine o_bipush (v := -3) (pc := 76) dX8_move_76 (by decide) ?_
          exact hE _ _ _ _ dX8_move_78 (oH_some h)
        · have h := oH_T hc h
          refine o_aload_n (pc := 45) dX8_move_45 rfl 0 rfl ?_
          refine o_getF (pc := 46) fd_RX8_28 ft_900_2 j_900 dX8_move_46 ?_
          refine o_aload_n (pc := 49) dX8_move_49 rfl 0 rfl ?_
          refine o_getF (pc := 50) fd_RX8_28 ft_900_2 j_900 dX8_move_50 ?_
          refine o_getA (pc := 53) fd_RX8_176 ft_400_2 j_400 dX8_move_53 ?_
          refine o_iload_n (pc := 56) dX8_move_56 rfl 1 rfl ?_
          obtain ⟨hg, h⟩ := oH_G h
          refine o_iald (pc := 57) kd_403 j_403 hg dX8_move_57 ?_
          refine o_iload_n (pc := 58) dX8_move_58 rfl 2 rfl ?_
          have h := oH_bind h
          refine o_callVi (pc := 59) (st := []) [oi (zz3.2.1 403 0 (Int32.toNatClampNeg za1)), oi za2] hR md_X3_fits wd_536 wd_537 wd_538 tc_400 j_400 rfl (Nat.le_of_ble_eq_true rfl) rfl dX8_move_59 (s_X3_fits e (by omega)  h) (fun zz4 h => ?_)
          refine o_if_eq 76 (pc := 62) dX8_move_62 (by decide) (fun hc => ?_) (fun hc => ?_)
          · have h := oH_T hc h
            refine o_bipush (v := -3) (pc := 76) dX8_move_76 (by decide) ?_
            exact hE _ _ _ _ dX8_move_78 (oH_some h)
          · have h := oH_F hc h
            refine o_aload_n (pc := 65) dX8_move_65 rfl 0 rfl ?_
            refine o_getF (pc := 66) fd_RX8_28 ft_900_2 j_900 dX8_move_66 ?_
            refine o_iload_n (pc := 69) dX8_move_69 rfl 1 rfl ?_
            have h := oH_bind h
            refine o_callVi (pc := 70) (st := []) [oi za1] hR md_X3_mayLeave wd_569 wd_570 wd_571 tc_400 j_400 rfl (Nat.le_of_ble_eq_true rfl) rfl dX8_move_70 (s_X3_mayLeave e (by omega)  h) (fun zz5 h => ?_)
            refine o_if_ne 79 (pc := 73) dX8_move_73 (by decide) (fun hc => ?_) (fun hc => ?_)
            · have h := oH_F hc h
              refine o_aload_n (pc := 79) dX8_move_79 rfl 0 rfl ?_
              refine o_getF (pc := 80) fd_RX8_28 ft_900_2 j_900 dX8_move_80 ?_
              refine o_iload_n (pc := 83) dX8_move_83 rfl 1 rfl ?_
              refine o_iload_n (pc := 84) dX8_move_84 rfl 2 rfl ?_
              have h := oH_bind h
              refine o_callVi (pc := 85) (st := []) [oi za1, oi za2] hR md_X3_shift wd_573 wd_574 wd_575 tc_400 j_400 rfl (Nat.le_of_ble_eq_true rfl) rfl dX8_move_85 (s_X3_shift e (by omega)  h) (fun zz6 h => ?_)
              exact hE _ _ _ _ dX8_move_88 (oH_some h)
            · have h := oH_T hc h
              refine o_bipush (v := -3) (pc := 76) dX8_move_76 (by decide) ?_
              exact hE _ _ _ _ dX8_move_78 (oH_some h)
      · have h := oH_T hc h
        refine o_bipush (v := -2) (pc := 31) dX8_move_31 (by decide) ?_
        exact hE _ _ _ _ dX8_move_33 (oH_some h)
def f_X8_note  (za1 : Int32) (za2 : Int32) (za3 : Int32) (S : oS) : Option (Int32 × oS) :=
  (f_X8_isWeek za1 S).bind fun zz1 =>
  if zz1.1 = 0 then (
  some ((-2 : Int32), zz1.2)) else (
  (f_X8_isRing za2 zz1.2).bind fun zz2 =>
  if zz2.1 = 0 then (
  some ((-2 : Int32), zz2.2)) else (
  (f_X8_within za3 (0 : Int32) (3 : Int32) zz2.2).bind fun zz3 =>
  if zz3.1 = 0 then (
  some ((-2 : Int32), zz3.2)) else (
  if oIn ((za1 * (4 : Int32)) + za2) 244 then (
  oLet (zz3.2.1 101 0 (Int32.toNatClampNeg ((za1 * (4 : Int32)) + za2))) fun zx4 =>
  if oIn ((za1 * (4 : Int32)) + za2) 244 then (
  oLet (oStI zz3.2 101 0 (Int32.toNatClampNeg ((za1 * (4 : Int32)) + za2)) za3) fun zS5 =>
  some (zx4, zS5)) else none) else none)))
set_option maxHeartbeats 4000000 in
theorem s_X8_note {G : oG} {r : oR} (d : Nat) (hd : 3 ≤ d) {za1 : Int32} {za2 : Int32} {za3 : Int32}  {S : oS} {P : Int32 × oS → Prop} (h : oH (f_X8_note za1 za2 za3 S) P) : oCt G r d yX8_note mX8_note [orf 900 0, oi za1, oi za2, oi za3] S (oQi P) := by
  unfold f_X8_note at h
  refine oCt_of (by decide) rfl (Nat.le_of_ble_eq_true rfl) ?_
  intro X hG hr hE0 hR
  subst hG; subst hr
  obtain ⟨e, rfl⟩ : ∃ e, d = e + 1 := ⟨d - 1, by omega⟩
  have he : 2 ≤ e := by omega
  have hE := oEI_of hE0 rfl
  clear hE0 hd
  show oVv X mX8_note 0 [(0, orf 900 0), (1, oi za1), (2, oi za2), (3, oi za3)] [] S
  refine o_iload_n (pc := 0) dX8_note_0 rfl 1 rfl ?_
  have h := oH_bind h
  refine o_callSi (pc := 1) (st := []) [oi za1] hR md_X8_isWeek wd_729 wd_730 rfl (Nat.le_of_ble_eq_true rfl) rfl dX8_note_1 (s_X8_isWeek e (by omega)  h) (fun zz1 h => ?_)
  refine o_if_eq 23 (pc := 4) dX8_note_4 (by decide) (fun hc => ?_) (fun hc => ?_)
  · have h := oH_T hc h
    refine o_bipush (v := -2) (pc := 23) dX8_note_23 (by decide) ?_
    exact hE _ _ _ _ dX8_note_25 (oH_some h)
  · have h := oH_F hc h
    refine o_iload_n (pc := 7) dX8_note_7 rfl 2 rfl ?_
    have h := oH_bind h
    refine o_callSi (pc := 8) (st := []) [oi za2] hR md_X8_isRing wd_382 wd_383 rfl (Nat.le_of_ble_eq_true rfl) rfl dX8_note_8 (s_X8_isRing e (by omega)  h) (fun zz2 h => ?_)
    refine o_if_eq 23 (pc := 11) dX8_note_11 (by decide) (fun hc => ?_) (fun hc => ?_)
    · have h := oH_T hc h
      refine o_bipush (v := -2) (pc := 23) dX8_note_23 (by decide) ?_
      exact hE _ _ _ _ dX8_note_25 (oH_some h)
    · have h := oH_F hc h
      refine o_iload_n (pc := 14) dX8_note_14 rfl 3 rfl ?_
      refine o_iconst (v := 0) (pc := 15) dX8_note_15 (by decide) ?_
      refine o_iconst (v := 3) (pc := 16) dX8_note_16 (by decide) ?_
      have h := oH_bind h
      refine o_callSi (pc := 17) (st := []) [oi za3, oi (0 : Int32), oi (3 : Int32)] hR md_X8_within wd_375 wd_376 rfl (Nat.le_of_ble_eq_true rfl) rfl dX8_note_17 (s_X8_within e (by omega)  h) (fun zz3 h => ?_)
      refine o_if_ne 26 (pc := 20) dX8_note_20 (by decide) (fun hc => ?_) (fun hc => ?_)
      · have h := oH_F hc h
        refine o_aload_n (pc := 26) dX8_note_26 rfl 0 rfl ?_
        refine o_getF (pc := 27) fd_RX8_56 ft_900_6 j_900 dX8_note_27 ?_
        refine o_getA (pc := 30) fd_RX8_291 ft_100_0 j_100 dX8_note_30 ?_
        refine o_iload_n (pc := 33) dX8_note_33 rfl 1 rfl ?_
        refine o_iconst (v := 4) (pc := 34) dX8_note_34 (by decide) ?_
        refine o_imul (pc := 35) dX8_note_35 ?_
        refine o_iload_n (pc := 36) dX8_note_36 rfl 2 rfl ?_
        refine o_iadd (pc := 37) dX8_note_37 ?_
        obtain ⟨hg, h⟩ := oH_G h
        refine o_iald (pc := 38) kd_101 j_101 hg dX8_note_38 ?_
        refine o_nmI (fun zx4 hx => ?_)
        have h := oH_let h zx4 hx
        clear hx
        refine o_istore (lv1 := [(0, orf 900 0), (1, oi za1), (2, oi za2), (3, oi za3), (4, oi zx4)]) (pc := 39) dX8_note_39 (by decide) rfl ?_
        refine o_aload_n (pc := 41) dX8_note_41 rfl 0 rfl ?_
        refine o_getF (pc := 42) fd_RX8_56 ft_900_6 j_900 dX8_note_42 ?_
        refine o_getA (pc := 45) fd_RX8_291 ft_100_0 j_100 dX8_note_45 ?_
        refine o_iload_n (pc := 48) dX8_note_48 rfl 1 rfl ?_
        refine o_iconst (v := 4) (pc := 49) dX8_note_49 (by decide) ?_
        refine o_imul (pc := 50) dX8_note_50 ?_
        refine o_iload_n (pc := 51) dX8_note_51 rfl 2 rfl ?_
        refine o_iadd (pc := 52) dX8_note_52 ?_
        refine o_iload_n (pc := 53) dX8_note_53 rfl 3 rfl ?_
        obtain ⟨hg, h⟩ := oH_G h
        have hgi := hg
        refine o_iast (pc := 54) kd_101 j_101 hgi dX8_note_54 ?_
        refine o_nmS (fun zS5 hx => ?_)
        have h := oH_let h zS5 hx
        clear hx
        refine o_iload (pc := 55) dX8_note_55 4 rfl ?_
        exact hE _ _ _ _ dX8_note_57 (oH_some h)
      · have h := oH_T hc h
        refine o_bipush (v := -2) (pc := 23) dX8_note_23 (by decide) ?_
        exact hE _ _ _ _ dX8_note_25 (oH_some h)
def f_X8_opening  (za1 : Int32) (S : oS) : Option (Int32 × oS) :=
  (f_X5_firstFreeTick S).bind fun zz1 =>
  (f_X8_within za1 zz1.1 (40 : Int32) zz1.2).bind fun zz2 =>
  if zz2.1 = 0 then (
  some ((-2 : Int32), zz2.2)) else (
  if (zz2.2.1 600 0 11) < (3 : Int32) then (
  (f_X5_addOpening za1 zz2.2).bind fun zz3 =>
  some (zz3.1, zz3.2)) else (
  some ((-4 : Int32), zz2.2)))
set_option maxHeartbeats 4000000 in
theorem s_X8_opening {G : oG} {r : oR} (d : Nat) (hd : 2 ≤ d) {za1 : Int32}  {S : oS} {P : Int32 × oS → Prop} (h : oH (f_X8_opening za1 S) P) : oCt G r d yX8_opening mX8_opening [orf 900 0, oi za1] S (oQi P) := by
  unfold f_X8_opening at h
  refine oCt_of (by decide) rfl (Nat.le_of_ble_eq_true rfl) ?_
  intro X hG hr hE0 hR
  subst hG; subst hr
  obtain ⟨e, rfl⟩ : ∃ e, d = e + 1 := ⟨d - 1, by omega⟩
  have he : 1 ≤ e := by omega
  have hE := oEI_of hE0 rfl
  clear hE0 hd
  show oVv X mX8_opening 0 [(0, orf 900 0), (1, oi za1)] [] S
  refine o_iload_n (pc := 0) dX8_opening_0 rfl 1 rfl ?_
  refine o_aload_n (pc := 1) dX8_opening_1 rfl 0 rfl ?_
  refine o_getF (pc := 2) fd_RX8_35 ft_900_3 j_900 dX8_opening_2 ?_
  have h := oH_bind h
  refine o_callVi (pc := 5) (st := [oi za1]) [] hR md_X5_firstFreeTick wd_611 wd_612 wd_613 tc_600 j_600 rfl (Nat.le_of_ble_eq_true rfl) rfl dX8_opening_5 (s_X5_firstFreeTick e (by omega)  h) (fun zz1 h => ?_)
  refine o_bipush (v := 40) (pc := 8) dX8_opening_8 (by decide) ?_
  have h := oH_bind h
  refine o_callSi (pc := 10) (st := []) [oi za1, oi zz1.1, oi (40 : Int32)] hR md_X8_within wd_375 wd_376 rfl (Nat.le_of_ble_eq_true rfl) rfl dX8_opening_10 (s_X8_within e (by omega)  h) (fun zz2 h => ?_)
  refine o_if_ne 19 (pc := 13) dX8_opening_13 (by decide) (fun hc => ?_) (fun hc => ?_)
  · have h := oH_F hc h
    refine o_aload_n (pc := 19) dX8_opening_19 rfl 0 rfl ?_
    refine o_getF (pc := 20) fd_RX8_35 ft_900_3 j_900 dX8_opening_20 ?_
    refine o_getI (pc := 23) fd_RX8_223 ft_600_11 j_600 dX8_opening_23 ?_
    refine o_iconst (v := 3) (pc := 26) dX8_opening_26 (by decide) ?_
    refine o_icmp_lt 33 (pc := 27) dX8_opening_27 (by decide) (fun hc => ?_) (fun hc => ?_)
    · have h := oH_T hc h
      refine o_aload_n (pc := 33) dX8_opening_33 rfl 0 rfl ?_
      refine o_getF (pc := 34) fd_RX8_35 ft_900_3 j_900 dX8_opening_34 ?_
      refine o_iload_n (pc := 37) dX8_opening_37 rfl 1 rfl ?_
      have h := oH_bind h
      refine o_callVi (pc := 38) (st := []) [oi za1] hR md_X5_addOpening wd_615 wd_616 wd_617 tc_600 j_600 rfl (Nat.le_of_ble_eq_true rfl) rfl dX8_opening_38 (s_X5_addOpening e (by omega)  h) (fun zz3 h => ?_)
      exact hE _ _ _ _ dX8_opening_41 (oH_some h)
    · have h := oH_F hc h
      refine o_bipush (v := -4) (pc := 30) dX8_opening_30 (by decide) ?_
      exact hE _ _ _ _ dX8_opening_32 (oH_some h)
  · have h := oH_T hc h
    refine o_bipush (v := -2) (pc := 16) dX8_opening_16 (by decide) ?_
    exact hE _ _ _ _ dX8_opening_18 (oH_some h)
def f_X8_order  (za1 : Int32) (S : oS) : Option (Int32 × oS) :=
  (f_X1_has za1 S).bind fun zz1 =>
  if zz1.1 = 0 then (
  some ((-2 : Int32), zz1.2)) else (
  if (zz1.2.1 600 0 10) < (4 : Int32) then (
  (f_X5_addOrder za1 zz1.2).bind fun zz2 =>
  some (zz2.1, zz2.2)) else (
  some ((-4 : Int32), zz1.2)))
set_option maxHeartbeats 4000000 in
theorem s_X8_order {G : oG} {r : oR} (d : Nat) (hd : 3 ≤ d) {za1 : Int32}  {S : oS} {P : Int32 × oS → Prop} (h : oH (f_X8_order za1 S) P) : oCt G r d yX8_order mX8_order [orf 900 0, oi za1] S (oQi P) := by
  unfold f_X8_order at h
  refine oCt_of (by decide) rfl (Nat.le_of_ble_eq_true rfl) ?_
  intro X hG hr hE0 hR
  subst hG; subst hr
  obtain ⟨e, rfl⟩ : ∃ e, d = e + 1 := ⟨d - 1, by omega⟩
  have he : 2 ≤ e := by omega
  have hE := oEI_of hE0 rfl
  clear hE0 hd
  show oVv X mX8_order 0 [(0, orf 900 0), (1, oi za1)] [] S
  refine o_aload_n (pc := 0) dX8_order_0 rfl 0 rfl ?_
  refine o_getF (pc := 1) fd_RX8_19 ft_900_1 j_900 dX8_order_1 ?_
  refine o_iload_n (pc := 4) dX8_order_4 rfl 1 rfl ?_
  have h := oH_bind h
  refine o_callVi (pc := 5) (st := []) [oi za1] hR md_X1_has wd_518 wd_519 wd_520 tc_200 j_200 rfl (Nat.le_of_ble_eq_true rfl) rfl dX8_order_5 (s_X1_has e (by omega)  h) (fun zz1 h => ?_)
  refine o_if_ne 14 (pc := 8) dX8_order_8 (by decide) (fun hc => ?_) (fun hc => ?_)
  · have h := oH_F hc h
    refine o_aload_n (pc := 14) dX8_order_14 rfl 0 rfl ?_
    refine o_getF (pc := 15) fd_RX8_35 ft_900_3 j_900 dX8_order_15 ?_
    refine o_getI (pc := 18) fd_RX8_214 ft_600_10 j_600 dX8_order_18 ?_
    refine o_iconst (v := 4) (pc := 21) dX8_order_21 (by decide) ?_
    refine o_icmp_lt 28 (pc := 22) dX8_order_22 (by decide) (fun hc => ?_) (fun hc => ?_)
    · have h := oH_T hc h
      refine o_aload_n (pc := 28) dX8_order_28 rfl 0 rfl ?_
      refine o_getF (pc := 29) fd_RX8_35 ft_900_3 j_900 dX8_order_29 ?_
      refine o_iload_n (pc := 32) dX8_order_32 rfl 1 rfl ?_
      have h := oH_bind h
      refine o_callVi (pc := 33) (st := []) [oi za1] hR md_X5_addOrder wd_603 wd_604 wd_605 tc_600 j_600 rfl (Nat.le_of_ble_eq_true rfl) rfl dX8_order_33 (s_X5_addOrder e (by omega)  h) (fun zz2 h => ?_)
      exact hE _ _ _ _ dX8_order_36 (oH_some h)
    · have h := oH_F hc h
      refine o_bipush (v := -4) (pc := 25) dX8_order_25 (by decide) ?_
      exact hE _ _ _ _ dX8_order_27 (oH_some h)
  · have h := oH_T hc h
    refine o_bipush (v := -2) (pc := 11) dX8_order_11 (by decide) ?_
    exact hE _ _ _ _ dX8_order_13 (oH_some h)
def f_X8_plan   (S : oS) : Option (Int32 × oS) :=
  if (S.1 400 0 9) ≤ 0 then (
  (f_X5_makePlan 0 S).bind fun zz1 =>
  some (zz1.1 600 0 12, zz1)) else (
  some ((-3 : Int32), S))
set_option maxHeartbeats 4000000 in
theorem s_X8_plan {G : oG} {r : oR} (d : Nat) (hd : 14 ≤ d)   {S : oS} {P : Int32 × oS → Prop} (h : oH (f_X8_plan  S) P) : oCt G r d yX8_plan mX8_plan [orf 900 0] S (oQi P) := by
  unfold f_X8_plan at h
  refine oCt_of (by decide) rfl (Nat.le_of_ble_eq_true rfl) ?_
  intro X hG hr hE0 hR
  subst hG; subst hr
  obtain ⟨e, rfl⟩ : ∃ e, d = e + 1 := ⟨d - 1, by omega⟩
  have he : 13 ≤ e := by omega
  have hE := oEI_of hE0 rfl
  clear hE0 hd
  show oVv X mX8_plan 0 [(0, orf 900 0)] [] S
  refine o_aload_n (pc := 0) dX8_plan_0 rfl 0 rfl ?_
  refine o_getF (pc := 1) fd_RX8_28 ft_900_2 j_900 dX8_plan_1 ?_
  refine o_getI (pc := 4) fd_RX8_159 ft_400_9 j_400 dX8_plan_4 ?_
  refine o_if_le 13 (pc := 7) dX8_plan_7 (by decide) (fun hc => ?_) (fun hc => ?_)
  · have h := oH_T hc h
    refine o_aload_n (pc := 13) dX8_plan_13 rfl 0 rfl ?_
    refine o_getF (pc := 14) fd_RX8_35 ft_900_3 j_900 dX8_plan_14 ?_
    refine o_aload_n (pc := 17) dX8_plan_17 rfl 0 rfl ?_
    refine o_getF (pc := 18) fd_RX8_10 ft_900_0 j_900 dX8_plan_18 ?_
    have h := oH_bind h
    refine o_callVv (pc := 21) (st := []) [orf 500 0] hR md_X5_makePlan wd_627 wd_628 wd_629 tc_600 j_600 rfl (Nat.le_of_ble_eq_true rfl) rfl dX8_plan_21 (s_X5_makePlan e (by omega) j_500_0 h) (fun zz1 h => ?_)
    refine o_aload_n (pc := 24) dX8_plan_24 rfl 0 rfl ?_
    refine o_getF (pc := 25) fd_RX8_35 ft_900_3 j_900 dX8_plan_25 ?_
    refine o_getI (pc := 28) fd_RX8_232 ft_600_12 j_600 dX8_plan_28 ?_
    exact hE _ _ _ _ dX8_plan_31 (oH_some h)
  · have h := oH_F hc h
    refine o_bipush (v := -3) (pc := 10) dX8_plan_10 (by decide) ?_
    exact hE _ _ _ _ dX8_plan_12 (oH_some h)
def f_X8_planned  (za1 : Int32) (za2 : Int32) (S : oS) : Option (Int32 × oS) :=
  (f_X8_within za1 (0 : Int32) ((S.1 600 0 10) - (1 : Int32)) S).bind fun zz1 =>
  if zz1.1 = 0 then (
  some ((-2 : Int32), zz1.2)) else (
  (f_X8_within za2 (0 : Int32) (2 : Int32) zz1.2).bind fun zz2 =>
  if zz2.1 = 0 then (
  some ((-2 : Int32), zz2.2)) else (
  if (zz2.2.1 400 0 9) ≤ 0 then (
  (f_X5_makePlan 0 zz2.2).bind fun zz3 =>
  (f_X5_tell za1 za2 zz3).bind fun zz4 =>
  some (zz4.1, zz4.2)) else (
  some ((-3 : Int32), zz2.2))))
set_option maxHeartbeats 4000000 in
theorem s_X8_planned {G : oG} {r : oR} (d : Nat) (hd : 14 ≤ d) {za1 : Int32} {za2 : Int32}  {S : oS} {P : Int32 × oS → Prop} (h : oH (f_X8_planned za1 za2 S) P) : oCt G r d yX8_planned mX8_planned [orf 900 0, oi za1, oi za2] S (oQi P) := by
  unfold f_X8_planned at h
  refine oCt_of (by decide) rfl (Nat.le_of_ble_eq_true rfl) ?_
  intro X hG hr hE0 hR
  subst hG; subst hr
  obtain ⟨e, rfl⟩ : ∃ e, d = e + 1 := ⟨d - 1, by omega⟩
  have he : 13 ≤ e := by omega
  have hE := oEI_of hE0 rfl
  clear hE0 hd
  show oVv X mX8_planned 0 [(0, orf 900 0), (1, oi za1), (2, oi za2)] [] S
  refine o_iload_n (pc := 0) dX8_planned_0 rfl 1 rfl ?_
  refine o_iconst (v := 0) (pc := 1) dX8_planned_1 (by decide) ?_
  refine o_aload_n (pc := 2) dX8_planned_2 rfl 0 rfl ?_
  refine o_getF (pc := 3) fd_RX8_35 ft_900_3 j_900 dX8_planned_3 ?_
  refine o_getI (pc := 6) fd_RX8_214 ft_600_10 j_600 dX8_planned_6 ?_
  refine o_iconst (v := 1) (pc := 9) dX8_planned_9 (by decide) ?_
  refine o_isub (pc := 10) dX8_planned_10 ?_
  have h := oH_bind h
  refine o_callSi (pc := 11) (st := []) [oi za1, oi (0 : Int32), oi ((S.1 600 0 10) - (1 : Int32))] hR md_X8_within wd_375 wd_376 rfl (Nat.le_of_ble_eq_true rfl) rfl dX8_planned_11 (s_X8_within e (by omega)  h) (fun zz1 h => ?_)
  refine o_if_eq 26 (pc := 14) dX8_planned_14 (by decide) (fun hc => ?_) (fun hc => ?_)
  · have h := oH_T hc h
    refine o_bipush (v := -2) (pc := 26) dX8_planned_26 (by decide) ?_
    exact hE _ _ _ _ dX8_planned_28 (oH_some h)
  · have h := oH_F hc h
    refine o_iload_n (pc := 17) dX8_planned_17 rfl 2 rfl ?_
    refine o_iconst (v := 0) (pc := 18) dX8_planned_18 (by decide) ?_
    refine o_iconst (v := 2) (pc := 19) dX8_planned_19 (by decide) ?_
    have h := oH_bind h
    refine o_callSi (pc := 20) (st := []) [oi za2, oi (0 : Int32), oi (2 : Int32)] hR md_X8_within wd_375 wd_376 rfl (Nat.le_of_ble_eq_true rfl) rfl dX8_planned_20 (s_X8_within e (by omega)  h) (fun zz2 h => ?_)
    refine o_if_ne 29 (pc := 23) dX8_planned_23 (by decide) (fun hc => ?_) (fun hc => ?_)
    · have h := oH_F hc h
      refine o_aload_n (pc := 29) dX8_planned_29 rfl 0 rfl ?_
      refine o_getF (pc := 30) fd_RX8_28 ft_900_2 j_900 dX8_planned_30 ?_
      refine o_getI (pc := 33) fd_RX8_159 ft_400_9 j_400 dX8_planned_33 ?_
      refine o_if_le 42 (pc := 36) dX8_planned_36 (by decide) (fun hc => ?_) (fun hc => ?_)
      · have h := oH_T hc h
        refine o_aload_n (pc := 42) dX8_planned_42 rfl 0 rfl ?_
        refine o_getF (pc := 43) fd_RX8_35 ft_900_3 j_900 dX8_planned_43 ?_
        refine o_aload_n (pc := 46) dX8_planned_46 rfl 0 rfl ?_
        refine o_getF (pc := 47) fd_RX8_10 ft_900_0 j_900 dX8_planned_47 ?_
        have h := oH_bind h
        refine o_callVv (pc := 50) (st := []) [orf 500 0] hR md_X5_makePlan wd_627 wd_628 wd_629 tc_600 j_600 rfl (Nat.le_of_ble_eq_true rfl) rfl dX8_planned_50 (s_X5_makePlan e (by omega) j_500_0 h) (fun zz3 h => ?_)
        refine o_aload_n (pc := 53) dX8_planned_53 rfl 0 rfl ?_
        refine o_getF (pc := 54) fd_RX8_35 ft_900_3 j_900 dX8_planned_54 ?_
        refine o_iload_n (pc := 57) dX8_planned_57 rfl 1 rfl ?_
        refine o_iload_n (pc := 58) dX8_planned_58 rfl 2 rfl ?_
        have h := oH_bind h
        refine o_callVi (pc := 59) (st := []) [oi za1, oi za2] hR md_X5_tell wd_682 wd_683 wd_684 tc_600 j_600 rfl (Nat.le_of_ble_eq_true rfl) rfl dX8_planned_59 (s_X5_tell e (by omega)  h) (fun zz4 h => ?_)
        exact hE _ _ _ _ dX8_planned_62 (oH_some h)
      · have h := oH_F hc h
        refine o_bipush (v := -3) (pc := 39) dX8_planned_39 (by decide) ?_
        exact hE _ _ _ _ dX8_planned_41 (oH_some h)
    · have h := oH_T hc h
      refine o_bipush (v := -2) (pc := 26) dX8_planned_26 (by decide) ?_
      exact hE _ _ _ _ dX8_planned_28 (oH_some h)
def f_X8_put  (za1 : Int32) (za2 : Int32) (S : oS) : Option (Int32 × oS) :=
  (f_X1_has za1 S).bind fun zz1 =>
  if zz1.1 = 0 then (
  some ((-2 : Int32), zz1.2)) else (
  (f_X8_isRing za2 zz1.2).bind fun zz2 =>
  if zz2.1 = 0 then (
  some ((-2 : Int32), zz2.2)) else (
  (f_X3_fits za1 za2 zz2.2).bind fun zz3 =>
  if zz3.1 = 0 then (
  some ((-3 : Int32), zz3.2)) else (
  if (12 : Int32) ≤ (zz3.2.1 400 0 9) then (
  some ((-4 : Int32), zz3.2)) else (
  if (zz3.2.1 400 0 8) < (200 : Int32) then (
  (f_X3_layIn za1 za2 zz3.2).bind fun zz4 =>
  some (zz4.1, zz4.2)) else (
  some ((-4 : Int32), zz3.2))))))
set_option maxHeartbeats 4000000 in
theorem s_X8_put {G : oG} {r : oR} (d : Nat) (hd : 4 ≤ d) {za1 : Int32} {za2 : Int32}  {S : oS} {P : Int32 × oS → Prop} (h : oH (f_X8_put za1 za2 S) P) : oCt G r d yX8_put mX8_put [orf 900 0, oi za1, oi za2] S (oQi P) := by
  unfold f_X8_put at h
  refine oCt_of (by decide) rfl (Nat.le_of_ble_eq_true rfl) ?_
  intro X hG hr hE0 hR
  subst hG; subst hr
  obtain ⟨e, rfl⟩ : ∃ e, d = e + 1 := ⟨d - 1, by omega⟩
  have he : 3 ≤ e := by omega
  have hE := oEI_of hE0 rfl
  clear hE0 hd
  show oVv X mX8_put 0 [(0, orf 900 0), (1, oi za1), (2, oi za2)] [] S
  refine o_aload_n (pc := 0) dX8_put_0 rfl 0 rfl ?_
  refine o_getF (pc := 1) fd_RX8_19 ft_900_1 j_900 dX8_put_1 ?_
  refine o_iload_n (pc := 4) dX8_put_4 rfl 1 rfl ?_
  have h := oH_bind h
  refine o_callVi (pc := 5) (st := []) [oi za1] hR md_X1_has wd_518 wd_519 wd_520 tc_200 j_200 rfl (Nat.le_of_ble_eq_true rfl) rfl dX8_put_5 (s_X1_has e (by omega)  h) (fun zz1 h => ?_)
  refine o_if_eq 18 (pc := 8) dX8_put_8 (by decide) (fun hc => ?_) (fun hc => ?_)
  · have h := oH_T hc h
    refine o_bipush (v := -2) (pc := 18) dX8_put_18 (by decide) ?_
    exact hE _ _ _ _ dX8_put_20 (oH_some h)
  · have h := oH_F hc h
    refine o_iload_n (pc := 11) dX8_put_11 rfl 2 rfl ?_
    have h := oH_bind h
    refine o_callSi (pc := 12) (st := []) [oi za2] hR md_X8_isRing wd_382 wd_383 rfl (Nat.le_of_ble_eq_true rfl) rfl dX8_put_12 (s_X8_isRing e (by omega)  h) (fun zz2 h => ?_)
    refine o_if_ne 21 (pc := 15) dX8_put_15 (by decide) (fun hc => ?_) (fun hc => ?_)
    · have h := oH_F hc h
      refine o_aload_n (pc := 21) dX8_put_21 rfl 0 rfl ?_
      refine o_getF (pc := 22) fd_RX8_28 ft_900_2 j_900 dX8_put_22 ?_
      refine o_iload_n (pc := 25) dX8_put_25 rfl 1 rfl ?_
      refine o_iload_n (pc := 26) dX8_put_26 rfl 2 rfl ?_
      have h := oH_bind h
      refine o_callVi (pc := 27) (st := []) [oi za1, oi za2] hR md_X3_fits wd_536 wd_537 wd_538 tc_400 j_400 rfl (Nat.le_of_ble_eq_true rfl) rfl dX8_put_27 (s_X3_fits e (by omega)  h) (fun zz3 h => ?_)
      refine o_if_ne 36 (pc := 30) dX8_put_30 (by decide) (fun hc => ?_) (fun hc => ?_)
      · have h := oH_F hc h
        refine o_aload_n (pc := 36) dX8_put_36 rfl 0 rfl ?_
        refine o_getF (pc := 37) fd_RX8_28 ft_900_2 j_900 dX8_put_37 ?_
        refine o_getI (pc := 40) fd_RX8_159 ft_400_9 j_400 dX8_put_40 ?_
        refine o_bipush (v := 12) (pc := 43) dX8_put_43 (by decide) ?_
        refine o_icmp_ge 61 (pc := 45) dX8_put_45 (by decide) (fun hc => ?_) (fun hc => ?_)
        · have h := oH_T hc h
          refine o_bipush (v := -4) (pc := 61) dX8_put_61 (by decide) ?_
          exact hE _ _ _ _ dX8_put_63 (oH_some h)
        · have h := oH_F hc h
          refine o_aload_n (pc := 48) dX8_put_48 rfl 0 rfl ?_
          refine o_getF (pc := 49) fd_RX8_28 ft_900_2 j_900 dX8_put_49 ?_
          refine o_getI (pc := 52) fd_RX8_162 ft_400_8 j_400 dX8_put_52 ?_
          refine o_sipush (v := 200) (pc := 55) dX8_put_55 (by decide) ?_
          refine o_icmp_lt 64 (pc := 58) dX8_put_58 (by decide) (fun hc => ?_) (fun hc => ?_)
          · have h := oH_T hc h
            refine o_aload_n (pc := 64) dX8_put_64 rfl 0 rfl ?_
            refine o_getF (pc := 65) fd_RX8_28 ft_900_2 j_900 dX8_put_65 ?_
            refine o_iload_n (pc := 68) dX8_put_68 rfl 1 rfl ?_
            refine o_iload_n (pc := 69) dX8_put_69 rfl 2 rfl ?_
            have h := oH_bind h
            refine o_callVi (pc := 70) (st := []) [oi za1, oi za2] hR md_X3_layIn wd_555 wd_556 wd_557 tc_400 j_400 rfl (Nat.le_of_ble_eq_true rfl) rfl dX8_put_70 (s_X3_layIn e (by omega)  h) (fun zz4 h => ?_)
            exact hE _ _ _ _ dX8_put_73 (oH_some h)
          · have h := oH_F hc h
            refine o_bipush (v := -4) (pc := 61) dX8_put_61 (by decide) ?_
            exact hE _ _ _ _ dX8_put_63 (oH_some h)
      · have h := oH_T hc h
        refine o_bipush (v := -3) (pc := 33) dX8_put_33 (by decide) ?_
        exact hE _ _ _ _ dX8_put_35 (oH_some h)
    · have h := oH_T hc h
      refine o_bipush (v := -2) (pc := 18) dX8_put_18 (by decide) ?_
      exact hE _ _ _ _ dX8_put_20 (oH_some h)
def f_X8_room  (za1 : Int32) (S : oS) : Option (Int32 × oS) :=
  (f_X8_isRing za1 S).bind fun zz1 =>
  if zz1.1 = 0 then (
  some ((-2 : Int32), zz1.2)) else (
  if oIn za1 4 then (
  if oIn za1 4 then (
  oLet (0 + Int32.toNatClampNeg za1) fun zj_2 =>
  (f_X2_used zj_2 zz1.2).bind fun zz3 =>
  some (((oROOM (Int32.toNatClampNeg za1)) - zz3.1), zz3.2)) else none) else none)
set_option maxHeartbeats 4000000 in
theorem s_X8_room {G : oG} {r : oR} (d : Nat) (hd : 3 ≤ d) {za1 : Int32}  {S : oS} {P : Int32 × oS → Prop} (h : oH (f_X8_room za1 S) P) : oCt G r d yX8_room mX8_room [orf 900 0, oi za1] S (oQi P) := by
  unfold f_X8_room at h
  refine oCt_of (by decide) rfl (Nat.le_of_ble_eq_true rfl) ?_
  intro X hG hr hE0 hR
  subst hG; subst hr
  obtain ⟨e, rfl⟩ : ∃ e, d = e + 1 := ⟨d - 1, by omega⟩
  have he : 2 ≤ e := by omega
  have hE := oEI_of hE0 rfl
  clear hE0 hd
  show oVv X mX8_room 0 [(0, orf 900 0), (1, oi za1)] [] S
  refine o_iload_n (pc := 0) dX8_room_0 rfl 1 rfl ?_
  have h := oH_bind h
  refine o_callSi (pc := 1) (st := []) [oi za1] hR md_X8_isRing wd_382 wd_383 rfl (Nat.le_of_ble_eq_true rfl) rfl dX8_room_1 (s_X8_isRing e (by omega)  h) (fun zz1 h => ?_)
  refine o_if_ne 10 (pc := 4) dX8_room_4 (by decide) (fun hc => ?_) (fun hc => ?_)
  · have h := oH_F hc h
    refine o_gets (i := 1) (pc := 10) (by decide) wd_597 dX8_room_10 ?_
    refine o_iload_n (pc := 13) dX8_room_13 rfl 1 rfl ?_
    obtain ⟨hg, h⟩ := oH_G h
    refine o_sald_2001 (pc := 14) hg dX8_room_14 ?_
    refine o_aload_n (pc := 15) dX8_room_15 rfl 0 rfl ?_
    refine o_getF (pc := 16) fd_RX8_28 ft_900_2 j_900 dX8_room_16 ?_
    refine o_getA (pc := 19) fd_RX8_204 ft_400_1 j_400 dX8_room_19 ?_
    refine o_iload_n (pc := 22) dX8_room_22 rfl 1 rfl ?_
    obtain ⟨hg, h⟩ := oH_G h
    refine o_aald (pc := 23) kd_402 (by decide) j_402 hg dX8_room_23 (fun zj_2 hx hzj_2 => ?_)
    have h := oH_let h zj_2 hx
    clear hx
    have h := oH_bind h
    refine o_callVi (pc := 24) (st := [oi (oROOM (Int32.toNatClampNeg za1))]) [] hR md_X2_used wd_598 wd_549 wd_550 tc_300 hzj_2 rfl (Nat.le_of_ble_eq_true rfl) rfl dX8_room_24 (s_X2_used e (by omega) hzj_2 h) (fun zz3 h => ?_)
    refine o_isub (pc := 27) dX8_room_27 ?_
    exact hE _ _ _ _ dX8_room_28 (oH_some h)
  · have h := oH_T hc h
    refine o_bipush (v := -2) (pc := 7) dX8_room_7 (by decide) ?_
    exact hE _ _ _ _ dX8_room_9 (oH_some h)
def f_X8_second  (za1 : Int32) (za2 : Int32) (za3 : Int32) (za4 : Int32) (S : oS) : Option (Int32 × oS) :=
  (f_X1_has za1 S).bind fun zz1 =>
  if zz1.1 = 0 then (
  some ((-2 : Int32), zz1.2)) else (
  (f_X8_within za2 (1 : Int32) (30 : Int32) zz1.2).bind fun zz2 =>
  if zz2.1 = 0 then (
  some ((-2 : Int32), zz2.2)) else (
  (f_X8_isSpan za3 za4 zz2.2).bind fun zz3 =>
  if zz3.1 = 0 then (
  some ((-2 : Int32), zz3.2)) else (
  (f_X1_hasTwoHeats za1 zz3.2).bind fun zz4 =>
  if zz4.1 = 0 then (
  (f_X3_anyInsideOf za1 zz4.2).bind fun zz5 =>
  if zz5.1 = 0 then (
  (f_X1_giveSecondHeat za1 za2 za3 za4 zz5.2).bind fun zz6 =>
  some ((1 : Int32), zz6)) else (
  some ((-3 : Int32), zz5.2))) else (
  some ((-3 : Int32), zz4.2)))))
set_option maxHeartbeats 4000000 in
theorem s_X8_second {G : oG} {r : oR} (d : Nat) (hd : 3 ≤ d) {za1 : Int32} {za2 : Int32} {za3 : Int32} {za4 : Int32}  {S : oS} {P : Int32 × oS → Prop} (h : oH (f_X8_second za1 za2 za3 za4 S) P) : oCt G r d yX8_second mX8_second [orf 900 0, oi za1, oi za2, oi za3, oi za4] S (oQi P) := by
  unfold f_X8_second at h
  refine oCt_of (by decide) rfl (Nat.le_of_ble_eq_true rfl) ?_
  intro X hG hr hE0 hR
  subst hG; subst hr
  obtain ⟨e, rfl⟩ : ∃ e, d = e + 1 := ⟨d - 1, by omega⟩
  have he : 2 ≤ e := by omega
  have hE := oEI_of hE0 rfl
  clear hE0 hd
  show oVv X mX8_second 0 [(0, orf 900 0), (1, oi za1), (2, oi za2), (3, oi za3), (4, oi za4)] [] S
  refine o_aload_n (pc := 0) dX8_second_0 rfl 0 rfl ?_
  refine o_getF (pc := 1) fd_RX8_19 ft_900_1 j_900 dX8_second_1 ?_
  refine o_iload_n (pc := 4) dX8_second_4 rfl 1 rfl ?_
  have h := oH_bind h
  refine o_callVi (pc := 5) (st := []) [oi za1] hR md_X1_has wd_518 wd_519 wd_520 tc_200 j_200 rfl (Nat.le_of_ble_eq_true rfl) rfl dX8_second_5 (s_X1_has e (by omega)  h) (fun zz1 h => ?_)
  refine o_if_eq 30 (pc := 8) dX8_second_8 (by decide) (fun hc => ?_) (fun hc => ?_)
  · have h := oH_T hc h
    refine o_bipush (v := -2) (pc := 30) dX8_second_30 (by decide) ?_
    exact hE _ _ _ _ dX8_second_32 (oH_some h)
  · have h := oH_F hc h
    refine o_iload_n (pc := 11) dX8_second_11 rfl 2 rfl ?_
    refine o_iconst (v := 1) (pc := 12) dX8_second_12 (by decide) ?_
    refine o_bipush (v := 30) (pc := 13) dX8_second_13 (by decide) ?_
    have h := oH_bind h
    refine o_callSi (pc := 15) (st := []) [oi za2, oi (1 : Int32), oi (30 : Int32)] hR md_X8_within wd_375 wd_376 rfl (Nat.le_of_ble_eq_true rfl) rfl dX8_second_15 (s_X8_within e (by omega)  h) (fun zz2 h => ?_)
    refine o_if_eq 30 (pc := 18) dX8_second_18 (by decide) (fun hc => ?_) (fun hc => ?_)
    · have h := oH_T hc h
      refine o_bipush (v := -2) (pc := 30) dX8_second_30 (by decide) ?_
      exact hE _ _ _ _ dX8_second_32 (oH_some h)
    · have h := oH_F hc h
      refine o_iload_n (pc := 21) dX8_second_21 rfl 3 rfl ?_
      refine o_iload (pc := 22) dX8_second_22 4 rfl ?_
      have h := oH_bind h
      refine o_callSi (pc := 24) (st := []) [oi za3, oi za4] hR md_X8_isSpan wd_507 wd_508 rfl (Nat.le_of_ble_eq_true rfl) rfl dX8_second_24 (s_X8_isSpan e (by omega)  h) (fun zz3 h => ?_)
      refine o_if_ne 33 (pc := 27) dX8_second_27 (by decide) (fun hc => ?_) (fun hc => ?_)
      · have h := oH_F hc h
        refine o_aload_n (pc := 33) dX8_second_33 rfl 0 rfl ?_
        refine o_getF (pc := 34) fd_RX8_19 ft_900_1 j_900 dX8_second_34 ?_
        refine o_iload_n (pc := 37) dX8_second_37 rfl 1 rfl ?_
        have h := oH_bind h
        refine o_callVi (pc := 38) (st := []) [oi za1] hR md_X1_hasTwoHeats wd_523 wd_481 wd_482 tc_200 j_200 rfl (Nat.le_of_ble_eq_true rfl) rfl dX8_second_38 (s_X1_hasTwoHeats e (by omega)  h) (fun zz4 h => ?_)
        refine o_if_ne 55 (pc := 41) dX8_second_41 (by decide) (fun hc => ?_) (fun hc => ?_)
        · have h := oH_F hc h
          refine o_bipush (v := -3) (pc := 55) dX8_second_55 (by decide) ?_
          exact hE _ _ _ _ dX8_second_57 (oH_some h)
        · have h := oH_T hc h
          refine o_aload_n (pc := 44) dX8_second_44 rfl 0 rfl ?_
          refine o_getF (pc := 45) fd_RX8_28 ft_900_2 j_900 dX8_second_45 ?_
          refine o_iload_n (pc := 48) dX8_second_48 rfl 1 rfl ?_
          have h := oH_bind h
          refine o_callVi (pc := 49) (st := []) [oi za1] hR md_X3_anyInsideOf wd_524 wd_525 wd_526 tc_400 j_400 rfl (Nat.le_of_ble_eq_true rfl) rfl dX8_second_49 (s_X3_anyInsideOf e (by omega)  h) (fun zz5 h => ?_)
          refine o_if_eq 58 (pc := 52) dX8_second_52 (by decide) (fun hc => ?_) (fun hc => ?_)
          · have h := oH_T hc h
            refine o_aload_n (pc := 58) dX8_second_58 rfl 0 rfl ?_
            refine o_getF (pc := 59) fd_RX8_19 ft_900_1 j_900 dX8_second_59 ?_
            refine o_iload_n (pc := 62) dX8_second_62 rfl 1 rfl ?_
            refine o_iload_n (pc := 63) dX8_second_63 rfl 2 rfl ?_
            refine o_iload_n (pc := 64) dX8_second_64 rfl 3 rfl ?_
            refine o_iload (pc := 65) dX8_second_65 4 rfl ?_
            have h := oH_bind h
            refine o_callVv (pc := 67) (st := []) [oi za1, oi za2, oi za3, oi za4] hR md_X1_giveSecondHeat wd_528 wd_529 wd_530 tc_200 j_200 rfl (Nat.le_of_ble_eq_true rfl) rfl dX8_second_67 (s_X1_giveSecondHeat e (by omega)  h) (fun zz6 h => ?_)
            refine o_iconst (v := 1) (pc := 70) dX8_second_70 (by decide) ?_
            exact hE _ _ _ _ dX8_second_71 (oH_some h)
          · have h := oH_F hc h
            refine o_bipush (v := -3) (pc := 55) dX8_second_55 (by decide) ?_
            exact hE _ _ _ _ dX8_second_57 (oH_some h)
      · have h := oH_T hc h
        refine o_bipush (v := -2) (pc := 30) dX8_second_30 (by decide) ?_
        exact hE _ _ _ _ dX8_second_32 (oH_some h)
def f_X8_slots  (za1 : Int32) (S : oS) : Option (Int32 × oS) :=
  (f_X8_within za1 (1 : Int32) (8 : Int32) S).bind fun zz1 =>
  if zz1.1 = 0 then (
  some ((-2 : Int32), zz1.2)) else (
  oLet (zz1.2.1 700 0 9) fun zx2 =>
  oLet (oStI zz1.2 700 0 9 za1) fun zS3 =>
  some (zx2, zS3))
set_option maxHeartbeats 4000000 in
theorem s_X8_slots {G : oG} {r : oR} (d : Nat) (hd : 2 ≤ d) {za1 : Int32}  {S : oS} {P : Int32 × oS → Prop} (h : oH (f_X8_slots za1 S) P) : oCt G r d yX8_slots mX8_slots [orf 900 0, oi za1] S (oQi P) := by
  unfold f_X8_slots at h
  refine oCt_of (by decide) rfl (Nat.le_of_ble_eq_true rfl) ?_
  intro X hG hr hE0 hR
  subst hG; subst hr
  obtain ⟨e, rfl⟩ : ∃ e, d = e + 1 := ⟨d - 1, by omega⟩
  have he : 1 ≤ e := by omega
  have hE := oEI_of hE0 rfl
  clear hE0 hd
  show oVv X mX8_slots 0 [(0, orf 900 0), (1, oi za1)] [] S
  refine o_iload_n (pc := 0) dX8_slots_0 rfl 1 rfl ?_
  refine o_iconst (v := 1) (pc := 1) dX8_slots_1 (by decide) ?_
  refine o_bipush (v := 8) (pc := 2) dX8_slots_2 (by decide) ?_
  have h := oH_bind h
  refine o_callSi (pc := 4) (st := []) [oi za1, oi (1 : Int32), oi (8 : Int32)] hR md_X8_within wd_375 wd_376 rfl (Nat.le_of_ble_eq_true rfl) rfl dX8_slots_4 (s_X8_within e (by omega)  h) (fun zz1 h => ?_)
  refine o_if_ne 13 (pc := 7) dX8_slots_7 (by decide) (fun hc => ?_) (fun hc => ?_)
  · have h := oH_F hc h
    refine o_aload_n (pc := 13) dX8_slots_13 rfl 0 rfl ?_
    refine o_getF (pc := 14) fd_RX8_49 ft_900_5 j_900 dX8_slots_14 ?_
    refine o_getI (pc := 17) fd_RX8_274 ft_700_9 j_700 dX8_slots_17 ?_
    refine o_nmI (fun zx2 hx => ?_)
    have h := oH_let h zx2 hx
    clear hx
    refine o_istore_n (lv1 := [(0, orf 900 0), (1, oi za1), (2, oi zx2)]) (pc := 20) dX8_slots_20 rfl (by decide) rfl ?_
    refine o_aload_n (pc := 21) dX8_slots_21 rfl 0 rfl ?_
    refine o_getF (pc := 22) fd_RX8_49 ft_900_5 j_900 dX8_slots_22 ?_
    refine o_iload_n (pc := 25) dX8_slots_25 rfl 1 rfl ?_
    refine o_putI (pc := 26) fd_RX8_274 fp_700_9 ft_700_9 rfl rfl j_700 dX8_slots_26 ?_
    refine o_nmS (fun zS3 hx => ?_)
    have h := oH_let h zS3 hx
    clear hx
    refine o_iload_n (pc := 29) dX8_slots_29 rfl 2 rfl ?_
    exact hE _ _ _ _ dX8_slots_30 (oH_some h)
  · have h := oH_T hc h
    refine o_bipush (v := -2) (pc := 10) dX8_slots_10 (by decide) ?_
    exact hE _ _ _ _ dX8_slots_12 (oH_some h)
def f_X8_sum  (za1 : Int32) (S : oS) : Option (Int64 × oS) :=
  if za1 = 0 then (
  some (S.2 500 0 8, S)) else if za1 = 1 then (
  (f_X4_held 0 S).bind fun zz1 =>
  some (zz1.1, zz1.2)) else if za1 = 2 then (
  some (S.2 500 0 9, S)) else if za1 = 3 then (
  some (S.2 400 0 11, S)) else if za1 = 4 then (
  some ((4000 : Int64), S)) else (
  some ((-2 : Int64), S))
set_option maxHeartbeats 4000000 in
theorem s_X8_sum {G : oG} {r : oR} (d : Nat) (hd : 2 ≤ d) {za1 : Int32}  {S : oS} {P : Int64 × oS → Prop} (h : oH (f_X8_sum za1 S) P) : oCt G r d yX8_sum mX8_sum [orf 900 0, oi za1] S (oQl P) := by
  unfold f_X8_sum at h
  refine oCt_of (by decide) rfl (Nat.le_of_ble_eq_true rfl) ?_
  intro X hG hr hE0 hR
  subst hG; subst hr
  obtain ⟨e, rfl⟩ : ∃ e, d = e + 1 := ⟨d - 1, by omega⟩
  have he : 1 ≤ e := by omega
  have hE := oEL_of hE0 rfl
  clear hE0 hd
  show oVv X mX8_sum 0 [(0, orf 900 0), (1, oi za1)] [] S
  refine o_iload_n (pc := 0) dX8_sum_0 rfl 1 rfl ?_
  by_cases hc0 : za1 = 0
  · have h := oH_T hc0 h
    refine o_tabIn 36 (pc := 1) (off := 35) dX8_sum_1 (by rw [hc0]; decide) (by rw [hc0]; decide) (by rw [hc0]; rfl) (by decide) ?_
    refine o_aload_n (pc := 36) dX8_sum_36 rfl 0 rfl ?_
    refine o_getF (pc := 37) fd_RX8_10 ft_900_0 j_900 dX8_sum_37 ?_
    refine o_getL (pc := 40) fd_RX8_117 ft_500_8 j_500_0 dX8_sum_40 ?_
    exact hE _ _ _ _ dX8_sum_43 (oH_some h)
  have h := oH_F hc0 h
  by_cases hc1 : za1 = 1
  · have h := oH_T hc1 h
    refine o_tabIn 44 (pc := 1) (off := 43) dX8_sum_1 (by rw [hc1]; decide) (by rw [hc1]; decide) (by rw [hc1]; rfl) (by decide) ?_
    refine o_aload_n (pc := 44) dX8_sum_44 rfl 0 rfl ?_
    refine o_getF (pc := 45) fd_RX8_10 ft_900_0 j_900 dX8_sum_45 ?_
    have h := oH_bind h
    refine o_callVl (pc := 48) (st := []) [] hR md_X4_held wd_498 wd_499 wd_500 tc_500 j_500_0 rfl (Nat.le_of_ble_eq_true rfl) rfl dX8_sum_48 (s_X4_held e (by omega) j_500_0 h) (fun zz1 h => ?_)
    exact hE _ _ _ _ dX8_sum_51 (oH_some h)
  have h := oH_F hc1 h
  by_cases hc2 : za1 = 2
  · have h := oH_T hc2 h
    refine o_tabIn 52 (pc := 1) (off := 51) dX8_sum_1 (by rw [hc2]; decide) (by rw [hc2]; decide) (by rw [hc2]; rfl) (by decide) ?_
    refine o_aload_n (pc := 52) dX8_sum_52 rfl 0 rfl ?_
    refine o_getF (pc := 53) fd_RX8_10 ft_900_0 j_900 dX8_sum_53 ?_
    refine o_getL (pc := 56) fd_RX8_125 ft_500_9 j_500_0 dX8_sum_56 ?_
    exact hE _ _ _ _ dX8_sum_59 (oH_some h)
  have h := oH_F hc2 h
  by_cases hc3 : za1 = 3
  · have h := oH_T hc3 h
    refine o_tabIn 60 (pc := 1) (off := 59) dX8_sum_1 (by rw [hc3]; decide) (by rw [hc3]; decide) (by rw [hc3]; rfl) (by decide) ?_
    refine o_aload_n (pc := 60) dX8_sum_60 rfl 0 rfl ?_
    refine o_getF (pc := 61) fd_RX8_28 ft_900_2 j_900 dX8_sum_61 ?_
    refine o_getL (pc := 64) fd_RX8_128 ft_400_11 j_400 dX8_sum_64 ?_
    exact hE _ _ _ _ dX8_sum_67 (oH_some h)
  have h := oH_F hc3 h
  by_cases hc4 : za1 = 4
  · have h := oH_T hc4 h
    refine o_tabIn 68 (pc := 1) (off := 67) dX8_sum_1 (by rw [hc4]; decide) (by rw [hc4]; decide) (by rw [hc4]; rfl) (by decide) ?_
    refine o_ldc2 (v := 4000) (pc := 68) dX8_sum_68 wd_502 ?_
    exact hE _ _ _ _ dX8_sum_71 (oH_some h)
  have h := oH_F hc4 h
  refine o_tabOut 72 (pc := 1) dX8_sum_1 (by
      have g0 : ¬ Int32.toInt za1 = 0 := fun z => hc0 (Int32.toInt_inj.mp z)
      have g1 : ¬ Int32.toInt za1 = 1 := fun z => hc1 (Int32.toInt_inj.mp z)
      have g2 : ¬ Int32.toInt za1 = 2 := fun z => hc2 (Int32.toInt_inj.mp z)
      have g3 : ¬ Int32.toInt za1 = 3 := fun z => hc3 (Int32.toInt_inj.mp z)
      have g4 : ¬ Int32.toInt za1 = 4 := fun z => hc4 (Int32.toInt_inj.mp z)
      omega) (by decide) ?_
  refine o_ldc2 (v := -2) (pc := 72) dX8_sum_72 wd_488 ?_
  exact hE _ _ _ _ dX8_sum_75 (oH_some h)
def f_X8_take  (za1 : Int32) (S : oS) : Option (Int32 × oS) :=
  (f_X3_has za1 S).bind fun zz1 =>
  if zz1.1 = 0 then (
  some ((-2 : Int32), zz1.2)) else (
  (f_X3_isOut za1 zz1.2).bind fun zz2 =>
  if zz2.1 = 0 then (
  (f_X3_mayLeave za1 zz2.2).bind fun zz3 =>
  if zz3.1 = 0 then (
  some ((-3 : Int32), zz3.2)) else (
  (f_X3_drawOut za1 zz3.2).bind fun zz4 =>
  some (zz4.1, zz4.2))) else (
  some ((-3 : Int32), zz2.2)))
set_option maxHeartbeats 4000000 in
theorem s_X8_take {G : oG} {r : oR} (d : Nat) (hd : 4 ≤ d) {za1 : Int32}  {S : oS} {P : Int32 × oS → Prop} (h : oH (f_X8_take za1 S) P) : oCt G r d yX8_take mX8_take [orf 900 0, oi za1] S (oQi P) := by
  unfold f_X8_take at h
  refine oCt_of (by decide) rfl (Nat.le_of_ble_eq_true rfl) ?_
  intro X hG hr hE0 hR
  subst hG; subst hr
  obtain ⟨e, rfl⟩ : ∃ e, d = e + 1 := ⟨d - 1, by omega⟩
  have he : 3 ≤ e := by omega
  have hE := oEI_of hE0 rfl
  clear hE0 hd
  show oVv X mX8_take 0 [(0, orf 900 0), (1, oi za1)] [] S
  refine o_aload_n (pc := 0) dX8_take_0 rfl 0 rfl ?_
  refine o_getF (pc := 1) fd_RX8_28 ft_900_2 j_900 dX8_take_1 ?_
  refine o_iload_n (pc := 4) dX8_take_4 rfl 1 rfl ?_
  have h := oH_bind h
  refine o_callVi (pc := 5) (st := []) [oi za1] hR md_X3_has wd_563 wd_564 wd_565 tc_400 j_400 rfl (Nat.le_of_ble_eq_true rfl) rfl dX8_take_5 (s_X3_has e (by omega)  h) (fun zz1 h => ?_)
  refine o_if_ne 14 (pc := 8) dX8_take_8 (by decide) (fun hc => ?_) (fun hc => ?_)
  · have h := oH_F hc h
    refine o_aload_n (pc := 14) dX8_take_14 rfl 0 rfl ?_
    refine o_getF (pc := 15) fd_RX8_28 ft_900_2 j_900 dX8_take_15 ?_
    refine o_iload_n (pc := 18) dX8_take_18 rfl 1 rfl ?_
    have h := oH_bind h
    refine o_callVi (pc := 19) (st := []) [oi za1] hR md_X3_isOut wd_568 wd_463 wd_464 tc_400 j_400 rfl (Nat.le_of_ble_eq_true rfl) rfl dX8_take_19 (s_X3_isOut e (by omega)  h) (fun zz2 h => ?_)
    refine o_if_ne 36 (pc := 22) dX8_take_22 (by decide) (fun hc => ?_) (fun hc => ?_)
    · have h := oH_F hc h
      refine o_bipush (v := -3) (pc := 36) dX8_take_36 (by decide) ?_
      exact hE _ _ _ _ dX8_take_38 (oH_some h)
    · have h := oH_T hc h
      refine o_aload_n (pc := 25) dX8_take_25 rfl 0 rfl ?_
      refine o_getF (pc := 26) fd_RX8_28 ft_900_2 j_900 dX8_take_26 ?_
      refine o_iload_n (pc := 29) dX8_take_29 rfl 1 rfl ?_
      have h := oH_bind h
      refine o_callVi (pc := 30) (st := []) [oi za1] hR md_X3_mayLeave wd_569 wd_570 wd_571 tc_400 j_400 rfl (Nat.le_of_ble_eq_true rfl) rfl dX8_take_30 (s_X3_mayLeave e (by omega)  h) (fun zz3 h => ?_)
      refine o_if_ne 39 (pc := 33) dX8_take_33 (by decide) (fun hc => ?_) (fun hc => ?_)
      · have h := oH_F hc h
        refine o_aload_n (pc := 39) dX8_take_39 rfl 0 rfl ?_
        refine o_getF (pc := 40) fd_RX8_28 ft_900_2 j_900 dX8_take_40 ?_
        refine o_iload_n (pc := 43) dX8_take_43 rfl 1 rfl ?_
        have h := oH_bind h
        refine o_callVi (pc := 44) (st := []) [oi za1] hR md_X3_drawOut wd_581 wd_582 wd_583 tc_400 j_400 rfl (Nat.le_of_ble_eq_true rfl) rfl dX8_take_44 (s_X3_drawOut e (by omega)  h) (fun zz4 h => ?_)
        exact hE _ _ _ _ dX8_take_47 (oH_some h)
      · have h := oH_T hc h
        refine o_bipush (v := -3) (pc := 36) dX8_take_36 (by decide) ?_
        exact hE _ _ _ _ dX8_take_38 (oH_some h)
  · have h := oH_T hc h
    refine o_bipush (v := -2) (pc := 11) dX8_take_11 (by decide) ?_
    exact hE _ _ _ _ dX8_take_13 (oH_some h)
def f_X8_ticks_L15 (zv1 : Int32) : Int32 × oS → Option ((Int32 × oS) ⊕ (oS)) := fun w =>
  match w with
  | (zv2, S) =>
    if zv1 ≤ zv2 then (
    some (Sum.inr S)) else (
    (f_X4_passTick 0 (S.1 400 0 12) S).bind fun zz2 =>
    (f_X3_bake 0 zz2).bind fun zz3 =>
    oLet (oStI zz3 400 0 12 (0 : Int32)) fun zS4 =>
    oLet (oStI zS4 900 0 7 ((zS4.1 900 0 7) + (1 : Int32))) fun zS5 =>
    oLet (zv2 + (1 : Int32)) fun zx6 =>
    some (Sum.inl (zx6, zS5)))
set_option maxHeartbeats 4000000 in
theorem s_X8_ticks_L15b {X : oX} {e : Nat} (he : 4 ≤ e) (hR : oRoom X (e + 1)) {zv1 : Int32} {VH : Int32 × oS → Prop} {VE : oS → Prop} (hVH : ∀ z, VH z → oVv X mX8_ticks 15 [(0, orf 900 0), (1, oi zv1), (2, oi z.1)] [] z.2) (hVE : ∀ z, VE z → oVv X mX8_ticks 69 [(0, orf 900 0)] [] z) {zv2 : Int32} {S : oS} (h : oH (f_X8_ticks_L15 zv1 (zv2, S)) (fun z => Sum.elim VH VE z)) : oVv X mX8_ticks 15 [(0, orf 900 0), (1, oi zv1), (2, oi zv2)] [] S := by
  dsimp only [f_X8_ticks_L15] at h
  refine o_iload_n (pc := 15) dX8_ticks_15 rfl 2 rfl ?_
  refine o_iload_n (pc := 16) dX8_ticks_16 rfl 1 rfl ?_
  refine o_icmp_ge 69 (pc := 17) dX8_ticks_17 (by decide) (fun hc => ?_) (fun hc => ?_)
  · have h := oH_T hc h
    refine o_weak [0] rfl ?_
    exact hVE _ (oH_some (P := fun z => Sum.elim VH VE z) h)
  · have h := oH_F hc h
    refine o_aload_n (pc := 20) dX8_ticks_20 rfl 0 rfl ?_
    refine o_getF (pc := 21) fd_RX8_10 ft_900_0 j_900 dX8_ticks_21 ?_
    refine o_aload_n (pc := 24) dX8_ticks_24 rfl 0 rfl ?_
    refine o_getF (pc := 25) fd_RX8_28 ft_900_2 j_900 dX8_ticks_25 ?_
    refine o_getI (pc := 28) fd_RX8_96 ft_400_12 j_400 dX8_ticks_28 ?_
    have h := oH_bind h
    refine o_callVv (pc := 31) (st := []) [oi (S.1 400 0 12)] hR md_X4_passTick wd_408 wd_409 wd_410 tc_500 j_500_0 rfl (Nat.le_of_ble_eq_true rfl) rfl dX8_ticks_31 (s_X4_passTick e (by omega) j_500_0 h) (fun zz2 h => ?_)
    refine o_aload_n (pc := 34) dX8_ticks_34 rfl 0 rfl ?_
    refine o_getF (pc := 35) fd_RX8_28 ft_900_2 j_900 dX8_ticks_35 ?_
    refine o_aload_n (pc := 38) dX8_ticks_38 rfl 0 rfl ?_
    refine o_getF (pc := 39) fd_RX8_10 ft_900_0 j_900 dX8_ticks_39 ?_
    have h := oH_bind h
    refine o_callVv (pc := 42) (st := []) [orf 500 0] hR md_X3_bake wd_458 wd_459 wd_460 tc_400 j_400 rfl (Nat.le_of_ble_eq_true rfl) rfl dX8_ticks_42 (s_X3_bake e (by omega) j_500_0 h) (fun zz3 h => ?_)
    refine o_aload_n (pc := 45) dX8_ticks_45 rfl 0 rfl ?_
    refine o_getF (pc := 46) fd_RX8_28 ft_900_2 j_900 dX8_ticks_46 ?_
    refine o_iconst (v := 0) (pc := 49) dX8_ticks_49 (by decide) ?_
    refine o_putI (pc := 50) fd_RX8_96 fp_400_12 ft_400_12 (oBl_n (by decide)) (oBl_f (by decide)) j_400 dX8_ticks_50 ?_
    refine o_nmS (fun zS4 hx => ?_)
    have h := oH_let h zS4 hx
    clear hx
    refine o_aload_n (pc := 53) dX8_ticks_53 rfl 0 rfl ?_
    refine o_dup (pc := 54) dX8_ticks_54 rfl ?_
    refine o_getI (pc := 55) fd_RX8_60 ft_900_7 j_900 dX8_ticks_55 ?_
    refine o_iconst (v := 1) (pc := 58) dX8_ticks_58 (by decide) ?_
    refine o_iadd (pc := 59) dX8_ticks_59 ?_
    refine o_putI (pc := 60) fd_RX8_60 fp_900_7 ft_900_7 rfl rfl j_900 dX8_ticks_60 ?_
    refine o_nmS (fun zS5 hx => ?_)
    have h := oH_let h zS5 hx
    clear hx
    obtain ⟨zx6, hx⟩ : ∃ y : Int32, y = zv2 + (1 : Int32) := ⟨_, rfl⟩
    have h := oH_let h zx6 hx
    refine o_iinc (lv1 := [(0, orf 900 0), (1, oi zv1), (2, oi zx6)]) (pc := 63) dX8_ticks_63 2 rfl hx.symm (by decide) rfl ?_
    clear hx
    refine o_goto 15 (pc := 66) dX8_ticks_66 (by decide) ?_
    exact hVH _ (oH_some (P := fun z => Sum.elim VH VE z) h)
theorem s_X8_ticks_L15 {X : oX} {e : Nat} (he : 4 ≤ e) (hR : oRoom X (e + 1)) {zv1 : Int32}  {VE : oS → Prop} (hVE : ∀ z, VE z → oVv X mX8_ticks 69 [(0, orf 900 0)] [] z) (n : Nat) (w : Int32 × oS) (h : oH (oLp (f_X8_ticks_L15 zv1) n w) VE) : oVv X mX8_ticks 15 [(0, orf 900 0), (1, oi zv1), (2, oi w.1)] [] w.2 :=
  oLp_s (VH := fun w => oVv X mX8_ticks 15 [(0, orf 900 0), (1, oi zv1), (2, oi w.1)] [] w.2) (fun w h => s_X8_ticks_L15b he hR  (fun _ h => h) hVE h) n w h
def f_X8_ticks  (za1 : Int32) (S : oS) : Option (Int32 × oS) :=
  (f_X8_within za1 (1 : Int32) (60 : Int32) S).bind fun zz1 =>
  if zz1.1 = 0 then (
  some ((-2 : Int32), zz1.2)) else (
  (oLp (f_X8_ticks_L15 za1) oFu ((0 : Int32), zz1.2)).bind fun zz7 =>
  some (zz7.1 500 0 5, zz7))
set_option maxHeartbeats 4000000 in
theorem s_X8_ticks {G : oG} {r : oR} (d : Nat) (hd : 5 ≤ d) {za1 : Int32}  {S : oS} {P : Int32 × oS → Prop} (h : oH (f_X8_ticks za1 S) P) : oCt G r d yX8_ticks mX8_ticks [orf 900 0, oi za1] S (oQi P) := by
  unfold f_X8_ticks at h
  refine oCt_of (by decide) rfl (Nat.le_of_ble_eq_true rfl) ?_
  intro X hG hr hE0 hR
  subst hG; subst hr
  obtain ⟨e, rfl⟩ : ∃ e, d = e + 1 := ⟨d - 1, by omega⟩
  have he : 4 ≤ e := by omega
  have hE := oEI_of hE0 rfl
  clear hE0 hd
  show oVv X mX8_ticks 0 [(0, orf 900 0), (1, oi za1)] [] S
  refine o_iload_n (pc := 0) dX8_ticks_0 rfl 1 rfl ?_
  refine o_iconst (v := 1) (pc := 1) dX8_ticks_1 (by decide) ?_
  refine o_bipush (v := 60) (pc := 2) dX8_ticks_2 (by decide) ?_
  have h := oH_bind h
  refine o_callSi (pc := 4) (st := []) [oi za1, oi (1 : Int32), oi (60 : Int32)] hR md_X8_within wd_375 wd_376 rfl (Nat.le_of_ble_eq_true rfl) rfl dX8_ticks_4 (s_X8_within e (by omega)  h) (fun zz1 h => ?_)
  refine o_if_ne 13 (pc := 7) dX8_ticks_7 (by decide) (fun hc => ?_) (fun hc => ?_)
  · have h := oH_F hc h
    refine o_iconst (v := 0) (pc := 13) dX8_ticks_13 (by decide) ?_
    refine o_istore_n (lv1 := [(0, orf 900 0), (1, oi za1), (2, oi (0 : Int32))]) (pc := 14) dX8_ticks_14 rfl (by decide) rfl ?_
    have h := oH_bind h
    refine s_X8_ticks_L15 he hR  (fun zz7 h => ?_) _ ((0 : Int32), zz1.2) h
    refine o_aload_n (pc := 69) dX8_ticks_69 rfl 0 rfl ?_
    refine o_getF (pc := 70) fd_RX8_10 ft_900_0 j_900 dX8_ticks_70 ?_
    refine o_getI (pc := 73) fd_RX8_89 ft_500_5 j_500_0 dX8_ticks_73 ?_
    exact hE _ _ _ _ dX8_ticks_76 (oH_some h)
  · have h := oH_T hc h
    refine o_bipush (v := -2) (pc := 10) dX8_ticks_10 (by decide) ?_
    exact hE _ _ _ _ dX8_ticks_12 (oH_some h)
def f_X8_told  (za1 : Int32) (za2 : Int32) (za3 : Int32) (za4 : Int32) (S : oS) : Option (Int32 × oS) :=
  (f_X8_isWeek za1 S).bind fun zz1 =>
  if zz1.1 = 0 then (
  some ((-2 : Int32), zz1.2)) else (
  (f_X6_has za2 zz1.2).bind fun zz2 =>
  if zz2.1 = 0 then (
  some ((-2 : Int32), zz2.2)) else (
  (f_X6_has za3 zz2.2).bind fun zz3 =>
  if zz3.1 = 0 then (
  some ((-2 : Int32), zz3.2)) else (
  if za2 = za3 then (
  some ((-2 : Int32), zz3.2)) else (
  if (zz3.2.1 700 0 5) < (30 : Int32) then (
  (f_X6_addTold za1 za2 za3 za4 zz3.2).bind fun zz4 =>
  some ((1 : Int32), zz4)) else (
  some ((-4 : Int32), zz3.2))))))
set_option maxHeartbeats 4000000 in
theorem s_X8_told {G : oG} {r : oR} (d : Nat) (hd : 3 ≤ d) {za1 : Int32} {za2 : Int32} {za3 : Int32} {za4 : Int32}  {S : oS} {P : Int32 × oS → Prop} (h : oH (f_X8_told za1 za2 za3 za4 S) P) : oCt G r d yX8_told mX8_told [orf 900 0, oi za1, oi za2, oi za3, oi za4] S (oQi P) := by
  unfold f_X8_told at h
  refine oCt_of (by decide) rfl (Nat.le_of_ble_eq_true rfl) ?_
  intro X hG hr hE0 hR
  subst hG; subst hr
  obtain ⟨e, rfl⟩ : ∃ e, d = e + 1 := ⟨d - 1, by omega⟩
  have he : 2 ≤ e := by omega
  have hE := oEI_of hE0 rfl
  clear hE0 hd
  show oVv X mX8_told 0 [(0, orf 900 0), (1, oi za1), (2, oi za2), (3, oi za3), (4, oi za4)] [] S
  refine o_iload_n (pc := 0) dX8_told_0 rfl 1 rfl ?_
  have h := oH_bind h
  refine o_callSi (pc := 1) (st := []) [oi za1] hR md_X8_isWeek wd_729 wd_730 rfl (Nat.le_of_ble_eq_true rfl) rfl dX8_told_1 (s_X8_isWeek e (by omega)  h) (fun zz1 h => ?_)
  refine o_if_eq 34 (pc := 4) dX8_told_4 (by decide) (fun hc => ?_) (fun hc => ?_)
  · have h := oH_T hc h
    refine o_bipush (v := -2) (pc := 34) dX8_told_34 (by decide) ?_
    exact hE _ _ _ _ dX8_told_36 (oH_some h)
  · have h := oH_F hc h
    refine o_aload_n (pc := 7) dX8_told_7 rfl 0 rfl ?_
    refine o_getF (pc := 8) fd_RX8_49 ft_900_5 j_900 dX8_told_8 ?_
    refine o_iload_n (pc := 11) dX8_told_11 rfl 2 rfl ?_
    have h := oH_bind h
    refine o_callVi (pc := 12) (st := []) [oi za2] hR md_X6_has wd_732 wd_733 wd_734 tc_700 j_700 rfl (Nat.le_of_ble_eq_true rfl) rfl dX8_told_12 (s_X6_has e (by omega)  h) (fun zz2 h => ?_)
    refine o_if_eq 34 (pc := 15) dX8_told_15 (by decide) (fun hc => ?_) (fun hc => ?_)
    · have h := oH_T hc h
      refine o_bipush (v := -2) (pc := 34) dX8_told_34 (by decide) ?_
      exact hE _ _ _ _ dX8_told_36 (oH_some h)
    · have h := oH_F hc h
      refine o_aload_n (pc := 18) dX8_told_18 rfl 0 rfl ?_
      refine o_getF (pc := 19) fd_RX8_49 ft_900_5 j_900 dX8_told_19 ?_
      refine o_iload_n (pc := 22) dX8_told_22 rfl 3 rfl ?_
      have h := oH_bind h
      refine o_callVi (pc := 23) (st := []) [oi za3] hR md_X6_has wd_732 wd_733 wd_734 tc_700 j_700 rfl (Nat.le_of_ble_eq_true rfl) rfl dX8_told_23 (s_X6_has e (by omega)  h) (fun zz3 h => ?_)
      refine o_if_eq 34 (pc := 26) dX8_told_26 (by decide) (fun hc => ?_) (fun hc => ?_)
      · have h := oH_T hc h
        refine o_bipush (v := -2) (pc := 34) dX8_told_34 (by decide) ?_
        exact hE _ _ _ _ dX8_told_36 (oH_some h)
      · have h := oH_F hc h
        refine o_iload_n (pc := 29) dX8_told_29 rfl 2 rfl ?_
        refine o_iload_n (pc := 30) dX8_told_30 rfl 3 rfl ?_
        refine o_icmp_ne 37 (pc := 31) dX8_told_31 (by decide) (fun hc => ?_) (fun hc => ?_)
        · have h := oH_F hc h
          refine o_aload_n (pc := 37) dX8_told_37 rfl 0 rfl ?_
          refine o_getF (pc := 38) fd_RX8_49 ft_900_5 j_900 dX8_told_38 ?_
          refine o_getI (pc := 41) fd_RX8_257 ft_700_5 j_700 dX8_told_41 ?_
          refine o_bipush (v := 30) (pc := 44) dX8_told_44 (by decide) ?_
          refine o_icmp_lt 52 (pc := 46) dX8_told_46 (by decide) (fun hc => ?_) (fun hc => ?_)
          · have h := oH_T hc h
            refine o_aload_n (pc := 52) dX8_told_52 rfl 0 rfl ?_
            refine o_getF (pc := 53) fd_RX8_49 ft_900_5 j_900 dX8_told_53 ?_
            refine o_iload_n (pc := 56) dX8_told_56 rfl 1 rfl ?_
            refine o_iload_n (pc := 57) dX8_told_57 rfl 2 rfl ?_
            refine o_iload_n (pc := 58) dX8_told_58 rfl 3 rfl ?_
            refine o_iload (pc := 59) dX8_told_59 4 rfl ?_
            have h := oH_bind h
            refine o_callVv (pc := 61) (st := []) [oi za1, oi za2, oi za3, oi za4] hR md_X6_addTold wd_737 wd_738 wd_739 tc_700 j_700 rfl (Nat.le_of_ble_eq_true rfl) rfl dX8_told_61 (s_X6_addTold e (by omega)  h) (fun zz4 h => ?_)
            refine o_iconst (v := 1) (pc := 64) dX8_told_64 (by decide) ?_
            exact hE _ _ _ _ dX8_told_65 (oH_some h)
          · have h := oH_F hc h
            refine o_bipush (v := -4) (pc := 49) dX8_told_49 (by decide) ?_
            exact hE _ _ _ _ dX8_told_51 (oH_some h)
        · have h := oH_T hc h
          refine o_bipush (v := -2) (pc := 34) dX8_told_34 (by decide) ?_
          exact hE _ _ _ _ dX8_told_36 (oH_some h)
def f_X8_waits  (za1 : Int32) (za2 : Int32) (za3 : Int32) (za4 : Int32) (S : oS) : Option (Int32 × oS) :=
  (f_X6_has za1 S).bind fun zz1 =>
  if zz1.1 = 0 then (
  some ((-2 : Int32), zz1.2)) else (
  (f_X8_isWeek za2 zz1.2).bind fun zz2 =>
  if zz2.1 = 0 then (
  some ((-2 : Int32), zz2.2)) else (
  (f_X8_isWeek za3 zz2.2).bind fun zz3 =>
  if zz3.1 = 0 then (
  some ((-2 : Int32), zz3.2)) else (
  if za3 < za2 then (
  some ((-2 : Int32), zz3.2)) else (
  (f_X8_within za4 (0 : Int32) (1 : Int32) zz3.2).bind fun zz4 =>
  if zz4.1 = 0 then (
  some ((-2 : Int32), zz4.2)) else (
  if za4 = 0 then (
  (f_X6_weeksWaited za1 za2 za3 zz4.2).bind fun zz6 =>
  some (zz6.1, zz6.2)) else (
  (f_X6_firstWeekAhead za1 za2 za3 zz4.2).bind fun zz5 =>
  some (zz5.1, zz5.2)))))))
set_option maxHeartbeats 4000000 in
theorem s_X8_waits {G : oG} {r : oR} (d : Nat) (hd : 5 ≤ d) {za1 : Int32} {za2 : Int32} {za3 : Int32} {za4 : Int32}  {S : oS} {P : Int32 × oS → Prop} (h : oH (f_X8_waits za1 za2 za3 za4 S) P) : oCt G r d yX8_waits mX8_waits [orf 900 0, oi za1, oi za2, oi za3, oi za4] S (oQi P) := by
  unfold f_X8_waits at h
  refine oCt_of (by decide) rfl (Nat.le_of_ble_eq_true rfl) ?_
  intro X hG hr hE0 hR
  subst hG; subst hr
  obtain ⟨e, rfl⟩ : ∃ e, d = e + 1 := ⟨d - 1, by omega⟩
  have he : 4 ≤ e := by omega
  have hE := oEI_of hE0 rfl
  clear hE0 hd
  show oVv X mX8_waits 0 [(0, orf 900 0), (1, oi za1), (2, oi za2), (3, oi za3), (4, oi za4)] [] S
  refine o_aload_n (pc := 0) dX8_waits_0 rfl 0 rfl ?_
  refine o_getF (pc := 1) fd_RX8_49 ft_900_5 j_900 dX8_waits_1 ?_
  refine o_iload_n (pc := 4) dX8_waits_4 rfl 1 rfl ?_
  have h := oH_bind h
  refine o_callVi (pc := 5) (st := []) [oi za1] hR md_X6_has wd_732 wd_733 wd_734 tc_700 j_700 rfl (Nat.le_of_ble_eq_true rfl) rfl dX8_waits_5 (s_X6_has e (by omega)  h) (fun zz1 h => ?_)
  refine o_if_eq 40 (pc := 8) dX8_waits_8 (by decide) (fun hc => ?_) (fun hc => ?_)
  · have h := oH_T hc h
    refine o_bipush (v := -2) (pc := 40) dX8_waits_40 (by decide) ?_
    exact hE _ _ _ _ dX8_waits_42 (oH_some h)
  · have h := oH_F hc h
    refine o_iload_n (pc := 11) dX8_waits_11 rfl 2 rfl ?_
    have h := oH_bind h
    refine o_callSi (pc := 12) (st := []) [oi za2] hR md_X8_isWeek wd_729 wd_730 rfl (Nat.le_of_ble_eq_true rfl) rfl dX8_waits_12 (s_X8_isWeek e (by omega)  h) (fun zz2 h => ?_)
    refine o_if_eq 40 (pc := 15) dX8_waits_15 (by decide) (fun hc => ?_) (fun hc => ?_)
    · have h := oH_T hc h
      refine o_bipush (v := -2) (pc := 40) dX8_waits_40 (by decide) ?_
      exact hE _ _ _ _ dX8_waits_42 (oH_some h)
    · have h := oH_F hc h
      refine o_iload_n (pc := 18) dX8_waits_18 rfl 3 rfl ?_
      have h := oH_bind h
      refine o_callSi (pc := 19) (st := []) [oi za3] hR md_X8_isWeek wd_729 wd_730 rfl (Nat.le_of_ble_eq_true rfl) rfl dX8_waits_19 (s_X8_isWeek e (by omega)  h) (fun zz3 h => ?_)
      refine o_if_eq 40 (pc := 22) dX8_waits_22 (by decide) (fun hc => ?_) (fun hc => ?_)
      · have h := oH_T hc h
        refine o_bipush (v := -2) (pc := 40) dX8_waits_40 (by decide) ?_
        exact hE _ _ _ _ dX8_waits_42 (oH_some h)
      · have h := oH_F hc h
        refine o_iload_n (pc := 25) dX8_waits_25 rfl 2 rfl ?_
        refine o_iload_n (pc := 26) dX8_waits_26 rfl 3 rfl ?_
        refine o_icmp_gt 40 (pc := 27) dX8_waits_27 (by decide) (fun hc => ?_) (fun hc => ?_)
        · have h := oH_T hc h
          refine o_bipush (v := -2) (pc := 40) dX8_waits_40 (by decide) ?_
          exact hE _ _ _ _ dX8_waits_42 (oH_some h)
        · have h := oH_F hc h
          refine o_iload (pc := 30) dX8_waits_30 4 rfl ?_
          refine o_iconst (v := 0) (pc := 32) dX8_waits_32 (by decide) ?_
          refine o_iconst (v := 1) (pc := 33) dX8_waits_33 (by decide) ?_
          have h := oH_bind h
          refine o_callSi (pc := 34) (st := []) [oi za4, oi (0 : Int32), oi (1 : Int32)] hR md_X8_within wd_375 wd_376 rfl (Nat.le_of_ble_eq_true rfl) rfl dX8_waits_34 (s_X8_within e (by omega)  h) (fun zz4 h => ?_)
          refine o_if_ne 43 (pc := 37) dX8_waits_37 (by decide) (fun hc => ?_) (fun hc => ?_)
          · have h := oH_F hc h
            refine o_iload (pc := 43) dX8_waits_43 4 rfl ?_
            refine o_if_ne 61 (pc := 45) dX8_waits_45 (by decide) (fun hc => ?_) (fun hc => ?_)
            · have h := oH_F hc h
              refine o_aload_n (pc := 61) dX8_waits_61 rfl 0 rfl ?_
              refine o_getF (pc := 62) fd_RX8_49 ft_900_5 j_900 dX8_waits_62 ?_
              refine o_iload_n (pc := 65) dX8_waits_65 rfl 1 rfl ?_
              refine o_iload_n (pc := 66) dX8_waits_66 rfl 2 rfl ?_
              refine o_iload_n (pc := 67) dX8_waits_67 rfl 3 rfl ?_
              have h := oH_bind h
              refine o_callVi (pc := 68) (st := []) [oi za1, oi za2, oi za3] hR md_X6_firstWeekAhead wd_786 wd_787 wd_788 tc_700 j_700 rfl (Nat.le_of_ble_eq_true rfl) rfl dX8_waits_68 (s_X6_firstWeekAhead e (by omega)  h) (fun zz5 h => ?_)
              exact hE _ _ _ _ dX8_waits_71 (oH_some h)
            · have h := oH_T hc h
              refine o_aload_n (pc := 48) dX8_waits_48 rfl 0 rfl ?_
              refine o_getF (pc := 49) fd_RX8_49 ft_900_5 j_900 dX8_waits_49 ?_
              refine o_iload_n (pc := 52) dX8_waits_52 rfl 1 rfl ?_
              refine o_iload_n (pc := 53) dX8_waits_53 rfl 2 rfl ?_
              refine o_iload_n (pc := 54) dX8_waits_54 rfl 3 rfl ?_
              have h := oH_bind h
              refine o_callVi (pc := 55) (st := []) [oi za1, oi za2, oi za3] hR md_X6_weeksWaited wd_781 wd_782 wd_783 tc_700 j_700 rfl (Nat.le_of_ble_eq_true rfl) rfl dX8_waits_55 (s_X6_weeksWaited e (by omega)  h) (fun zz6 h => ?_)
              refine o_goto 71 (pc := 58) dX8_waits_58 (by decide) ?_
              exact hE _ _ _ _ dX8_waits_71 (oH_some h)
          · have h := oH_T hc h
            refine o_bipush (v := -2) (pc := 40) dX8_waits_40 (by decide) ?_
            exact hE _ _ _ _ dX8_waits_42 (oH_some h)
def f_X8_wood_L68 (zv1 : Int32) (zv2 : Int32) (zv3 : Int32) (zv4 : Int32) (zv5 : Int32) : Int32 × oS → Option ((Int32 × oS) ⊕ ((oS) ⊕ (Int32 × oS))) := fun w =>
  match w with
  | (zv6, S) =>
    if (30 : Int32) < zv6 then (
    some (Sum.inr (Sum.inl S))) else (
    (f_X7_burnOneMore zv4 zv5 S).bind fun zz6 =>
    (f_X7_warmthAfter zv3 zv2 zz6).bind fun zz7 =>
    if zz7.1 < (Int32.toInt64 zv1) then (
    oLet (zv6 + (1 : Int32)) fun zx8 =>
    some (Sum.inl (zx8, zz7.2))) else (
    some (Sum.inr (Sum.inr (zv6, zz7.2)))))
set_option maxHeartbeats 4000000 in
theorem s_X8_wood_L68b {X : oX} {e : Nat} (he : 5 ≤ e) (hR : oRoom X (e + 1)) {zv1 : Int32} {zv2 : Int32} {zv3 : Int32} {zv4 : Int32} {zv5 : Int32} {VH : Int32 × oS → Prop} {VE : (oS) ⊕ (Int32 × oS) → Prop} (hVH : ∀ z, VH z → oVv X mX8_wood 68 [(0, orf 900 0), (1, oi zv1), (2, oi zv2), (3, oi zv3), (4, oi zv4), (5, oi zv5), (6, oi z.1)] [] z.2) (hVE : ∀ z, VE (Sum.inl z) → oVv X mX8_wood 110 [] [] z) {PQ : Int32 × oS → Prop} (hE : oEI X mX8_wood PQ) (hRet : ∀ z, VE (Sum.inr z) → PQ z) {zv6 : Int32} {S : oS} (h : oH (f_X8_wood_L68 zv1 zv2 zv3 zv4 zv5 (zv6, S)) (fun z => Sum.elim VH VE z)) : oVv X mX8_wood 68 [(0, orf 900 0), (1, oi zv1), (2, oi zv2), (3, oi zv3), (4, oi zv4), (5, oi zv5), (6, oi zv6)] [] S := by
  dsimp only [f_X8_wood_L68] at h
  refine o_iload (pc := 68) dX8_wood_68 6 rfl ?_
  refine o_bipush (v := 30) (pc := 70) dX8_wood_70 (by decide) ?_
  refine o_icmp_gt 110 (pc := 72) dX8_wood_72 (by decide) (fun hc => ?_) (fun hc => ?_)
  · have h := oH_T hc h
    refine o_weak [] rfl ?_
    exact hVE _ (oH_some (P := fun z => Sum.elim VH VE z) h)
  · have h := oH_F hc h
    refine o_aload_n (pc := 75) dX8_wood_75 rfl 0 rfl ?_
    refine o_getF (pc := 76) fd_RX8_42 ft_900_4 j_900 dX8_wood_76 ?_
    refine o_iload (pc := 79) dX8_wood_79 4 rfl ?_
    refine o_iload (pc := 81) dX8_wood_81 5 rfl ?_
    have h := oH_bind h
    refine o_callVv (pc := 83) (st := []) [oi zv4, oi zv5] hR md_X7_burnOneMore wd_707 wd_708 wd_709 tc_800 j_800 rfl (Nat.le_of_ble_eq_true rfl) rfl dX8_wood_83 (s_X7_burnOneMore e (by omega)  h) (fun zz6 h => ?_)
    refine o_aload_n (pc := 86) dX8_wood_86 rfl 0 rfl ?_
    refine o_getF (pc := 87) fd_RX8_42 ft_900_4 j_900 dX8_wood_87 ?_
    refine o_iload_n (pc := 90) dX8_wood_90 rfl 3 rfl ?_
    refine o_iload_n (pc := 91) dX8_wood_91 rfl 2 rfl ?_
    have h := oH_bind h
    refine o_callVl (pc := 92) (st := []) [oi zv3, oi zv2] hR md_X7_warmthAfter wd_712 wd_713 wd_714 tc_800 j_800 rfl (Nat.le_of_ble_eq_true rfl) rfl dX8_wood_92 (s_X7_warmthAfter e (by omega)  h) (fun zz7 h => ?_)
    refine o_iload_n (pc := 95) dX8_wood_95 rfl 1 rfl ?_
    refine o_i2l (pc := 96) dX8_wood_96 ?_
    refine o_lcmp_lt 104 (pc := 97) dX8_wood_97 dX8_wood_98 (by decide) (fun hc => ?_) (fun hc => ?_)
    · have h := oH_T hc h
      obtain ⟨zx8, hx⟩ : ∃ y : Int32, y = zv6 + (1 : Int32) := ⟨_, rfl⟩
      have h := oH_let h zx8 hx
      refine o_iinc (lv1 := [(0, orf 900 0), (1, oi zv1), (2, oi zv2), (3, oi zv3), (4, oi zv4), (5, oi zv5), (6, oi zx8)]) (pc := 104) dX8_wood_104 6 rfl hx.symm (by decide) rfl ?_
      clear hx
      refine o_goto 68 (pc := 107) dX8_wood_107 (by decide) ?_
      exact hVH _ (oH_some (P := fun z => Sum.elim VH VE z) h)
    · have h := oH_F hc h
      refine o_iload (pc := 101) dX8_wood_101 6 rfl ?_
      exact hE _ _ _ _ dX8_wood_103 (hRet _ (oH_some (P := fun z => Sum.elim VH VE z) h))
theorem s_X8_wood_L68 {X : oX} {e : Nat} (he : 5 ≤ e) (hR : oRoom X (e + 1)) {zv1 : Int32} {zv2 : Int32} {zv3 : Int32} {zv4 : Int32} {zv5 : Int32}  {VE : (oS) ⊕ (Int32 × oS) → Prop} (hVE : ∀ z, VE (Sum.inl z) → oVv X mX8_wood 110 [] [] z) {PQ : Int32 × oS → Prop} (hE : oEI X mX8_wood PQ) (hRet : ∀ z, VE (Sum.inr z) → PQ z) (n : Nat) (w : Int32 × oS) (h : oH (oLp (f_X8_wood_L68 zv1 zv2 zv3 zv4 zv5) n w) VE) : oVv X mX8_wood 68 [(0, orf 900 0), (1, oi zv1), (2, oi zv2), (3, oi zv3), (4, oi zv4), (5, oi zv5), (6, oi w.1)] [] w.2 :=
  oLp_s (VH := fun w => oVv X mX8_wood 68 [(0, orf 900 0), (1, oi zv1), (2, oi zv2), (3, oi zv3), (4, oi zv4), (5, oi zv5), (6, oi w.1)] [] w.2) (fun w h => s_X8_wood_L68b he hR  (fun _ h => h) hVE hE hRet h) n w h
def f_X8_wood  (za1 : Int32) (za2 : Int32) (za3 : Int32) (za4 : Int32) (za5 : Int32) (S : oS) : Option (Int32 × oS) :=
  (f_X8_within za1 (0 : Int32) (2000 : Int32) S).bind fun zz1 =>
  if zz1.1 = 0 then (
  some ((-2 : Int32), zz1.2)) else (
  (f_X8_isRing za2 zz1.2).bind fun zz2 =>
  if zz2.1 = 0 then (
  some ((-2 : Int32), zz2.2)) else (
  (f_X8_within za3 (0 : Int32) (40 : Int32) zz2.2).bind fun zz3 =>
  if zz3.1 = 0 then (
  some ((-2 : Int32), zz3.2)) else (
  (f_X8_isLog za4 za5 zz3.2).bind fun zz4 =>
  if zz4.1 = 0 then (
  some ((-2 : Int32), zz4.2)) else (
  if (zz4.2.1 400 0 9) ≤ 0 then (
  (f_X7_begin 0 zz4.2).bind fun zz5 =>
  (oLp (f_X8_wood_L68 za1 za2 za3 za4 za5) oFu ((1 : Int32), zz5)).bind fun w => Sum.elim (fun zz9 =>
  some ((-1 : Int32), zz9)) (fun r => some r) w) else (
  some ((-3 : Int32), zz4.2))))))
set_option maxHeartbeats 4000000 in
theorem s_X8_wood {G : oG} {r : oR} (d : Nat) (hd : 6 ≤ d) {za1 : Int32} {za2 : Int32} {za3 : Int32} {za4 : Int32} {za5 : Int32}  {S : oS} {P : Int32 × oS → Prop} (h : oH (f_X8_wood za1 za2 za3 za4 za5 S) P) : oCt G r d yX8_wood mX8_wood [orf 900 0, oi za1, oi za2, oi za3, oi za4, oi za5] S (oQi P) := by
  unfold f_X8_wood at h
  refine oCt_of (by decide) rfl (Nat.le_of_ble_eq_true rfl) ?_
  intro X hG hr hE0 hR
  subst hG; subst hr
  obtain ⟨e, rfl⟩ : ∃ e, d = e + 1 := ⟨d - 1, by omega⟩
  have he : 5 ≤ e := by omega
  have hE := oEI_of hE0 rfl
  clear hE0 hd
  show oVv X mX8_wood 0 [(0, orf 900 0), (1, oi za1), (2, oi za2), (3, oi za3), (4, oi za4), (5, oi za5)] [] S
  refine o_iload_n (pc := 0) dX8_wood_0 rfl 1 rfl ?_
  refine o_iconst (v := 0) (pc := 1) dX8_wood_1 (by decide) ?_
  refine o_sipush (v := 2000) (pc := 2) dX8_wood_2 (by decide) ?_
  have h := oH_bind h
  refine o_callSi (pc := 5) (st := []) [oi za1, oi (0 : Int32), oi (2000 : Int32)] hR md_X8_within wd_375 wd_376 rfl (Nat.le_of_ble_eq_true rfl) rfl dX8_wood_5 (s_X8_within e (by omega)  h) (fun zz1 h => ?_)
  refine o_if_eq 38 (pc := 8) dX8_wood_8 (by decide) (fun hc => ?_) (fun hc => ?_)
  · have h := oH_T hc h
    refine o_bipush (v := -2) (pc := 38) dX8_wood_38 (by decide) ?_
    exact hE _ _ _ _ dX8_wood_40 (oH_some h)
  · have h := oH_F hc h
    refine o_iload_n (pc := 11) dX8_wood_11 rfl 2 rfl ?_
    have h := oH_bind h
    refine o_callSi (pc := 12) (st := []) [oi za2] hR md_X8_isRing wd_382 wd_383 rfl (Nat.le_of_ble_eq_true rfl) rfl dX8_wood_12 (s_X8_isRing e (by omega)  h) (fun zz2 h => ?_)
    refine o_if_eq 38 (pc := 15) dX8_wood_15 (by decide) (fun hc => ?_) (fun hc => ?_)
    · have h := oH_T hc h
      refine o_bipush (v := -2) (pc := 38) dX8_wood_38 (by decide) ?_
      exact hE _ _ _ _ dX8_wood_40 (oH_some h)
    · have h := oH_F hc h
      refine o_iload_n (pc := 18) dX8_wood_18 rfl 3 rfl ?_
      refine o_iconst (v := 0) (pc := 19) dX8_wood_19 (by decide) ?_
      refine o_bipush (v := 40) (pc := 20) dX8_wood_20 (by decide) ?_
      have h := oH_bind h
      refine o_callSi (pc := 22) (st := []) [oi za3, oi (0 : Int32), oi (40 : Int32)] hR md_X8_within wd_375 wd_376 rfl (Nat.le_of_ble_eq_true rfl) rfl dX8_wood_22 (s_X8_within e (by omega)  h) (fun zz3 h => ?_)
      refine o_if_eq 38 (pc := 25) dX8_wood_25 (by decide) (fun hc => ?_) (fun hc => ?_)
      · have h := oH_T hc h
        refine o_bipush (v := -2) (pc := 38) dX8_wood_38 (by decide) ?_
        exact hE _ _ _ _ dX8_wood_40 (oH_some h)
      · have h := oH_F hc h
        refine o_iload (pc := 28) dX8_wood_28 4 rfl ?_
        refine o_iload (pc := 30) dX8_wood_30 5 rfl ?_
        have h := oH_bind h
        refine o_callSi (pc := 32) (st := []) [oi za4, oi za5] hR md_X8_isLog wd_397 wd_398 rfl (Nat.le_of_ble_eq_true rfl) rfl dX8_wood_32 (s_X8_isLog e (by omega)  h) (fun zz4 h => ?_)
        refine o_if_ne 41 (pc := 35) dX8_wood_35 (by decide) (fun hc => ?_) (fun hc => ?_)
        · have h := oH_F hc h
          refine o_aload_n (pc := 41) dX8_wood_41 rfl 0 rfl ?_
          refine o_getF (pc := 42) fd_RX8_28 ft_900_2 j_900 dX8_wood_42 ?_
          refine o_getI (pc := 45) fd_RX8_159 ft_400_9 j_400 dX8_wood_45 ?_
          refine o_if_le 54 (pc := 48) dX8_wood_48 (by decide) (fun hc => ?_) (fun hc => ?_)
          · have h := oH_T hc h
            refine o_aload_n (pc := 54) dX8_wood_54 rfl 0 rfl ?_
            refine o_getF (pc := 55) fd_RX8_42 ft_900_4 j_900 dX8_wood_55 ?_
            refine o_aload_n (pc := 58) dX8_wood_58 rfl 0 rfl ?_
            refine o_getF (pc := 59) fd_RX8_10 ft_900_0 j_900 dX8_wood_59 ?_
            have h := oH_bind h
            refine o_callVv (pc := 62) (st := []) [orf 500 0] hR md_X7_begin wd_701 wd_702 wd_703 tc_800 j_800 rfl (Nat.le_of_ble_eq_true rfl) rfl dX8_wood_62 (s_X7_begin e (by omega) j_500_0 h) (fun zz5 h => ?_)
            refine o_iconst (v := 1) (pc := 65) dX8_wood_65 (by decide) ?_
            refine o_istore (lv1 := [(0, orf 900 0), (1, oi za1), (2, oi za2), (3, oi za3), (4, oi za4), (5, oi za5), (6, oi (1 : Int32))]) (pc := 66) dX8_wood_66 (by decide) rfl ?_
            have h := oH_bind h
            refine s_X8_wood_L68 he hR  ?_ hE ?_ _ ((1 : Int32), zz5) h
            · intro zz9 h
              have h := oElimL h
              refine o_iconst (v := -1) (pc := 110) dX8_wood_110 (by decide) ?_
              exact hE _ _ _ _ dX8_wood_111 (oH_some h)
            · intro r h
              have h := oElimR h
              exact oH_some (P := P) h
          · have h := oH_F hc h
            refine o_bipush (v := -3) (pc := 51) dX8_wood_51 (by decide) ?_
            exact hE _ _ _ _ dX8_wood_53 (oH_some h)
        · have h := oH_T hc h
          refine o_bipush (v := -2) (pc := 38) dX8_wood_38 (by decide) ?_
          exact hE _ _ _ _ dX8_wood_40 (oH_some h)
