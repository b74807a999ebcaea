def f_X4_drawFromLining  (zj0 : Nat) (za1 : Int32) (za2 : Int64) (S : oS) : Option (Int64 × oS) :=
  oLet (((za1 * (3 : Int32)) + (0 : Int32))) fun zx1 =>
  if oIn zx1 12 then (
  oLet ((oMinL za2 (S.2 501 zj0 (Int32.toNatClampNeg zx1)))) fun zx2 =>
  if oIn zx1 12 then (
  if oIn zx1 12 then (
  oLet (oStL S 501 zj0 (Int32.toNatClampNeg zx1) ((S.2 501 zj0 (Int32.toNatClampNeg zx1)) - zx2)) fun zS3 =>
  some (zx2, zS3)) else none) else none) else none
set_option maxHeartbeats 4000000 in
theorem s_X4_drawFromLining {G : oG} {r : oR} (d : Nat) (hd : 1 ≤ d) {zj0 : Nat} {za1 : Int32} {za2 : Int64} (hzj0 : zj0 < oCnt 500) {S : oS} {P : Int64 × oS → Prop} (h : oH (f_X4_drawFromLining zj0 za1 za2 S) P) : oCt G r d yX4_drawFromLining mX4_drawFromLining [orf 500 zj0, oi za1, ol za2] S (oQl P) := by
  unfold f_X4_drawFromLining at h
  refine oCt_of (by decide) rfl (Nat.le_of_ble_eq_true rfl) ?_
  intro X hG hr hE0 hR
  subst hG; subst hr
  obtain ⟨e, rfl⟩ : ∃ e, d = e + 1 := ⟨d - 1, by omega⟩
  have he : 0 ≤ e := by omega
  have hE := oEL_of hE0 rfl
  clear hE0 hd
  show oVv X mX4_drawFromLining 0 [(0, orf 500 zj0), (1, oi za1), (2, ol za2)] [] S
  refine o_iload_n (pc := 0) dX4_drawFromLining_0 rfl 1 rfl ?_
  refine o_iconst (v := 3) (pc := 1) dX4_drawFromLining_1 (by decide) ?_
  refine o_imul (pc := 2) dX4_drawFromLining_2 ?_
  refine o_iconst (v := 0) (pc := 3) dX4_drawFromLining_3 (by decide) ?_
  refine o_iadd (pc := 4) dX4_drawFromLining_4 ?_
  refine o_nmI (fun zx1 hx => ?_)
  have h := oH_let h zx1 hx
  clear hx
  refine o_istore (lv1 := [(0, orf 500 zj0), (1, oi za1), (2, ol za2), (4, oi zx1)]) (pc := 5) dX4_drawFromLining_5 (by decide) rfl ?_
  refine o_lload_n (pc := 7) dX4_drawFromLining_7 rfl 2 rfl ?_
  refine o_aload_n (pc := 8) dX4_drawFromLining_8 rfl 0 rfl ?_
  refine o_getA (pc := 9) fd_RX4_9 ft_500_0 hzj0 dX4_drawFromLining_9 ?_
  refine o_iload (pc := 12) dX4_drawFromLining_12 3 rfl ?_
  obtain ⟨hg, h⟩ := oH_G h
  refine o_lald (pc := 14) kd_501 (jc_501 hzj0) hg dX4_drawFromLining_14 ?_
  refine o_oMinL (pc := 15) (oRoom_1 hR) wd_433 (Nat.le_of_ble_eq_true rfl) dX4_drawFromLining_15 ?_
  refine o_nmL (fun zx2 hx => ?_)
  have h := oH_let h zx2 hx
  clear hx
  refine o_lstore (lv1 := [(0, orf 500 zj0), (1, oi za1), (2, ol za2), (4, oi zx1), (5, ol zx2)]) (pc := 18) dX4_drawFromLining_18 (by decide) rfl ?_
  refine o_aload_n (pc := 20) dX4_drawFromLining_20 rfl 0 rfl ?_
  refine o_getA (pc := 21) fd_RX4_9 ft_500_0 hzj0 dX4_drawFromLining_21 ?_
  refine o_iload (pc := 24) dX4_drawFromLining_24 3 rfl ?_
  refine o_dup2 (pc := 26) dX4_drawFromLining_26 rfl rfl ?_
  obtain ⟨hg, h⟩ := oH_G h
  refine o_lald (pc := 27) kd_501 (jc_501 hzj0) hg dX4_drawFromLining_27 ?_
  refine o_lload (pc := 28) dX4_drawFromLining_28 4 rfl ?_
  refine o_lsub (pc := 30) dX4_drawFromLining_30 ?_
  obtain ⟨hg, h⟩ := oH_G h
  have hgi := hg
  refine o_last (pc := 31) kd_501 (jc_501 hzj0) hgi dX4_drawFromLining_31 ?_
  refine o_nmS (fun zS3 hx => ?_)
  have h := oH_let h zS3 hx
  clear hx
  refine o_lload (pc := 32) dX4_drawFromLining_32 4 rfl ?_
  exact hE _ _ _ _ dX4_drawFromLining_34 (oH_some h)
def f_X4_warmthOf  (zj0 : Nat) (za1 : Int32) (za2 : Int32) (S : oS) : Option (Int64 × oS) :=
  if oIn ((za1 * (3 : Int32)) + za2) 12 then (
  if oIn za2 3 then (
  if ¬ (Int32.toInt64 (oMASS (Int32.toNatClampNeg za2))) = 0 then (
  some (((S.2 501 zj0 (Int32.toNatClampNeg ((za1 * (3 : Int32)) + za2))) / (Int32.toInt64 (oMASS (Int32.toNatClampNeg za2)))), S)) else none) else none) else none
set_option maxHeartbeats 4000000 in
theorem s_X4_warmthOf {G : oG} {r : oR} (d : Nat) (hd : 1 ≤ d) {zj0 : Nat} {za1 : Int32} {za2 : Int32} (hzj0 : zj0 < oCnt 500) {S : oS} {P : Int64 × oS → Prop} (h : oH (f_X4_warmthOf zj0 za1 za2 S) P) : oCt G r d yX4_warmthOf mX4_warmthOf [orf 500 zj0, oi za1, oi za2] S (oQl P) := by
  unfold f_X4_warmthOf at h
  refine oCt_of (by decide) rfl (Nat.le_of_ble_eq_true rfl) ?_
  intro X hG hr hE0 hR
  subst hG; subst hr
  obtain ⟨e, rfl⟩ : ∃ e, d = e + 1 := ⟨d - 1, by omega⟩
  have he : 0 ≤ e := by omega
  have hE := oEL_of hE0 rfl
  clear hE0 hd
  show oVv X mX4_warmthOf 0 [(0, orf 500 zj0), (1, oi za1), (2, oi za2)] [] S
  refine o_aload_n (pc := 0) dX4_warmthOf_0 rfl 0 rfl ?_
  refine o_getA (pc := 1) fd_RX4_9 ft_500_0 hzj0 dX4_warmthOf_1 ?_
  refine o_iload_n (pc := 4) dX4_warmthOf_4 rfl 1 rfl ?_
  refine o_iconst (v := 3) (pc := 5) dX4_warmthOf_5 (by decide) ?_
  refine o_imul (pc := 6) dX4_warmthOf_6 ?_
  refine o_iload_n (pc := 7) dX4_warmthOf_7 rfl 2 rfl ?_
  refine o_iadd (pc := 8) dX4_warmthOf_8 ?_
  obtain ⟨hg, h⟩ := oH_G h
  refine o_lald (pc := 9) kd_501 (jc_501 hzj0) hg dX4_warmthOf_9 ?_
  refine o_getsN (i := 0) (host := "VillageOven") (pc := 10) (by decide) (by decide +kernel) dX4_warmthOf_10 ?_
  refine o_iload_n (pc := 13) dX4_warmthOf_13 rfl 2 rfl ?_
  obtain ⟨hg, h⟩ := oH_G h
  refine o_sald_2000 (pc := 14) hg dX4_warmthOf_14 ?_
  refine o_i2l (pc := 15) dX4_warmthOf_15 ?_
  obtain ⟨hg, h⟩ := oH_G h
  refine o_ldiv (pc := 16) dX4_warmthOf_16 hg ?_
  exact hE _ _ _ _ dX4_warmthOf_17 (oH_some h)
def f_X4_burn  (zj0 : Nat) (S : oS) : Option (oS) :=
  if 0 < (S.1 500 zj0 5) then (
  oLet ((Int32.toInt64 (((S.1 504 zj0 (Int32.toNatClampNeg (0 : Int32))) * ((2000 : Int32) - ((26 : Int32) * (S.1 505 zj0 (Int32.toNatClampNeg (0 : Int32)))))) / (10 : Int32)))) fun zx1 =>
  oLet (oStI S 500 zj0 5 ((S.1 500 zj0 5) - (1 : Int32))) fun zS2 =>
  if ¬ ((1 : Int32) < 0 ∨ (0 : Int32) < 0 ∨ (zS2.1 500 zj0 5) < 0 ∨ 30 < Int32.toNatClampNeg (1 : Int32) + Int32.toNatClampNeg (zS2.1 500 zj0 5) ∨ 30 < Int32.toNatClampNeg (0 : Int32) + Int32.toNatClampNeg (zS2.1 500 zj0 5)) then (
  oLet (oCpI zS2 504 zj0 (Int32.toNatClampNeg (1 : Int32)) 504 zj0 (Int32.toNatClampNeg (0 : Int32)) (Int32.toNatClampNeg (zS2.1 500 zj0 5))) fun zS3 =>
  if ¬ ((1 : Int32) < 0 ∨ (0 : Int32) < 0 ∨ (zS3.1 500 zj0 5) < 0 ∨ 30 < Int32.toNatClampNeg (1 : Int32) + Int32.toNatClampNeg (zS3.1 500 zj0 5) ∨ 30 < Int32.toNatClampNeg (0 : Int32) + Int32.toNatClampNeg (zS3.1 500 zj0 5)) then (
  oLet (oCpI zS3 505 zj0 (Int32.toNatClampNeg (1 : Int32)) 505 zj0 (Int32.toNatClampNeg (0 : Int32)) (Int32.toNatClampNeg (zS3.1 500 zj0 5))) fun zS4 =>
  oLet ((zx1 / (2 : Int64))) fun zx5 =>
  oLet (((zx1 - zx5) / (2 : Int64))) fun zx6 =>
  oLet ((oMaxI (0 : Int32) ((zS4.1 500 zj0 6) - (1 : Int32)))) fun zx7 =>
  if oIn (((zS4.1 500 zj0 6) * (3 : Int32)) + (0 : Int32)) 12 then (
  if oIn (((zS4.1 500 zj0 6) * (3 : Int32)) + (0 : Int32)) 12 then (
  oLet (oStL zS4 501 zj0 (Int32.toNatClampNeg (((zS4.1 500 zj0 6) * (3 : Int32)) + (0 : Int32))) ((zS4.2 501 zj0 (Int32.toNatClampNeg (((zS4.1 500 zj0 6) * (3 : Int32)) + (0 : Int32)))) + zx5)) fun zS8 =>
  if oIn ((((zS8.1 500 zj0 6) + (1 : Int32)) * (3 : Int32)) + (0 : Int32)) 12 then (
  if oIn ((((zS8.1 500 zj0 6) + (1 : Int32)) * (3 : Int32)) + (0 : Int32)) 12 then (
  oLet (oStL zS8 501 zj0 (Int32.toNatClampNeg ((((zS8.1 500 zj0 6) + (1 : Int32)) * (3 : Int32)) + (0 : Int32))) ((zS8.2 501 zj0 (Int32.toNatClampNeg ((((zS8.1 500 zj0 6) + (1 : Int32)) * (3 : Int32)) + (0 : Int32)))) + zx6)) fun zS9 =>
  if oIn ((zx7 * (3 : Int32)) + (0 : Int32)) 12 then (
  if oIn ((zx7 * (3 : Int32)) + (0 : Int32)) 12 then (
  oLet (oStL zS9 501 zj0 (Int32.toNatClampNeg ((zx7 * (3 : Int32)) + (0 : Int32))) ((zS9.2 501 zj0 (Int32.toNatClampNeg ((zx7 * (3 : Int32)) + (0 : Int32)))) + ((zx1 - zx5) - zx6))) fun zS10 =>
  oLet (oStL zS10 500 zj0 8 ((zS10.2 500 zj0 8) + zx1)) fun zS11 =>
  some zS11) else none) else none) else none) else none) else none) else none) else none) else none) else (
  some S)
set_option maxHeartbeats 4000000 in
theorem s_X4_burn {G : oG} {r : oR} (d : Nat) (hd : 1 ≤ d) {zj0 : Nat} (hzj0 : zj0 < oCnt 500) {S : oS} {P : oS → Prop} (h : oH (f_X4_burn zj0 S) P) : oCt G r d yX4_burn mX4_burn [orf 500 zj0] S (oQv P) := by
  unfold f_X4_burn at h
  refine oCt_of (by decide) rfl (Nat.le_of_ble_eq_true rfl) ?_
  intro X hG hr hE0 hR
  subst hG; subst hr
  obtain ⟨e, rfl⟩ : ∃ e, d = e + 1 := ⟨d - 1, by omega⟩
  have he : 0 ≤ e := by omega
  have hE := oEV_of hE0 rfl
  clear hE0 hd
  show oVv X mX4_burn 0 [(0, orf 500 zj0)] [] S
  refine o_aload_n (pc := 0) dX4_burn_0 rfl 0 rfl ?_
  refine o_getI (pc := 1) fd_RX4_41 ft_500_5 hzj0 dX4_burn_1 ?_
  refine o_if_gt 8 (pc := 4) dX4_burn_4 (by decide) (fun hc => ?_) (fun hc => ?_)
  · have h := oH_T hc h
    refine o_aload_n (pc := 8) dX4_burn_8 rfl 0 rfl ?_
    refine o_getA (pc := 9) fd_RX4_22 ft_500_3 hzj0 dX4_burn_9 ?_
    refine o_iconst (v := 0) (pc := 12) dX4_burn_12 (by decide) ?_
    refine o_iald (pc := 13) kd_504 (jc_504 hzj0) (by decide) dX4_burn_13 ?_
    refine o_sipush (v := 2000) (pc := 14) dX4_burn_14 (by decide) ?_
    refine o_bipush (v := 26) (pc := 17) dX4_burn_17 (by decide) ?_
    refine o_aload_n (pc := 19) dX4_burn_19 rfl 0 rfl ?_
    refine o_getA (pc := 20) fd_RX4_25 ft_500_4 hzj0 dX4_burn_20 ?_
    refine o_iconst (v := 0) (pc := 23) dX4_burn_23 (by decide) ?_
    refine o_iald (pc := 24) kd_505 (jc_505 hzj0) (by decide) dX4_burn_24 ?_
    refine o_imul (pc := 25) dX4_burn_25 ?_
    refine o_isub (pc := 26) dX4_burn_26 ?_
    refine o_imul (pc := 27) dX4_burn_27 ?_
    refine o_bipush (v := 10) (pc := 28) dX4_burn_28 (by decide) ?_
    refine o_idiv (pc := 30) dX4_burn_30 (by decide) ?_
    refine o_i2l (pc := 31) dX4_burn_31 ?_
    refine o_nmL (fun zx1 hx => ?_)
    have h := oH_let h zx1 hx
    clear hx
    refine o_lstore_n (lv1 := [(0, orf 500 zj0), (1, ol zx1)]) (pc := 32) dX4_burn_32 rfl (by decide) rfl ?_
    refine o_aload_n (pc := 33) dX4_burn_33 rfl 0 rfl ?_
    refine o_dup (pc := 34) dX4_burn_34 rfl ?_
    refine o_getI (pc := 35) fd_RX4_41 ft_500_5 hzj0 dX4_burn_35 ?_
    refine o_iconst (v := 1) (pc := 38) dX4_burn_38 (by decide) ?_
    refine o_isub (pc := 39) dX4_burn_39 ?_
    refine o_putI (pc := 40) fd_RX4_41 fp_500_5 ft_500_5 rfl rfl hzj0 dX4_burn_40 ?_
    refine o_nmS (fun zS2 hx => ?_)
    have h := oH_let h zS2 hx
    clear hx
    refine o_aload_n (pc := 43) dX4_burn_43 rfl 0 rfl ?_
    refine o_getA (pc := 44) fd_RX4_22 ft_500_3 hzj0 dX4_burn_44 ?_
    refine o_iconst (v := 1) (pc := 47) dX4_burn_47 (by decide) ?_
    refine o_aload_n (pc := 48) dX4_burn_48 rfl 0 rfl ?_
    refine o_getA (pc := 49) fd_RX4_22 ft_500_3 hzj0 dX4_burn_49 ?_
    refine o_iconst (v := 0) (pc := 52) dX4_burn_52 (by decide) ?_
    refine o_aload_n (pc := 53) dX4_burn_53 rfl 0 rfl ?_
    refine o_getI (pc := 54) fd_RX4_41 ft_500_5 hzj0 dX4_burn_54 ?_
    obtain ⟨hg, h⟩ := oH_G h
    refine o_copyI (pc := 57) (oRoom_1 hR) wd_416 kd_504 kd_504 (jc_504 hzj0) (jc_504 hzj0) hg rfl dX4_burn_57 ?_
    refine o_nmS (fun zS3 hx => ?_)
    have h := oH_let h zS3 hx
    clear hx
    refine o_aload_n (pc := 60) dX4_burn_60 rfl 0 rfl ?_
    refine o_getA (pc := 61) fd_RX4_25 ft_500_4 hzj0 dX4_burn_61 ?_
    refine o_iconst (v := 1) (pc := 64) dX4_burn_64 (by decide) ?_
    refine o_aload_n (pc := 65) dX4_burn_65 rfl 0 rfl ?_
    refine o_getA (pc := 66) fd_RX4_25 ft_500_4 hzj0 dX4_burn_66 ?_
    refine o_iconst (v := 0) (pc := 69) dX4_burn_69 (by decide) ?_
    refine o_aload_n (pc := 70) dX4_burn_70 rfl 0 rfl ?_
    refine o_getI (pc := 71) fd_RX4_41 ft_500_5 hzj0 dX4_burn_71 ?_
    obtain ⟨hg, h⟩ := oH_G h
    refine o_copyI (pc := 74) (oRoom_1 hR) wd_416 kd_505 kd_505 (jc_505 hzj0) (jc_505 hzj0) hg rfl dX4_burn_74 ?_
    refine o_nmS (fun zS4 hx => ?_)
    have h := oH_let h zS4 hx
    clear hx
    refine o_lload_n (pc := 77) dX4_burn_77 rfl 1 rfl ?_
    refine o_ldc2 (v := 2) (pc := 78) dX4_burn_78 wd_419 ?_
    refine o_ldiv (pc := 81) dX4_burn_81 (by decide) ?_
    refine o_nmL (fun zx5 hx => ?_)
    have h := oH_let h zx5 hx
    clear hx
    refine o_lstore_n (lv1 := [(0, orf 500 zj0), (1, ol zx1), (3, ol zx5)]) (pc := 82) dX4_burn_82 rfl (by decide) rfl ?_
    refine o_lload_n (pc := 83) dX4_burn_83 rfl 1 rfl ?_
    refine o_lload_n (pc := 84) dX4_burn_84 rfl 2 rfl ?_
    refine o_lsub (pc := 85) dX4_burn_85 ?_
    refine o_ldc2 (v := 2) (pc := 86) dX4_burn_86 wd_419 ?_
    refine o_ldiv (pc := 89) dX4_burn_89 (by decide) ?_
    refine o_nmL (fun zx6 hx => ?_)
    have h := oH_let h zx6 hx
    clear hx
    refine o_lstore (lv1 := [(0, orf 500 zj0), (1, ol zx1), (3, ol zx5), (5, ol zx6)]) (pc := 90) dX4_burn_90 (by decide) rfl ?_
    refine o_iconst (v := 0) (pc := 92) dX4_burn_92 (by decide) ?_
    refine o_aload_n (pc := 93) dX4_burn_93 rfl 0 rfl ?_
    refine o_getI (pc := 94) fd_RX4_44 ft_500_6 hzj0 dX4_burn_94 ?_
    refine o_iconst (v := 1) (pc := 97) dX4_burn_97 (by decide) ?_
    refine o_isub (pc := 98) dX4_burn_98 ?_
    refine o_oMaxI (pc := 99) (oRoom_1 hR) wd_420 (Nat.le_of_ble_eq_true rfl) dX4_burn_99 ?_
    refine o_nmI (fun zx7 hx => ?_)
    have h := oH_let h zx7 hx
    clear hx
    refine o_istore (lv1 := [(0, orf 500 zj0), (1, ol zx1), (3, ol zx5), (5, ol zx6), (7, oi zx7)]) (pc := 102) dX4_burn_102 (by decide) rfl ?_
    refine o_aload_n (pc := 104) dX4_burn_104 rfl 0 rfl ?_
    refine o_getA (pc := 105) fd_RX4_9 ft_500_0 hzj0 dX4_burn_105 ?_
    refine o_aload_n (pc := 108) dX4_burn_108 rfl 0 rfl ?_
    refine o_getI (pc := 109) fd_RX4_44 ft_500_6 hzj0 dX4_burn_109 ?_
    refine o_iconst (v := 3) (pc := 112) dX4_burn_112 (by decide) ?_
    refine o_imul (pc := 113) dX4_burn_113 ?_
    refine o_iconst (v := 0) (pc := 114) dX4_burn_114 (by decide) ?_
    refine o_iadd (pc := 115) dX4_burn_115 ?_
    refine o_dup2 (pc := 116) dX4_burn_116 rfl rfl ?_
    obtain ⟨hg, h⟩ := oH_G h
    refine o_lald (pc := 117) kd_501 (jc_501 hzj0) hg dX4_burn_117 ?_
    refine o_lload_n (pc := 118) dX4_burn_118 rfl 2 rfl ?_
    refine o_ladd (pc := 119) dX4_burn_119 ?_
    obtain ⟨hg, h⟩ := oH_G h
    have hgi := hg
    refine o_last (pc := 120) kd_501 (jc_501 hzj0) hgi dX4_burn_120 ?_
    refine o_nmS (fun zS8 hx => ?_)
    have h := oH_let h zS8 hx
    clear hx
    refine o_aload_n (pc := 121) dX4_burn_121 rfl 0 rfl ?_
    refine o_getA (pc := 122) fd_RX4_9 ft_500_0 hzj0 dX4_burn_122 ?_
    refine o_aload_n (pc := 125) dX4_burn_125 rfl 0 rfl ?_
    refine o_getI (pc := 126) fd_RX4_44 ft_500_6 hzj0 dX4_burn_126 ?_
    refine o_iconst (v := 1) (pc := 129) dX4_burn_129 (by decide) ?_
    refine o_iadd (pc := 130) dX4_burn_130 ?_
    refine o_iconst (v := 3) (pc := 131) dX4_burn_131 (by decide) ?_
    refine o_imul (pc := 132) dX4_burn_132 ?_
    refine o_iconst (v := 0) (pc := 133) dX4_burn_133 (by decide) ?_
    refine o_iadd (pc := 134) dX4_burn_134 ?_
    refine o_dup2 (pc := 135) dX4_burn_135 rfl rfl ?_
    obtain ⟨hg, h⟩ := oH_G h
    refine o_lald (pc := 136) kd_501 (jc_501 hzj0) hg dX4_burn_136 ?_
    refine o_lload (pc := 137) dX4_burn_137 3 rfl ?_
    refine o_ladd (pc := 139) dX4_burn_139 ?_
    obtain ⟨hg, h⟩ := oH_G h
    have hgi := hg
    refine o_last (pc := 140) kd_501 (jc_501 hzj0) hgi dX4_burn_140 ?_
    refine o_nmS (fun zS9 hx => ?_)
    have h := oH_let h zS9 hx
    clear hx
    refine o_aload_n (pc := 141) dX4_burn_141 rfl 0 rfl ?_
    refine o_getA (pc := 142) fd_RX4_9 ft_500_0 hzj0 dX4_burn_142 ?_
    refine o_iload (pc := 145) dX4_burn_145 4 rfl ?_
    refine o_iconst (v := 3) (pc := 147) dX4_burn_147 (by decide) ?_
    refine o_imul (pc := 148) dX4_burn_148 ?_
    refine o_iconst (v := 0) (pc := 149) dX4_burn_149 (by decide) ?_
    refine o_iadd (pc := 150) dX4_burn_150 ?_
    refine o_dup2 (pc := 151) dX4_burn_151 rfl rfl ?_
    obtain ⟨hg, h⟩ := oH_G h
    refine o_lald (pc := 152) kd_501 (jc_501 hzj0) hg dX4_burn_152 ?_
    refine o_lload_n (pc := 153) dX4_burn_153 rfl 1 rfl ?_
    refine o_lload_n (pc := 154) dX4_burn_154 rfl 2 rfl ?_
    refine o_lsub (pc := 155) dX4_burn_155 ?_
    refine o_lload (pc := 156) dX4_burn_156 3 rfl ?_
    refine o_lsub (pc := 158) dX4_burn_158 ?_
    refine o_ladd (pc := 159) dX4_burn_159 ?_
    obtain ⟨hg, h⟩ := oH_G h
    have hgi := hg
    refine o_last (pc := 160) kd_501 (jc_501 hzj0) hgi dX4_burn_160 ?_
    refine o_nmS (fun zS10 hx => ?_)
    have h := oH_let h zS10 hx
    clear hx
    refine o_aload_n (pc := 161) dX4_burn_161 rfl 0 rfl ?_
    refine o_dup (pc := 162) dX4_burn_162 rfl ?_
    refine o_getL (pc := 163) fd_RX4_47 ft_500_8 hzj0 dX4_burn_163 ?_
    refine o_lload_n (pc := 166) dX4_burn_166 rfl 1 rfl ?_
    refine o_ladd (pc := 167) dX4_burn_167 ?_
    refine o_putL (pc := 168) fd_RX4_47 fp_500_8 ft_500_8 hzj0 dX4_burn_168 ?_
    refine o_nmS (fun zS11 hx => ?_)
    have h := oH_let h zS11 hx
    clear hx
    exact hE _ _ _ dX4_burn_171 (oH_some h)
  · have h := oH_F hc h
    exact hE _ _ _ dX4_burn_7 (oH_some h)
def f_X4_copyFrom  (zj0 : Nat) (zj1 : Nat) (S : oS) : Option (oS) :=
  oLet (oCpL S 501 zj1 (Int32.toNatClampNeg (0 : Int32)) 501 zj0 (Int32.toNatClampNeg (0 : Int32)) (Int32.toNatClampNeg (12 : Int32))) fun zS1 =>
  oLet (oCpI zS1 502 zj1 (Int32.toNatClampNeg (0 : Int32)) 502 zj0 (Int32.toNatClampNeg (0 : Int32)) (Int32.toNatClampNeg (4 : Int32))) fun zS2 =>
  oLet (oCpI zS2 503 zj1 (Int32.toNatClampNeg (0 : Int32)) 503 zj0 (Int32.toNatClampNeg (0 : Int32)) (Int32.toNatClampNeg (4 : Int32))) fun zS3 =>
  oLet (oCpI zS3 504 zj1 (Int32.toNatClampNeg (0 : Int32)) 504 zj0 (Int32.toNatClampNeg (0 : Int32)) (Int32.toNatClampNeg (30 : Int32))) fun zS4 =>
  oLet (oCpI zS4 505 zj1 (Int32.toNatClampNeg (0 : Int32)) 505 zj0 (Int32.toNatClampNeg (0 : Int32)) (Int32.toNatClampNeg (30 : Int32))) fun zS5 =>
  oLet (oStI zS5 500 zj0 5 (zS5.1 500 zj1 5)) fun zS6 =>
  oLet (oStI zS6 500 zj0 6 (zS6.1 500 zj1 6)) fun zS7 =>
  oLet (oStI zS7 500 zj0 7 (zS7.1 500 zj1 7)) fun zS8 =>
  oLet (oStL zS8 500 zj0 8 (zS8.2 500 zj1 8)) fun zS9 =>
  oLet (oStL zS9 500 zj0 9 (zS9.2 500 zj1 9)) fun zS10 =>
  some zS10
set_option maxHeartbeats 4000000 in
theorem s_X4_copyFrom {G : oG} {r : oR} (d : Nat) (hd : 1 ≤ d) {zj0 : Nat} {zj1 : Nat} (hzj0 : zj0 < oCnt 500) (hzj1 : zj1 < oCnt 500) {S : oS} {P : oS → Prop} (h : oH (f_X4_copyFrom zj0 zj1 S) P) : oCt G r d yX4_copyFrom mX4_copyFrom [orf 500 zj0, orf 500 zj1] S (oQv P) := by
  unfold f_X4_copyFrom at h
  refine oCt_of (by decide) rfl (Nat.le_of_ble_eq_true rfl) ?_
  intro X hG hr hE0 hR
  subst hG; subst hr
  obtain ⟨e, rfl⟩ : ∃ e, d = e + 1 := ⟨d - 1, by omega⟩
  have he : 0 ≤ e := by omega
  have hE := oEV_of hE0 rfl
  clear hE0 hd
  show oVv X mX4_copyFrom 0 [(0, orf 500 zj0), (1, orf 500 zj1)] [] S
  refine o_aload_n (pc := 0) dX4_copyFrom_0 rfl 1 rfl ?_
  refine o_getA (pc := 1) fd_RX4_9 ft_500_0 hzj1 dX4_copyFrom_1 ?_
  refine o_iconst (v := 0) (pc := 4) dX4_copyFrom_4 (by decide) ?_
  refine o_aload_n (pc := 5) dX4_copyFrom_5 rfl 0 rfl ?_
  refine o_getA (pc := 6) fd_RX4_9 ft_500_0 hzj0 dX4_copyFrom_6 ?_
  refine o_iconst (v := 0) (pc := 9) dX4_copyFrom_9 (by decide) ?_
  refine o_bipush (v := 12) (pc := 10) dX4_copyFrom_10 (by decide) ?_
  refine o_copyL (pc := 12) (oRoom_1 hR) wd_416 kd_501 kd_501 (jc_501 hzj1) (jc_501 hzj0) (by decide) rfl dX4_copyFrom_12 ?_
  refine o_nmS (fun zS1 hx => ?_)
  have h := oH_let h zS1 hx
  clear hx
  refine o_aload_n (pc := 15) dX4_copyFrom_15 rfl 1 rfl ?_
  refine o_getA (pc := 16) fd_RX4_15 ft_500_1 hzj1 dX4_copyFrom_16 ?_
  refine o_iconst (v := 0) (pc := 19) dX4_copyFrom_19 (by decide) ?_
  refine o_aload_n (pc := 20) dX4_copyFrom_20 rfl 0 rfl ?_
  refine o_getA (pc := 21) fd_RX4_15 ft_500_1 hzj0 dX4_copyFrom_21 ?_
  refine o_iconst (v := 0) (pc := 24) dX4_copyFrom_24 (by decide) ?_
  refine o_iconst (v := 4) (pc := 25) dX4_copyFrom_25 (by decide) ?_
  refine o_copyI (pc := 26) (oRoom_1 hR) wd_416 kd_502 kd_502 (jc_502 hzj1) (jc_502 hzj0) (by decide) rfl dX4_copyFrom_26 ?_
  refine o_nmS (fun zS2 hx => ?_)
  have h := oH_let h zS2 hx
  clear hx
  refine o_aload_n (pc := 29) dX4_copyFrom_29 rfl 1 rfl ?_
  refine o_getA (pc := 30) fd_RX4_19 ft_500_2 hzj1 dX4_copyFrom_30 ?_
  refine o_iconst (v := 0) (pc := 33) dX4_copyFrom_33 (by decide) ?_
  refine o_aload_n (pc := 34) dX4_copyFrom_34 rfl 0 rfl ?_
  refine o_getA (pc := 35) fd_RX4_19 ft_500_2 hzj0 dX4_copyFrom_35 ?_
  refine o_iconst (v := 0) (pc := 38) dX4_copyFrom_38 (by decide) ?_
  refine o_iconst (v := 4) (pc := 39) dX4_copyFrom_39 (by decide) ?_
  refine o_copyI (pc := 40) (oRoom_1 hR) wd_416 kd_503 kd_503 (jc_503 hzj1) (jc_503 hzj0) (by decide) rfl dX4_copyFrom_40 ?_
  refine o_nmS (fun zS3 hx => ?_)
  have h := oH_let h zS3 hx
  clear hx
  refine o_aload_n (pc := 43) dX4_copyFrom_43 rfl 1 rfl ?_
  refine o_getA (pc := 44) fd_RX4_22 ft_500_3 hzj1 dX4_copyFrom_44 ?_
  refine o_iconst (v := 0) (pc := 47) dX4_copyFrom_47 (by decide) ?_
  refine o_aload_n (pc := 48) dX4_copyFrom_48 rfl 0 rfl ?_
  refine o_getA (pc := 49) fd_RX4_22 ft_500_3 hzj0 dX4_copyFrom_49 ?_
  refine o_iconst (v := 0) (pc := 52) dX4_copyFrom_52 (by decide) ?_
  refine o_bipush (v := 30) (pc := 53) dX4_copyFrom_53 (by decide) ?_
  refine o_copyI (pc := 55) (oRoom_1 hR) wd_416 kd_504 kd_504 (jc_504 hzj1) (jc_504 hzj0) (by decide) rfl dX4_copyFrom_55 ?_
  refine o_nmS (fun zS4 hx => ?_)
  have h := oH_let h zS4 hx
  clear hx
  refine o_aload_n (pc := 58) dX4_copyFrom_58 rfl 1 rfl ?_
  refine o_getA (pc := 59) fd_RX4_25 ft_500_4 hzj1 dX4_copyFrom_59 ?_
  refine o_iconst (v := 0) (pc := 62) dX4_copyFrom_62 (by decide) ?_
  refine o_aload_n (pc := 63) dX4_copyFrom_63 rfl 0 rfl ?_
  refine o_getA (pc := 64) fd_RX4_25 ft_500_4 hzj0 dX4_copyFrom_64 ?_
  refine o_iconst (v := 0) (pc := 67) dX4_copyFrom_67 (by decide) ?_
  refine o_bipush (v := 30) (pc := 68) dX4_copyFrom_68 (by decide) ?_
  refine o_copyI (pc := 70) (oRoom_1 hR) wd_416 kd_505 kd_505 (jc_505 hzj1) (jc_505 hzj0) (by decide) rfl dX4_copyFrom_70 ?_
  refine o_nmS (fun zS5 hx => ?_)
  have h := oH_let h zS5 hx
  clear hx
  refine o_aload_n (pc := 73) dX4_copyFrom_73 rfl 0 rfl ?_
  refine o_aload_n (pc := 74) dX4_copyFrom_74 rfl 1 rfl ?_
  refine o_getI (pc := 75) fd_RX4_41 ft_500_5 hzj1 dX4_copyFrom_75 ?_
  refine o_putI (pc := 78) fd_RX4_41 fp_500_5 ft_500_5 rfl rfl hzj0 dX4_copyFrom_78 ?_
  refine o_nmS (fun zS6 hx => ?_)
  have h := oH_let h zS6 hx
  clear hx
  refine o_aload_n (pc := 81) dX4_copyFrom_81 rfl 0 rfl ?_
  refine o_aload_n (pc := 82) dX4_copyFrom_82 rfl 1 rfl ?_
  refine o_getI (pc := 83) fd_RX4_44 ft_500_6 hzj1 dX4_copyFrom_83 ?_
  refine o_putI (pc := 86) fd_RX4_44 fp_500_6 ft_500_6 rfl rfl hzj0 dX4_copyFrom_86 ?_
  refine o_nmS (fun zS7 hx => ?_)
  have h := oH_let h zS7 hx
  clear hx
  refine o_aload_n (pc := 89) dX4_copyFrom_89 rfl 0 rfl ?_
  refine o_aload_n (pc := 90) dX4_copyFrom_90 rfl 1 rfl ?_
  refine o_getI (pc := 91) fd_RX4_28 ft_500_7 hzj1 dX4_copyFrom_91 ?_
  refine o_putI (pc := 94) fd_RX4_28 fp_500_7 ft_500_7 rfl rfl hzj0 dX4_copyFrom_94 ?_
  refine o_nmS (fun zS8 hx => ?_)
  have h := oH_let h zS8 hx
  clear hx
  refine o_aload_n (pc := 97) dX4_copyFrom_97 rfl 0 rfl ?_
  refine o_aload_n (pc := 98) dX4_copyFrom_98 rfl 1 rfl ?_
  refine o_getL (pc := 99) fd_RX4_47 ft_500_8 hzj1 dX4_copyFrom_99 ?_
  refine o_putL (pc := 102) fd_RX4_47 fp_500_8 ft_500_8 hzj0 dX4_copyFrom_102 ?_
  refine o_nmS (fun zS9 hx => ?_)
  have h := oH_let h zS9 hx
  clear hx
  refine o_aload_n (pc := 105) dX4_copyFrom_105 rfl 0 rfl ?_
  refine o_aload_n (pc := 106) dX4_copyFrom_106 rfl 1 rfl ?_
  refine o_getL (pc := 107) fd_RX4_51 ft_500_9 hzj1 dX4_copyFrom_107 ?_
  refine o_putL (pc := 110) fd_RX4_51 fp_500_9 ft_500_9 hzj0 dX4_copyFrom_110 ?_
  refine o_nmS (fun zS10 hx => ?_)
  have h := oH_let h zS10 hx
  clear hx
  exact hE _ _ _ dX4_copyFrom_113 (oH_some h)
def f_X4_dry_L2 (zj0 : Nat) : Int32 × oS → Option ((Int32 × oS) ⊕ (oS)) := fun w =>
  match w with
  | (zv1, S) =>
    if (4 : Int32) ≤ zv1 then (
    some (Sum.inr S)) else (
    (f_X4_warmthOf zj0 zv1 (0 : Int32) S).bind fun zz1 =>
    if oIn zv1 4 then (
    if (zz1.2.1 502 zj0 (Int32.toNatClampNeg zv1)) ≤ 0 then (
    oLet (zv1 + (1 : Int32)) fun zx2 =>
    some (Sum.inl (zx2, zz1.2))) else (
    if zz1.1 < (90 : Int64) then (
    oLet (zv1 + (1 : Int32)) fun zx3 =>
    some (Sum.inl (zx3, zz1.2))) else (
    if oIn zv1 4 then (
    oLet ((oMinL (((zz1.1 - (90 : Int64)) / (4 : Int64)) + (1 : Int64)) (Int32.toInt64 (zz1.2.1 502 zj0 (Int32.toNatClampNeg zv1))))) fun zx4 =>
    if oIn zv1 4 then (
    if oIn zv1 4 then (
    oLet (oStI zz1.2 502 zj0 (Int32.toNatClampNeg zv1) ((zz1.2.1 502 zj0 (Int32.toNatClampNeg zv1)) - (Int64.toInt32 zx4))) fun zS5 =>
    if oIn ((zv1 * (3 : Int32)) + (0 : Int32)) 12 then (
    if oIn ((zv1 * (3 : Int32)) + (0 : Int32)) 12 then (
    oLet (oStL zS5 501 zj0 (Int32.toNatClampNeg ((zv1 * (3 : Int32)) + (0 : Int32))) ((zS5.2 501 zj0 (Int32.toNatClampNeg ((zv1 * (3 : Int32)) + (0 : Int32)))) - ((25 : Int64) * zx4))) fun zS6 =>
    oLet (oStL zS6 500 zj0 9 ((zS6.2 500 zj0 9) + ((25 : Int64) * zx4))) fun zS7 =>
    oLet (zv1 + (1 : Int32)) fun zx8 =>
    some (Sum.inl (zx8, zS7))) else none) else none) else none) else none) else none))) else none)
set_option maxHeartbeats 4000000 in
theorem s_X4_dry_L2b {X : oX} {e : Nat} (he : 1 ≤ e) (hR : oRoom X (e + 1)) {zj0 : Nat} (hzj0 : zj0 < oCnt 500) {VH : Int32 × oS → Prop} {VE : oS → Prop} (hVH : ∀ z, VH z → oVv X mX4_dry 2 [(0, orf 500 zj0), (1, oi z.1)] [] z.2) (hVE : ∀ z, VE z → oVv X mX4_dry 106 [] [] z) {zv1 : Int32} {S : oS} (h : oH (f_X4_dry_L2 zj0 (zv1, S)) (fun z => Sum.elim VH VE z)) : oVv X mX4_dry 2 [(0, orf 500 zj0), (1, oi zv1)] [] S := by
  dsimp only [f_X4_dry_L2] at h
  refine o_iload_n (pc := 2) dX4_dry_2 rfl 1 rfl ?_
  refine o_iconst (v := 4) (pc := 3) dX4_dry_3 (by decide) ?_
  refine o_icmp_ge 106 (pc := 4) dX4_dry_4 (by decide) (fun hc => ?_) (fun hc => ?_)
  · have h := oH_T hc h
    refine o_weak [] rfl ?_
    exact hVE _ (oH_some (P := fun z => Sum.elim VH VE z) h)
  · have h := oH_F hc h
    refine o_aload_n (pc := 7) dX4_dry_7 rfl 0 rfl ?_
    refine o_iload_n (pc := 8) dX4_dry_8 rfl 1 rfl ?_
    refine o_iconst (v := 0) (pc := 9) dX4_dry_9 (by decide) ?_
    have h := oH_bind h
    refine o_callVl (pc := 10) (st := []) [oi zv1, oi (0 : Int32)] hR md_X4_warmthOf wd_427 wd_428 wd_429 tc_500 hzj0 rfl (Nat.le_of_ble_eq_true rfl) rfl dX4_dry_10 (s_X4_warmthOf e (by omega) hzj0 h) (fun zz1 h => ?_)
    refine o_lstore_n (lv1 := [(0, orf 500 zj0), (1, oi zv1), (2, ol zz1.1)]) (pc := 13) dX4_dry_13 rfl (by decide) rfl ?_
    refine o_aload_n (pc := 14) dX4_dry_14 rfl 0 rfl ?_
    refine o_getA (pc := 15) fd_RX4_15 ft_500_1 hzj0 dX4_dry_15 ?_
    refine o_iload_n (pc := 18) dX4_dry_18 rfl 1 rfl ?_
    obtain ⟨hg, h⟩ := oH_G h
    refine o_iald (pc := 19) kd_502 (jc_502 hzj0) hg dX4_dry_19 ?_
    refine o_if_le 100 (pc := 20) dX4_dry_20 (by decide) (fun hc => ?_) (fun hc => ?_)
    · have h := oH_T hc h
      obtain ⟨zx2, hx⟩ : ∃ y : Int32, y = zv1 + (1 : Int32) := ⟨_, rfl⟩
      have h := oH_let h zx2 hx
      refine o_iinc (lv1 := [(0, orf 500 zj0), (1, oi zx2), (2, ol zz1.1)]) (pc := 100) dX4_dry_100 1 rfl hx.symm (by decide) rfl ?_
      clear hx
      refine o_goto 2 (pc := 103) dX4_dry_103 (by decide) ?_
      refine o_weak [0, 1] rfl ?_
      exact hVH _ (oH_some (P := fun z => Sum.elim VH VE z) h)
    · have h := oH_F hc h
      refine o_lload_n (pc := 23) dX4_dry_23 rfl 2 rfl ?_
      refine o_ldc2 (v := 90) (pc := 24) dX4_dry_24 wd_431 ?_
      refine o_lcmp_lt 100 (pc := 27) dX4_dry_27 dX4_dry_28 (by decide) (fun hc => ?_) (fun hc => ?_)
      · have h := oH_T hc h
        obtain ⟨zx3, hx⟩ : ∃ y : Int32, y = zv1 + (1 : Int32) := ⟨_, rfl⟩
        have h := oH_let h zx3 hx
        refine o_iinc (lv1 := [(0, orf 500 zj0), (1, oi zx3), (2, ol zz1.1)]) (pc := 100) dX4_dry_100 1 rfl hx.symm (by decide) rfl ?_
        clear hx
        refine o_goto 2 (pc := 103) dX4_dry_103 (by decide) ?_
        refine o_weak [0, 1] rfl ?_
        exact hVH _ (oH_some (P := fun z => Sum.elim VH VE z) h)
      · have h := oH_F hc h
        refine o_lload_n (pc := 31) dX4_dry_31 rfl 2 rfl ?_
        refine o_ldc2 (v := 90) (pc := 32) dX4_dry_32 wd_431 ?_
        refine o_lsub (pc := 35) dX4_dry_35 ?_
        refine o_ldc2 (v := 4) (pc := 36) dX4_dry_36 wd_432 ?_
        refine o_ldiv (pc := 39) dX4_dry_39 (by decide) ?_
        refine o_lconst (v := 1) (pc := 40) dX4_dry_40 (by decide) ?_
        refine o_ladd (pc := 41) dX4_dry_41 ?_
        refine o_aload_n (pc := 42) dX4_dry_42 rfl 0 rfl ?_
        refine o_getA (pc := 43) fd_RX4_15 ft_500_1 hzj0 dX4_dry_43 ?_
        refine o_iload_n (pc := 46) dX4_dry_46 rfl 1 rfl ?_
        obtain ⟨hg, h⟩ := oH_G h
        refine o_iald (pc := 47) kd_502 (jc_502 hzj0) hg dX4_dry_47 ?_
        refine o_i2l (pc := 48) dX4_dry_48 ?_
        refine o_oMinL (pc := 49) (oRoom_1 hR) wd_433 (Nat.le_of_ble_eq_true rfl) dX4_dry_49 ?_
        refine o_nmL (fun zx4 hx => ?_)
        have h := oH_let h zx4 hx
        clear hx
        refine o_lstore (lv1 := [(0, orf 500 zj0), (1, oi zv1), (2, ol zz1.1), (4, ol zx4)]) (pc := 52) dX4_dry_52 (by decide) rfl ?_
        refine o_aload_n (pc := 54) dX4_dry_54 rfl 0 rfl ?_
        refine o_getA (pc := 55) fd_RX4_15 ft_500_1 hzj0 dX4_dry_55 ?_
        refine o_iload_n (pc := 58) dX4_dry_58 rfl 1 rfl ?_
        refine o_dup2 (pc := 59) dX4_dry_59 rfl rfl ?_
        obtain ⟨hg, h⟩ := oH_G h
        refine o_iald (pc := 60) kd_502 (jc_502 hzj0) hg dX4_dry_60 ?_
        refine o_lload (pc := 61) dX4_dry_61 3 rfl ?_
        refine o_l2i (pc := 63) dX4_dry_63 ?_
        refine o_isub (pc := 64) dX4_dry_64 ?_
        obtain ⟨hg, h⟩ := oH_G h
        have hgi := hg
        refine o_iast (pc := 65) kd_502 (jc_502 hzj0) hgi dX4_dry_65 ?_
        refine o_nmS (fun zS5 hx => ?_)
        have h := oH_let h zS5 hx
        clear hx
        refine o_aload_n (pc := 66) dX4_dry_66 rfl 0 rfl ?_
        refine o_getA (pc := 67) fd_RX4_9 ft_500_0 hzj0 dX4_dry_67 ?_
        refine o_iload_n (pc := 70) dX4_dry_70 rfl 1 rfl ?_
        refine o_iconst (v := 3) (pc := 71) dX4_dry_71 (by decide) ?_
        refine o_imul (pc := 72) dX4_dry_72 ?_
        refine o_iconst (v := 0) (pc := 73) dX4_dry_73 (by decide) ?_
        refine o_iadd (pc := 74) dX4_dry_74 ?_
        refine o_dup2 (pc := 75) dX4_dry_75 rfl rfl ?_
        obtain ⟨hg, h⟩ := oH_G h
        refine o_lald (pc := 76) kd_501 (jc_501 hzj0) hg dX4_dry_76 ?_
        refine o_ldc2 (v := 25) (pc := 77) dX4_dry_77 wd_436 ?_
        refine o_lload (pc := 80) dX4_dry_80 3 rfl ?_
        refine o_lmul (pc := 82) dX4_dry_82 ?_
        refine o_lsub (pc := 83) dX4_dry_83 ?_
        obtain ⟨hg, h⟩ := oH_G h
        have hgi := hg
        refine o_last (pc := 84) kd_501 (jc_501 hzj0) hgi dX4_dry_84 ?_
        refine o_nmS (fun zS6 hx => ?_)
        have h := oH_let h zS6 hx
        clear hx
        refine o_aload_n (pc := 85) dX4_dry_85 rfl 0 rfl ?_
        refine o_dup (pc := 86) dX4_dry_86 rfl ?_
        refine o_getL (pc := 87) fd_RX4_51 ft_500_9 hzj0 dX4_dry_87 ?_
        refine o_ldc2 (v := 25) (pc := 90) dX4_dry_90 wd_436 ?_
        refine o_lload (pc := 93) dX4_dry_93 3 rfl ?_
        refine o_lmul (pc := 95) dX4_dry_95 ?_
        refine o_ladd (pc := 96) dX4_dry_96 ?_
        refine o_putL (pc := 97) fd_RX4_51 fp_500_9 ft_500_9 hzj0 dX4_dry_97 ?_
        refine o_nmS (fun zS7 hx => ?_)
        have h := oH_let h zS7 hx
        clear hx
        obtain ⟨zx8, hx⟩ : ∃ y : Int32, y = zv1 + (1 : Int32) := ⟨_, rfl⟩
        have h := oH_let h zx8 hx
        refine o_iinc (lv1 := [(0, orf 500 zj0), (1, oi zx8), (2, ol zz1.1), (4, ol zx4)]) (pc := 100) dX4_dry_100 1 rfl hx.symm (by decide) rfl ?_
        clear hx
        refine o_goto 2 (pc := 103) dX4_dry_103 (by decide) ?_
        refine o_weak [0, 1] rfl ?_
        exact hVH _ (oH_some (P := fun z => Sum.elim VH VE z) h)
theorem s_X4_dry_L2 {X : oX} {e : Nat} (he : 1 ≤ e) (hR : oRoom X (e + 1)) {zj0 : Nat} (hzj0 : zj0 < oCnt 500)  {VE : oS → Prop} (hVE : ∀ z, VE z → oVv X mX4_dry 106 [] [] z) (n : Nat) (w : Int32 × oS) (h : oH (oLp (f_X4_dry_L2 zj0) n w) VE) : oVv X mX4_dry 2 [(0, orf 500 zj0), (1, oi w.1)] [] w.2 :=
  oLp_s (VH := fun w => oVv X mX4_dry 2 [(0, orf 500 zj0), (1, oi w.1)] [] w.2) (fun w h => s_X4_dry_L2b he hR hzj0 (fun _ h => h) hVE h) n w h
def f_X4_dry  (zj0 : Nat) (S : oS) : Option (oS) :=
  (oLp (f_X4_dry_L2 zj0) oFu ((0 : Int32), S)).bind fun zz9 =>
  some zz9
set_option maxHeartbeats 4000000 in
theorem s_X4_dry {G : oG} {r : oR} (d : Nat) (hd : 2 ≤ d) {zj0 : Nat} (hzj0 : zj0 < oCnt 500) {S : oS} {P : oS → Prop} (h : oH (f_X4_dry zj0 S) P) : oCt G r d yX4_dry mX4_dry [orf 500 zj0] S (oQv P) := by
  unfold f_X4_dry at h
  refine oCt_of (by decide) rfl (Nat.le_of_ble_eq_true rfl) ?_
  intro X hG hr hE0 hR
  subst hG; subst hr
  obtain ⟨e, rfl⟩ : ∃ e, d = e + 1 := ⟨d - 1, by omega⟩
  have he : 1 ≤ e := by omega
  have hE := oEV_of hE0 rfl
  clear hE0 hd
  show oVv X mX4_dry 0 [(0, orf 500 zj0)] [] S
  refine o_iconst (v := 0) (pc := 0) dX4_dry_0 (by decide) ?_
  refine o_istore_n (lv1 := [(0, orf 500 zj0), (1, oi (0 : Int32))]) (pc := 1) dX4_dry_1 rfl (by decide) rfl ?_
  have h := oH_bind h
  refine s_X4_dry_L2 he hR hzj0 (fun zz9 h => ?_) _ ((0 : Int32), S) h
  exact hE _ _ _ dX4_dry_106 (oH_some h)
def f_X4_evenSides_L9 (zj0 : Nat) : Int64 × Int32 × oS → Option ((Int64 × Int32 × oS) ⊕ (oS)) := fun w =>
  match w with
  | (zv1, zv3, S) =>
    if (3 : Int32) ≤ zv3 then (
    some (Sum.inr S)) else (
    (f_X4_warmthOf zj0 (zv3 + (1 : Int32)) (0 : Int32) S).bind fun zz2 =>
    if oIn ((zv3 * (3 : Int32)) + (0 : Int32)) 12 then (
    if oIn ((zv3 * (3 : Int32)) + (0 : Int32)) 12 then (
    oLet (oStL zz2.2 501 zj0 (Int32.toNatClampNeg ((zv3 * (3 : Int32)) + (0 : Int32))) ((zz2.2.2 501 zj0 (Int32.toNatClampNeg ((zv3 * (3 : Int32)) + (0 : Int32)))) - (zv1 - zz2.1))) fun zS3 =>
    if oIn (((zv3 + (1 : Int32)) * (3 : Int32)) + (0 : Int32)) 12 then (
    if oIn (((zv3 + (1 : Int32)) * (3 : Int32)) + (0 : Int32)) 12 then (
    oLet (oStL zS3 501 zj0 (Int32.toNatClampNeg (((zv3 + (1 : Int32)) * (3 : Int32)) + (0 : Int32))) ((zS3.2 501 zj0 (Int32.toNatClampNeg (((zv3 + (1 : Int32)) * (3 : Int32)) + (0 : Int32)))) + (zv1 - zz2.1))) fun zS4 =>
    oLet (zv3 + (1 : Int32)) fun zx5 =>
    some (Sum.inl (zz2.1, zx5, zS4))) else none) else none) else none) else none)
set_option maxHeartbeats 4000000 in
theorem s_X4_evenSides_L9b {X : oX} {e : Nat} (he : 1 ≤ e) (hR : oRoom X (e + 1)) {zj0 : Nat} (hzj0 : zj0 < oCnt 500) {VH : Int64 × Int32 × oS → Prop} {VE : oS → Prop} (hVH : ∀ z, VH z → oVv X mX4_evenSides 9 [(0, orf 500 zj0), (1, ol z.1), (3, oi z.2.1)] [] z.2.2) (hVE : ∀ z, VE z → oVv X mX4_evenSides 69 [] [] z) {zv1 : Int64} {zv3 : Int32} {S : oS} (h : oH (f_X4_evenSides_L9 zj0 (zv1, zv3, S)) (fun z => Sum.elim VH VE z)) : oVv X mX4_evenSides 9 [(0, orf 500 zj0), (1, ol zv1), (3, oi zv3)] [] S := by
  dsimp only [f_X4_evenSides_L9] at h
  refine o_iload_n (pc := 9) dX4_evenSides_9 rfl 2 rfl ?_
  refine o_iconst (v := 3) (pc := 10) dX4_evenSides_10 (by decide) ?_
  refine o_icmp_ge 69 (pc := 11) dX4_evenSides_11 (by decide) (fun hc => ?_) (fun hc => ?_)
  · have h := oH_T hc h
    refine o_weak [] rfl ?_
    exact hVE _ (oH_some (P := fun z => Sum.elim VH VE z) h)
  · have h := oH_F hc h
    refine o_aload_n (pc := 14) dX4_evenSides_14 rfl 0 rfl ?_
    refine o_iload_n (pc := 15) dX4_evenSides_15 rfl 2 rfl ?_
    refine o_iconst (v := 1) (pc := 16) dX4_evenSides_16 (by decide) ?_
    refine o_iadd (pc := 17) dX4_evenSides_17 ?_
    refine o_iconst (v := 0) (pc := 18) dX4_evenSides_18 (by decide) ?_
    have h := oH_bind h
    refine o_callVl (pc := 19) (st := []) [oi (zv3 + (1 : Int32)), oi (0 : Int32)] hR md_X4_warmthOf wd_427 wd_428 wd_429 tc_500 hzj0 rfl (Nat.le_of_ble_eq_true rfl) rfl dX4_evenSides_19 (s_X4_warmthOf e (by omega) hzj0 h) (fun zz2 h => ?_)
    refine o_lstore (lv1 := [(0, orf 500 zj0), (1, ol zv1), (3, oi zv3), (4, ol zz2.1)]) (pc := 22) dX4_evenSides_22 (by decide) rfl ?_
    refine o_aload_n (pc := 24) dX4_evenSides_24 rfl 0 rfl ?_
    refine o_getA (pc := 25) fd_RX4_9 ft_500_0 hzj0 dX4_evenSides_25 ?_
    refine o_iload_n (pc := 28) dX4_evenSides_28 rfl 2 rfl ?_
    refine o_iconst (v := 3) (pc := 29) dX4_evenSides_29 (by decide) ?_
    refine o_imul (pc := 30) dX4_evenSides_30 ?_
    refine o_iconst (v := 0) (pc := 31) dX4_evenSides_31 (by decide) ?_
    refine o_iadd (pc := 32) dX4_evenSides_32 ?_
    refine o_dup2 (pc := 33) dX4_evenSides_33 rfl rfl ?_
    obtain ⟨hg, h⟩ := oH_G h
    refine o_lald (pc := 34) kd_501 (jc_501 hzj0) hg dX4_evenSides_34 ?_
    refine o_lload_n (pc := 35) dX4_evenSides_35 rfl 1 rfl ?_
    refine o_lload (pc := 36) dX4_evenSides_36 3 rfl ?_
    refine o_lsub (pc := 38) dX4_evenSides_38 ?_
    refine o_lsub (pc := 39) dX4_evenSides_39 ?_
    obtain ⟨hg, h⟩ := oH_G h
    have hgi := hg
    refine o_last (pc := 40) kd_501 (jc_501 hzj0) hgi dX4_evenSides_40 ?_
    refine o_nmS (fun zS3 hx => ?_)
    have h := oH_let h zS3 hx
    clear hx
    refine o_aload_n (pc := 41) dX4_evenSides_41 rfl 0 rfl ?_
    refine o_getA (pc := 42) fd_RX4_9 ft_500_0 hzj0 dX4_evenSides_42 ?_
    refine o_iload_n (pc := 45) dX4_evenSides_45 rfl 2 rfl ?_
    refine o_iconst (v := 1) (pc := 46) dX4_evenSides_46 (by decide) ?_
    refine o_iadd (pc := 47) dX4_evenSides_47 ?_
    refine o_iconst (v := 3) (pc := 48) dX4_evenSides_48 (by decide) ?_
    refine o_imul (pc := 49) dX4_evenSides_49 ?_
    refine o_iconst (v := 0) (pc := 50) dX4_evenSides_50 (by decide) ?_
    refine o_iadd (pc := 51) dX4_evenSides_51 ?_
    refine o_dup2 (pc := 52) dX4_evenSides_52 rfl rfl ?_
    obtain ⟨hg, h⟩ := oH_G h
    refine o_lald (pc := 53) kd_501 (jc_501 hzj0) hg dX4_evenSides_53 ?_
    refine o_lload_n (pc := 54) dX4_evenSides_54 rfl 1 rfl ?_
    refine o_lload (pc := 55) dX4_evenSides_55 3 rfl ?_
    refine o_lsub (pc := 57) dX4_evenSides_57 ?_
    refine o_ladd (pc := 58) dX4_evenSides_58 ?_
    obtain ⟨hg, h⟩ := oH_G h
    have hgi := hg
    refine o_last (pc := 59) kd_501 (jc_501 hzj0) hgi dX4_evenSides_59 ?_
    refine o_nmS (fun zS4 hx => ?_)
    have h := oH_let h zS4 hx
    clear hx
    refine o_lload (pc := 60) dX4_evenSides_60 3 rfl ?_
    refine o_lstore_n (lv1 := [(0, orf 500 zj0), (1, ol zz2.1), (3, oi zv3), (4, ol zz2.1)]) (pc := 62) dX4_evenSides_62 rfl (by decide) rfl ?_
    obtain ⟨zx5, hx⟩ : ∃ y : Int32, y = zv3 + (1 : Int32) := ⟨_, rfl⟩
    have h := oH_let h zx5 hx
    refine o_iinc (lv1 := [(0, orf 500 zj0), (1, ol zz2.1), (3, oi zx5), (4, ol zz2.1)]) (pc := 63) dX4_evenSides_63 2 rfl hx.symm (by decide) rfl ?_
    clear hx
    refine o_goto 9 (pc := 66) dX4_evenSides_66 (by decide) ?_
    refine o_weak [0, 1, 2] rfl ?_
    exact hVH _ (oH_some (P := fun z => Sum.elim VH VE z) h)
theorem s_X4_evenSides_L9 {X : oX} {e : Nat} (he : 1 ≤ e) (hR : oRoom X (e + 1)) {zj0 : Nat} (hzj0 : zj0 < oCnt 500)  {VE : oS → Prop} (hVE : ∀ z, VE z → oVv X mX4_evenSides 69 [] [] z) (n : Nat) (w : Int64 × Int32 × oS) (h : oH (oLp (f_X4_evenSides_L9 zj0) n w) VE) : oVv X mX4_evenSides 9 [(0, orf 500 zj0), (1, ol w.1), (3, oi w.2.1)] [] w.2.2 :=
  oLp_s (VH := fun w => oVv X mX4_evenSides 9 [(0, orf 500 zj0), (1, ol w.1), (3, oi w.2.1)] [] w.2.2) (fun w h => s_X4_evenSides_L9b he hR hzj0 (fun _ h => h) hVE h) n w h
def f_X4_evenSides  (zj0 : Nat) (S : oS) : Option (oS) :=
  (f_X4_warmthOf zj0 (0 : Int32) (0 : Int32) S).bind fun zz1 =>
  (oLp (f_X4_evenSides_L9 zj0) oFu (zz1.1, (0 : Int32), zz1.2)).bind fun zz6 =>
  some zz6
set_option maxHeartbeats 4000000 in
theorem s_X4_evenSides {G : oG} {r : oR} (d : Nat) (hd : 2 ≤ d) {zj0 : Nat} (hzj0 : zj0 < oCnt 500) {S : oS} {P : oS → Prop} (h : oH (f_X4_evenSides zj0 S) P) : oCt G r d yX4_evenSides mX4_evenSides [orf 500 zj0] S (oQv P) := by
  unfold f_X4_evenSides at h
  refine oCt_of (by decide) rfl (Nat.le_of_ble_eq_true rfl) ?_
  intro X hG hr hE0 hR
  subst hG; subst hr
  obtain ⟨e, rfl⟩ : ∃ e, d = e + 1 := ⟨d - 1, by omega⟩
  have he : 1 ≤ e := by omega
  have hE := oEV_of hE0 rfl
  clear hE0 hd
  show oVv X mX4_evenSides 0 [(0, orf 500 zj0)] [] S
  refine o_aload_n (pc := 0) dX4_evenSides_0 rfl 0 rfl ?_
  refine o_iconst (v := 0) (pc := 1) dX4_evenSides_1 (by decide) ?_
  refine o_iconst (v := 0) (pc := 2) dX4_evenSides_2 (by decide) ?_
  have h := oH_bind h
  refine o_callVl (pc := 3) (st := []) [oi (0 : Int32), oi (0 : Int32)] hR md_X4_warmthOf wd_427 wd_428 wd_429 tc_500 hzj0 rfl (Nat.le_of_ble_eq_true rfl) rfl dX4_evenSides_3 (s_X4_warmthOf e (by omega) hzj0 h) (fun zz1 h => ?_)
  refine o_lstore_n (lv1 := [(0, orf 500 zj0), (1, ol zz1.1)]) (pc := 6) dX4_evenSides_6 rfl (by decide) rfl ?_
  refine o_iconst (v := 0) (pc := 7) dX4_evenSides_7 (by decide) ?_
  refine o_istore_n (lv1 := [(0, orf 500 zj0), (1, ol zz1.1), (3, oi (0 : Int32))]) (pc := 8) dX4_evenSides_8 rfl (by decide) rfl ?_
  have h := oH_bind h
  refine s_X4_evenSides_L9 he hR hzj0 (fun zz6 h => ?_) _ (zz1.1, (0 : Int32), zz1.2) h
  exact hE _ _ _ dX4_evenSides_69 (oH_some h)
def f_X4_heatOf  (zj0 : Nat) (za1 : Int32) (za2 : Int32) (S : oS) : Option (Int64 × oS) :=
  if oIn ((za1 * (3 : Int32)) + za2) 12 then (
  some (S.2 501 zj0 (Int32.toNatClampNeg ((za1 * (3 : Int32)) + za2)), S)) else none
set_option maxHeartbeats 4000000 in
theorem s_X4_heatOf {G : oG} {r : oR} (d : Nat) (hd : 1 ≤ d) {zj0 : Nat} {za1 : Int32} {za2 : Int32} (hzj0 : zj0 < oCnt 500) {S : oS} {P : Int64 × oS → Prop} (h : oH (f_X4_heatOf zj0 za1 za2 S) P) : oCt G r d yX4_heatOf mX4_heatOf [orf 500 zj0, oi za1, oi za2] S (oQl P) := by
  unfold f_X4_heatOf at h
  refine oCt_of (by decide) rfl (Nat.le_of_ble_eq_true rfl) ?_
  intro X hG hr hE0 hR
  subst hG; subst hr
  obtain ⟨e, rfl⟩ : ∃ e, d = e + 1 := ⟨d - 1, by omega⟩
  have he : 0 ≤ e := by omega
  have hE := oEL_of hE0 rfl
  clear hE0 hd
  show oVv X mX4_heatOf 0 [(0, orf 500 zj0), (1, oi za1), (2, oi za2)] [] S
  refine o_aload_n (pc := 0) dX4_heatOf_0 rfl 0 rfl ?_
  refine o_getA (pc := 1) fd_RX4_9 ft_500_0 hzj0 dX4_heatOf_1 ?_
  refine o_iload_n (pc := 4) dX4_heatOf_4 rfl 1 rfl ?_
  refine o_iconst (v := 3) (pc := 5) dX4_heatOf_5 (by decide) ?_
  refine o_imul (pc := 6) dX4_heatOf_6 ?_
  refine o_iload_n (pc := 7) dX4_heatOf_7 rfl 2 rfl ?_
  refine o_iadd (pc := 8) dX4_heatOf_8 ?_
  obtain ⟨hg, h⟩ := oH_G h
  refine o_lald (pc := 9) kd_501 (jc_501 hzj0) hg dX4_heatOf_9 ?_
  exact hE _ _ _ _ dX4_heatOf_10 (oH_some h)
def f_X4_held_L4 (zj0 : Nat) : Int64 × Int32 × oS → Option ((Int64 × Int32 × oS) ⊕ (Int64 × oS)) := fun w =>
  match w with
  | (zv1, zv3, S) =>
    if (12 : Int32) ≤ zv3 then (
    some (Sum.inr (zv1, S))) else (
    if oIn zv3 12 then (
    oLet ((zv1 + (S.2 501 zj0 (Int32.toNatClampNeg zv3)))) fun zx1 =>
    oLet (zv3 + (1 : Int32)) fun zx2 =>
    some (Sum.inl (zx1, zx2, S))) else none)
set_option maxHeartbeats 4000000 in
theorem s_X4_held_L4b {X : oX} {e : Nat} (he : 0 ≤ e) (hR : oRoom X (e + 1)) {zj0 : Nat} (hzj0 : zj0 < oCnt 500) {VH : Int64 × Int32 × oS → Prop} {VE : Int64 × oS → Prop} (hVH : ∀ z, VH z → oVv X mX4_held 4 [(0, orf 500 zj0), (1, ol z.1), (3, oi z.2.1)] [] z.2.2) (hVE : ∀ z, VE z → oVv X mX4_held 25 [(1, ol z.1)] [] z.2) {zv1 : Int64} {zv3 : Int32} {S : oS} (h : oH (f_X4_held_L4 zj0 (zv1, zv3, S)) (fun z => Sum.elim VH VE z)) : oVv X mX4_held 4 [(0, orf 500 zj0), (1, ol zv1), (3, oi zv3)] [] S := by
  dsimp only [f_X4_held_L4] at h
  refine o_iload_n (pc := 4) dX4_held_4 rfl 2 rfl ?_
  refine o_bipush (v := 12) (pc := 5) dX4_held_5 (by decide) ?_
  refine o_icmp_ge 25 (pc := 7) dX4_held_7 (by decide) (fun hc => ?_) (fun hc => ?_)
  · have h := oH_T hc h
    refine o_weak [1] rfl ?_
    exact hVE _ (oH_some (P := fun z => Sum.elim VH VE z) h)
  · have h := oH_F hc h
    refine o_lload_n (pc := 10) dX4_held_10 rfl 1 rfl ?_
    refine o_aload_n (pc := 11) dX4_held_11 rfl 0 rfl ?_
    refine o_getA (pc := 12) fd_RX4_9 ft_500_0 hzj0 dX4_held_12 ?_
    refine o_iload_n (pc := 15) dX4_held_15 rfl 2 rfl ?_
    obtain ⟨hg, h⟩ := oH_G h
    refine o_lald (pc := 16) kd_501 (jc_501 hzj0) hg dX4_held_16 ?_
    refine o_ladd (pc := 17) dX4_held_17 ?_
    refine o_nmL (fun zx1 hx => ?_)
    have h := oH_let h zx1 hx
    clear hx
    refine o_lstore_n (lv1 := [(0, orf 500 zj0), (1, ol zx1), (3, oi zv3)]) (pc := 18) dX4_held_18 rfl (by decide) rfl ?_
    obtain ⟨zx2, hx⟩ : ∃ y : Int32, y = zv3 + (1 : Int32) := ⟨_, rfl⟩
    have h := oH_let h zx2 hx
    refine o_iinc (lv1 := [(0, orf 500 zj0), (1, ol zx1), (3, oi zx2)]) (pc := 19) dX4_held_19 2 rfl hx.symm (by decide) rfl ?_
    clear hx
    refine o_goto 4 (pc := 22) dX4_held_22 (by decide) ?_
    exact hVH _ (oH_some (P := fun z => Sum.elim VH VE z) h)
theorem s_X4_held_L4 {X : oX} {e : Nat} (he : 0 ≤ e) (hR : oRoom X (e + 1)) {zj0 : Nat} (hzj0 : zj0 < oCnt 500)  {VE : Int64 × oS → Prop} (hVE : ∀ z, VE z → oVv X mX4_held 25 [(1, ol z.1)] [] z.2) (n : Nat) (w : Int64 × Int32 × oS) (h : oH (oLp (f_X4_held_L4 zj0) n w) VE) : oVv X mX4_held 4 [(0, orf 500 zj0), (1, ol w.1), (3, oi w.2.1)] [] w.2.2 :=
  oLp_s (VH := fun w => oVv X mX4_held 4 [(0, orf 500 zj0), (1, ol w.1), (3, oi w.2.1)] [] w.2.2) (fun w h => s_X4_held_L4b he hR hzj0 (fun _ h => h) hVE h) n w h
def f_X4_held  (zj0 : Nat) (S : oS) : Option (Int64 × oS) :=
  (oLp (f_X4_held_L4 zj0) oFu ((0 : Int64), (0 : Int32), S)).bind fun zz3 =>
  some (zz3.1, zz3.2)
set_option maxHeartbeats 4000000 in
theorem s_X4_held {G : oG} {r : oR} (d : Nat) (hd : 1 ≤ d) {zj0 : Nat} (hzj0 : zj0 < oCnt 500) {S : oS} {P : Int64 × oS → Prop} (h : oH (f_X4_held zj0 S) P) : oCt G r d yX4_held mX4_held [orf 500 zj0] S (oQl P) := by
  unfold f_X4_held at h
  refine oCt_of (by decide) rfl (Nat.le_of_ble_eq_true rfl) ?_
  intro X hG hr hE0 hR
  subst hG; subst hr
  obtain ⟨e, rfl⟩ : ∃ e, d = e + 1 := ⟨d - 1, by omega⟩
  have he : 0 ≤ e := by omega
  have hE := oEL_of hE0 rfl
  clear hE0 hd
  show oVv X mX4_held 0 [(0, orf 500 zj0)] [] S
  refine o_lconst (v := 0) (pc := 0) dX4_held_0 (by decide) ?_
  refine o_lstore_n (lv1 := [(0, orf 500 zj0), (1, ol (0 : Int64))]) (pc := 1) dX4_held_1 rfl (by decide) rfl ?_
  refine o_iconst (v := 0) (pc := 2) dX4_held_2 (by decide) ?_
  refine o_istore_n (lv1 := [(0, orf 500 zj0), (1, ol (0 : Int64)), (3, oi (0 : Int32))]) (pc := 3) dX4_held_3 rfl (by decide) rfl ?_
  have h := oH_bind h
  refine s_X4_held_L4 he hR hzj0 (fun zz3 h => ?_) _ ((0 : Int64), (0 : Int32), S) h
  refine o_lload_n (pc := 25) dX4_held_25 rfl 0 rfl ?_
  exact hE _ _ _ _ dX4_held_26 (oH_some h)
def f_X4_layLog  (zj0 : Nat) (za1 : Int32) (za2 : Int32) (S : oS) : Option (oS) :=
  if (30 : Int32) ≤ (S.1 500 zj0 5) then (
  some S) else (
  if oIn (S.1 500 zj0 5) 30 then (
  oLet (oStI S 504 zj0 (Int32.toNatClampNeg (S.1 500 zj0 5)) za1) fun zS1 =>
  if oIn (zS1.1 500 zj0 5) 30 then (
  oLet (oStI zS1 505 zj0 (Int32.toNatClampNeg (zS1.1 500 zj0 5)) za2) fun zS2 =>
  oLet (oStI zS2 500 zj0 5 ((zS2.1 500 zj0 5) + (1 : Int32))) fun zS3 =>
  some zS3) else none) else none)
set_option maxHeartbeats 4000000 in
theorem s_X4_layLog {G : oG} {r : oR} (d : Nat) (hd : 1 ≤ d) {zj0 : Nat} {za1 : Int32} {za2 : Int32} (hzj0 : zj0 < oCnt 500) {S : oS} {P : oS → Prop} (h : oH (f_X4_layLog zj0 za1 za2 S) P) : oCt G r d yX4_layLog mX4_layLog [orf 500 zj0, oi za1, oi za2] S (oQv P) := by
  unfold f_X4_layLog at h
  refine oCt_of (by decide) rfl (Nat.le_of_ble_eq_true rfl) ?_
  intro X hG hr hE0 hR
  subst hG; subst hr
  obtain ⟨e, rfl⟩ : ∃ e, d = e + 1 := ⟨d - 1, by omega⟩
  have he : 0 ≤ e := by omega
  have hE := oEV_of hE0 rfl
  clear hE0 hd
  show oVv X mX4_layLog 0 [(0, orf 500 zj0), (1, oi za1), (2, oi za2)] [] S
  refine o_aload_n (pc := 0) dX4_layLog_0 rfl 0 rfl ?_
  refine o_getI (pc := 1) fd_RX4_41 ft_500_5 hzj0 dX4_layLog_1 ?_
  refine o_bipush (v := 30) (pc := 4) dX4_layLog_4 (by decide) ?_
  refine o_icmp_ge 39 (pc := 6) dX4_layLog_6 (by decide) (fun hc => ?_) (fun hc => ?_)
  · have h := oH_T hc h
    exact hE _ _ _ dX4_layLog_39 (oH_some h)
  · have h := oH_F hc h
    refine o_aload_n (pc := 9) dX4_layLog_9 rfl 0 rfl ?_
    refine o_getA (pc := 10) fd_RX4_22 ft_500_3 hzj0 dX4_layLog_10 ?_
    refine o_aload_n (pc := 13) dX4_layLog_13 rfl 0 rfl ?_
    refine o_getI (pc := 14) fd_RX4_41 ft_500_5 hzj0 dX4_layLog_14 ?_
    refine o_iload_n (pc := 17) dX4_layLog_17 rfl 1 rfl ?_
    obtain ⟨hg, h⟩ := oH_G h
    have hgi := hg
    refine o_iast (pc := 18) kd_504 (jc_504 hzj0) hgi dX4_layLog_18 ?_
    refine o_nmS (fun zS1 hx => ?_)
    have h := oH_let h zS1 hx
    clear hx
    refine o_aload_n (pc := 19) dX4_layLog_19 rfl 0 rfl ?_
    refine o_getA (pc := 20) fd_RX4_25 ft_500_4 hzj0 dX4_layLog_20 ?_
    refine o_aload_n (pc := 23) dX4_layLog_23 rfl 0 rfl ?_
    refine o_getI (pc := 24) fd_RX4_41 ft_500_5 hzj0 dX4_layLog_24 ?_
    refine o_iload_n (pc := 27) dX4_layLog_27 rfl 2 rfl ?_
    obtain ⟨hg, h⟩ := oH_G h
    have hgi := hg
    refine o_iast (pc := 28) kd_505 (jc_505 hzj0) hgi dX4_layLog_28 ?_
    refine o_nmS (fun zS2 hx => ?_)
    have h := oH_let h zS2 hx
    clear hx
    refine o_aload_n (pc := 29) dX4_layLog_29 rfl 0 rfl ?_
    refine o_dup (pc := 30) dX4_layLog_30 rfl ?_
    refine o_getI (pc := 31) fd_RX4_41 ft_500_5 hzj0 dX4_layLog_31 ?_
    refine o_iconst (v := 1) (pc := 34) dX4_layLog_34 (by decide) ?_
    refine o_iadd (pc := 35) dX4_layLog_35 ?_
    refine o_putI (pc := 36) fd_RX4_41 fp_500_5 ft_500_5 rfl rfl hzj0 dX4_layLog_36 ?_
    refine o_nmS (fun zS3 hx => ?_)
    have h := oH_let h zS3 hx
    clear hx
    exact hE _ _ _ dX4_layLog_39 (oH_some h)
def f_X4_loseFrom  (zj0 : Nat) (za1 : Int32) (za2 : Int32) (za3 : Int32) (S : oS) : Option (oS) :=
  (f_X4_warmthOf zj0 za1 za2 S).bind fun zz1 =>
  oLet (((Int32.toInt64 za3) * (oMaxL (0 : Int64) (zz1.1 - (Int32.toInt64 (zz1.2.1 500 zj0 7)))))) fun zx2 =>
  if oIn ((za1 * (3 : Int32)) + za2) 12 then (
  if oIn ((za1 * (3 : Int32)) + za2) 12 then (
  oLet (oStL zz1.2 501 zj0 (Int32.toNatClampNeg ((za1 * (3 : Int32)) + za2)) ((zz1.2.2 501 zj0 (Int32.toNatClampNeg ((za1 * (3 : Int32)) + za2))) - zx2)) fun zS3 =>
  oLet (oStL zS3 500 zj0 9 ((zS3.2 500 zj0 9) + zx2)) fun zS4 =>
  some zS4) else none) else none
set_option maxHeartbeats 4000000 in
theorem s_X4_loseFrom {G : oG} {r : oR} (d : Nat) (hd : 2 ≤ d) {zj0 : Nat} {za1 : Int32} {za2 : Int32} {za3 : Int32} (hzj0 : zj0 < oCnt 500) {S : oS} {P : oS → Prop} (h : oH (f_X4_loseFrom zj0 za1 za2 za3 S) P) : oCt G r d yX4_loseFrom mX4_loseFrom [orf 500 zj0, oi za1, oi za2, oi za3] S (oQv P) := by
  unfold f_X4_loseFrom at h
  refine oCt_of (by decide) rfl (Nat.le_of_ble_eq_true rfl) ?_
  intro X hG hr hE0 hR
  subst hG; subst hr
  obtain ⟨e, rfl⟩ : ∃ e, d = e + 1 := ⟨d - 1, by omega⟩
  have he : 1 ≤ e := by omega
  have hE := oEV_of hE0 rfl
  clear hE0 hd
  show oVv X mX4_loseFrom 0 [(0, orf 500 zj0), (1, oi za1), (2, oi za2), (3, oi za3)] [] S
  refine o_iload_n (pc := 0) dX4_loseFrom_0 rfl 3 rfl ?_
  refine o_i2l (pc := 1) dX4_loseFrom_1 ?_
  refine o_lconst (v := 0) (pc := 2) dX4_loseFrom_2 (by decide) ?_
  refine o_aload_n (pc := 3) dX4_loseFrom_3 rfl 0 rfl ?_
  refine o_iload_n (pc := 4) dX4_loseFrom_4 rfl 1 rfl ?_
  refine o_iload_n (pc := 5) dX4_loseFrom_5 rfl 2 rfl ?_
  have h := oH_bind h
  refine o_callVl (pc := 6) (st := [ol (0 : Int64), ol (Int32.toInt64 za3)]) [oi za1, oi za2] hR md_X4_warmthOf wd_427 wd_428 wd_429 tc_500 hzj0 rfl (Nat.le_of_ble_eq_true rfl) rfl dX4_loseFrom_6 (s_X4_warmthOf e (by omega) hzj0 h) (fun zz1 h => ?_)
  refine o_aload_n (pc := 9) dX4_loseFrom_9 rfl 0 rfl ?_
  refine o_getI (pc := 10) fd_RX4_28 ft_500_7 hzj0 dX4_loseFrom_10 ?_
  refine o_i2l (pc := 13) dX4_loseFrom_13 ?_
  refine o_lsub (pc := 14) dX4_loseFrom_14 ?_
  refine o_oMaxL (pc := 15) (oRoom_1 hR) wd_453 (Nat.le_of_ble_eq_true rfl) dX4_loseFrom_15 ?_
  refine o_lmul (pc := 18) dX4_loseFrom_18 ?_
  refine o_nmL (fun zx2 hx => ?_)
  have h := oH_let h zx2 hx
  clear hx
  refine o_lstore (lv1 := [(0, orf 500 zj0), (1, oi za1), (2, oi za2), (3, oi za3), (4, ol zx2)]) (pc := 19) dX4_loseFrom_19 (by decide) rfl ?_
  refine o_aload_n (pc := 21) dX4_loseFrom_21 rfl 0 rfl ?_
  refine o_getA (pc := 22) fd_RX4_9 ft_500_0 hzj0 dX4_loseFrom_22 ?_
  refine o_iload_n (pc := 25) dX4_loseFrom_25 rfl 1 rfl ?_
  refine o_iconst (v := 3) (pc := 26) dX4_loseFrom_26 (by decide) ?_
  refine o_imul (pc := 27) dX4_loseFrom_27 ?_
  refine o_iload_n (pc := 28) dX4_loseFrom_28 rfl 2 rfl ?_
  refine o_iadd (pc := 29) dX4_loseFrom_29 ?_
  refine o_dup2 (pc := 30) dX4_loseFrom_30 rfl rfl ?_
  obtain ⟨hg, h⟩ := oH_G h
  refine o_lald (pc := 31) kd_501 (jc_501 hzj0) hg dX4_loseFrom_31 ?_
  refine o_lload (pc := 32) dX4_loseFrom_32 4 rfl ?_
  refine o_lsub (pc := 34) dX4_loseFrom_34 ?_
  obtain ⟨hg, h⟩ := oH_G h
  have hgi := hg
  refine o_last (pc := 35) kd_501 (jc_501 hzj0) hgi dX4_loseFrom_35 ?_
  refine o_nmS (fun zS3 hx => ?_)
  have h := oH_let h zS3 hx
  clear hx
  refine o_aload_n (pc := 36) dX4_loseFrom_36 rfl 0 rfl ?_
  refine o_dup (pc := 37) dX4_loseFrom_37 rfl ?_
  refine o_getL (pc := 38) fd_RX4_51 ft_500_9 hzj0 dX4_loseFrom_38 ?_
  refine o_lload (pc := 41) dX4_loseFrom_41 4 rfl ?_
  refine o_ladd (pc := 43) dX4_loseFrom_43 ?_
  refine o_putL (pc := 44) fd_RX4_51 fp_500_9 ft_500_9 hzj0 dX4_loseFrom_44 ?_
  refine o_nmS (fun zS4 hx => ?_)
  have h := oH_let h zS4 hx
  clear hx
  exact hE _ _ _ dX4_loseFrom_47 (oH_some h)
def f_X4_loseOutside_L2 (zj0 : Nat) (zv1 : Int32) : Int32 × oS → Option ((Int32 × oS) ⊕ (oS)) := fun w =>
  match w with
  | (zv2, S) =>
    if (4 : Int32) ≤ zv2 then (
    some (Sum.inr S)) else (
    if oIn zv2 4 then (
    (f_X4_loseFrom zj0 zv2 (2 : Int32) ((1 : Int32) + (S.1 503 zj0 (Int32.toNatClampNeg zv2))) S).bind fun zz1 =>
    if zv1 = 0 then (
    oLet (zv2 + (1 : Int32)) fun zx2 =>
    some (Sum.inl (zx2, zz1))) else (
    if oIn zv2 4 then (
    (f_X4_loseFrom zj0 zv2 (0 : Int32) (oDRAUGHT (Int32.toNatClampNeg zv2)) zz1).bind fun zz3 =>
    oLet (zv2 + (1 : Int32)) fun zx4 =>
    some (Sum.inl (zx4, zz3))) else none)) else none)
set_option maxHeartbeats 4000000 in
theorem s_X4_loseOutside_L2b {X : oX} {e : Nat} (he : 2 ≤ e) (hR : oRoom X (e + 1)) {zj0 : Nat} (hzj0 : zj0 < oCnt 500) {zv1 : Int32} {VH : Int32 × oS → Prop} {VE : oS → Prop} (hVH : ∀ z, VH z → oVv X mX4_loseOutside 2 [(0, orf 500 zj0), (1, oi zv1), (2, oi z.1)] [] z.2) (hVE : ∀ z, VE z → oVv X mX4_loseOutside 42 [] [] z) {zv2 : Int32} {S : oS} (h : oH (f_X4_loseOutside_L2 zj0 zv1 (zv2, S)) (fun z => Sum.elim VH VE z)) : oVv X mX4_loseOutside 2 [(0, orf 500 zj0), (1, oi zv1), (2, oi zv2)] [] S := by
  dsimp only [f_X4_loseOutside_L2] at h
  refine o_iload_n (pc := 2) dX4_loseOutside_2 rfl 2 rfl ?_
  refine o_iconst (v := 4) (pc := 3) dX4_loseOutside_3 (by decide) ?_
  refine o_icmp_ge 42 (pc := 4) dX4_loseOutside_4 (by decide) (fun hc => ?_) (fun hc => ?_)
  · have h := oH_T hc h
    refine o_weak [] rfl ?_
    exact hVE _ (oH_some (P := fun z => Sum.elim VH VE z) h)
  · have h := oH_F hc h
    refine o_aload_n (pc := 7) dX4_loseOutside_7 rfl 0 rfl ?_
    refine o_iload_n (pc := 8) dX4_loseOutside_8 rfl 2 rfl ?_
    refine o_iconst (v := 2) (pc := 9) dX4_loseOutside_9 (by decide) ?_
    refine o_iconst (v := 1) (pc := 10) dX4_loseOutside_10 (by decide) ?_
    refine o_aload_n (pc := 11) dX4_loseOutside_11 rfl 0 rfl ?_
    refine o_getA (pc := 12) fd_RX4_19 ft_500_2 hzj0 dX4_loseOutside_12 ?_
    refine o_iload_n (pc := 15) dX4_loseOutside_15 rfl 2 rfl ?_
    obtain ⟨hg, h⟩ := oH_G h
    refine o_iald (pc := 16) kd_503 (jc_503 hzj0) hg dX4_loseOutside_16 ?_
    refine o_iadd (pc := 17) dX4_loseOutside_17 ?_
    have h := oH_bind h
    refine o_callVv (pc := 18) (st := []) [oi zv2, oi (2 : Int32), oi ((1 : Int32) + (S.1 503 zj0 (Int32.toNatClampNeg zv2)))] hR md_X4_loseFrom wd_449 wd_451 ws_5 tc_500 hzj0 rfl (Nat.le_of_ble_eq_true rfl) rfl dX4_loseOutside_18 (s_X4_loseFrom e (by omega) hzj0 h) (fun zz1 h => ?_)
    refine o_iload_n (pc := 21) dX4_loseOutside_21 rfl 1 rfl ?_
    refine o_if_eq 36 (pc := 22) dX4_loseOutside_22 (by decide) (fun hc => ?_) (fun hc => ?_)
    · have h := oH_T hc h
      obtain ⟨zx2, hx⟩ : ∃ y : Int32, y = zv2 + (1 : Int32) := ⟨_, rfl⟩
      have h := oH_let h zx2 hx
      refine o_iinc (lv1 := [(0, orf 500 zj0), (1, oi zv1), (2, oi zx2)]) (pc := 36) dX4_loseOutside_36 2 rfl hx.symm (by decide) rfl ?_
      clear hx
      refine o_goto 2 (pc := 39) dX4_loseOutside_39 (by decide) ?_
      exact hVH _ (oH_some (P := fun z => Sum.elim VH VE z) h)
    · have h := oH_F hc h
      refine o_aload_n (pc := 25) dX4_loseOutside_25 rfl 0 rfl ?_
      refine o_iload_n (pc := 26) dX4_loseOutside_26 rfl 2 rfl ?_
      refine o_iconst (v := 0) (pc := 27) dX4_loseOutside_27 (by decide) ?_
      refine o_getsN (i := 2) (host := "VillageOven") (pc := 28) (by decide) (by decide +kernel) dX4_loseOutside_28 ?_
      refine o_iload_n (pc := 31) dX4_loseOutside_31 rfl 2 rfl ?_
      obtain ⟨hg, h⟩ := oH_G h
      refine o_sald_2002 (pc := 32) hg dX4_loseOutside_32 ?_
      have h := oH_bind h
      refine o_callVv (pc := 33) (st := []) [oi zv2, oi (0 : Int32), oi (oDRAUGHT (Int32.toNatClampNeg zv2))] hR md_X4_loseFrom wd_449 wd_451 ws_5 tc_500 hzj0 rfl (Nat.le_of_ble_eq_true rfl) rfl dX4_loseOutside_33 (s_X4_loseFrom e (by omega) hzj0 h) (fun zz3 h => ?_)
      obtain ⟨zx4, hx⟩ : ∃ y : Int32, y = zv2 + (1 : Int32) := ⟨_, rfl⟩
      have h := oH_let h zx4 hx
      refine o_iinc (lv1 := [(0, orf 500 zj0), (1, oi zv1), (2, oi zx4)]) (pc := 36) dX4_loseOutside_36 2 rfl hx.symm (by decide) rfl ?_
      clear hx
      refine o_goto 2 (pc := 39) dX4_loseOutside_39 (by decide) ?_
      exact hVH _ (oH_some (P := fun z => Sum.elim VH VE z) h)
theorem s_X4_loseOutside_L2 {X : oX} {e : Nat} (he : 2 ≤ e) (hR : oRoom X (e + 1)) {zj0 : Nat} (hzj0 : zj0 < oCnt 500) {zv1 : Int32}  {VE : oS → Prop} (hVE : ∀ z, VE z → oVv X mX4_loseOutside 42 [] [] z) (n : Nat) (w : Int32 × oS) (h : oH (oLp (f_X4_loseOutside_L2 zj0 zv1) n w) VE) : oVv X mX4_loseOutside 2 [(0, orf 500 zj0), (1, oi zv1), (2, oi w.1)] [] w.2 :=
  oLp_s (VH := fun w => oVv X mX4_loseOutside 2 [(0, orf 500 zj0), (1, oi zv1), (2, oi w.1)] [] w.2) (fun w h => s_X4_loseOutside_L2b he hR hzj0 (fun _ h => h) hVE h) n w h
def f_X4_loseOutside  (zj0 : Nat) (za1 : Int32) (S : oS) : Option (oS) :=
  (oLp (f_X4_loseOutside_L2 zj0 za1) oFu ((0 : Int32), S)).bind fun zz5 =>
  some zz5
set_option maxHeartbeats 4000000 in
theorem s_X4_loseOutside {G : oG} {r : oR} (d : Nat) (hd : 3 ≤ d) {zj0 : Nat} {za1 : Int32} (hzj0 : zj0 < oCnt 500) {S : oS} {P : oS → Prop} (h : oH (f_X4_loseOutside zj0 za1 S) P) : oCt G r d yX4_loseOutside mX4_loseOutside [orf 500 zj0, oi za1] S (oQv P) := by
  unfold f_X4_loseOutside at h
  refine oCt_of (by decide) rfl (Nat.le_of_ble_eq_true rfl) ?_
  intro X hG hr hE0 hR
  subst hG; subst hr
  obtain ⟨e, rfl⟩ : ∃ e, d = e + 1 := ⟨d - 1, by omega⟩
  have he : 2 ≤ e := by omega
  have hE := oEV_of hE0 rfl
  clear hE0 hd
  show oVv X mX4_loseOutside 0 [(0, orf 500 zj0), (1, oi za1)] [] S
  refine o_iconst (v := 0) (pc := 0) dX4_loseOutside_0 (by decide) ?_
  refine o_istore_n (lv1 := [(0, orf 500 zj0), (1, oi za1), (2, oi (0 : Int32))]) (pc := 1) dX4_loseOutside_1 rfl (by decide) rfl ?_
  have h := oH_bind h
  refine s_X4_loseOutside_L2 he hR hzj0 (fun zz5 h => ?_) _ ((0 : Int32), S) h
  exact hE _ _ _ dX4_loseOutside_42 (oH_some h)
def f_X4_soak_L2 (zj0 : Nat) : Int32 × oS → Option ((Int32 × oS) ⊕ (oS)) := fun w =>
  match w with
  | (zv1, S) =>
    if (4 : Int32) ≤ zv1 then (
    some (Sum.inr S)) else (
    (f_X4_warmthOf zj0 zv1 (1 : Int32) S).bind fun zz1 =>
    (f_X4_warmthOf zj0 zv1 (0 : Int32) zz1.2).bind fun zz2 =>
    oLet (((2 : Int64) * (zz2.1 - zz1.1))) fun zx3 =>
    if oIn zv1 4 then (
    (f_X4_warmthOf zj0 zv1 (2 : Int32) zz2.2).bind fun zz4 =>
    oLet (((Int32.toInt64 ((2 : Int32) + (zz2.2.1 503 zj0 (Int32.toNatClampNeg zv1)))) * (zz1.1 - zz4.1))) fun zx5 =>
    if oIn ((zv1 * (3 : Int32)) + (0 : Int32)) 12 then (
    if oIn ((zv1 * (3 : Int32)) + (0 : Int32)) 12 then (
    oLet (oStL zz4.2 501 zj0 (Int32.toNatClampNeg ((zv1 * (3 : Int32)) + (0 : Int32))) ((zz4.2.2 501 zj0 (Int32.toNatClampNeg ((zv1 * (3 : Int32)) + (0 : Int32)))) - zx3)) fun zS6 =>
    if oIn ((zv1 * (3 : Int32)) + (1 : Int32)) 12 then (
    if oIn ((zv1 * (3 : Int32)) + (1 : Int32)) 12 then (
    oLet (oStL zS6 501 zj0 (Int32.toNatClampNeg ((zv1 * (3 : Int32)) + (1 : Int32))) ((zS6.2 501 zj0 (Int32.toNatClampNeg ((zv1 * (3 : Int32)) + (1 : Int32)))) + (zx3 - zx5))) fun zS7 =>
    if oIn ((zv1 * (3 : Int32)) + (2 : Int32)) 12 then (
    if oIn ((zv1 * (3 : Int32)) + (2 : Int32)) 12 then (
    oLet (oStL zS7 501 zj0 (Int32.toNatClampNeg ((zv1 * (3 : Int32)) + (2 : Int32))) ((zS7.2 501 zj0 (Int32.toNatClampNeg ((zv1 * (3 : Int32)) + (2 : Int32)))) + zx5)) fun zS8 =>
    oLet (zv1 + (1 : Int32)) fun zx9 =>
    some (Sum.inl (zx9, zS8))) else none) else none) else none) else none) else none) else none) else none)
set_option maxHeartbeats 4000000 in
theorem s_X4_soak_L2b {X : oX} {e : Nat} (he : 1 ≤ e) (hR : oRoom X (e + 1)) {zj0 : Nat} (hzj0 : zj0 < oCnt 500) {VH : Int32 × oS → Prop} {VE : oS → Prop} (hVH : ∀ z, VH z → oVv X mX4_soak 2 [(0, orf 500 zj0), (1, oi z.1)] [] z.2) (hVE : ∀ z, VE z → oVv X mX4_soak 102 [] [] z) {zv1 : Int32} {S : oS} (h : oH (f_X4_soak_L2 zj0 (zv1, S)) (fun z => Sum.elim VH VE z)) : oVv X mX4_soak 2 [(0, orf 500 zj0), (1, oi zv1)] [] S := by
  dsimp only [f_X4_soak_L2] at h
  refine o_iload_n (pc := 2) dX4_soak_2 rfl 1 rfl ?_
  refine o_iconst (v := 4) (pc := 3) dX4_soak_3 (by decide) ?_
  refine o_icmp_ge 102 (pc := 4) dX4_soak_4 (by decide) (fun hc => ?_) (fun hc => ?_)
  · have h := oH_T hc h
    refine o_weak [] rfl ?_
    exact hVE _ (oH_some (P := fun z => Sum.elim VH VE z) h)
  · have h := oH_F hc h
    refine o_aload_n (pc := 7) dX4_soak_7 rfl 0 rfl ?_
    refine o_iload_n (pc := 8) dX4_soak_8 rfl 1 rfl ?_
    refine o_iconst (v := 1) (pc := 9) dX4_soak_9 (by decide) ?_
    have h := oH_bind h
    refine o_callVl (pc := 10) (st := []) [oi zv1, oi (1 : Int32)] hR md_X4_warmthOf wd_427 wd_428 wd_429 tc_500 hzj0 rfl (Nat.le_of_ble_eq_true rfl) rfl dX4_soak_10 (s_X4_warmthOf e (by omega) hzj0 h) (fun zz1 h => ?_)
    refine o_lstore_n (lv1 := [(0, orf 500 zj0), (1, oi zv1), (2, ol zz1.1)]) (pc := 13) dX4_soak_13 rfl (by decide) rfl ?_
    refine o_ldc2 (v := 2) (pc := 14) dX4_soak_14 wd_419 ?_
    refine o_aload_n (pc := 17) dX4_soak_17 rfl 0 rfl ?_
    refine o_iload_n (pc := 18) dX4_soak_18 rfl 1 rfl ?_
    refine o_iconst (v := 0) (pc := 19) dX4_soak_19 (by decide) ?_
    have h := oH_bind h
    refine o_callVl (pc := 20) (st := [ol (2 : Int64)]) [oi zv1, oi (0 : Int32)] hR md_X4_warmthOf wd_427 wd_428 wd_429 tc_500 hzj0 rfl (Nat.le_of_ble_eq_true rfl) rfl dX4_soak_20 (s_X4_warmthOf e (by omega) hzj0 h) (fun zz2 h => ?_)
    refine o_lload_n (pc := 23) dX4_soak_23 rfl 2 rfl ?_
    refine o_lsub (pc := 24) dX4_soak_24 ?_
    refine o_lmul (pc := 25) dX4_soak_25 ?_
    refine o_nmL (fun zx3 hx => ?_)
    have h := oH_let h zx3 hx
    clear hx
    refine o_lstore (lv1 := [(0, orf 500 zj0), (1, oi zv1), (2, ol zz1.1), (4, ol zx3)]) (pc := 26) dX4_soak_26 (by decide) rfl ?_
    refine o_iconst (v := 2) (pc := 28) dX4_soak_28 (by decide) ?_
    refine o_aload_n (pc := 29) dX4_soak_29 rfl 0 rfl ?_
    refine o_getA (pc := 30) fd_RX4_19 ft_500_2 hzj0 dX4_soak_30 ?_
    refine o_iload_n (pc := 33) dX4_soak_33 rfl 1 rfl ?_
    obtain ⟨hg, h⟩ := oH_G h
    refine o_iald (pc := 34) kd_503 (jc_503 hzj0) hg dX4_soak_34 ?_
    refine o_iadd (pc := 35) dX4_soak_35 ?_
    refine o_i2l (pc := 36) dX4_soak_36 ?_
    refine o_lload_n (pc := 37) dX4_soak_37 rfl 2 rfl ?_
    refine o_aload_n (pc := 38) dX4_soak_38 rfl 0 rfl ?_
    refine o_iload_n (pc := 39) dX4_soak_39 rfl 1 rfl ?_
    refine o_iconst (v := 2) (pc := 40) dX4_soak_40 (by decide) ?_
    have h := oH_bind h
    refine o_callVl (pc := 41) (st := [ol zz1.1, ol (Int32.toInt64 ((2 : Int32) + (zz2.2.1 503 zj0 (Int32.toNatClampNeg zv1))))]) [oi zv1, oi (2 : Int32)] hR md_X4_warmthOf wd_427 wd_428 wd_429 tc_500 hzj0 rfl (Nat.le_of_ble_eq_true rfl) rfl dX4_soak_41 (s_X4_warmthOf e (by omega) hzj0 h) (fun zz4 h => ?_)
    refine o_lsub (pc := 44) dX4_soak_44 ?_
    refine o_lmul (pc := 45) dX4_soak_45 ?_
    refine o_nmL (fun zx5 hx => ?_)
    have h := oH_let h zx5 hx
    clear hx
    refine o_lstore (lv1 := [(0, orf 500 zj0), (1, oi zv1), (2, ol zz1.1), (4, ol zx3), (6, ol zx5)]) (pc := 46) dX4_soak_46 (by decide) rfl ?_
    refine o_aload_n (pc := 48) dX4_soak_48 rfl 0 rfl ?_
    refine o_getA (pc := 49) fd_RX4_9 ft_500_0 hzj0 dX4_soak_49 ?_
    refine o_iload_n (pc := 52) dX4_soak_52 rfl 1 rfl ?_
    refine o_iconst (v := 3) (pc := 53) dX4_soak_53 (by decide) ?_
    refine o_imul (pc := 54) dX4_soak_54 ?_
    refine o_iconst (v := 0) (pc := 55) dX4_soak_55 (by decide) ?_
    refine o_iadd (pc := 56) dX4_soak_56 ?_
    refine o_dup2 (pc := 57) dX4_soak_57 rfl rfl ?_
    obtain ⟨hg, h⟩ := oH_G h
    refine o_lald (pc := 58) kd_501 (jc_501 hzj0) hg dX4_soak_58 ?_
    refine o_lload (pc := 59) dX4_soak_59 3 rfl ?_
    refine o_lsub (pc := 61) dX4_soak_61 ?_
    obtain ⟨hg, h⟩ := oH_G h
    have hgi := hg
    refine o_last (pc := 62) kd_501 (jc_501 hzj0) hgi dX4_soak_62 ?_
    refine o_nmS (fun zS6 hx => ?_)
    have h := oH_let h zS6 hx
    clear hx
    refine o_aload_n (pc := 63) dX4_soak_63 rfl 0 rfl ?_
    refine o_getA (pc := 64) fd_RX4_9 ft_500_0 hzj0 dX4_soak_64 ?_
    refine o_iload_n (pc := 67) dX4_soak_67 rfl 1 rfl ?_
    refine o_iconst (v := 3) (pc := 68) dX4_soak_68 (by decide) ?_
    refine o_imul (pc := 69) dX4_soak_69 ?_
    refine o_iconst (v := 1) (pc := 70) dX4_soak_70 (by decide) ?_
    refine o_iadd (pc := 71) dX4_soak_71 ?_
    refine o_dup2 (pc := 72) dX4_soak_72 rfl rfl ?_
    obtain ⟨hg, h⟩ := oH_G h
    refine o_lald (pc := 73) kd_501 (jc_501 hzj0) hg dX4_soak_73 ?_
    refine o_lload (pc := 74) dX4_soak_74 3 rfl ?_
    refine o_lload (pc := 76) dX4_soak_76 4 rfl ?_
    refine o_lsub (pc := 78) dX4_soak_78 ?_
    refine o_ladd (pc := 79) dX4_soak_79 ?_
    obtain ⟨hg, h⟩ := oH_G h
    have hgi := hg
    refine o_last (pc := 80) kd_501 (jc_501 hzj0) hgi dX4_soak_80 ?_
    refine o_nmS (fun zS7 hx => ?_)
    have h := oH_let h zS7 hx
    clear hx
    refine o_aload_n (pc := 81) dX4_soak_81 rfl 0 rfl ?_
    refine o_getA (pc := 82) fd_RX4_9 ft_500_0 hzj0 dX4_soak_82 ?_
    refine o_iload_n (pc := 85) dX4_soak_85 rfl 1 rfl ?_
    refine o_iconst (v := 3) (pc := 86) dX4_soak_86 (by decide) ?_
    refine o_imul (pc := 87) dX4_soak_87 ?_
    refine o_iconst (v := 2) (pc := 88) dX4_soak_88 (by decide) ?_
    refine o_iadd (pc := 89) dX4_soak_89 ?_
    refine o_dup2 (pc := 90) dX4_soak_90 rfl rfl ?_
    obtain ⟨hg, h⟩ := oH_G h
    refine o_lald (pc := 91) kd_501 (jc_501 hzj0) hg dX4_soak_91 ?_
    refine o_lload (pc := 92) dX4_soak_92 4 rfl ?_
    refine o_ladd (pc := 94) dX4_soak_94 ?_
    obtain ⟨hg, h⟩ := oH_G h
    have hgi := hg
    refine o_last (pc := 95) kd_501 (jc_501 hzj0) hgi dX4_soak_95 ?_
    refine o_nmS (fun zS8 hx => ?_)
    have h := oH_let h zS8 hx
    clear hx
    obtain ⟨zx9, hx⟩ : ∃ y : Int32, y = zv1 + (1 : Int32) := ⟨_, rfl⟩
    have h := oH_let h zx9 hx
    refine o_iinc (lv1 := [(0, orf 500 zj0), (1, oi zx9), (2, ol zz1.1), (4, ol zx3), (6, ol zx5)]) (pc := 96) dX4_soak_96 1 rfl hx.symm (by decide) rfl ?_
    clear hx
    refine o_goto 2 (pc := 99) dX4_soak_99 (by decide) ?_
    refine o_weak [0, 1] rfl ?_
    exact hVH _ (oH_some (P := fun z => Sum.elim VH VE z) h)
theorem s_X4_soak_L2 {X : oX} {e : Nat} (he : 1 ≤ e) (hR : oRoom X (e + 1)) {zj0 : Nat} (hzj0 : zj0 < oCnt 500)  {VE : oS → Prop} (hVE : ∀ z, VE z → oVv X mX4_soak 102 [] [] z) (n : Nat) (w : Int32 × oS) (h : oH (oLp (f_X4_soak_L2 zj0) n w) VE) : oVv X mX4_soak 2 [(0, orf 500 zj0), (1, oi w.1)] [] w.2 :=
  oLp_s (VH := fun w => oVv X mX4_soak 2 [(0, orf 500 zj0), (1, oi w.1)] [] w.2) (fun w h => s_X4_soak_L2b he hR hzj0 (fun _ h => h) hVE h) n w h
def f_X4_soak  (zj0 : Nat) (S : oS) : Option (oS) :=
  (oLp (f_X4_soak_L2 zj0) oFu ((0 : Int32), S)).bind fun zz10 =>
  some zz10
set_option maxHeartbeats 4000000 in
theorem s_X4_soak {G : oG} {r : oR} (d : Nat) (hd : 2 ≤ d) {zj0 : Nat} (hzj0 : zj0 < oCnt 500) {S : oS} {P : oS → Prop} (h : oH (f_X4_soak zj0 S) P) : oCt G r d yX4_soak mX4_soak [orf 500 zj0] S (oQv P) := by
  unfold f_X4_soak at h
  refine oCt_of (by decide) rfl (Nat.le_of_ble_eq_true rfl) ?_
  intro X hG hr hE0 hR
  subst hG; subst hr
  obtain ⟨e, rfl⟩ : ∃ e, d = e + 1 := ⟨d - 1, by omega⟩
  have he : 1 ≤ e := by omega
  have hE := oEV_of hE0 rfl
  clear hE0 hd
  show oVv X mX4_soak 0 [(0, orf 500 zj0)] [] S
  refine o_iconst (v := 0) (pc := 0) dX4_soak_0 (by decide) ?_
  refine o_istore_n (lv1 := [(0, orf 500 zj0), (1, oi (0 : Int32))]) (pc := 1) dX4_soak_1 rfl (by decide) rfl ?_
  have h := oH_bind h
  refine s_X4_soak_L2 he hR hzj0 (fun zz10 h => ?_) _ ((0 : Int32), S) h
  exact hE _ _ _ dX4_soak_102 (oH_some h)
def f_X4_passTick  (zj0 : Nat) (za1 : Int32) (S : oS) : Option (oS) :=
  (f_X4_burn zj0 S).bind fun zz1 =>
  (f_X4_dry zj0 zz1).bind fun zz2 =>
  (f_X4_soak zj0 zz2).bind fun zz3 =>
  (f_X4_evenSides zj0 zz3).bind fun zz4 =>
  (f_X4_loseOutside zj0 za1 zz4).bind fun zz5 =>
  some zz5
set_option maxHeartbeats 4000000 in
theorem s_X4_passTick {G : oG} {r : oR} (d : Nat) (hd : 4 ≤ d) {zj0 : Nat} {za1 : Int32} (hzj0 : zj0 < oCnt 500) {S : oS} {P : oS → Prop} (h : oH (f_X4_passTick zj0 za1 S) P) : oCt G r d yX4_passTick mX4_passTick [orf 500 zj0, oi za1] S (oQv P) := by
  unfold f_X4_passTick at h
  refine oCt_of (by decide) rfl (Nat.le_of_ble_eq_true rfl) ?_
  intro X hG hr hE0 hR
  subst hG; subst hr
  obtain ⟨e, rfl⟩ : ∃ e, d = e + 1 := ⟨d - 1, by omega⟩
  have he : 3 ≤ e := by omega
  have hE := oEV_of hE0 rfl
  clear hE0 hd
  show oVv X mX4_passTick 0 [(0, orf 500 zj0), (1, oi za1)] [] S
  refine o_aload_n (pc := 0) dX4_passTick_0 rfl 0 rfl ?_
  have h := oH_bind h
  refine o_callVv (pc := 1) (st := []) [] hR md_X4_burn wd_412 wd_414 ws_0 tc_500 hzj0 rfl (Nat.le_of_ble_eq_true rfl) rfl dX4_passTick_1 (s_X4_burn e (by omega) hzj0 h) (fun zz1 h => ?_)
  refine o_aload_n (pc := 4) dX4_passTick_4 rfl 0 rfl ?_
  have h := oH_bind h
  refine o_callVv (pc := 5) (st := []) [] hR md_X4_dry wd_423 wd_425 ws_1 tc_500 hzj0 rfl (Nat.le_of_ble_eq_true rfl) rfl dX4_passTick_5 (s_X4_dry e (by omega) hzj0 h) (fun zz2 h => ?_)
  refine o_aload_n (pc := 8) dX4_passTick_8 rfl 0 rfl ?_
  have h := oH_bind h
  refine o_callVv (pc := 9) (st := []) [] hR md_X4_soak wd_437 wd_439 ws_2 tc_500 hzj0 rfl (Nat.le_of_ble_eq_true rfl) rfl dX4_passTick_9 (s_X4_soak e (by omega) hzj0 h) (fun zz3 h => ?_)
  refine o_aload_n (pc := 12) dX4_passTick_12 rfl 0 rfl ?_
  have h := oH_bind h
  refine o_callVv (pc := 13) (st := []) [] hR md_X4_evenSides wd_441 wd_443 ws_3 tc_500 hzj0 rfl (Nat.le_of_ble_eq_true rfl) rfl dX4_passTick_13 (s_X4_evenSides e (by omega) hzj0 h) (fun zz4 h => ?_)
  refine o_aload_n (pc := 16) dX4_passTick_16 rfl 0 rfl ?_
  refine o_iload_n (pc := 17) dX4_passTick_17 rfl 1 rfl ?_
  have h := oH_bind h
  refine o_callVv (pc := 18) (st := []) [oi za1] hR md_X4_loseOutside wd_445 wd_447 ws_4 tc_500 hzj0 rfl (Nat.le_of_ble_eq_true rfl) rfl dX4_passTick_18 (s_X4_loseOutside e (by omega) hzj0 h) (fun zz5 h => ?_)
  exact hE _ _ _ dX4_passTick_21 (oH_some h)
def f_X7_begin_L18 (zv2 : Int32) : Int32 × oS → Option ((Int32 × oS) ⊕ (oS)) := fun w =>
  match w with
  | (zv3, S) =>
    if zv2 ≤ zv3 then (
    some (Sum.inr S)) else (
    (f_X4_passTick 2 (0 : Int32) S).bind fun zz3 =>
    oLet (zv3 + (1 : Int32)) fun zx4 =>
    some (Sum.inl (zx4, zz3)))
set_option maxHeartbeats 4000000 in
theorem s_X7_begin_L18b {X : oX} {e : Nat} (he : 4 ≤ e) (hR : oRoom X (e + 1)) {zv2 : Int32} {VH : Int32 × oS → Prop} {VE : oS → Prop} (hVH : ∀ z, VH z → oVv X mX7_begin 18 [(0, orf 800 0), (2, oi zv2), (3, oi z.1)] [] z.2) (hVE : ∀ z, VE z → oVv X mX7_begin 37 [] [] z) {zv3 : Int32} {S : oS} (h : oH (f_X7_begin_L18 zv2 (zv3, S)) (fun z => Sum.elim VH VE z)) : oVv X mX7_begin 18 [(0, orf 800 0), (2, oi zv2), (3, oi zv3)] [] S := by
  dsimp only [f_X7_begin_L18] at h
  refine o_iload_n (pc := 18) dX7_begin_18 rfl 2 rfl ?_
  refine o_iload_n (pc := 19) dX7_begin_19 rfl 1 rfl ?_
  refine o_icmp_ge 37 (pc := 20) dX7_begin_20 (by decide) (fun hc => ?_) (fun hc => ?_)
  · have h := oH_T hc h
    refine o_weak [] rfl ?_
    exact hVE _ (oH_some (P := fun z => Sum.elim VH VE z) h)
  · have h := oH_F hc h
    refine o_aload_n (pc := 23) dX7_begin_23 rfl 0 rfl ?_
    refine o_getF (pc := 24) fd_RX7_12 ft_800_0 j_800 dX7_begin_24 ?_
    refine o_iconst (v := 0) (pc := 27) dX7_begin_27 (by decide) ?_
    have h := oH_bind h
    refine o_callVv (pc := 28) (st := []) [oi (0 : Int32)] hR md_X4_passTick wd_706 wd_409 wd_410 tc_500 j_500_2 rfl (Nat.le_of_ble_eq_true rfl) rfl dX7_begin_28 (s_X4_passTick e (by omega) j_500_2 h) (fun zz3 h => ?_)
    obtain ⟨zx4, hx⟩ : ∃ y : Int32, y = zv3 + (1 : Int32) := ⟨_, rfl⟩
    have h := oH_let h zx4 hx
    refine o_iinc (lv1 := [(0, orf 800 0), (2, oi zv2), (3, oi zx4)]) (pc := 31) dX7_begin_31 2 rfl hx.symm (by decide) rfl ?_
    clear hx
    refine o_goto 18 (pc := 34) dX7_begin_34 (by decide) ?_
    exact hVH _ (oH_some (P := fun z => Sum.elim VH VE z) h)
theorem s_X7_begin_L18 {X : oX} {e : Nat} (he : 4 ≤ e) (hR : oRoom X (e + 1)) {zv2 : Int32}  {VE : oS → Prop} (hVE : ∀ z, VE z → oVv X mX7_begin 37 [] [] z) (n : Nat) (w : Int32 × oS) (h : oH (oLp (f_X7_begin_L18 zv2) n w) VE) : oVv X mX7_begin 18 [(0, orf 800 0), (2, oi zv2), (3, oi w.1)] [] w.2 :=
  oLp_s (VH := fun w => oVv X mX7_begin 18 [(0, orf 800 0), (2, oi zv2), (3, oi w.1)] [] w.2) (fun w h => s_X7_begin_L18b he hR  (fun _ h => h) hVE h) n w h
def f_X7_begin  (zj1 : Nat) (S : oS) : Option (oS) :=
  (f_X4_copyFrom 2 zj1 S).bind fun zz1 =>
  oLet (zz1.1 500 2 5) fun zx2 =>
  (oLp (f_X7_begin_L18 zx2) oFu ((0 : Int32), zz1)).bind fun zz5 =>
  some zz5
set_option maxHeartbeats 4000000 in
theorem s_X7_begin {G : oG} {r : oR} (d : Nat) (hd : 5 ≤ d) {zj1 : Nat} (hzj1 : zj1 < oCnt 500) {S : oS} {P : oS → Prop} (h : oH (f_X7_begin zj1 S) P) : oCt G r d yX7_begin mX7_begin [orf 800 0, orf 500 zj1] S (oQv P) := by
  unfold f_X7_begin at h
  refine oCt_of (by decide) rfl (Nat.le_of_ble_eq_true rfl) ?_
  intro X hG hr hE0 hR
  subst hG; subst hr
  obtain ⟨e, rfl⟩ : ∃ e, d = e + 1 := ⟨d - 1, by omega⟩
  have he : 4 ≤ e := by omega
  have hE := oEV_of hE0 rfl
  clear hE0 hd
  show oVv X mX7_begin 0 [(0, orf 800 0), (1, orf 500 zj1)] [] S
  refine o_aload_n (pc := 0) dX7_begin_0 rfl 0 rfl ?_
  refine o_getF (pc := 1) fd_RX7_12 ft_800_0 j_800 dX7_begin_1 ?_
  refine o_aload_n (pc := 4) dX7_begin_4 rfl 1 rfl ?_
  have h := oH_bind h
  refine o_callVv (pc := 5) (st := []) [orf 500 zj1] hR md_X4_copyFrom wd_705 wd_636 wd_637 tc_500 j_500_2 rfl (Nat.le_of_ble_eq_true rfl) rfl dX7_begin_5 (s_X4_copyFrom e (by omega) j_500_2 hzj1 h) (fun zz1 h => ?_)
  refine o_aload_n (pc := 8) dX7_begin_8 rfl 0 rfl ?_
  refine o_getF (pc := 9) fd_RX7_12 ft_800_0 j_800 dX7_begin_9 ?_
  refine o_getI (pc := 12) fd_RX7_25 ft_500_5 j_500_2 dX7_begin_12 ?_
  refine o_nmI (fun zx2 hx => ?_)
  have h := oH_let h zx2 hx
  clear hx
  refine o_istore_n (lv1 := [(0, orf 800 0), (1, orf 500 zj1), (2, oi zx2)]) (pc := 15) dX7_begin_15 rfl (by decide) rfl ?_
  refine o_iconst (v := 0) (pc := 16) dX7_begin_16 (by decide) ?_
  refine o_istore_n (lv1 := [(0, orf 800 0), (1, orf 500 zj1), (2, oi zx2), (3, oi (0 : Int32))]) (pc := 17) dX7_begin_17 rfl (by decide) rfl ?_
  refine o_weak [0, 2, 3] rfl ?_
  have h := oH_bind h
  refine s_X7_begin_L18 he hR  (fun zz5 h => ?_) _ ((0 : Int32), zz1) h
  exact hE _ _ _ dX7_begin_37 (oH_some h)
def f_X7_burnOneMore  (za1 : Int32) (za2 : Int32) (S : oS) : Option (oS) :=
  (f_X4_layLog 2 za1 za2 S).bind fun zz1 =>
  (f_X4_passTick 2 (0 : Int32) zz1).bind fun zz2 =>
  some zz2
set_option maxHeartbeats 4000000 in
theorem s_X7_burnOneMore {G : oG} {r : oR} (d : Nat) (hd : 5 ≤ d) {za1 : Int32} {za2 : Int32}  {S : oS} {P : oS → Prop} (h : oH (f_X7_burnOneMore za1 za2 S) P) : oCt G r d yX7_burnOneMore mX7_burnOneMore [orf 800 0, oi za1, oi za2] S (oQv P) := by
  unfold f_X7_burnOneMore at h
  refine oCt_of (by decide) rfl (Nat.le_of_ble_eq_true rfl) ?_
  intro X hG hr hE0 hR
  subst hG; subst hr
  obtain ⟨e, rfl⟩ : ∃ e, d = e + 1 := ⟨d - 1, by omega⟩
  have he : 4 ≤ e := by omega
  have hE := oEV_of hE0 rfl
  clear hE0 hd
  show oVv X mX7_burnOneMore 0 [(0, orf 800 0), (1, oi za1), (2, oi za2)] [] S
  refine o_aload_n (pc := 0) dX7_burnOneMore_0 rfl 0 rfl ?_
  refine o_getF (pc := 1) fd_RX7_12 ft_800_0 j_800 dX7_burnOneMore_1 ?_
  refine o_iload_n (pc := 4) dX7_burnOneMore_4 rfl 1 rfl ?_
  refine o_iload_n (pc := 5) dX7_burnOneMore_5 rfl 2 rfl ?_
  have h := oH_bind h
  refine o_callVv (pc := 6) (st := []) [oi za1, oi za2] hR md_X4_layLog wd_711 wd_401 wd_402 tc_500 j_500_2 rfl (Nat.le_of_ble_eq_true rfl) rfl dX7_burnOneMore_6 (s_X4_layLog e (by omega) j_500_2 h) (fun zz1 h => ?_)
  refine o_aload_n (pc := 9) dX7_burnOneMore_9 rfl 0 rfl ?_
  refine o_getF (pc := 10) fd_RX7_12 ft_800_0 j_800 dX7_burnOneMore_10 ?_
  refine o_iconst (v := 0) (pc := 13) dX7_burnOneMore_13 (by decide) ?_
  have h := oH_bind h
  refine o_callVv (pc := 14) (st := []) [oi (0 : Int32)] hR md_X4_passTick wd_706 wd_409 wd_410 tc_500 j_500_2 rfl (Nat.le_of_ble_eq_true rfl) rfl dX7_burnOneMore_14 (s_X4_passTick e (by omega) j_500_2 h) (fun zz2 h => ?_)
  exact hE _ _ _ dX7_burnOneMore_17 (oH_some h)
def f_X7_warmthAfter_L13 (zv1 : Int32) (zv2 : Int32) : Int32 × oS → Option ((Int32 × oS) ⊕ (oS)) := fun w =>
  match w with
  | (zv3, S) =>
    if zv1 ≤ zv3 then (
    some (Sum.inr S)) else (
    (f_X4_passTick 3 (0 : Int32) S).bind fun zz2 =>
    oLet (zv3 + (1 : Int32)) fun zx3 =>
    some (Sum.inl (zx3, zz2)))
set_option maxHeartbeats 4000000 in
theorem s_X7_warmthAfter_L13b {X : oX} {e : Nat} (he : 4 ≤ e) (hR : oRoom X (e + 1)) {zv1 : Int32} {zv2 : Int32} {VH : Int32 × oS → Prop} {VE : oS → Prop} (hVH : ∀ z, VH z → oVv X mX7_warmthAfter 13 [(0, orf 800 0), (1, oi zv1), (2, oi zv2), (3, oi z.1)] [] z.2) (hVE : ∀ z, VE z → oVv X mX7_warmthAfter 32 [(0, orf 800 0), (2, oi zv2)] [] z) {zv3 : Int32} {S : oS} (h : oH (f_X7_warmthAfter_L13 zv1 zv2 (zv3, S)) (fun z => Sum.elim VH VE z)) : oVv X mX7_warmthAfter 13 [(0, orf 800 0), (1, oi zv1), (2, oi zv2), (3, oi zv3)] [] S := by
  dsimp only [f_X7_warmthAfter_L13] at h
  refine o_iload_n (pc := 13) dX7_warmthAfter_13 rfl 3 rfl ?_
  refine o_iload_n (pc := 14) dX7_warmthAfter_14 rfl 1 rfl ?_
  refine o_icmp_ge 32 (pc := 15) dX7_warmthAfter_15 (by decide) (fun hc => ?_) (fun hc => ?_)
  · have h := oH_T hc h
    refine o_weak [0, 2] rfl ?_
    exact hVE _ (oH_some (P := fun z => Sum.elim VH VE z) h)
  · have h := oH_F hc h
    refine o_aload_n (pc := 18) dX7_warmthAfter_18 rfl 0 rfl ?_
    refine o_getF (pc := 19) fd_RX7_18 ft_800_1 j_800 dX7_warmthAfter_19 ?_
    refine o_iconst (v := 0) (pc := 22) dX7_warmthAfter_22 (by decide) ?_
    have h := oH_bind h
    refine o_callVv (pc := 23) (st := []) [oi (0 : Int32)] hR md_X4_passTick wd_706 wd_409 wd_410 tc_500 j_500_3 rfl (Nat.le_of_ble_eq_true rfl) rfl dX7_warmthAfter_23 (s_X4_passTick e (by omega) j_500_3 h) (fun zz2 h => ?_)
    obtain ⟨zx3, hx⟩ : ∃ y : Int32, y = zv3 + (1 : Int32) := ⟨_, rfl⟩
    have h := oH_let h zx3 hx
    refine o_iinc (lv1 := [(0, orf 800 0), (1, oi zv1), (2, oi zv2), (3, oi zx3)]) (pc := 26) dX7_warmthAfter_26 3 rfl hx.symm (by decide) rfl ?_
    clear hx
    refine o_goto 13 (pc := 29) dX7_warmthAfter_29 (by decide) ?_
    exact hVH _ (oH_some (P := fun z => Sum.elim VH VE z) h)
theorem s_X7_warmthAfter_L13 {X : oX} {e : Nat} (he : 4 ≤ e) (hR : oRoom X (e + 1)) {zv1 : Int32} {zv2 : Int32}  {VE : oS → Prop} (hVE : ∀ z, VE z → oVv X mX7_warmthAfter 32 [(0, orf 800 0), (2, oi zv2)] [] z) (n : Nat) (w : Int32 × oS) (h : oH (oLp (f_X7_warmthAfter_L13 zv1 zv2) n w) VE) : oVv X mX7_warmthAfter 13 [(0, orf 800 0), (1, oi zv1), (2, oi zv2), (3, oi w.1)] [] w.2 :=
  oLp_s (VH := fun w => oVv X mX7_warmthAfter 13 [(0, orf 800 0), (1, oi zv1), (2, oi zv2), (3, oi w.1)] [] w.2) (fun w h => s_X7_warmthAfter_L13b he hR  (fun _ h => h) hVE h) n w h
def f_X7_warmthAfter  (za1 : Int32) (za2 : Int32) (S : oS) : Option (Int64 × oS) :=
  (f_X4_copyFrom 3 2 S).bind fun zz1 =>
  (oLp (f_X7_warmthAfter_L13 za1 za2) oFu ((0 : Int32), zz1)).bind fun zz4 =>
  (f_X4_warmthOf 3 za2 (0 : Int32) zz4).bind fun zz5 =>
  some (zz5.1, zz5.2)
set_option maxHeartbeats 4000000 in
theorem s_X7_warmthAfter {G : oG} {r : oR} (d : Nat) (hd : 5 ≤ d) {za1 : Int32} {za2 : Int32}  {S : oS} {P : Int64 × oS → Prop} (h : oH (f_X7_warmthAfter za1 za2 S) P) : oCt G r d yX7_warmthAfter mX7_warmthAfter [orf 800 0, oi za1, oi za2] S (oQl P) := by
  unfold f_X7_warmthAfter at h
  refine oCt_of (by decide) rfl (Nat.le_of_ble_eq_true rfl) ?_
  intro X hG hr hE0 hR
  subst hG; subst hr
  obtain ⟨e, rfl⟩ : ∃ e, d = e + 1 := ⟨d - 1, by omega⟩
  have he : 4 ≤ e := by omega
  have hE := oEL_of hE0 rfl
  clear hE0 hd
  show oVv X mX7_warmthAfter 0 [(0, orf 800 0), (1, oi za1), (2, oi za2)] [] S
  refine o_aload_n (pc := 0) dX7_warmthAfter_0 rfl 0 rfl ?_
  refine o_getF (pc := 1) fd_RX7_18 ft_800_1 j_800 dX7_warmthAfter_1 ?_
  refine o_aload_n (pc := 4) dX7_warmthAfter_4 rfl 0 rfl ?_
  refine o_getF (pc := 5) fd_RX7_12 ft_800_0 j_800 dX7_warmthAfter_5 ?_
  have h := oH_bind h
  refine o_callVv (pc := 8) (st := []) [orf 500 2] hR md_X4_copyFrom wd_705 wd_636 wd_637 tc_500 j_500_3 rfl (Nat.le_of_ble_eq_true rfl) rfl dX7_warmthAfter_8 (s_X4_copyFrom e (by omega) j_500_3 j_500_2 h) (fun zz1 h => ?_)
  refine o_iconst (v := 0) (pc := 11) dX7_warmthAfter_11 (by decide) ?_
  refine o_istore_n (lv1 := [(0, orf 800 0), (1, oi za1), (2, oi za2), (3, oi (0 : Int32))]) (pc := 12) dX7_warmthAfter_12 rfl (by decide) rfl ?_
  have h := oH_bind h
  refine s_X7_warmthAfter_L13 he hR  (fun zz4 h => ?_) _ ((0 : Int32), zz1) h
  refine o_aload_n (pc := 32) dX7_warmthAfter_32 rfl 0 rfl ?_
  refine o_getF (pc := 33) fd_RX7_18 ft_800_1 j_800 dX7_warmthAfter_33 ?_
  refine o_iload_n (pc := 36) dX7_warmthAfter_36 rfl 1 rfl ?_
  refine o_iconst (v := 0) (pc := 37) dX7_warmthAfter_37 (by decide) ?_
  have h := oH_bind h
  refine o_callVl (pc := 38) (st := []) [oi za2, oi (0 : Int32)] hR md_X4_warmthOf wd_716 wd_428 wd_429 tc_500 j_500_3 rfl (Nat.le_of_ble_eq_true rfl) rfl dX7_warmthAfter_38 (s_X4_warmthOf e (by omega) j_500_3 h) (fun zz5 h => ?_)
  exact hE _ _ _ _ dX7_warmthAfter_41 (oH_some h)
