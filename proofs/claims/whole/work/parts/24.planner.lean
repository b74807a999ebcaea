def f_X5_addOpening  (za1 : Int32) (S : oS) : Option (Int32 × oS) :=
  if oIn (S.1 600 0 11) 3 then (
  oLet (oStI S 605 0 (Int32.toNatClampNeg (S.1 600 0 11)) za1) fun zS1 =>
  oLet (oStI zS1 600 0 11 ((zS1.1 600 0 11) + (1 : Int32))) fun zS2 =>
  some (zS2.1 600 0 11, zS2)) else none
set_option maxHeartbeats 4000000 in
theorem s_X5_addOpening {G : oG} {r : oR} (d : Nat) (hd : 1 ≤ d) {za1 : Int32}  {S : oS} {P : Int32 × oS → Prop} (h : oH (f_X5_addOpening za1 S) P) : oCt G r d yX5_addOpening mX5_addOpening [orf 600 0, oi za1] S (oQi P) := by
  unfold f_X5_addOpening at h
  refine oCt_of (by decide) rfl (Nat.le_of_ble_eq_true rfl) ?_
  intro X hG hr hE0 hR
  subst hG; subst hr
  obtain ⟨e, rfl⟩ : ∃ e, d = e + 1 := ⟨d - 1, by omega⟩
  have he : 0 ≤ e := by omega
  have hE := oEI_of hE0 rfl
  clear hE0 hd
  show oVv X mX5_addOpening 0 [(0, orf 600 0), (1, oi za1)] [] S
  refine o_aload_n (pc := 0) dX5_addOpening_0 rfl 0 rfl ?_
  refine o_getA (pc := 1) fd_RX5_26 ft_600_4 j_600 dX5_addOpening_1 ?_
  refine o_aload_n (pc := 4) dX5_addOpening_4 rfl 0 rfl ?_
  refine o_getI (pc := 5) fd_RX5_57 ft_600_11 j_600 dX5_addOpening_5 ?_
  refine o_iload_n (pc := 8) dX5_addOpening_8 rfl 1 rfl ?_
  obtain ⟨hg, h⟩ := oH_G h
  have hgi := hg
  refine o_iast (pc := 9) kd_605 j_605 hgi dX5_addOpening_9 ?_
  refine o_nmS (fun zS1 hx => ?_)
  have h := oH_let h zS1 hx
  clear hx
  refine o_aload_n (pc := 10) dX5_addOpening_10 rfl 0 rfl ?_
  refine o_dup (pc := 11) dX5_addOpening_11 rfl ?_
  refine o_getI (pc := 12) fd_RX5_57 ft_600_11 j_600 dX5_addOpening_12 ?_
  refine o_iconst (v := 1) (pc := 15) dX5_addOpening_15 (by decide) ?_
  refine o_iadd (pc := 16) dX5_addOpening_16 ?_
  refine o_putI (pc := 17) fd_RX5_57 fp_600_11 ft_600_11 rfl rfl j_600 dX5_addOpening_17 ?_
  refine o_nmS (fun zS2 hx => ?_)
  have h := oH_let h zS2 hx
  clear hx
  refine o_aload_n (pc := 20) dX5_addOpening_20 rfl 0 rfl ?_
  refine o_getI (pc := 21) fd_RX5_57 ft_600_11 j_600 dX5_addOpening_21 ?_
  exact hE _ _ _ _ dX5_addOpening_24 (oH_some h)
def f_X5_addOrder  (za1 : Int32) (S : oS) : Option (Int32 × oS) :=
  if oIn (S.1 600 0 10) 4 then (
  oLet (oStI S 604 0 (Int32.toNatClampNeg (S.1 600 0 10)) za1) fun zS1 =>
  oLet (oStI zS1 600 0 10 ((zS1.1 600 0 10) + (1 : Int32))) fun zS2 =>
  some (((zS2.1 600 0 10) - (1 : Int32)), zS2)) else none
set_option maxHeartbeats 4000000 in
theorem s_X5_addOrder {G : oG} {r : oR} (d : Nat) (hd : 1 ≤ d) {za1 : Int32}  {S : oS} {P : Int32 × oS → Prop} (h : oH (f_X5_addOrder za1 S) P) : oCt G r d yX5_addOrder mX5_addOrder [orf 600 0, oi za1] S (oQi P) := by
  unfold f_X5_addOrder at h
  refine oCt_of (by decide) rfl (Nat.le_of_ble_eq_true rfl) ?_
  intro X hG hr hE0 hR
  subst hG; subst hr
  obtain ⟨e, rfl⟩ : ∃ e, d = e + 1 := ⟨d - 1, by omega⟩
  have he : 0 ≤ e := by omega
  have hE := oEI_of hE0 rfl
  clear hE0 hd
  show oVv X mX5_addOrder 0 [(0, orf 600 0), (1, oi za1)] [] S
  refine o_aload_n (pc := 0) dX5_addOrder_0 rfl 0 rfl ?_
  refine o_getA (pc := 1) fd_RX5_22 ft_600_3 j_600 dX5_addOrder_1 ?_
  refine o_aload_n (pc := 4) dX5_addOrder_4 rfl 0 rfl ?_
  refine o_getI (pc := 5) fd_RX5_53 ft_600_10 j_600 dX5_addOrder_5 ?_
  refine o_iload_n (pc := 8) dX5_addOrder_8 rfl 1 rfl ?_
  obtain ⟨hg, h⟩ := oH_G h
  have hgi := hg
  refine o_iast (pc := 9) kd_604 j_604 hgi dX5_addOrder_9 ?_
  refine o_nmS (fun zS1 hx => ?_)
  have h := oH_let h zS1 hx
  clear hx
  refine o_aload_n (pc := 10) dX5_addOrder_10 rfl 0 rfl ?_
  refine o_dup (pc := 11) dX5_addOrder_11 rfl ?_
  refine o_getI (pc := 12) fd_RX5_53 ft_600_10 j_600 dX5_addOrder_12 ?_
  refine o_iconst (v := 1) (pc := 15) dX5_addOrder_15 (by decide) ?_
  refine o_iadd (pc := 16) dX5_addOrder_16 ?_
  refine o_putI (pc := 17) fd_RX5_53 fp_600_10 ft_600_10 rfl rfl j_600 dX5_addOrder_17 ?_
  refine o_nmS (fun zS2 hx => ?_)
  have h := oH_let h zS2 hx
  clear hx
  refine o_aload_n (pc := 20) dX5_addOrder_20 rfl 0 rfl ?_
  refine o_getI (pc := 21) fd_RX5_53 ft_600_10 j_600 dX5_addOrder_21 ?_
  refine o_iconst (v := 1) (pc := 24) dX5_addOrder_24 (by decide) ?_
  refine o_isub (pc := 25) dX5_addOrder_25 ?_
  exact hE _ _ _ _ dX5_addOrder_26 (oH_some h)
def f_X5_bakesWell_K139 (zv1 : Int32) (zv4 : Int32) (zv5 : Int32) (zv6 : Int32) (zv7 : Int32) (zv9 : Int32) (zs0 : Int32) (zs1 : Int32) (S : oS) : Option ((Int32 × Int32 × Int32 × oS) ⊕ (Int32 × Int32 × oS)) :=
  oLet ((zs0 + zs1)) fun zx7 =>
  oLet (zv9 + (1 : Int32)) fun zx8 =>
  some (Sum.inl (zv7, zx7, zx8, S))
set_option maxHeartbeats 4000000 in
theorem s_X5_bakesWell_K139 {X : oX} {e : Nat} (he : 2 ≤ e) (hR : oRoom X (e + 1)) {zv1 : Int32} {zv4 : Int32} {zv5 : Int32} {zv6 : Int32} {zv7 : Int32} {zv9 : Int32} {zs0 : Int32} {zs1 : Int32} {VH : Int32 × Int32 × Int32 × oS → Prop} {VE : Int32 × Int32 × oS → Prop} (hVH : ∀ z, VH z → oVv X mX5_bakesWell 75 [(0, orf 600 0), (1, oi zv1), (4, oi zv4), (5, oi zv5), (6, oi zv6), (7, oi z.1), (8, oi z.2.1), (9, oi z.2.2.1)] [] z.2.2.2) (hVE : ∀ z, VE z → oVv X mX5_bakesWell 148 [(0, orf 600 0), (1, oi zv1), (5, oi zv5), (6, oi zv6), (7, oi z.1), (8, oi z.2.1)] [] z.2.2) {S : oS} (h : oH (f_X5_bakesWell_K139 zv1 zv4 zv5 zv6 zv7 zv9 zs0 zs1 S) (fun z => Sum.elim VH VE z)) : oVv X mX5_bakesWell 139 [(0, orf 600 0), (1, oi zv1), (4, oi zv4), (5, oi zv5), (6, oi zv6), (7, oi zv7), (9, oi zv9)] [oi zs1, oi zs0] S := by
  unfold f_X5_bakesWell_K139 at h
  refine o_iadd (pc := 139) dX5_bakesWell_139 ?_
  refine o_nmI (fun zx7 hx => ?_)
  have h := oH_let h zx7 hx
  clear hx
  refine o_istore (lv1 := [(0, orf 600 0), (1, oi zv1), (4, oi zv4), (5, oi zv5), (6, oi zv6), (7, oi zv7), (8, oi zx7), (9, oi zv9)]) (pc := 140) dX5_bakesWell_140 (by decide) rfl ?_
  obtain ⟨zx8, hx⟩ : ∃ y : Int32, y = zv9 + (1 : Int32) := ⟨_, rfl⟩
  have h := oH_let h zx8 hx
  refine o_iinc (lv1 := [(0, orf 600 0), (1, oi zv1), (4, oi zv4), (5, oi zv5), (6, oi zv6), (7, oi zv7), (8, oi zx7), (9, oi zx8)]) (pc := 142) dX5_bakesWell_142 7 rfl hx.symm (by decide) rfl ?_
  clear hx
  refine o_goto 75 (pc := 145) dX5_bakesWell_145 (by decide) ?_
  exact hVH _ (oH_some (P := fun z => Sum.elim VH VE z) h)
def f_X5_bakesWell_K123 (zv1 : Int32) (zv4 : Int32) (zv5 : Int32) (zv6 : Int32) (zv8 : Int32) (zv9 : Int32) (zv10 : Int32) (zs0 : Int32) (zs1 : Int32) (S : oS) : Option ((Int32 × Int32 × Int32 × oS) ⊕ (Int32 × Int32 × oS)) :=
  oLet ((zs0 + zs1)) fun zx6 =>
  if zv10 = (1 : Int32) then (
  f_X5_bakesWell_K139 zv1 zv4 zv5 zv6 zx6 zv9 zv8 (1 : Int32) S) else (
  f_X5_bakesWell_K139 zv1 zv4 zv5 zv6 zx6 zv9 zv8 (0 : Int32) S)
set_option maxHeartbeats 4000000 in
theorem s_X5_bakesWell_K123 {X : oX} {e : Nat} (he : 2 ≤ e) (hR : oRoom X (e + 1)) {zv1 : Int32} {zv4 : Int32} {zv5 : Int32} {zv6 : Int32} {zv8 : Int32} {zv9 : Int32} {zv10 : Int32} {zs0 : Int32} {zs1 : Int32} {VH : Int32 × Int32 × Int32 × oS → Prop} {VE : Int32 × Int32 × oS → Prop} (hVH : ∀ z, VH z → oVv X mX5_bakesWell 75 [(0, orf 600 0), (1, oi zv1), (4, oi zv4), (5, oi zv5), (6, oi zv6), (7, oi z.1), (8, oi z.2.1), (9, oi z.2.2.1)] [] z.2.2.2) (hVE : ∀ z, VE z → oVv X mX5_bakesWell 148 [(0, orf 600 0), (1, oi zv1), (5, oi zv5), (6, oi zv6), (7, oi z.1), (8, oi z.2.1)] [] z.2.2) {S : oS} (h : oH (f_X5_bakesWell_K123 zv1 zv4 zv5 zv6 zv8 zv9 zv10 zs0 zs1 S) (fun z => Sum.elim VH VE z)) : oVv X mX5_bakesWell 123 [(0, orf 600 0), (1, oi zv1), (4, oi zv4), (5, oi zv5), (6, oi zv6), (8, oi zv8), (9, oi zv9), (10, oi zv10)] [oi zs1, oi zs0] S := by
  unfold f_X5_bakesWell_K123 at h
  refine o_iadd (pc := 123) dX5_bakesWell_123 ?_
  refine o_nmI (fun zx6 hx => ?_)
  have h := oH_let h zx6 hx
  clear hx
  refine o_istore (lv1 := [(0, orf 600 0), (1, oi zv1), (4, oi zv4), (5, oi zv5), (6, oi zv6), (7, oi zx6), (8, oi zv8), (9, oi zv9), (10, oi zv10)]) (pc := 124) dX5_bakesWell_124 (by decide) rfl ?_
  refine o_iload (pc := 126) dX5_bakesWell_126 6 rfl ?_
  refine o_iload (pc := 128) dX5_bakesWell_128 8 rfl ?_
  refine o_iconst (v := 1) (pc := 130) dX5_bakesWell_130 (by decide) ?_
  refine o_icmp_ne 138 (pc := 131) dX5_bakesWell_131 (by decide) (fun hc => ?_) (fun hc => ?_)
  · have h := oH_F hc h
    refine o_iconst (v := 0) (pc := 138) dX5_bakesWell_138 (by decide) ?_
    refine o_weak [0, 1, 2, 3, 4, 5, 7] rfl ?_
    exact s_X5_bakesWell_K139 he hR  hVH hVE h
  · have h := oH_T hc h
    refine o_iconst (v := 1) (pc := 134) dX5_bakesWell_134 (by decide) ?_
    refine o_goto 139 (pc := 135) dX5_bakesWell_135 (by decide) ?_
    refine o_weak [0, 1, 2, 3, 4, 5, 7] rfl ?_
    exact s_X5_bakesWell_K139 he hR  hVH hVE h
def f_X5_bakesWell_L75 (zv1 : Int32) (zv4 : Int32) (zv5 : Int32) (zv6 : Int32) : Int32 × Int32 × Int32 × oS → Option ((Int32 × Int32 × Int32 × oS) ⊕ (Int32 × Int32 × oS)) := fun w =>
  match w with
  | (zv7, zv8, zv9, S) =>
    if zv6 ≤ zv9 then (
    some (Sum.inr (zv7, zv8, S))) else (
    if oIn ((zv9 * (4 : Int32)) + zv4) 160 then (
    (f_X1_lookAt zv1 ((zv9 - zv5) + (1 : Int32)) (S.2 603 0 (Int32.toNatClampNeg ((zv9 * (4 : Int32)) + zv4))) S).bind fun zz5 =>
    if zz5.1 = 0 then (
    f_X5_bakesWell_K123 zv1 zv4 zv5 zv6 zv8 zv9 zz5.1 zv7 (1 : Int32) zz5.2) else (
    f_X5_bakesWell_K123 zv1 zv4 zv5 zv6 zv8 zv9 zz5.1 zv7 (0 : Int32) zz5.2)) else none)
set_option maxHeartbeats 4000000 in
theorem s_X5_bakesWell_L75b {X : oX} {e : Nat} (he : 2 ≤ e) (hR : oRoom X (e + 1)) {zv1 : Int32} {zv4 : Int32} {zv5 : Int32} {zv6 : Int32} {VH : Int32 × Int32 × Int32 × oS → Prop} {VE : Int32 × Int32 × oS → Prop} (hVH : ∀ z, VH z → oVv X mX5_bakesWell 75 [(0, orf 600 0), (1, oi zv1), (4, oi zv4), (5, oi zv5), (6, oi zv6), (7, oi z.1), (8, oi z.2.1), (9, oi z.2.2.1)] [] z.2.2.2) (hVE : ∀ z, VE z → oVv X mX5_bakesWell 148 [(0, orf 600 0), (1, oi zv1), (5, oi zv5), (6, oi zv6), (7, oi z.1), (8, oi z.2.1)] [] z.2.2) {zv7 : Int32} {zv8 : Int32} {zv9 : Int32} {S : oS} (h : oH (f_X5_bakesWell_L75 zv1 zv4 zv5 zv6 (zv7, zv8, zv9, S)) (fun z => Sum.elim VH VE z)) : oVv X mX5_bakesWell 75 [(0, orf 600 0), (1, oi zv1), (4, oi zv4), (5, oi zv5), (6, oi zv6), (7, oi zv7), (8, oi zv8), (9, oi zv9)] [] S := by
  dsimp only [f_X5_bakesWell_L75] at h
  refine o_iload (pc := 75) dX5_bakesWell_75 7 rfl ?_
  refine o_iload (pc := 77) dX5_bakesWell_77 4 rfl ?_
  refine o_icmp_ge 148 (pc := 79) dX5_bakesWell_79 (by decide) (fun hc => ?_) (fun hc => ?_)
  · have h := oH_T hc h
    refine o_weak [0, 1, 3, 4, 5, 6] rfl ?_
    exact hVE _ (oH_some (P := fun z => Sum.elim VH VE z) h)
  · have h := oH_F hc h
    refine o_aload_n (pc := 82) dX5_bakesWell_82 rfl 0 rfl ?_
    refine o_getF (pc := 83) fd_RX5_48 ft_600_0 j_600 dX5_bakesWell_83 ?_
    refine o_iload_n (pc := 86) dX5_bakesWell_86 rfl 1 rfl ?_
    refine o_iload (pc := 87) dX5_bakesWell_87 7 rfl ?_
    refine o_iload (pc := 89) dX5_bakesWell_89 3 rfl ?_
    refine o_isub (pc := 91) dX5_bakesWell_91 ?_
    refine o_iconst (v := 1) (pc := 92) dX5_bakesWell_92 (by decide) ?_
    refine o_iadd (pc := 93) dX5_bakesWell_93 ?_
    refine o_aload_n (pc := 94) dX5_bakesWell_94 rfl 0 rfl ?_
    refine o_getA (pc := 95) fd_RX5_18 ft_600_2 j_600 dX5_bakesWell_95 ?_
    refine o_iload (pc := 98) dX5_bakesWell_98 7 rfl ?_
    refine o_iconst (v := 4) (pc := 100) dX5_bakesWell_100 (by decide) ?_
    refine o_imul (pc := 101) dX5_bakesWell_101 ?_
    refine o_iload (pc := 102) dX5_bakesWell_102 2 rfl ?_
    refine o_iadd (pc := 104) dX5_bakesWell_104 ?_
    obtain ⟨hg, h⟩ := oH_G h
    refine o_lald (pc := 105) kd_603 j_603 hg dX5_bakesWell_105 ?_
    have h := oH_bind h
    refine o_callVi (pc := 106) (st := []) [oi zv1, oi ((zv9 - zv5) + (1 : Int32)), ol (S.2 603 0 (Int32.toNatClampNeg ((zv9 * (4 : Int32)) + zv4)))] hR md_X1_lookAt wd_662 wd_477 wd_478 tc_200 j_200 rfl (Nat.le_of_ble_eq_true rfl) rfl dX5_bakesWell_106 (s_X1_lookAt e (by omega)  h) (fun zz5 h => ?_)
    refine o_istore (lv1 := [(0, orf 600 0), (1, oi zv1), (4, oi zv4), (5, oi zv5), (6, oi zv6), (7, oi zv7), (8, oi zv8), (9, oi zv9), (10, oi zz5.1)]) (pc := 109) dX5_bakesWell_109 (by decide) rfl ?_
    refine o_iload (pc := 111) dX5_bakesWell_111 5 rfl ?_
    refine o_iload (pc := 113) dX5_bakesWell_113 8 rfl ?_
    refine o_if_ne 122 (pc := 115) dX5_bakesWell_115 (by decide) (fun hc => ?_) (fun hc => ?_)
    · have h := oH_F hc h
      refine o_iconst (v := 0) (pc := 122) dX5_bakesWell_122 (by decide) ?_
      refine o_weak [0, 1, 2, 3, 4, 6, 7, 8] rfl ?_
      exact s_X5_bakesWell_K123 he hR  hVH hVE h
    · have h := oH_T hc h
      refine o_iconst (v := 1) (pc := 118) dX5_bakesWell_118 (by decide) ?_
      refine o_goto 123 (pc := 119) dX5_bakesWell_119 (by decide) ?_
      refine o_weak [0, 1, 2, 3, 4, 6, 7, 8] rfl ?_
      exact s_X5_bakesWell_K123 he hR  hVH hVE h
theorem s_X5_bakesWell_L75 {X : oX} {e : Nat} (he : 2 ≤ e) (hR : oRoom X (e + 1)) {zv1 : Int32} {zv4 : Int32} {zv5 : Int32} {zv6 : Int32}  {VE : Int32 × Int32 × oS → Prop} (hVE : ∀ z, VE z → oVv X mX5_bakesWell 148 [(0, orf 600 0), (1, oi zv1), (5, oi zv5), (6, oi zv6), (7, oi z.1), (8, oi z.2.1)] [] z.2.2) (n : Nat) (w : Int32 × Int32 × Int32 × oS) (h : oH (oLp (f_X5_bakesWell_L75 zv1 zv4 zv5 zv6) n w) VE) : oVv X mX5_bakesWell 75 [(0, orf 600 0), (1, oi zv1), (4, oi zv4), (5, oi zv5), (6, oi zv6), (7, oi w.1), (8, oi w.2.1), (9, oi w.2.2.1)] [] w.2.2.2 :=
  oLp_s (VH := fun w => oVv X mX5_bakesWell 75 [(0, orf 600 0), (1, oi zv1), (4, oi zv4), (5, oi zv5), (6, oi zv6), (7, oi w.1), (8, oi w.2.1), (9, oi w.2.2.1)] [] w.2.2.2) (fun w h => s_X5_bakesWell_L75b he hR  (fun _ h => h) hVE h) n w h
def f_X5_bakesWell  (za1 : Int32) (za2 : Int32) (S : oS) : Option (Int32 × oS) :=
  oLet ((za2 / (4 : Int32))) fun zx1 =>
  oLet ((za2 - za2 / (4 : Int32) * (4 : Int32))) fun zx2 =>
  if oIn zx1 3 then (
  if (S.1 600 0 11) ≤ (oPOUT (Int32.toNatClampNeg zx1)) then (
  some ((0 : Int32), S)) else (
  if oIn za1 8 then (
  if oIn zx2 4 then (
  if (S.1 201 0 (Int32.toNatClampNeg za1)) ≤ (oROOM (Int32.toNatClampNeg zx2)) then (
  if oIn zx1 3 then (
  if oIn (oPIN (Int32.toNatClampNeg zx1)) 3 then (
  oLet (S.1 605 0 (Int32.toNatClampNeg (oPIN (Int32.toNatClampNeg zx1)))) fun zx3 =>
  if oIn zx1 3 then (
  if oIn (oPOUT (Int32.toNatClampNeg zx1)) 3 then (
  oLet (S.1 605 0 (Int32.toNatClampNeg (oPOUT (Int32.toNatClampNeg zx1)))) fun zx4 =>
  (oLp (f_X5_bakesWell_L75 za1 zx2 zx3 zx4) oFu ((0 : Int32), (0 : Int32), zx3, S)).bind fun zz9 =>
  (f_X1_resultOf za1 (zx4 - zx3) zz9.1 zz9.2.1 zz9.2.2).bind fun zz10 =>
  if zz10.1 = (1 : Int32) then (
  some ((1 : Int32), zz10.2)) else (
  some ((0 : Int32), zz10.2))) else none) else none) else none) else none) else (
  some ((0 : Int32), S))) else none) else none)) else none
set_option maxHeartbeats 4000000 in
theorem s_X5_bakesWell {G : oG} {r : oR} (d : Nat) (hd : 3 ≤ d) {za1 : Int32} {za2 : Int32}  {S : oS} {P : Int32 × oS → Prop} (h : oH (f_X5_bakesWell za1 za2 S) P) : oCt G r d yX5_bakesWell mX5_bakesWell [orf 600 0, oi za1, oi za2] S (oQi P) := by
  unfold f_X5_bakesWell at h
  refine oCt_of (by decide) rfl (Nat.le_of_ble_eq_true rfl) ?_
  intro X hG hr hE0 hR
  subst hG; subst hr
  obtain ⟨e, rfl⟩ : ∃ e, d = e + 1 := ⟨d - 1, by omega⟩
  have he : 2 ≤ e := by omega
  have hE := oEZ_of hE0 rfl
  clear hE0 hd
  show oVv X mX5_bakesWell 0 [(0, orf 600 0), (1, oi za1), (2, oi za2)] [] S
  refine o_iload_n (pc := 0) dX5_bakesWell_0 rfl 2 rfl ?_
  refine o_iconst (v := 4) (pc := 1) dX5_bakesWell_1 (by decide) ?_
  refine o_idiv (pc := 2) dX5_bakesWell_2 (by decide) ?_
  refine o_nmI (fun zx1 hx => ?_)
  have h := oH_let h zx1 hx
  clear hx
  refine o_istore_n (lv1 := [(0, orf 600 0), (1, oi za1), (2, oi za2), (3, oi zx1)]) (pc := 3) dX5_bakesWell_3 rfl (by decide) rfl ?_
  refine o_iload_n (pc := 4) dX5_bakesWell_4 rfl 2 rfl ?_
  refine o_iconst (v := 4) (pc := 5) dX5_bakesWell_5 (by decide) ?_
  refine o_irem (pc := 6) dX5_bakesWell_6 (by decide) ?_
  refine o_nmI (fun zx2 hx => ?_)
  have h := oH_let h zx2 hx
  clear hx
  refine o_istore (lv1 := [(0, orf 600 0), (1, oi za1), (2, oi za2), (3, oi zx1), (4, oi zx2)]) (pc := 7) dX5_bakesWell_7 (by decide) rfl ?_
  refine o_getsN (i := 4) (host := "VillageOven") (pc := 9) (by decide) (by decide +kernel) dX5_bakesWell_9 ?_
  refine o_iload_n (pc := 12) dX5_bakesWell_12 rfl 3 rfl ?_
  obtain ⟨hg, h⟩ := oH_G h
  refine o_sald_2004 (pc := 13) hg dX5_bakesWell_13 ?_
  refine o_aload_n (pc := 14) dX5_bakesWell_14 rfl 0 rfl ?_
  refine o_getI (pc := 15) fd_RX5_57 ft_600_11 j_600 dX5_bakesWell_15 ?_
  refine o_icmp_ge 39 (pc := 18) dX5_bakesWell_18 (by decide) (fun hc => ?_) (fun hc => ?_)
  · have h := oH_T hc h
    refine o_iconst (v := 0) (pc := 39) dX5_bakesWell_39 (by decide) ?_
    exact hE _ _ _ _ dX5_bakesWell_40 (by decide) (oH_some h)
  · have h := oH_F hc h
    refine o_aload_n (pc := 21) dX5_bakesWell_21 rfl 0 rfl ?_
    refine o_getF (pc := 22) fd_RX5_48 ft_600_0 j_600 dX5_bakesWell_22 ?_
    refine o_getA (pc := 25) fd_RX5_120 ft_200_0 j_200 dX5_bakesWell_25 ?_
    refine o_iload_n (pc := 28) dX5_bakesWell_28 rfl 1 rfl ?_
    obtain ⟨hg, h⟩ := oH_G h
    refine o_iald (pc := 29) kd_201 j_201 hg dX5_bakesWell_29 ?_
    refine o_getsN (i := 1) (host := "VillageOven") (pc := 30) (by decide) (by decide +kernel) dX5_bakesWell_30 ?_
    refine o_iload (pc := 33) dX5_bakesWell_33 4 rfl ?_
    obtain ⟨hg, h⟩ := oH_G h
    refine o_sald_2001 (pc := 35) hg dX5_bakesWell_35 ?_
    refine o_icmp_le 41 (pc := 36) dX5_bakesWell_36 (by decide) (fun hc => ?_) (fun hc => ?_)
    · have h := oH_T hc h
      refine o_aload_n (pc := 41) dX5_bakesWell_41 rfl 0 rfl ?_
      refine o_getA (pc := 42) fd_RX5_26 ft_600_4 j_600 dX5_bakesWell_42 ?_
      refine o_getsN (i := 3) (host := "VillageOven") (pc := 45) (by decide) (by decide +kernel) dX5_bakesWell_45 ?_
      refine o_iload_n (pc := 48) dX5_bakesWell_48 rfl 3 rfl ?_
      obtain ⟨hg, h⟩ := oH_G h
      refine o_sald_2003 (pc := 49) hg dX5_bakesWell_49 ?_
      obtain ⟨hg, h⟩ := oH_G h
      refine o_iald (pc := 50) kd_605 j_605 hg dX5_bakesWell_50 ?_
      refine o_nmI (fun zx3 hx => ?_)
      have h := oH_let h zx3 hx
      clear hx
      refine o_istore (lv1 := [(0, orf 600 0), (1, oi za1), (2, oi za2), (3, oi zx1), (4, oi zx2), (5, oi zx3)]) (pc := 51) dX5_bakesWell_51 (by decide) rfl ?_
      refine o_aload_n (pc := 53) dX5_bakesWell_53 rfl 0 rfl ?_
      refine o_getA (pc := 54) fd_RX5_26 ft_600_4 j_600 dX5_bakesWell_54 ?_
      refine o_getsN (i := 4) (host := "VillageOven") (pc := 57) (by decide) (by decide +kernel) dX5_bakesWell_57 ?_
      refine o_iload_n (pc := 60) dX5_bakesWell_60 rfl 3 rfl ?_
      obtain ⟨hg, h⟩ := oH_G h
      refine o_sald_2004 (pc := 61) hg dX5_bakesWell_61 ?_
      obtain ⟨hg, h⟩ := oH_G h
      refine o_iald (pc := 62) kd_605 j_605 hg dX5_bakesWell_62 ?_
      refine o_nmI (fun zx4 hx => ?_)
      have h := oH_let h zx4 hx
      clear hx
      refine o_istore (lv1 := [(0, orf 600 0), (1, oi za1), (2, oi za2), (3, oi zx1), (4, oi zx2), (5, oi zx3), (6, oi zx4)]) (pc := 63) dX5_bakesWell_63 (by decide) rfl ?_
      refine o_iconst (v := 0) (pc := 65) dX5_bakesWell_65 (by decide) ?_
      refine o_istore (lv1 := [(0, orf 600 0), (1, oi za1), (2, oi za2), (3, oi zx1), (4, oi zx2), (5, oi zx3), (6, oi zx4), (7, oi (0 : Int32))]) (pc := 66) dX5_bakesWell_66 (by decide) rfl ?_
      refine o_iconst (v := 0) (pc := 68) dX5_bakesWell_68 (by decide) ?_
      refine o_istore (lv1 := [(0, orf 600 0), (1, oi za1), (2, oi za2), (3, oi zx1), (4, oi zx2), (5, oi zx3), (6, oi zx4), (7, oi (0 : Int32)), (8, oi (0 : Int32))]) (pc := 69) dX5_bakesWell_69 (by decide) rfl ?_
      refine o_iload (pc := 71) dX5_bakesWell_71 5 rfl ?_
      refine o_istore (lv1 := [(0, orf 600 0), (1, oi za1), (2, oi za2), (3, oi zx1), (4, oi zx2), (5, oi zx3), (6, oi zx4), (7, oi (0 : Int32)), (8, oi (0 : Int32)), (9, oi zx3)]) (pc := 73) dX5_bakesWell_73 (by decide) rfl ?_
      refine o_weak [0, 1, 4, 5, 6, 7, 8, 9] rfl ?_
      have h := oH_bind h
      refine s_X5_bakesWell_L75 he hR  (fun zz9 h => ?_) _ ((0 : Int32), (0 : Int32), zx3, S) h
      refine o_aload_n (pc := 148) dX5_bakesWell_148 rfl 0 rfl ?_
      refine o_getF (pc := 149) fd_RX5_48 ft_600_0 j_600 dX5_bakesWell_149 ?_
      refine o_iload_n (pc := 152) dX5_bakesWell_152 rfl 1 rfl ?_
      refine o_iload (pc := 153) dX5_bakesWell_153 3 rfl ?_
      refine o_iload (pc := 155) dX5_bakesWell_155 2 rfl ?_
      refine o_isub (pc := 157) dX5_bakesWell_157 ?_
      refine o_iload (pc := 158) dX5_bakesWell_158 4 rfl ?_
      refine o_iload (pc := 160) dX5_bakesWell_160 5 rfl ?_
      have h := oH_bind h
      refine o_callVi (pc := 162) (st := []) [oi za1, oi (zx4 - zx3), oi zz9.1, oi zz9.2.1] hR md_X1_resultOf wd_663 wd_586 wd_587 tc_200 j_200 rfl (Nat.le_of_ble_eq_true rfl) rfl dX5_bakesWell_162 (s_X1_resultOf e (by omega)  h) (fun zz10 h => ?_)
      refine o_iconst (v := 1) (pc := 165) dX5_bakesWell_165 (by decide) ?_
      refine o_icmp_ne 173 (pc := 166) dX5_bakesWell_166 (by decide) (fun hc => ?_) (fun hc => ?_)
      · have h := oH_F hc h
        refine o_iconst (v := 0) (pc := 173) dX5_bakesWell_173 (by decide) ?_
        exact hE _ _ _ _ dX5_bakesWell_174 (by decide) (oH_some h)
      · have h := oH_T hc h
        refine o_iconst (v := 1) (pc := 169) dX5_bakesWell_169 (by decide) ?_
        refine o_goto 174 (pc := 170) dX5_bakesWell_170 (by decide) ?_
        exact hE _ _ _ _ dX5_bakesWell_174 (by decide) (oH_some h)
    · have h := oH_F hc h
      refine o_iconst (v := 0) (pc := 39) dX5_bakesWell_39 (by decide) ?_
      exact hE _ _ _ _ dX5_bakesWell_40 (by decide) (oH_some h)
def f_X5_judgeChoices_K71 (zv1 : Int32) (zv3 : Int32) (zs0 : Int32) (S : oS) : Option ((Int32 × Int32 × oS) ⊕ (Int32 × oS)) :=
  oLet (zv3 + (1 : Int32)) fun zx5 =>
  some (Sum.inl (zs0, zx5, S))
set_option maxHeartbeats 4000000 in
theorem s_X5_judgeChoices_K71 {X : oX} {e : Nat} (he : 3 ≤ e) (hR : oRoom X (e + 1)) {zv1 : Int32} {zv3 : Int32} {zs0 : Int32} {VH : Int32 × Int32 × oS → Prop} {VE : Int32 × oS → Prop} (hVH : ∀ z, VH z → oVv X mX5_judgeChoices 25 [(0, orf 600 0), (1, oi zv1), (2, oi z.1), (3, oi z.2.1)] [] z.2.2) (hVE : ∀ z, VE z → oVv X mX5_judgeChoices 78 [(0, orf 600 0), (1, oi zv1), (2, oi z.1)] [] z.2) {S : oS} (h : oH (f_X5_judgeChoices_K71 zv1 zv3 zs0 S) (fun z => Sum.elim VH VE z)) : oVv X mX5_judgeChoices 71 [(0, orf 600 0), (1, oi zv1), (3, oi zv3)] [oi zs0] S := by
  unfold f_X5_judgeChoices_K71 at h
  refine o_istore_n (lv1 := [(0, orf 600 0), (1, oi zv1), (2, oi zs0), (3, oi zv3)]) (pc := 71) dX5_judgeChoices_71 rfl (by decide) rfl ?_
  obtain ⟨zx5, hx⟩ : ∃ y : Int32, y = zv3 + (1 : Int32) := ⟨_, rfl⟩
  have h := oH_let h zx5 hx
  refine o_iinc (lv1 := [(0, orf 600 0), (1, oi zv1), (2, oi zs0), (3, oi zx5)]) (pc := 72) dX5_judgeChoices_72 3 rfl hx.symm (by decide) rfl ?_
  clear hx
  refine o_goto 25 (pc := 75) dX5_judgeChoices_75 (by decide) ?_
  exact hVH _ (oH_some (P := fun z => Sum.elim VH VE z) h)
def f_X5_judgeChoices_K66 (zv1 : Int32) (zv3 : Int32) (S : oS) : Option ((Int32 × Int32 × oS) ⊕ (Int32 × oS)) :=
  f_X5_judgeChoices_K71 zv1 zv3 (1 : Int32) S
set_option maxHeartbeats 4000000 in
theorem s_X5_judgeChoices_K66 {X : oX} {e : Nat} (he : 3 ≤ e) (hR : oRoom X (e + 1)) {zv1 : Int32} {zv3 : Int32} {VH : Int32 × Int32 × oS → Prop} {VE : Int32 × oS → Prop} (hVH : ∀ z, VH z → oVv X mX5_judgeChoices 25 [(0, orf 600 0), (1, oi zv1), (2, oi z.1), (3, oi z.2.1)] [] z.2.2) (hVE : ∀ z, VE z → oVv X mX5_judgeChoices 78 [(0, orf 600 0), (1, oi zv1), (2, oi z.1)] [] z.2) {S : oS} (h : oH (f_X5_judgeChoices_K66 zv1 zv3 S) (fun z => Sum.elim VH VE z)) : oVv X mX5_judgeChoices 66 [(0, orf 600 0), (1, oi zv1), (3, oi zv3)] [] S := by
  unfold f_X5_judgeChoices_K66 at h
  refine o_iconst (v := 1) (pc := 66) dX5_judgeChoices_66 (by decide) ?_
  refine o_goto 71 (pc := 67) dX5_judgeChoices_67 (by decide) ?_
  exact s_X5_judgeChoices_K71 he hR  hVH hVE h
def f_X5_judgeChoices_L25 (zv1 : Int32) : Int32 × Int32 × oS → Option ((Int32 × Int32 × oS) ⊕ (Int32 × oS)) := fun w =>
  match w with
  | (zv2, zv3, S) =>
    if (12 : Int32) ≤ zv3 then (
    some (Sum.inr (zv2, S))) else (
    if oIn zv1 4 then (
    (f_X5_bakesWell (S.1 604 0 (Int32.toNatClampNeg zv1)) zv3 S).bind fun zz3 =>
    if oIn ((zv1 * (12 : Int32)) + zv3) 48 then (
    if oBl zz3.1 then (
    oLet (oStI zz3.2 606 0 (Int32.toNatClampNeg ((zv1 * (12 : Int32)) + zv3)) zz3.1) fun zS4 =>
    if zv2 = 0 then (
    if zz3.1 = 0 then (
    f_X5_judgeChoices_K71 zv1 zv3 (0 : Int32) zS4) else (
    f_X5_judgeChoices_K66 zv1 zv3 zS4)) else (
    f_X5_judgeChoices_K66 zv1 zv3 zS4)) else none) else none) else none)
set_option maxHeartbeats 4000000 in
theorem s_X5_judgeChoices_L25b {X : oX} {e : Nat} (he : 3 ≤ e) (hR : oRoom X (e + 1)) {zv1 : Int32} {VH : Int32 × Int32 × oS → Prop} {VE : Int32 × oS → Prop} (hVH : ∀ z, VH z → oVv X mX5_judgeChoices 25 [(0, orf 600 0), (1, oi zv1), (2, oi z.1), (3, oi z.2.1)] [] z.2.2) (hVE : ∀ z, VE z → oVv X mX5_judgeChoices 78 [(0, orf 600 0), (1, oi zv1), (2, oi z.1)] [] z.2) {zv2 : Int32} {zv3 : Int32} {S : oS} (h : oH (f_X5_judgeChoices_L25 zv1 (zv2, zv3, S)) (fun z => Sum.elim VH VE z)) : oVv X mX5_judgeChoices 25 [(0, orf 600 0), (1, oi zv1), (2, oi zv2), (3, oi zv3)] [] S := by
  dsimp only [f_X5_judgeChoices_L25] at h
  refine o_iload_n (pc := 25) dX5_judgeChoices_25 rfl 3 rfl ?_
  refine o_bipush (v := 12) (pc := 26) dX5_judgeChoices_26 (by decide) ?_
  refine o_icmp_ge 78 (pc := 28) dX5_judgeChoices_28 (by decide) (fun hc => ?_) (fun hc => ?_)
  · have h := oH_T hc h
    refine o_weak [0, 1, 2] rfl ?_
    exact hVE _ (oH_some (P := fun z => Sum.elim VH VE z) h)
  · have h := oH_F hc h
    refine o_aload_n (pc := 31) dX5_judgeChoices_31 rfl 0 rfl ?_
    refine o_aload_n (pc := 32) dX5_judgeChoices_32 rfl 0 rfl ?_
    refine o_getA (pc := 33) fd_RX5_22 ft_600_3 j_600 dX5_judgeChoices_33 ?_
    refine o_iload_n (pc := 36) dX5_judgeChoices_36 rfl 1 rfl ?_
    obtain ⟨hg, h⟩ := oH_G h
    refine o_iald (pc := 37) kd_604 j_604 hg dX5_judgeChoices_37 ?_
    refine o_iload_n (pc := 38) dX5_judgeChoices_38 rfl 3 rfl ?_
    have h := oH_bind h
    refine o_callVi (pc := 39) (st := []) [oi (S.1 604 0 (Int32.toNatClampNeg zv1)), oi zv3] hR md_X5_bakesWell wd_653 wd_655 ws_12 tc_600 j_600 rfl (Nat.le_of_ble_eq_true rfl) rfl dX5_judgeChoices_39 (s_X5_bakesWell e (by omega)  h) (fun zz3 h => ?_)
    refine o_istore (lv1 := [(0, orf 600 0), (1, oi zv1), (2, oi zv2), (3, oi zv3), (4, oi zz3.1)]) (pc := 42) dX5_judgeChoices_42 (by decide) rfl ?_
    refine o_aload_n (pc := 44) dX5_judgeChoices_44 rfl 0 rfl ?_
    refine o_getA (pc := 45) fd_RX5_29 ft_600_5 j_600 dX5_judgeChoices_45 ?_
    refine o_iload_n (pc := 48) dX5_judgeChoices_48 rfl 1 rfl ?_
    refine o_bipush (v := 12) (pc := 49) dX5_judgeChoices_49 (by decide) ?_
    refine o_imul (pc := 51) dX5_judgeChoices_51 ?_
    refine o_iload_n (pc := 52) dX5_judgeChoices_52 rfl 3 rfl ?_
    refine o_iadd (pc := 53) dX5_judgeChoices_53 ?_
    refine o_iload (pc := 54) dX5_judgeChoices_54 4 rfl ?_
    obtain ⟨hg, h⟩ := oH_G h
    have hgi := hg
    obtain ⟨hg, h⟩ := oH_G h
    refine o_zast (pc := 56) kd_606 j_606 hgi (oBl_p hg) dX5_judgeChoices_56 ?_
    refine o_nmS (fun zS4 hx => ?_)
    have h := oH_let h zS4 hx
    clear hx
    refine o_iload_n (pc := 57) dX5_judgeChoices_57 rfl 2 rfl ?_
    refine o_if_ne 66 (pc := 58) dX5_judgeChoices_58 (by decide) (fun hc => ?_) (fun hc => ?_)
    · have h := oH_F hc h
      refine o_weak [0, 1, 3] rfl ?_
      exact s_X5_judgeChoices_K66 he hR  hVH hVE h
    · have h := oH_T hc h
      refine o_iload (pc := 61) dX5_judgeChoices_61 4 rfl ?_
      refine o_if_eq 70 (pc := 63) dX5_judgeChoices_63 (by decide) (fun hc => ?_) (fun hc => ?_)
      · have h := oH_T hc h
        refine o_iconst (v := 0) (pc := 70) dX5_judgeChoices_70 (by decide) ?_
        refine o_weak [0, 1, 3] rfl ?_
        exact s_X5_judgeChoices_K71 he hR  hVH hVE h
      · have h := oH_F hc h
        refine o_weak [0, 1, 3] rfl ?_
        exact s_X5_judgeChoices_K66 he hR  hVH hVE h
theorem s_X5_judgeChoices_L25 {X : oX} {e : Nat} (he : 3 ≤ e) (hR : oRoom X (e + 1)) {zv1 : Int32}  {VE : Int32 × oS → Prop} (hVE : ∀ z, VE z → oVv X mX5_judgeChoices 78 [(0, orf 600 0), (1, oi zv1), (2, oi z.1)] [] z.2) (n : Nat) (w : Int32 × Int32 × oS) (h : oH (oLp (f_X5_judgeChoices_L25 zv1) n w) VE) : oVv X mX5_judgeChoices 25 [(0, orf 600 0), (1, oi zv1), (2, oi w.1), (3, oi w.2.1)] [] w.2.2 :=
  oLp_s (VH := fun w => oVv X mX5_judgeChoices 25 [(0, orf 600 0), (1, oi zv1), (2, oi w.1), (3, oi w.2.1)] [] w.2.2) (fun w h => s_X5_judgeChoices_L25b he hR  (fun _ h => h) hVE h) n w h
def f_X5_judgeChoices_K100 (zv1 : Int32) (zs1 : Int32) (zs2 : Int32) (zs3 : Int32) (S : oS) : Option ((Int32 × oS) ⊕ (oS)) :=
  if oIn zs1 5 then (
  oLet (oStI S 607 0 (Int32.toNatClampNeg zs1) (zs2 + zs3)) fun zS7 =>
  oLet (zv1 + (-1 : Int32)) fun zx8 =>
  some (Sum.inl (zx8, zS7))) else none
set_option maxHeartbeats 4000000 in
theorem s_X5_judgeChoices_K100 {X : oX} {e : Nat} (he : 3 ≤ e) (hR : oRoom X (e + 1)) {zv1 : Int32} {zs1 : Int32} {zs2 : Int32} {zs3 : Int32} {VH : Int32 × oS → Prop} {VE : oS → Prop} (hVH : ∀ z, VH z → oVv X mX5_judgeChoices 17 [(0, orf 600 0), (1, oi z.1)] [] z.2) (hVE : ∀ z, VE z → oVv X mX5_judgeChoices 108 [] [] z) {S : oS} (h : oH (f_X5_judgeChoices_K100 zv1 zs1 zs2 zs3 S) (fun z => Sum.elim VH VE z)) : oVv X mX5_judgeChoices 100 [(0, orf 600 0), (1, oi zv1)] [oi zs3, oi zs2, oi zs1, orf 607 0] S := by
  unfold f_X5_judgeChoices_K100 at h
  refine o_iadd (pc := 100) dX5_judgeChoices_100 ?_
  obtain ⟨hg, h⟩ := oH_G h
  have hgi := hg
  refine o_iast (pc := 101) kd_607 j_607 hgi dX5_judgeChoices_101 ?_
  refine o_nmS (fun zS7 hx => ?_)
  have h := oH_let h zS7 hx
  clear hx
  obtain ⟨zx8, hx⟩ : ∃ y : Int32, y = zv1 + (-1 : Int32) := ⟨_, rfl⟩
  have h := oH_let h zx8 hx
  refine o_iinc (lv1 := [(0, orf 600 0), (1, oi zx8)]) (pc := 102) dX5_judgeChoices_102 1 rfl hx.symm (by decide) rfl ?_
  clear hx
  refine o_goto 17 (pc := 105) dX5_judgeChoices_105 (by decide) ?_
  exact hVH _ (oH_some (P := fun z => Sum.elim VH VE z) h)
def f_X5_judgeChoices_L17  : Int32 × oS → Option ((Int32 × oS) ⊕ (oS)) := fun w =>
  match w with
  | (zv1, S) =>
    if zv1 < 0 then (
    some (Sum.inr S)) else (
    (oLp (f_X5_judgeChoices_L25 zv1) oFu ((0 : Int32), (0 : Int32), S)).bind fun zz6 =>
    if oIn (zv1 + (1 : Int32)) 5 then (
    if zz6.1 = 0 then (
    f_X5_judgeChoices_K100 zv1 zv1 (zz6.2.1 607 0 (Int32.toNatClampNeg (zv1 + (1 : Int32)))) (0 : Int32) zz6.2) else (
    f_X5_judgeChoices_K100 zv1 zv1 (zz6.2.1 607 0 (Int32.toNatClampNeg (zv1 + (1 : Int32)))) (1 : Int32) zz6.2)) else none)
set_option maxHeartbeats 4000000 in
theorem s_X5_judgeChoices_L17b {X : oX} {e : Nat} (he : 3 ≤ e) (hR : oRoom X (e + 1))  {VH : Int32 × oS → Prop} {VE : oS → Prop} (hVH : ∀ z, VH z → oVv X mX5_judgeChoices 17 [(0, orf 600 0), (1, oi z.1)] [] z.2) (hVE : ∀ z, VE z → oVv X mX5_judgeChoices 108 [] [] z) {zv1 : Int32} {S : oS} (h : oH (f_X5_judgeChoices_L17 (zv1, S)) (fun z => Sum.elim VH VE z)) : oVv X mX5_judgeChoices 17 [(0, orf 600 0), (1, oi zv1)] [] S := by
  dsimp only [f_X5_judgeChoices_L17] at h
  refine o_iload_n (pc := 17) dX5_judgeChoices_17 rfl 1 rfl ?_
  refine o_if_lt 108 (pc := 18) dX5_judgeChoices_18 (by decide) (fun hc => ?_) (fun hc => ?_)
  · have h := oH_T hc h
    refine o_weak [] rfl ?_
    exact hVE _ (oH_some (P := fun z => Sum.elim VH VE z) h)
  · have h := oH_F hc h
    refine o_iconst (v := 0) (pc := 21) dX5_judgeChoices_21 (by decide) ?_
    refine o_istore_n (lv1 := [(0, orf 600 0), (1, oi zv1), (2, oi (0 : Int32))]) (pc := 22) dX5_judgeChoices_22 rfl (by decide) rfl ?_
    refine o_iconst (v := 0) (pc := 23) dX5_judgeChoices_23 (by decide) ?_
    refine o_istore_n (lv1 := [(0, orf 600 0), (1, oi zv1), (2, oi (0 : Int32)), (3, oi (0 : Int32))]) (pc := 24) dX5_judgeChoices_24 rfl (by decide) rfl ?_
    have h := oH_bind h
    refine s_X5_judgeChoices_L25 he hR  (fun zz6 h => ?_) _ ((0 : Int32), (0 : Int32), S) h
    refine o_aload_n (pc := 78) dX5_judgeChoices_78 rfl 0 rfl ?_
    refine o_getA (pc := 79) fd_RX5_33 ft_600_6 j_600 dX5_judgeChoices_79 ?_
    refine o_iload_n (pc := 82) dX5_judgeChoices_82 rfl 1 rfl ?_
    refine o_aload_n (pc := 83) dX5_judgeChoices_83 rfl 0 rfl ?_
    refine o_getA (pc := 84) fd_RX5_33 ft_600_6 j_600 dX5_judgeChoices_84 ?_
    refine o_iload_n (pc := 87) dX5_judgeChoices_87 rfl 1 rfl ?_
    refine o_iconst (v := 1) (pc := 88) dX5_judgeChoices_88 (by decide) ?_
    refine o_iadd (pc := 89) dX5_judgeChoices_89 ?_
    obtain ⟨hg, h⟩ := oH_G h
    refine o_iald (pc := 90) kd_607 j_607 hg dX5_judgeChoices_90 ?_
    refine o_iload_n (pc := 91) dX5_judgeChoices_91 rfl 2 rfl ?_
    refine o_if_eq 99 (pc := 92) dX5_judgeChoices_92 (by decide) (fun hc => ?_) (fun hc => ?_)
    · have h := oH_T hc h
      refine o_iconst (v := 0) (pc := 99) dX5_judgeChoices_99 (by decide) ?_
      refine o_weak [0, 1] rfl ?_
      exact s_X5_judgeChoices_K100 he hR  hVH hVE h
    · have h := oH_F hc h
      refine o_iconst (v := 1) (pc := 95) dX5_judgeChoices_95 (by decide) ?_
      refine o_goto 100 (pc := 96) dX5_judgeChoices_96 (by decide) ?_
      refine o_weak [0, 1] rfl ?_
      exact s_X5_judgeChoices_K100 he hR  hVH hVE h
theorem s_X5_judgeChoices_L17 {X : oX} {e : Nat} (he : 3 ≤ e) (hR : oRoom X (e + 1))   {VE : oS → Prop} (hVE : ∀ z, VE z → oVv X mX5_judgeChoices 108 [] [] z) (n : Nat) (w : Int32 × oS) (h : oH (oLp (f_X5_judgeChoices_L17) n w) VE) : oVv X mX5_judgeChoices 17 [(0, orf 600 0), (1, oi w.1)] [] w.2 :=
  oLp_s (VH := fun w => oVv X mX5_judgeChoices 17 [(0, orf 600 0), (1, oi w.1)] [] w.2) (fun w h => s_X5_judgeChoices_L17b he hR  (fun _ h => h) hVE h) n w h
def f_X5_judgeChoices   (S : oS) : Option (oS) :=
  if oIn (S.1 600 0 10) 5 then (
  oLet (oStI S 607 0 (Int32.toNatClampNeg (S.1 600 0 10)) (0 : Int32)) fun zS1 =>
  oLet (((zS1.1 600 0 10) - (1 : Int32))) fun zx2 =>
  (oLp (f_X5_judgeChoices_L17) oFu (zx2, zS1)).bind fun zz9 =>
  some zz9) else none
set_option maxHeartbeats 4000000 in
theorem s_X5_judgeChoices {G : oG} {r : oR} (d : Nat) (hd : 4 ≤ d)   {S : oS} {P : oS → Prop} (h : oH (f_X5_judgeChoices  S) P) : oCt G r d yX5_judgeChoices mX5_judgeChoices [orf 600 0] S (oQv P) := by
  unfold f_X5_judgeChoices at h
  refine oCt_of (by decide) rfl (Nat.le_of_ble_eq_true rfl) ?_
  intro X hG hr hE0 hR
  subst hG; subst hr
  obtain ⟨e, rfl⟩ : ∃ e, d = e + 1 := ⟨d - 1, by omega⟩
  have he : 3 ≤ e := by omega
  have hE := oEV_of hE0 rfl
  clear hE0 hd
  show oVv X mX5_judgeChoices 0 [(0, orf 600 0)] [] S
  refine o_aload_n (pc := 0) dX5_judgeChoices_0 rfl 0 rfl ?_
  refine o_getA (pc := 1) fd_RX5_33 ft_600_6 j_600 dX5_judgeChoices_1 ?_
  refine o_aload_n (pc := 4) dX5_judgeChoices_4 rfl 0 rfl ?_
  refine o_getI (pc := 5) fd_RX5_53 ft_600_10 j_600 dX5_judgeChoices_5 ?_
  refine o_iconst (v := 0) (pc := 8) dX5_judgeChoices_8 (by decide) ?_
  obtain ⟨hg, h⟩ := oH_G h
  have hgi := hg
  refine o_iast (pc := 9) kd_607 j_607 hgi dX5_judgeChoices_9 ?_
  refine o_nmS (fun zS1 hx => ?_)
  have h := oH_let h zS1 hx
  clear hx
  refine o_aload_n (pc := 10) dX5_judgeChoices_10 rfl 0 rfl ?_
  refine o_getI (pc := 11) fd_RX5_53 ft_600_10 j_600 dX5_judgeChoices_11 ?_
  refine o_iconst (v := 1) (pc := 14) dX5_judgeChoices_14 (by decide) ?_
  refine o_isub (pc := 15) dX5_judgeChoices_15 ?_
  refine o_nmI (fun zx2 hx => ?_)
  have h := oH_let h zx2 hx
  clear hx
  refine o_istore_n (lv1 := [(0, orf 600 0), (1, oi zx2)]) (pc := 16) dX5_judgeChoices_16 rfl (by decide) rfl ?_
  have h := oH_bind h
  refine s_X5_judgeChoices_L17 he hR  (fun zz9 h => ?_) _ (zx2, zS1) h
  exact hE _ _ _ dX5_judgeChoices_108 (oH_some h)
def f_X5_keepIfBetter  (za1 : Int32) (S : oS) : Option (oS) :=
  if za1 ≤ (S.1 600 0 12) then (
  some S) else (
  oLet (oStI S 600 0 12 za1) fun zS1 =>
  oLet (oCpI zS1 609 0 (Int32.toNatClampNeg (0 : Int32)) 610 0 (Int32.toNatClampNeg (0 : Int32)) (Int32.toNatClampNeg (4 : Int32))) fun zS2 =>
  some zS2)
set_option maxHeartbeats 4000000 in
theorem s_X5_keepIfBetter {G : oG} {r : oR} (d : Nat) (hd : 1 ≤ d) {za1 : Int32}  {S : oS} {P : oS → Prop} (h : oH (f_X5_keepIfBetter za1 S) P) : oCt G r d yX5_keepIfBetter mX5_keepIfBetter [orf 600 0, oi za1] S (oQv P) := by
  unfold f_X5_keepIfBetter at h
  refine oCt_of (by decide) rfl (Nat.le_of_ble_eq_true rfl) ?_
  intro X hG hr hE0 hR
  subst hG; subst hr
  obtain ⟨e, rfl⟩ : ∃ e, d = e + 1 := ⟨d - 1, by omega⟩
  have he : 0 ≤ e := by omega
  have hE := oEV_of hE0 rfl
  clear hE0 hd
  show oVv X mX5_keepIfBetter 0 [(0, orf 600 0), (1, oi za1)] [] S
  refine o_iload_n (pc := 0) dX5_keepIfBetter_0 rfl 1 rfl ?_
  refine o_aload_n (pc := 1) dX5_keepIfBetter_1 rfl 0 rfl ?_
  refine o_getI (pc := 2) fd_RX5_91 ft_600_12 j_600 dX5_keepIfBetter_2 ?_
  refine o_icmp_le 27 (pc := 5) dX5_keepIfBetter_5 (by decide) (fun hc => ?_) (fun hc => ?_)
  · have h := oH_T hc h
    exact hE _ _ _ dX5_keepIfBetter_27 (oH_some h)
  · have h := oH_F hc h
    refine o_aload_n (pc := 8) dX5_keepIfBetter_8 rfl 0 rfl ?_
    refine o_iload_n (pc := 9) dX5_keepIfBetter_9 rfl 1 rfl ?_
    refine o_putI (pc := 10) fd_RX5_91 fp_600_12 ft_600_12 rfl rfl j_600 dX5_keepIfBetter_10 ?_
    refine o_nmS (fun zS1 hx => ?_)
    have h := oH_let h zS1 hx
    clear hx
    refine o_aload_n (pc := 13) dX5_keepIfBetter_13 rfl 0 rfl ?_
    refine o_getA (pc := 14) fd_RX5_42 ft_600_8 j_600 dX5_keepIfBetter_14 ?_
    refine o_iconst (v := 0) (pc := 17) dX5_keepIfBetter_17 (by decide) ?_
    refine o_aload_n (pc := 18) dX5_keepIfBetter_18 rfl 0 rfl ?_
    refine o_getA (pc := 19) fd_RX5_45 ft_600_9 j_600 dX5_keepIfBetter_19 ?_
    refine o_iconst (v := 0) (pc := 22) dX5_keepIfBetter_22 (by decide) ?_
    refine o_iconst (v := 4) (pc := 23) dX5_keepIfBetter_23 (by decide) ?_
    refine o_copyI (pc := 24) (oRoom_1 hR) wd_671 kd_609 kd_610 j_609 j_610 (by decide) rfl dX5_keepIfBetter_24 ?_
    refine o_nmS (fun zS2 hx => ?_)
    have h := oH_let h zS2 hx
    clear hx
    exact hE _ _ _ dX5_keepIfBetter_27 (oH_some h)
def f_X5_occupy_K86 (zv1 : Int32) (zv3 : Int32) (zv4 : Int32) (zv5 : Int32) (zv7 : Int32) (zs0 : Int32) (S : oS) : Option ((Int32 × Int32 × oS) ⊕ (Int32 × oS)) :=
  oLet (zv7 + (1 : Int32)) fun zx6 =>
  some (Sum.inl (zs0, zx6, S))
set_option maxHeartbeats 4000000 in
theorem s_X5_occupy_K86 {X : oX} {e : Nat} (he : 1 ≤ e) (hR : oRoom X (e + 1)) {zv1 : Int32} {zv3 : Int32} {zv4 : Int32} {zv5 : Int32} {zv7 : Int32} {zs0 : Int32} {VH : Int32 × Int32 × oS → Prop} {VE : Int32 × oS → Prop} (hVH : ∀ z, VH z → oVv X mX5_occupy 21 [(0, orf 600 0), (1, oi zv1), (3, oi zv3), (4, oi zv4), (5, oi zv5), (6, oi z.1), (7, oi z.2.1)] [] z.2.2) (hVE : ∀ z, VE z → oVv X mX5_occupy 94 [(6, oi z.1)] [] z.2) {S : oS} (h : oH (f_X5_occupy_K86 zv1 zv3 zv4 zv5 zv7 zs0 S) (fun z => Sum.elim VH VE z)) : oVv X mX5_occupy 86 [(0, orf 600 0), (1, oi zv1), (3, oi zv3), (4, oi zv4), (5, oi zv5), (7, oi zv7)] [oi zs0] S := by
  unfold f_X5_occupy_K86 at h
  refine o_istore (lv1 := [(0, orf 600 0), (1, oi zv1), (3, oi zv3), (4, oi zv4), (5, oi zv5), (6, oi zs0), (7, oi zv7)]) (pc := 86) dX5_occupy_86 (by decide) rfl ?_
  obtain ⟨zx6, hx⟩ : ∃ y : Int32, y = zv7 + (1 : Int32) := ⟨_, rfl⟩
  have h := oH_let h zx6 hx
  refine o_iinc (lv1 := [(0, orf 600 0), (1, oi zv1), (3, oi zv3), (4, oi zv4), (5, oi zv5), (6, oi zs0), (7, oi zx6)]) (pc := 88) dX5_occupy_88 6 rfl hx.symm (by decide) rfl ?_
  clear hx
  refine o_goto 21 (pc := 91) dX5_occupy_91 (by decide) ?_
  exact hVH _ (oH_some (P := fun z => Sum.elim VH VE z) h)
def f_X5_occupy_K85 (zv1 : Int32) (zv3 : Int32) (zv4 : Int32) (zv5 : Int32) (zv7 : Int32) (S : oS) : Option ((Int32 × Int32 × oS) ⊕ (Int32 × oS)) :=
  f_X5_occupy_K86 zv1 zv3 zv4 zv5 zv7 (0 : Int32) S
set_option maxHeartbeats 4000000 in
theorem s_X5_occupy_K85 {X : oX} {e : Nat} (he : 1 ≤ e) (hR : oRoom X (e + 1)) {zv1 : Int32} {zv3 : Int32} {zv4 : Int32} {zv5 : Int32} {zv7 : Int32} {VH : Int32 × Int32 × oS → Prop} {VE : Int32 × oS → Prop} (hVH : ∀ z, VH z → oVv X mX5_occupy 21 [(0, orf 600 0), (1, oi zv1), (3, oi zv3), (4, oi zv4), (5, oi zv5), (6, oi z.1), (7, oi z.2.1)] [] z.2.2) (hVE : ∀ z, VE z → oVv X mX5_occupy 94 [(6, oi z.1)] [] z.2) {S : oS} (h : oH (f_X5_occupy_K85 zv1 zv3 zv4 zv5 zv7 S) (fun z => Sum.elim VH VE z)) : oVv X mX5_occupy 85 [(0, orf 600 0), (1, oi zv1), (3, oi zv3), (4, oi zv4), (5, oi zv5), (7, oi zv7)] [] S := by
  unfold f_X5_occupy_K85 at h
  refine o_iconst (v := 0) (pc := 85) dX5_occupy_85 (by decide) ?_
  exact s_X5_occupy_K86 he hR  hVH hVE h
def f_X5_occupy_L21 (zv1 : Int32) (zv3 : Int32) (zv4 : Int32) (zv5 : Int32) : Int32 × Int32 × oS → Option ((Int32 × Int32 × oS) ⊕ (Int32 × oS)) := fun w =>
  match w with
  | (zv6, zv7, S) =>
    if oIn zv4 3 then (
    if (oPOUT (Int32.toNatClampNeg zv4)) ≤ zv7 then (
    some (Sum.inr (zv6, S))) else (
    if oIn ((zv7 * (4 : Int32)) + zv5) 8 then (
    oLet (4 + Int32.toNatClampNeg ((zv7 * (4 : Int32)) + zv5)) fun zj_4 =>
    if oIn zv1 4 then (
    (f_X2_change zj_4 (S.1 604 0 (Int32.toNatClampNeg zv1)) zv3 S).bind fun zz5 =>
    if zv6 = 0 then (
    f_X5_occupy_K85 zv1 zv3 zv4 zv5 zv7 zz5) else (
    (f_X2_used zj_4 zz5).bind fun zz7 =>
    if oIn zv5 4 then (
    if (oROOM (Int32.toNatClampNeg zv5)) < zz7.1 then (
    f_X5_occupy_K85 zv1 zv3 zv4 zv5 zv7 zz7.2) else (
    f_X5_occupy_K86 zv1 zv3 zv4 zv5 zv7 (1 : Int32) zz7.2)) else none)) else none) else none)) else none
set_option maxHeartbeats 4000000 in
theorem s_X5_occupy_L21b {X : oX} {e : Nat} (he : 1 ≤ e) (hR : oRoom X (e + 1)) {zv1 : Int32} {zv3 : Int32} {zv4 : Int32} {zv5 : Int32} {VH : Int32 × Int32 × oS → Prop} {VE : Int32 × oS → Prop} (hVH : ∀ z, VH z → oVv X mX5_occupy 21 [(0, orf 600 0), (1, oi zv1), (3, oi zv3), (4, oi zv4), (5, oi zv5), (6, oi z.1), (7, oi z.2.1)] [] z.2.2) (hVE : ∀ z, VE z → oVv X mX5_occupy 94 [(6, oi z.1)] [] z.2) {zv6 : Int32} {zv7 : Int32} {S : oS} (h : oH (f_X5_occupy_L21 zv1 zv3 zv4 zv5 (zv6, zv7, S)) (fun z => Sum.elim VH VE z)) : oVv X mX5_occupy 21 [(0, orf 600 0), (1, oi zv1), (3, oi zv3), (4, oi zv4), (5, oi zv5), (6, oi zv6), (7, oi zv7)] [] S := by
  dsimp only [f_X5_occupy_L21] at h
  refine o_iload (pc := 21) dX5_occupy_21 6 rfl ?_
  refine o_getsN (i := 4) (host := "VillageOven") (pc := 23) (by decide) (by decide +kernel) dX5_occupy_23 ?_
  refine o_iload (pc := 26) dX5_occupy_26 3 rfl ?_
  obtain ⟨hg, h⟩ := oH_G h
  refine o_sald_2004 (pc := 28) hg dX5_occupy_28 ?_
  refine o_icmp_ge 94 (pc := 29) dX5_occupy_29 (by decide) (fun hc => ?_) (fun hc => ?_)
  · have h := oH_T hc h
    refine o_weak [5] rfl ?_
    exact hVE _ (oH_some (P := fun z => Sum.elim VH VE z) h)
  · have h := oH_F hc h
    refine o_aload_n (pc := 32) dX5_occupy_32 rfl 0 rfl ?_
    refine o_getA (pc := 33) fd_RX5_38 ft_600_7 j_600 dX5_occupy_33 ?_
    refine o_iload (pc := 36) dX5_occupy_36 6 rfl ?_
    refine o_iconst (v := 4) (pc := 38) dX5_occupy_38 (by decide) ?_
    refine o_imul (pc := 39) dX5_occupy_39 ?_
    refine o_iload (pc := 40) dX5_occupy_40 4 rfl ?_
    refine o_iadd (pc := 42) dX5_occupy_42 ?_
    obtain ⟨hg, h⟩ := oH_G h
    refine o_aald (pc := 43) kd_608 (by decide) j_608 hg dX5_occupy_43 (fun zj_4 hx hzj_4 => ?_)
    have h := oH_let h zj_4 hx
    clear hx
    refine o_astore (lv1 := [(0, orf 600 0), (1, oi zv1), (3, oi zv3), (4, oi zv4), (5, oi zv5), (6, oi zv6), (7, oi zv7), (8, orf 300 zj_4)]) (pc := 44) dX5_occupy_44 (by decide) rfl ?_
    refine o_aload (pc := 46) dX5_occupy_46 7 rfl ?_
    refine o_aload_n (pc := 48) dX5_occupy_48 rfl 0 rfl ?_
    refine o_getF (pc := 49) fd_RX5_48 ft_600_0 j_600 dX5_occupy_49 ?_
    refine o_aload_n (pc := 52) dX5_occupy_52 rfl 0 rfl ?_
    refine o_getA (pc := 53) fd_RX5_22 ft_600_3 j_600 dX5_occupy_53 ?_
    refine o_iload_n (pc := 56) dX5_occupy_56 rfl 1 rfl ?_
    obtain ⟨hg, h⟩ := oH_G h
    refine o_iald (pc := 57) kd_604 j_604 hg dX5_occupy_57 ?_
    refine o_iload_n (pc := 58) dX5_occupy_58 rfl 2 rfl ?_
    have h := oH_bind h
    refine o_callVv (pc := 59) (st := []) [orf 200 0, oi (S.1 604 0 (Int32.toNatClampNeg zv1)), oi zv3] hR md_X2_change wd_676 wd_545 wd_546 tc_300 hzj_4 rfl (Nat.le_of_ble_eq_true rfl) rfl dX5_occupy_59 (s_X2_change e (by omega) hzj_4 h) (fun zz5 h => ?_)
    refine o_iload (pc := 62) dX5_occupy_62 5 rfl ?_
    refine o_if_eq 85 (pc := 64) dX5_occupy_64 (by decide) (fun hc => ?_) (fun hc => ?_)
    · have h := oH_T hc h
      refine o_weak [0, 1, 2, 3, 4, 6] rfl ?_
      exact s_X5_occupy_K85 he hR  hVH hVE h
    · have h := oH_F hc h
      refine o_aload (pc := 67) dX5_occupy_67 7 rfl ?_
      have h := oH_bind h
      refine o_callVi (pc := 69) (st := []) [] hR md_X2_used wd_677 wd_549 wd_550 tc_300 hzj_4 rfl (Nat.le_of_ble_eq_true rfl) rfl dX5_occupy_69 (s_X2_used e (by omega) hzj_4 h) (fun zz7 h => ?_)
      refine o_getsN (i := 1) (host := "VillageOven") (pc := 72) (by decide) (by decide +kernel) dX5_occupy_72 ?_
      refine o_iload (pc := 75) dX5_occupy_75 4 rfl ?_
      obtain ⟨hg, h⟩ := oH_G h
      refine o_sald_2001 (pc := 77) hg dX5_occupy_77 ?_
      refine o_icmp_gt 85 (pc := 78) dX5_occupy_78 (by decide) (fun hc => ?_) (fun hc => ?_)
      · have h := oH_T hc h
        refine o_weak [0, 1, 2, 3, 4, 6] rfl ?_
        exact s_X5_occupy_K85 he hR  hVH hVE h
      · have h := oH_F hc h
        refine o_iconst (v := 1) (pc := 81) dX5_occupy_81 (by decide) ?_
        refine o_goto 86 (pc := 82) dX5_occupy_82 (by decide) ?_
        refine o_weak [0, 1, 2, 3, 4, 6] rfl ?_
        exact s_X5_occupy_K86 he hR  hVH hVE h
theorem s_X5_occupy_L21 {X : oX} {e : Nat} (he : 1 ≤ e) (hR : oRoom X (e + 1)) {zv1 : Int32} {zv3 : Int32} {zv4 : Int32} {zv5 : Int32}  {VE : Int32 × oS → Prop} (hVE : ∀ z, VE z → oVv X mX5_occupy 94 [(6, oi z.1)] [] z.2) (n : Nat) (w : Int32 × Int32 × oS) (h : oH (oLp (f_X5_occupy_L21 zv1 zv3 zv4 zv5) n w) VE) : oVv X mX5_occupy 21 [(0, orf 600 0), (1, oi zv1), (3, oi zv3), (4, oi zv4), (5, oi zv5), (6, oi w.1), (7, oi w.2.1)] [] w.2.2 :=
  oLp_s (VH := fun w => oVv X mX5_occupy 21 [(0, orf 600 0), (1, oi zv1), (3, oi zv3), (4, oi zv4), (5, oi zv5), (6, oi w.1), (7, oi w.2.1)] [] w.2.2) (fun w h => s_X5_occupy_L21b he hR  (fun _ h => h) hVE h) n w h
def f_X5_occupy  (za1 : Int32) (za2 : Int32) (za3 : Int32) (S : oS) : Option (Int32 × oS) :=
  oLet ((za2 / (4 : Int32))) fun zx1 =>
  oLet ((za2 - za2 / (4 : Int32) * (4 : Int32))) fun zx2 =>
  if oIn zx1 3 then (
  oLet (oPIN (Int32.toNatClampNeg zx1)) fun zx3 =>
  (oLp (f_X5_occupy_L21 za1 za3 zx1 zx2) oFu ((1 : Int32), zx3, S)).bind fun zz8 =>
  if oBl zz8.1 then (
  some (zz8.1, zz8.2)) else none) else none
set_option maxHeartbeats 4000000 in
theorem s_X5_occupy {G : oG} {r : oR} (d : Nat) (hd : 2 ≤ d) {za1 : Int32} {za2 : Int32} {za3 : Int32}  {S : oS} {P : Int32 × oS → Prop} (h : oH (f_X5_occupy za1 za2 za3 S) P) : oCt G r d yX5_occupy mX5_occupy [orf 600 0, oi za1, oi za2, oi za3] S (oQi P) := by
  unfold f_X5_occupy at h
  refine oCt_of (by decide) rfl (Nat.le_of_ble_eq_true rfl) ?_
  intro X hG hr hE0 hR
  subst hG; subst hr
  obtain ⟨e, rfl⟩ : ∃ e, d = e + 1 := ⟨d - 1, by omega⟩
  have he : 1 ≤ e := by omega
  have hE := oEZ_of hE0 rfl
  clear hE0 hd
  show oVv X mX5_occupy 0 [(0, orf 600 0), (1, oi za1), (2, oi za2), (3, oi za3)] [] S
  refine o_iload_n (pc := 0) dX5_occupy_0 rfl 2 rfl ?_
  refine o_iconst (v := 4) (pc := 1) dX5_occupy_1 (by decide) ?_
  refine o_idiv (pc := 2) dX5_occupy_2 (by decide) ?_
  refine o_nmI (fun zx1 hx => ?_)
  have h := oH_let h zx1 hx
  clear hx
  refine o_istore (lv1 := [(0, orf 600 0), (1, oi za1), (2, oi za2), (3, oi za3), (4, oi zx1)]) (pc := 3) dX5_occupy_3 (by decide) rfl ?_
  refine o_iload_n (pc := 5) dX5_occupy_5 rfl 2 rfl ?_
  refine o_iconst (v := 4) (pc := 6) dX5_occupy_6 (by decide) ?_
  refine o_irem (pc := 7) dX5_occupy_7 (by decide) ?_
  refine o_nmI (fun zx2 hx => ?_)
  have h := oH_let h zx2 hx
  clear hx
  refine o_istore (lv1 := [(0, orf 600 0), (1, oi za1), (2, oi za2), (3, oi za3), (4, oi zx1), (5, oi zx2)]) (pc := 8) dX5_occupy_8 (by decide) rfl ?_
  refine o_iconst (v := 1) (pc := 10) dX5_occupy_10 (by decide) ?_
  refine o_istore (lv1 := [(0, orf 600 0), (1, oi za1), (2, oi za2), (3, oi za3), (4, oi zx1), (5, oi zx2), (6, oi (1 : Int32))]) (pc := 11) dX5_occupy_11 (by decide) rfl ?_
  refine o_getsN (i := 3) (host := "VillageOven") (pc := 13) (by decide) (by decide +kernel) dX5_occupy_13 ?_
  refine o_iload (pc := 16) dX5_occupy_16 4 rfl ?_
  obtain ⟨hg, h⟩ := oH_G h
  refine o_sald_2003 (pc := 18) hg dX5_occupy_18 ?_
  refine o_nmI (fun zx3 hx => ?_)
  have h := oH_let h zx3 hx
  clear hx
  refine o_istore (lv1 := [(0, orf 600 0), (1, oi za1), (2, oi za2), (3, oi za3), (4, oi zx1), (5, oi zx2), (6, oi (1 : Int32)), (7, oi zx3)]) (pc := 19) dX5_occupy_19 (by decide) rfl ?_
  refine o_weak [0, 1, 3, 4, 5, 6, 7] rfl ?_
  have h := oH_bind h
  refine s_X5_occupy_L21 he hR  (fun zz8 h => ?_) _ ((1 : Int32), zx3, S) h
  refine o_iload (pc := 94) dX5_occupy_94 0 rfl ?_
  obtain ⟨hg, h⟩ := oH_G h
  exact hE _ _ _ _ dX5_occupy_96 hg (oH_some h)
def f_X5_search_K79 (rec : Int32 → Int32 → oS → Option (oS)) (zv1 : Int32) (zv2 : Int32) (zv3 : Int32) (S : oS) : Option ((Int32 × oS) ⊕ (oS)) :=
  (f_X5_occupy zv1 zv3 (-1 : Int32) S).bind fun zz4 =>
  oLet (zv3 + (1 : Int32)) fun zx5 =>
  some (Sum.inl (zx5, zz4.2))
set_option maxHeartbeats 4000000 in
theorem s_X5_search_K79 {X : oX} {e : Nat} (he : 2 ≤ e) (hR : oRoom X (e + 1)) {rec : Int32 → Int32 → oS → Option (oS)} (hrec : ∀ (za1 : Int32) (za2 : Int32) (S : oS) (P : oS → Prop), oH (rec za1 za2 S) P → oCt (oXG X) (oXr X) e yX5_search mX5_search [orf 600 0, oi za1, oi za2] S (oQv P)) {zv1 : Int32} {zv2 : Int32} {zv3 : Int32} {VH : Int32 × oS → Prop} {VE : oS → Prop} (hVH : ∀ z, VH z → oVv X mX5_search 32 [(0, orf 600 0), (1, oi zv1), (2, oi zv2), (3, oi z.1)] [] z.2) (hVE : ∀ z, VE z → oVv X mX5_search 93 [(0, orf 600 0), (1, oi zv1), (2, oi zv2)] [] z) {S : oS} (h : oH (f_X5_search_K79 rec zv1 zv2 zv3 S) (fun z => Sum.elim VH VE z)) : oVv X mX5_search 79 [(0, orf 600 0), (1, oi zv1), (2, oi zv2), (3, oi zv3)] [] S := by
  unfold f_X5_search_K79 at h
  refine o_aload_n (pc := 79) dX5_search_79 rfl 0 rfl ?_
  refine o_iload_n (pc := 80) dX5_search_80 rfl 1 rfl ?_
  refine o_iload_n (pc := 81) dX5_search_81 rfl 3 rfl ?_
  refine o_iconst (v := -1) (pc := 82) dX5_search_82 (by decide) ?_
  have h := oH_bind h
  refine o_callVi (pc := 83) (st := []) [oi zv1, oi zv3, oi (-1 : Int32)] hR md_X5_occupy wd_672 wd_674 ws_14 tc_600 j_600 rfl (Nat.le_of_ble_eq_true rfl) rfl dX5_search_83 (s_X5_occupy e (by omega)  h) (fun zz4 h => ?_)
  refine o_pop (pc := 86) dX5_search_86 rfl ?_
  obtain ⟨zx5, hx⟩ : ∃ y : Int32, y = zv3 + (1 : Int32) := ⟨_, rfl⟩
  have h := oH_let h zx5 hx
  refine o_iinc (lv1 := [(0, orf 600 0), (1, oi zv1), (2, oi zv2), (3, oi zx5)]) (pc := 87) dX5_search_87 3 rfl hx.symm (by decide) rfl ?_
  clear hx
  refine o_goto 32 (pc := 90) dX5_search_90 (by decide) ?_
  exact hVH _ (oH_some (P := fun z => Sum.elim VH VE z) h)
def f_X5_search_L32 (rec : Int32 → Int32 → oS → Option (oS)) (zv1 : Int32) (zv2 : Int32) : Int32 × oS → Option ((Int32 × oS) ⊕ (oS)) := fun w =>
  match w with
  | (zv3, S) =>
    if (12 : Int32) ≤ zv3 then (
    some (Sum.inr S)) else (
    if oIn ((zv1 * (12 : Int32)) + zv3) 48 then (
    if (S.1 606 0 (Int32.toNatClampNeg ((zv1 * (12 : Int32)) + zv3))) = 0 then (
    oLet (zv3 + (1 : Int32)) fun zx1 =>
    some (Sum.inl (zx1, S))) else (
    if oIn zv1 4 then (
    oLet (oStI S 609 0 (Int32.toNatClampNeg zv1) zv3) fun zS2 =>
    (f_X5_occupy zv1 zv3 (1 : Int32) zS2).bind fun zz3 =>
    if zz3.1 = 0 then (
    f_X5_search_K79 rec zv1 zv2 zv3 zz3.2) else (
    (rec (zv1 + (1 : Int32)) (zv2 + (1 : Int32)) zz3.2).bind fun zz6 =>
    f_X5_search_K79 rec zv1 zv2 zv3 zz6)) else none)) else none)
set_option maxHeartbeats 4000000 in
theorem s_X5_search_L32b {X : oX} {e : Nat} (he : 2 ≤ e) (hR : oRoom X (e + 1)) {rec : Int32 → Int32 → oS → Option (oS)} (hrec : ∀ (za1 : Int32) (za2 : Int32) (S : oS) (P : oS → Prop), oH (rec za1 za2 S) P → oCt (oXG X) (oXr X) e yX5_search mX5_search [orf 600 0, oi za1, oi za2] S (oQv P)) {zv1 : Int32} {zv2 : Int32} {VH : Int32 × oS → Prop} {VE : oS → Prop} (hVH : ∀ z, VH z → oVv X mX5_search 32 [(0, orf 600 0), (1, oi zv1), (2, oi zv2), (3, oi z.1)] [] z.2) (hVE : ∀ z, VE z → oVv X mX5_search 93 [(0, orf 600 0), (1, oi zv1), (2, oi zv2)] [] z) {zv3 : Int32} {S : oS} (h : oH (f_X5_search_L32 rec zv1 zv2 (zv3, S)) (fun z => Sum.elim VH VE z)) : oVv X mX5_search 32 [(0, orf 600 0), (1, oi zv1), (2, oi zv2), (3, oi zv3)] [] S := by
  dsimp only [f_X5_search_L32] at h
  refine o_iload_n (pc := 32) dX5_search_32 rfl 3 rfl ?_
  refine o_bipush (v := 12) (pc := 33) dX5_search_33 (by decide) ?_
  refine o_icmp_ge 93 (pc := 35) dX5_search_35 (by decide) (fun hc => ?_) (fun hc => ?_)
  · have h := oH_T hc h
    refine o_weak [0, 1, 2] rfl ?_
    exact hVE _ (oH_some (P := fun z => Sum.elim VH VE z) h)
  · have h := oH_F hc h
    refine o_aload_n (pc := 38) dX5_search_38 rfl 0 rfl ?_
    refine o_getA (pc := 39) fd_RX5_29 ft_600_5 j_600 dX5_search_39 ?_
    refine o_iload_n (pc := 42) dX5_search_42 rfl 1 rfl ?_
    refine o_bipush (v := 12) (pc := 43) dX5_search_43 (by decide) ?_
    refine o_imul (pc := 45) dX5_search_45 ?_
    refine o_iload_n (pc := 46) dX5_search_46 rfl 3 rfl ?_
    refine o_iadd (pc := 47) dX5_search_47 ?_
    obtain ⟨hg, h⟩ := oH_G h
    refine o_zald (pc := 48) kd_606 j_606 hg dX5_search_48 ?_
    refine o_if_eq 87 (pc := 49) dX5_search_49 (by decide) (fun hc => ?_) (fun hc => ?_)
    · have h := oH_T hc h
      obtain ⟨zx1, hx⟩ : ∃ y : Int32, y = zv3 + (1 : Int32) := ⟨_, rfl⟩
      have h := oH_let h zx1 hx
      refine o_iinc (lv1 := [(0, orf 600 0), (1, oi zv1), (2, oi zv2), (3, oi zx1)]) (pc := 87) dX5_search_87 3 rfl hx.symm (by decide) rfl ?_
      clear hx
      refine o_goto 32 (pc := 90) dX5_search_90 (by decide) ?_
      exact hVH _ (oH_some (P := fun z => Sum.elim VH VE z) h)
    · have h := oH_F hc h
      refine o_aload_n (pc := 52) dX5_search_52 rfl 0 rfl ?_
      refine o_getA (pc := 53) fd_RX5_42 ft_600_8 j_600 dX5_search_53 ?_
      refine o_iload_n (pc := 56) dX5_search_56 rfl 1 rfl ?_
      refine o_iload_n (pc := 57) dX5_search_57 rfl 3 rfl ?_
      obtain ⟨hg, h⟩ := oH_G h
      have hgi := hg
      refine o_iast (pc := 58) kd_609 j_609 hgi dX5_search_58 ?_
      refine o_nmS (fun zS2 hx => ?_)
      have h := oH_let h zS2 hx
      clear hx
      refine o_aload_n (pc := 59) dX5_search_59 rfl 0 rfl ?_
      refine o_iload_n (pc := 60) dX5_search_60 rfl 1 rfl ?_
      refine o_iload_n (pc := 61) dX5_search_61 rfl 3 rfl ?_
      refine o_iconst (v := 1) (pc := 62) dX5_search_62 (by decide) ?_
      have h := oH_bind h
      refine o_callVi (pc := 63) (st := []) [oi zv1, oi zv3, oi (1 : Int32)] hR md_X5_occupy wd_672 wd_674 ws_14 tc_600 j_600 rfl (Nat.le_of_ble_eq_true rfl) rfl dX5_search_63 (s_X5_occupy e (by omega)  h) (fun zz3 h => ?_)
      refine o_if_eq 79 (pc := 66) dX5_search_66 (by decide) (fun hc => ?_) (fun hc => ?_)
      · have h := oH_T hc h
        exact s_X5_search_K79 he hR hrec  hVH hVE h
      · have h := oH_F hc h
        refine o_aload_n (pc := 69) dX5_search_69 rfl 0 rfl ?_
        refine o_iload_n (pc := 70) dX5_search_70 rfl 1 rfl ?_
        refine o_iconst (v := 1) (pc := 71) dX5_search_71 (by decide) ?_
        refine o_iadd (pc := 72) dX5_search_72 ?_
        refine o_iload_n (pc := 73) dX5_search_73 rfl 2 rfl ?_
        refine o_iconst (v := 1) (pc := 74) dX5_search_74 (by decide) ?_
        refine o_iadd (pc := 75) dX5_search_75 ?_
        have h := oH_bind h
        refine o_callSv (pc := 76) (st := []) [orf 600 0, oi (zv1 + (1 : Int32)), oi (zv2 + (1 : Int32))] hR md_X5_search wd_664 wd_665 rfl (Nat.le_of_ble_eq_true rfl) rfl dX5_search_76 (hrec _ _ _ _ h) (fun zz6 h => ?_)
        exact s_X5_search_K79 he hR hrec  hVH hVE h
theorem s_X5_search_L32 {X : oX} {e : Nat} (he : 2 ≤ e) (hR : oRoom X (e + 1)) {rec : Int32 → Int32 → oS → Option (oS)} (hrec : ∀ (za1 : Int32) (za2 : Int32) (S : oS) (P : oS → Prop), oH (rec za1 za2 S) P → oCt (oXG X) (oXr X) e yX5_search mX5_search [orf 600 0, oi za1, oi za2] S (oQv P)) {zv1 : Int32} {zv2 : Int32}  {VE : oS → Prop} (hVE : ∀ z, VE z → oVv X mX5_search 93 [(0, orf 600 0), (1, oi zv1), (2, oi zv2)] [] z) (n : Nat) (w : Int32 × oS) (h : oH (oLp (f_X5_search_L32 rec zv1 zv2) n w) VE) : oVv X mX5_search 32 [(0, orf 600 0), (1, oi zv1), (2, oi zv2), (3, oi w.1)] [] w.2 :=
  oLp_s (VH := fun w => oVv X mX5_search 32 [(0, orf 600 0), (1, oi zv1), (2, oi zv2), (3, oi w.1)] [] w.2) (fun w h => s_X5_search_L32b he hR hrec  (fun _ h => h) hVE h) n w h
def f_X5_search_b (rec : Int32 → Int32 → oS → Option (oS)) (za1 : Int32) (za2 : Int32) (S : oS) : Option (oS) :=
  if za1 < (S.1 600 0 10) then (
  if oIn za1 5 then (
  if (S.1 600 0 12) < (za2 + (S.1 607 0 (Int32.toNatClampNeg za1))) then (
  (oLp (f_X5_search_L32 rec za1 za2) oFu ((0 : Int32), S)).bind fun zz7 =>
  if oIn za1 4 then (
  oLet (oStI zz7 609 0 (Int32.toNatClampNeg za1) (12 : Int32)) fun zS8 =>
  (rec (za1 + (1 : Int32)) za2 zS8).bind fun zz9 =>
  some zz9) else none) else (
  some S)) else none) else (
  (f_X5_keepIfBetter za2 S).bind fun zz10 =>
  some zz10)
set_option maxHeartbeats 4000000 in
theorem s_X5_search_b {G : oG} {r : oR} (d : Nat) (hd : 3 ≤ d) {rec : Int32 → Int32 → oS → Option (oS)} (hrec : ∀ (za1 : Int32) (za2 : Int32) (S : oS) (P : oS → Prop), oH (rec za1 za2 S) P → oCt G r (d - 1) yX5_search mX5_search [orf 600 0, oi za1, oi za2] S (oQv P)) {za1 : Int32} {za2 : Int32}  {S : oS} {P : oS → Prop} (h : oH (f_X5_search_b rec za1 za2 S) P) : oCt G r d yX5_search mX5_search [orf 600 0, oi za1, oi za2] S (oQv P) := by
  unfold f_X5_search_b at h
  refine oCt_of (by decide) rfl (Nat.le_of_ble_eq_true rfl) ?_
  intro X hG hr hE0 hR
  subst hG; subst hr
  obtain ⟨e, rfl⟩ : ∃ e, d = e + 1 := ⟨d - 1, by omega⟩
  have he : 2 ≤ e := by omega
  have hE := oEV_of hE0 rfl
  clear hE0 hd
  rw [Nat.add_sub_cancel] at hrec
  show oVv X mX5_search 0 [(0, orf 600 0), (1, oi za1), (2, oi za2)] [] S
  refine o_iload_n (pc := 0) dX5_search_0 rfl 1 rfl ?_
  refine o_aload_n (pc := 1) dX5_search_1 rfl 0 rfl ?_
  refine o_getI (pc := 2) fd_RX5_53 ft_600_10 j_600 dX5_search_2 ?_
  refine o_icmp_lt 14 (pc := 5) dX5_search_5 (by decide) (fun hc => ?_) (fun hc => ?_)
  · have h := oH_T hc h
    refine o_iload_n (pc := 14) dX5_search_14 rfl 2 rfl ?_
    refine o_aload_n (pc := 15) dX5_search_15 rfl 0 rfl ?_
    refine o_getA (pc := 16) fd_RX5_33 ft_600_6 j_600 dX5_search_16 ?_
    refine o_iload_n (pc := 19) dX5_search_19 rfl 1 rfl ?_
    obtain ⟨hg, h⟩ := oH_G h
    refine o_iald (pc := 20) kd_607 j_607 hg dX5_search_20 ?_
    refine o_iadd (pc := 21) dX5_search_21 ?_
    refine o_aload_n (pc := 22) dX5_search_22 rfl 0 rfl ?_
    refine o_getI (pc := 23) fd_RX5_91 ft_600_12 j_600 dX5_search_23 ?_
    refine o_icmp_gt 30 (pc := 26) dX5_search_26 (by decide) (fun hc => ?_) (fun hc => ?_)
    · have h := oH_T hc h
      refine o_iconst (v := 0) (pc := 30) dX5_search_30 (by decide) ?_
      refine o_istore_n (lv1 := [(0, orf 600 0), (1, oi za1), (2, oi za2), (3, oi (0 : Int32))]) (pc := 31) dX5_search_31 rfl (by decide) rfl ?_
      have h := oH_bind h
      refine s_X5_search_L32 he hR hrec  (fun zz7 h => ?_) _ ((0 : Int32), S) h
      refine o_aload_n (pc := 93) dX5_search_93 rfl 0 rfl ?_
      refine o_getA (pc := 94) fd_RX5_42 ft_600_8 j_600 dX5_search_94 ?_
      refine o_iload_n (pc := 97) dX5_search_97 rfl 1 rfl ?_
      refine o_bipush (v := 12) (pc := 98) dX5_search_98 (by decide) ?_
      obtain ⟨hg, h⟩ := oH_G h
      have hgi := hg
      refine o_iast (pc := 100) kd_609 j_609 hgi dX5_search_100 ?_
      refine o_nmS (fun zS8 hx => ?_)
      have h := oH_let h zS8 hx
      clear hx
      refine o_aload_n (pc := 101) dX5_search_101 rfl 0 rfl ?_
      refine o_iload_n (pc := 102) dX5_search_102 rfl 1 rfl ?_
      refine o_iconst (v := 1) (pc := 103) dX5_search_103 (by decide) ?_
      refine o_iadd (pc := 104) dX5_search_104 ?_
      refine o_iload_n (pc := 105) dX5_search_105 rfl 2 rfl ?_
      have h := oH_bind h
      refine o_callSv (pc := 106) (st := []) [orf 600 0, oi (za1 + (1 : Int32)), oi za2] hR md_X5_search wd_664 wd_665 rfl (Nat.le_of_ble_eq_true rfl) rfl dX5_search_106 (hrec _ _ _ _ h) (fun zz9 h => ?_)
      exact hE _ _ _ dX5_search_109 (oH_some h)
    · have h := oH_F hc h
      exact hE _ _ _ dX5_search_29 (oH_some h)
  · have h := oH_F hc h
    refine o_aload_n (pc := 8) dX5_search_8 rfl 0 rfl ?_
    refine o_iload_n (pc := 9) dX5_search_9 rfl 2 rfl ?_
    have h := oH_bind h
    refine o_callVv (pc := 10) (st := []) [oi za2] hR md_X5_keepIfBetter wd_667 wd_669 ws_13 tc_600 j_600 rfl (Nat.le_of_ble_eq_true rfl) rfl dX5_search_10 (s_X5_keepIfBetter e (by omega)  h) (fun zz10 h => ?_)
    exact hE _ _ _ dX5_search_13 (oH_some h)
def f_X5_searchN : Nat → Int32 → Int32 → oS → Option (oS)
  | 0 => fun _ _ _ => none
  | n + 1 => f_X5_search_b (f_X5_searchN n)
theorem s_X5_searchN {G : oG} {r : oR} : ∀ (n d : Nat), 3 + n ≤ d → ∀ (za1 : Int32) (za2 : Int32) (S : oS) (P : oS → Prop), oH (f_X5_searchN n za1 za2 S) P → oCt G r d yX5_search mX5_search [orf 600 0, oi za1, oi za2] S (oQv P) := by
  intro n
  induction n with
  | zero =>
    intro d hd za1 za2 S P h
    obtain ⟨x, hx, -⟩ := h
    cases hx
  | succ n ih =>
    intro d hd za1 za2 S P h
    exact s_X5_search_b d (by omega) (ih (d - 1) (by omega)) h
def f_X5_search : Int32 → Int32 → oS → Option (oS) := f_X5_searchN 8
theorem s_X5_search {G : oG} {r : oR} (d : Nat) (hd : 11 ≤ d) {za1 : Int32} {za2 : Int32} {S : oS} {P : oS → Prop} (h : oH (f_X5_search za1 za2 S) P) : oCt G r d yX5_search mX5_search [orf 600 0, oi za1, oi za2] S (oQv P) := s_X5_searchN 8 d (by omega) za1 za2 S P h
def f_X5_choose   (S : oS) : Option (oS) :=
  (f_X5_judgeChoices S).bind fun zz1 =>
  oLet (oStI zz1 600 0 12 (-1 : Int32)) fun zS2 =>
  (f_X5_search (0 : Int32) (0 : Int32) zS2).bind fun zz3 =>
  some zz3
set_option maxHeartbeats 4000000 in
theorem s_X5_choose {G : oG} {r : oR} (d : Nat) (hd : 12 ≤ d)   {S : oS} {P : oS → Prop} (h : oH (f_X5_choose  S) P) : oCt G r d yX5_choose mX5_choose [orf 600 0] S (oQv P) := by
  unfold f_X5_choose at h
  refine oCt_of (by decide) rfl (Nat.le_of_ble_eq_true rfl) ?_
  intro X hG hr hE0 hR
  subst hG; subst hr
  obtain ⟨e, rfl⟩ : ∃ e, d = e + 1 := ⟨d - 1, by omega⟩
  have he : 11 ≤ e := by omega
  have hE := oEV_of hE0 rfl
  clear hE0 hd
  show oVv X mX5_choose 0 [(0, orf 600 0)] [] S
  refine o_aload_n (pc := 0) dX5_choose_0 rfl 0 rfl ?_
  have h := oH_bind h
  refine o_callVv (pc := 1) (st := []) [] hR md_X5_judgeChoices wd_649 wd_651 ws_11 tc_600 j_600 rfl (Nat.le_of_ble_eq_true rfl) rfl dX5_choose_1 (s_X5_judgeChoices e (by omega)  h) (fun zz1 h => ?_)
  refine o_aload_n (pc := 4) dX5_choose_4 rfl 0 rfl ?_
  refine o_iconst (v := -1) (pc := 5) dX5_choose_5 (by decide) ?_
  refine o_putI (pc := 6) fd_RX5_91 fp_600_12 ft_600_12 rfl rfl j_600 dX5_choose_6 ?_
  refine o_nmS (fun zS2 hx => ?_)
  have h := oH_let h zS2 hx
  clear hx
  refine o_aload_n (pc := 9) dX5_choose_9 rfl 0 rfl ?_
  refine o_iconst (v := 0) (pc := 10) dX5_choose_10 (by decide) ?_
  refine o_iconst (v := 0) (pc := 11) dX5_choose_11 (by decide) ?_
  have h := oH_bind h
  refine o_callSv (pc := 12) (st := []) [orf 600 0, oi (0 : Int32), oi (0 : Int32)] hR md_X5_search wd_664 wd_665 rfl (Nat.le_of_ble_eq_true rfl) rfl dX5_choose_12 (s_X5_search e (by omega)  h) (fun zz3 h => ?_)
  exact hE _ _ _ dX5_choose_15 (oH_some h)
def f_X5_isOpening_L2 (zv1 : Int32) : Int32 × oS → Option ((Int32 × oS) ⊕ ((oS) ⊕ (Int32 × oS))) := fun w =>
  match w with
  | (zv2, S) =>
    if (S.1 600 0 11) ≤ zv2 then (
    some (Sum.inr (Sum.inl S))) else (
    if oIn zv2 3 then (
    if (S.1 605 0 (Int32.toNatClampNeg zv2)) = zv1 then (
    some (Sum.inr (Sum.inr ((1 : Int32), S)))) else (
    oLet (zv2 + (1 : Int32)) fun zx1 =>
    some (Sum.inl (zx1, S)))) else none)
set_option maxHeartbeats 4000000 in
theorem s_X5_isOpening_L2b {X : oX} {e : Nat} (he : 0 ≤ e) (hR : oRoom X (e + 1)) {zv1 : Int32} {VH : Int32 × oS → Prop} {VE : (oS) ⊕ (Int32 × oS) → Prop} (hVH : ∀ z, VH z → oVv X mX5_isOpening 2 [(0, orf 600 0), (1, oi zv1), (2, oi z.1)] [] z.2) (hVE : ∀ z, VE (Sum.inl z) → oVv X mX5_isOpening 28 [] [] z) {PQ : Int32 × oS → Prop} (hE : oEZ X mX5_isOpening PQ) (hRet : ∀ z, VE (Sum.inr z) → PQ z) {zv2 : Int32} {S : oS} (h : oH (f_X5_isOpening_L2 zv1 (zv2, S)) (fun z => Sum.elim VH VE z)) : oVv X mX5_isOpening 2 [(0, orf 600 0), (1, oi zv1), (2, oi zv2)] [] S := by
  dsimp only [f_X5_isOpening_L2] at h
  refine o_iload_n (pc := 2) dX5_isOpening_2 rfl 2 rfl ?_
  refine o_aload_n (pc := 3) dX5_isOpening_3 rfl 0 rfl ?_
  refine o_getI (pc := 4) fd_RX5_57 ft_600_11 j_600 dX5_isOpening_4 ?_
  refine o_icmp_ge 28 (pc := 7) dX5_isOpening_7 (by decide) (fun hc => ?_) (fun hc => ?_)
  · have h := oH_T hc h
    refine o_weak [] rfl ?_
    exact hVE _ (oH_some (P := fun z => Sum.elim VH VE z) h)
  · have h := oH_F hc h
    refine o_aload_n (pc := 10) dX5_isOpening_10 rfl 0 rfl ?_
    refine o_getA (pc := 11) fd_RX5_26 ft_600_4 j_600 dX5_isOpening_11 ?_
    refine o_iload_n (pc := 14) dX5_isOpening_14 rfl 2 rfl ?_
    obtain ⟨hg, h⟩ := oH_G h
    refine o_iald (pc := 15) kd_605 j_605 hg dX5_isOpening_15 ?_
    refine o_iload_n (pc := 16) dX5_isOpening_16 rfl 1 rfl ?_
    refine o_icmp_ne 22 (pc := 17) dX5_isOpening_17 (by decide) (fun hc => ?_) (fun hc => ?_)
    · have h := oH_F hc h
      obtain ⟨zx1, hx⟩ : ∃ y : Int32, y = zv2 + (1 : Int32) := ⟨_, rfl⟩
      have h := oH_let h zx1 hx
      refine o_iinc (lv1 := [(0, orf 600 0), (1, oi zv1), (2, oi zx1)]) (pc := 22) dX5_isOpening_22 2 rfl hx.symm (by decide) rfl ?_
      clear hx
      refine o_goto 2 (pc := 25) dX5_isOpening_25 (by decide) ?_
      exact hVH _ (oH_some (P := fun z => Sum.elim VH VE z) h)
    · have h := oH_T hc h
      refine o_iconst (v := 1) (pc := 20) dX5_isOpening_20 (by decide) ?_
      exact hE _ _ _ _ dX5_isOpening_21 (by decide) (hRet _ (oH_some (P := fun z => Sum.elim VH VE z) h))
theorem s_X5_isOpening_L2 {X : oX} {e : Nat} (he : 0 ≤ e) (hR : oRoom X (e + 1)) {zv1 : Int32}  {VE : (oS) ⊕ (Int32 × oS) → Prop} (hVE : ∀ z, VE (Sum.inl z) → oVv X mX5_isOpening 28 [] [] z) {PQ : Int32 × oS → Prop} (hE : oEZ X mX5_isOpening PQ) (hRet : ∀ z, VE (Sum.inr z) → PQ z) (n : Nat) (w : Int32 × oS) (h : oH (oLp (f_X5_isOpening_L2 zv1) n w) VE) : oVv X mX5_isOpening 2 [(0, orf 600 0), (1, oi zv1), (2, oi w.1)] [] w.2 :=
  oLp_s (VH := fun w => oVv X mX5_isOpening 2 [(0, orf 600 0), (1, oi zv1), (2, oi w.1)] [] w.2) (fun w h => s_X5_isOpening_L2b he hR  (fun _ h => h) hVE hE hRet h) n w h
def f_X5_isOpening  (za1 : Int32) (S : oS) : Option (Int32 × oS) :=
  (oLp (f_X5_isOpening_L2 za1) oFu ((0 : Int32), S)).bind fun w => Sum.elim (fun zz2 =>
  some ((0 : Int32), zz2)) (fun r => some r) w
set_option maxHeartbeats 4000000 in
theorem s_X5_isOpening {G : oG} {r : oR} (d : Nat) (hd : 1 ≤ d) {za1 : Int32}  {S : oS} {P : Int32 × oS → Prop} (h : oH (f_X5_isOpening za1 S) P) : oCt G r d yX5_isOpening mX5_isOpening [orf 600 0, oi za1] S (oQi P) := by
  unfold f_X5_isOpening at h
  refine oCt_of (by decide) rfl (Nat.le_of_ble_eq_true rfl) ?_
  intro X hG hr hE0 hR
  subst hG; subst hr
  obtain ⟨e, rfl⟩ : ∃ e, d = e + 1 := ⟨d - 1, by omega⟩
  have he : 0 ≤ e := by omega
  have hE := oEZ_of hE0 rfl
  clear hE0 hd
  show oVv X mX5_isOpening 0 [(0, orf 600 0), (1, oi za1)] [] S
  refine o_iconst (v := 0) (pc := 0) dX5_isOpening_0 (by decide) ?_
  refine o_istore_n (lv1 := [(0, orf 600 0), (1, oi za1), (2, oi (0 : Int32))]) (pc := 1) dX5_isOpening_1 rfl (by decide) rfl ?_
  have h := oH_bind h
  refine s_X5_isOpening_L2 he hR  ?_ hE ?_ _ ((0 : Int32), S) h
  · intro zz2 h
    have h := oElimL h
    refine o_iconst (v := 0) (pc := 28) dX5_isOpening_28 (by decide) ?_
    exact hE _ _ _ _ dX5_isOpening_29 (by decide) (oH_some h)
  · intro r h
    have h := oElimR h
    exact oH_some (P := P) h
def f_X5_foresee_L30 (zv2 : Int32) : Int32 × oS → Option ((Int32 × oS) ⊕ (oS)) := fun w =>
  match w with
  | (zv3, S) =>
    if (4 : Int32) ≤ zv3 then (
    some (Sum.inr S)) else (
    (f_X4_warmthOf 1 zv3 (0 : Int32) S).bind fun zz4 =>
    if oIn ((zv2 * (4 : Int32)) + zv3) 160 then (
    oLet (oStL zz4.2 603 0 (Int32.toNatClampNeg ((zv2 * (4 : Int32)) + zv3)) zz4.1) fun zS5 =>
    oLet (zv3 + (1 : Int32)) fun zx6 =>
    some (Sum.inl (zx6, zS5))) else none)
set_option maxHeartbeats 4000000 in
theorem s_X5_foresee_L30b {X : oX} {e : Nat} (he : 4 ≤ e) (hR : oRoom X (e + 1)) {zv2 : Int32} {VH : Int32 × oS → Prop} {VE : oS → Prop} (hVH : ∀ z, VH z → oVv X mX5_foresee 30 [(0, orf 600 0), (2, oi zv2), (3, oi z.1)] [] z.2) (hVE : ∀ z, VE z → oVv X mX5_foresee 60 [(0, orf 600 0), (2, oi zv2)] [] z) {zv3 : Int32} {S : oS} (h : oH (f_X5_foresee_L30 zv2 (zv3, S)) (fun z => Sum.elim VH VE z)) : oVv X mX5_foresee 30 [(0, orf 600 0), (2, oi zv2), (3, oi zv3)] [] S := by
  dsimp only [f_X5_foresee_L30] at h
  refine o_iload_n (pc := 30) dX5_foresee_30 rfl 2 rfl ?_
  refine o_iconst (v := 4) (pc := 31) dX5_foresee_31 (by decide) ?_
  refine o_icmp_ge 60 (pc := 32) dX5_foresee_32 (by decide) (fun hc => ?_) (fun hc => ?_)
  · have h := oH_T hc h
    refine o_weak [0, 1] rfl ?_
    exact hVE _ (oH_some (P := fun z => Sum.elim VH VE z) h)
  · have h := oH_F hc h
    refine o_aload_n (pc := 35) dX5_foresee_35 rfl 0 rfl ?_
    refine o_getA (pc := 36) fd_RX5_18 ft_600_2 j_600 dX5_foresee_36 ?_
    refine o_iload_n (pc := 39) dX5_foresee_39 rfl 1 rfl ?_
    refine o_iconst (v := 4) (pc := 40) dX5_foresee_40 (by decide) ?_
    refine o_imul (pc := 41) dX5_foresee_41 ?_
    refine o_iload_n (pc := 42) dX5_foresee_42 rfl 2 rfl ?_
    refine o_iadd (pc := 43) dX5_foresee_43 ?_
    refine o_aload_n (pc := 44) dX5_foresee_44 rfl 0 rfl ?_
    refine o_getF (pc := 45) fd_RX5_12 ft_600_1 j_600 dX5_foresee_45 ?_
    refine o_iload_n (pc := 48) dX5_foresee_48 rfl 2 rfl ?_
    refine o_iconst (v := 0) (pc := 49) dX5_foresee_49 (by decide) ?_
    have h := oH_bind h
    refine o_callVl (pc := 50) (st := [oi ((zv2 * (4 : Int32)) + zv3), orf 603 0]) [oi zv3, oi (0 : Int32)] hR md_X4_warmthOf wd_644 wd_428 wd_429 tc_500 j_500_1 rfl (Nat.le_of_ble_eq_true rfl) rfl dX5_foresee_50 (s_X4_warmthOf e (by omega) j_500_1 h) (fun zz4 h => ?_)
    obtain ⟨hg, h⟩ := oH_G h
    have hgi := hg
    refine o_last (pc := 53) kd_603 j_603 hgi dX5_foresee_53 ?_
    refine o_nmS (fun zS5 hx => ?_)
    have h := oH_let h zS5 hx
    clear hx
    obtain ⟨zx6, hx⟩ : ∃ y : Int32, y = zv3 + (1 : Int32) := ⟨_, rfl⟩
    have h := oH_let h zx6 hx
    refine o_iinc (lv1 := [(0, orf 600 0), (2, oi zv2), (3, oi zx6)]) (pc := 54) dX5_foresee_54 2 rfl hx.symm (by decide) rfl ?_
    clear hx
    refine o_goto 30 (pc := 57) dX5_foresee_57 (by decide) ?_
    exact hVH _ (oH_some (P := fun z => Sum.elim VH VE z) h)
theorem s_X5_foresee_L30 {X : oX} {e : Nat} (he : 4 ≤ e) (hR : oRoom X (e + 1)) {zv2 : Int32}  {VE : oS → Prop} (hVE : ∀ z, VE z → oVv X mX5_foresee 60 [(0, orf 600 0), (2, oi zv2)] [] z) (n : Nat) (w : Int32 × oS) (h : oH (oLp (f_X5_foresee_L30 zv2) n w) VE) : oVv X mX5_foresee 30 [(0, orf 600 0), (2, oi zv2), (3, oi w.1)] [] w.2 :=
  oLp_s (VH := fun w => oVv X mX5_foresee 30 [(0, orf 600 0), (2, oi zv2), (3, oi w.1)] [] w.2) (fun w h => s_X5_foresee_L30b he hR  (fun _ h => h) hVE h) n w h
def f_X5_foresee_L10  : Int32 × oS → Option ((Int32 × oS) ⊕ (oS)) := fun w =>
  match w with
  | (zv2, S) =>
    if (40 : Int32) ≤ zv2 then (
    some (Sum.inr S)) else (
    (f_X5_isOpening zv2 S).bind fun zz2 =>
    (f_X4_passTick 1 zz2.1 zz2.2).bind fun zz3 =>
    (oLp (f_X5_foresee_L30 zv2) oFu ((0 : Int32), zz3)).bind fun zz7 =>
    oLet (zv2 + (1 : Int32)) fun zx8 =>
    some (Sum.inl (zx8, zz7)))
set_option maxHeartbeats 4000000 in
theorem s_X5_foresee_L10b {X : oX} {e : Nat} (he : 4 ≤ e) (hR : oRoom X (e + 1))  {VH : Int32 × oS → Prop} {VE : oS → Prop} (hVH : ∀ z, VH z → oVv X mX5_foresee 10 [(0, orf 600 0), (2, oi z.1)] [] z.2) (hVE : ∀ z, VE z → oVv X mX5_foresee 66 [] [] z) {zv2 : Int32} {S : oS} (h : oH (f_X5_foresee_L10 (zv2, S)) (fun z => Sum.elim VH VE z)) : oVv X mX5_foresee 10 [(0, orf 600 0), (2, oi zv2)] [] S := by
  dsimp only [f_X5_foresee_L10] at h
  refine o_iload_n (pc := 10) dX5_foresee_10 rfl 1 rfl ?_
  refine o_bipush (v := 40) (pc := 11) dX5_foresee_11 (by decide) ?_
  refine o_icmp_ge 66 (pc := 13) dX5_foresee_13 (by decide) (fun hc => ?_) (fun hc => ?_)
  · have h := oH_T hc h
    refine o_weak [] rfl ?_
    exact hVE _ (oH_some (P := fun z => Sum.elim VH VE z) h)
  · have h := oH_F hc h
    refine o_aload_n (pc := 16) dX5_foresee_16 rfl 0 rfl ?_
    refine o_getF (pc := 17) fd_RX5_12 ft_600_1 j_600 dX5_foresee_17 ?_
    refine o_aload_n (pc := 20) dX5_foresee_20 rfl 0 rfl ?_
    refine o_iload_n (pc := 21) dX5_foresee_21 rfl 1 rfl ?_
    have h := oH_bind h
    refine o_callVi (pc := 22) (st := [orf 500 1]) [oi zv2] hR md_X5_isOpening wd_639 wd_641 ws_9 tc_600 j_600 rfl (Nat.le_of_ble_eq_true rfl) rfl dX5_foresee_22 (s_X5_isOpening e (by omega)  h) (fun zz2 h => ?_)
    have h := oH_bind h
    refine o_callVv (pc := 25) (st := []) [oi zz2.1] hR md_X4_passTick wd_643 wd_409 wd_410 tc_500 j_500_1 rfl (Nat.le_of_ble_eq_true rfl) rfl dX5_foresee_25 (s_X4_passTick e (by omega) j_500_1 h) (fun zz3 h => ?_)
    refine o_iconst (v := 0) (pc := 28) dX5_foresee_28 (by decide) ?_
    refine o_istore_n (lv1 := [(0, orf 600 0), (2, oi zv2), (3, oi (0 : Int32))]) (pc := 29) dX5_foresee_29 rfl (by decide) rfl ?_
    have h := oH_bind h
    refine s_X5_foresee_L30 he hR  (fun zz7 h => ?_) _ ((0 : Int32), zz3) h
    obtain ⟨zx8, hx⟩ : ∃ y : Int32, y = zv2 + (1 : Int32) := ⟨_, rfl⟩
    have h := oH_let h zx8 hx
    refine o_iinc (lv1 := [(0, orf 600 0), (2, oi zx8)]) (pc := 60) dX5_foresee_60 1 rfl hx.symm (by decide) rfl ?_
    clear hx
    refine o_goto 10 (pc := 63) dX5_foresee_63 (by decide) ?_
    exact hVH _ (oH_some (P := fun z => Sum.elim VH VE z) h)
theorem s_X5_foresee_L10 {X : oX} {e : Nat} (he : 4 ≤ e) (hR : oRoom X (e + 1))   {VE : oS → Prop} (hVE : ∀ z, VE z → oVv X mX5_foresee 66 [] [] z) (n : Nat) (w : Int32 × oS) (h : oH (oLp (f_X5_foresee_L10) n w) VE) : oVv X mX5_foresee 10 [(0, orf 600 0), (2, oi w.1)] [] w.2 :=
  oLp_s (VH := fun w => oVv X mX5_foresee 10 [(0, orf 600 0), (2, oi w.1)] [] w.2) (fun w h => s_X5_foresee_L10b he hR  (fun _ h => h) hVE h) n w h
def f_X5_foresee  (zj1 : Nat) (S : oS) : Option (oS) :=
  (f_X4_copyFrom 1 zj1 S).bind fun zz1 =>
  (oLp (f_X5_foresee_L10) oFu ((0 : Int32), zz1)).bind fun zz9 =>
  some zz9
set_option maxHeartbeats 4000000 in
theorem s_X5_foresee {G : oG} {r : oR} (d : Nat) (hd : 5 ≤ d) {zj1 : Nat} (hzj1 : zj1 < oCnt 500) {S : oS} {P : oS → Prop} (h : oH (f_X5_foresee zj1 S) P) : oCt G r d yX5_foresee mX5_foresee [orf 600 0, orf 500 zj1] S (oQv P) := by
  unfold f_X5_foresee at h
  refine oCt_of (by decide) rfl (Nat.le_of_ble_eq_true rfl) ?_
  intro X hG hr hE0 hR
  subst hG; subst hr
  obtain ⟨e, rfl⟩ : ∃ e, d = e + 1 := ⟨d - 1, by omega⟩
  have he : 4 ≤ e := by omega
  have hE := oEV_of hE0 rfl
  clear hE0 hd
  show oVv X mX5_foresee 0 [(0, orf 600 0), (1, orf 500 zj1)] [] S
  refine o_aload_n (pc := 0) dX5_foresee_0 rfl 0 rfl ?_
  refine o_getF (pc := 1) fd_RX5_12 ft_600_1 j_600 dX5_foresee_1 ?_
  refine o_aload_n (pc := 4) dX5_foresee_4 rfl 1 rfl ?_
  have h := oH_bind h
  refine o_callVv (pc := 5) (st := []) [orf 500 zj1] hR md_X4_copyFrom wd_635 wd_636 wd_637 tc_500 j_500_1 rfl (Nat.le_of_ble_eq_true rfl) rfl dX5_foresee_5 (s_X4_copyFrom e (by omega) j_500_1 hzj1 h) (fun zz1 h => ?_)
  refine o_iconst (v := 0) (pc := 8) dX5_foresee_8 (by decide) ?_
  refine o_istore_n (lv1 := [(0, orf 600 0), (1, orf 500 zj1), (2, oi (0 : Int32))]) (pc := 9) dX5_foresee_9 rfl (by decide) rfl ?_
  refine o_weak [0, 2] rfl ?_
  have h := oH_bind h
  refine s_X5_foresee_L10 he hR  (fun zz9 h => ?_) _ ((0 : Int32), zz1) h
  exact hE _ _ _ dX5_foresee_66 (oH_some h)
def f_X5_firstFreeTick   (S : oS) : Option (Int32 × oS) :=
  if (S.1 600 0 11) = 0 then (
  some ((0 : Int32), S)) else (
  if oIn ((S.1 600 0 11) - (1 : Int32)) 3 then (
  some (((S.1 605 0 (Int32.toNatClampNeg ((S.1 600 0 11) - (1 : Int32)))) + (1 : Int32)), S)) else none)
set_option maxHeartbeats 4000000 in
theorem s_X5_firstFreeTick {G : oG} {r : oR} (d : Nat) (hd : 1 ≤ d)   {S : oS} {P : Int32 × oS → Prop} (h : oH (f_X5_firstFreeTick  S) P) : oCt G r d yX5_firstFreeTick mX5_firstFreeTick [orf 600 0] S (oQi P) := by
  unfold f_X5_firstFreeTick at h
  refine oCt_of (by decide) rfl (Nat.le_of_ble_eq_true rfl) ?_
  intro X hG hr hE0 hR
  subst hG; subst hr
  obtain ⟨e, rfl⟩ : ∃ e, d = e + 1 := ⟨d - 1, by omega⟩
  have he : 0 ≤ e := by omega
  have hE := oEI_of hE0 rfl
  clear hE0 hd
  show oVv X mX5_firstFreeTick 0 [(0, orf 600 0)] [] S
  refine o_aload_n (pc := 0) dX5_firstFreeTick_0 rfl 0 rfl ?_
  refine o_getI (pc := 1) fd_RX5_57 ft_600_11 j_600 dX5_firstFreeTick_1 ?_
  refine o_if_ne 11 (pc := 4) dX5_firstFreeTick_4 (by decide) (fun hc => ?_) (fun hc => ?_)
  · have h := oH_F hc h
    refine o_aload_n (pc := 11) dX5_firstFreeTick_11 rfl 0 rfl ?_
    refine o_getA (pc := 12) fd_RX5_26 ft_600_4 j_600 dX5_firstFreeTick_12 ?_
    refine o_aload_n (pc := 15) dX5_firstFreeTick_15 rfl 0 rfl ?_
    refine o_getI (pc := 16) fd_RX5_57 ft_600_11 j_600 dX5_firstFreeTick_16 ?_
    refine o_iconst (v := 1) (pc := 19) dX5_firstFreeTick_19 (by decide) ?_
    refine o_isub (pc := 20) dX5_firstFreeTick_20 ?_
    obtain ⟨hg, h⟩ := oH_G h
    refine o_iald (pc := 21) kd_605 j_605 hg dX5_firstFreeTick_21 ?_
    refine o_iconst (v := 1) (pc := 22) dX5_firstFreeTick_22 (by decide) ?_
    refine o_iadd (pc := 23) dX5_firstFreeTick_23 ?_
    exact hE _ _ _ _ dX5_firstFreeTick_24 (oH_some h)
  · have h := oH_T hc h
    refine o_iconst (v := 0) (pc := 7) dX5_firstFreeTick_7 (by decide) ?_
    refine o_goto 24 (pc := 8) dX5_firstFreeTick_8 (by decide) ?_
    exact hE _ _ _ _ dX5_firstFreeTick_24 (oH_some h)
def f_X5_findBestLast_L22  : Int32 × oS → Option ((Int32 × oS) ⊕ (oS)) := fun w =>
  match w with
  | (zv3, S) =>
    if (40 : Int32) < zv3 then (
    some (Sum.inr S)) else (
    if (S.1 600 0 10) ≤ (S.1 600 0 14) then (
    some (Sum.inr S)) else (
    (f_X5_addOpening zv3 S).bind fun zz5 =>
    (f_X5_choose zz5.2).bind fun zz6 =>
    oLet (oStI zz6 600 0 11 ((zz6.1 600 0 11) - (1 : Int32))) fun zS7 =>
    if (zS7.1 600 0 12) ≤ (zS7.1 600 0 14) then (
    oLet (zv3 + (1 : Int32)) fun zx8 =>
    some (Sum.inl (zx8, zS7))) else (
    oLet (oStI zS7 600 0 13 zv3) fun zS9 =>
    oLet (oStI zS9 600 0 14 (zS9.1 600 0 12)) fun zS10 =>
    oLet (zv3 + (1 : Int32)) fun zx11 =>
    some (Sum.inl (zx11, zS10)))))
set_option maxHeartbeats 4000000 in
theorem s_X5_findBestLast_L22b {X : oX} {e : Nat} (he : 12 ≤ e) (hR : oRoom X (e + 1))  {VH : Int32 × oS → Prop} {VE : oS → Prop} (hVH : ∀ z, VH z → oVv X mX5_findBestLast 22 [(0, orf 600 0), (3, oi z.1)] [] z.2) (hVE : ∀ z, VE z → oVv X mX5_findBestLast 89 [] [] z) {zv3 : Int32} {S : oS} (h : oH (f_X5_findBestLast_L22 (zv3, S)) (fun z => Sum.elim VH VE z)) : oVv X mX5_findBestLast 22 [(0, orf 600 0), (3, oi zv3)] [] S := by
  dsimp only [f_X5_findBestLast_L22] at h
  refine o_iload_n (pc := 22) dX5_findBestLast_22 rfl 1 rfl ?_
  refine o_bipush (v := 40) (pc := 23) dX5_findBestLast_23 (by decide) ?_
  refine o_icmp_gt 89 (pc := 25) dX5_findBestLast_25 (by decide) (fun hc => ?_) (fun hc => ?_)
  · have h := oH_T hc h
    refine o_weak [] rfl ?_
    exact hVE _ (oH_some (P := fun z => Sum.elim VH VE z) h)
  · have h := oH_F hc h
    refine o_aload_n (pc := 28) dX5_findBestLast_28 rfl 0 rfl ?_
    refine o_getI (pc := 29) fd_RX5_80 ft_600_14 j_600 dX5_findBestLast_29 ?_
    refine o_aload_n (pc := 32) dX5_findBestLast_32 rfl 0 rfl ?_
    refine o_getI (pc := 33) fd_RX5_53 ft_600_10 j_600 dX5_findBestLast_33 ?_
    refine o_icmp_ge 89 (pc := 36) dX5_findBestLast_36 (by decide) (fun hc => ?_) (fun hc => ?_)
    · have h := oH_T hc h
      refine o_weak [] rfl ?_
      exact hVE _ (oH_some (P := fun z => Sum.elim VH VE z) h)
    · have h := oH_F hc h
      refine o_aload_n (pc := 39) dX5_findBestLast_39 rfl 0 rfl ?_
      refine o_iload_n (pc := 40) dX5_findBestLast_40 rfl 1 rfl ?_
      have h := oH_bind h
      refine o_callVi (pc := 41) (st := []) [oi zv3] hR md_X5_addOpening wd_696 wd_616 wd_617 tc_600 j_600 rfl (Nat.le_of_ble_eq_true rfl) rfl dX5_findBestLast_41 (s_X5_addOpening e (by omega)  h) (fun zz5 h => ?_)
      refine o_pop (pc := 44) dX5_findBestLast_44 rfl ?_
      refine o_aload_n (pc := 45) dX5_findBestLast_45 rfl 0 rfl ?_
      have h := oH_bind h
      refine o_callVv (pc := 46) (st := []) [] hR md_X5_choose wd_645 wd_647 ws_10 tc_600 j_600 rfl (Nat.le_of_ble_eq_true rfl) rfl dX5_findBestLast_46 (s_X5_choose e (by omega)  h) (fun zz6 h => ?_)
      refine o_aload_n (pc := 49) dX5_findBestLast_49 rfl 0 rfl ?_
      refine o_dup (pc := 50) dX5_findBestLast_50 rfl ?_
      refine o_getI (pc := 51) fd_RX5_57 ft_600_11 j_600 dX5_findBestLast_51 ?_
      refine o_iconst (v := 1) (pc := 54) dX5_findBestLast_54 (by decide) ?_
      refine o_isub (pc := 55) dX5_findBestLast_55 ?_
      refine o_putI (pc := 56) fd_RX5_57 fp_600_11 ft_600_11 rfl rfl j_600 dX5_findBestLast_56 ?_
      refine o_nmS (fun zS7 hx => ?_)
      have h := oH_let h zS7 hx
      clear hx
      refine o_aload_n (pc := 59) dX5_findBestLast_59 rfl 0 rfl ?_
      refine o_getI (pc := 60) fd_RX5_91 ft_600_12 j_600 dX5_findBestLast_60 ?_
      refine o_aload_n (pc := 63) dX5_findBestLast_63 rfl 0 rfl ?_
      refine o_getI (pc := 64) fd_RX5_80 ft_600_14 j_600 dX5_findBestLast_64 ?_
      refine o_icmp_le 83 (pc := 67) dX5_findBestLast_67 (by decide) (fun hc => ?_) (fun hc => ?_)
      · have h := oH_T hc h
        obtain ⟨zx8, hx⟩ : ∃ y : Int32, y = zv3 + (1 : Int32) := ⟨_, rfl⟩
        have h := oH_let h zx8 hx
        refine o_iinc (lv1 := [(0, orf 600 0), (3, oi zx8)]) (pc := 83) dX5_findBestLast_83 1 rfl hx.symm (by decide) rfl ?_
        clear hx
        refine o_goto 22 (pc := 86) dX5_findBestLast_86 (by decide) ?_
        exact hVH _ (oH_some (P := fun z => Sum.elim VH VE z) h)
      · have h := oH_F hc h
        refine o_aload_n (pc := 70) dX5_findBestLast_70 rfl 0 rfl ?_
        refine o_iload_n (pc := 71) dX5_findBestLast_71 rfl 1 rfl ?_
        refine o_putI (pc := 72) fd_RX5_77 fp_600_13 ft_600_13 rfl rfl j_600 dX5_findBestLast_72 ?_
        refine o_nmS (fun zS9 hx => ?_)
        have h := oH_let h zS9 hx
        clear hx
        refine o_aload_n (pc := 75) dX5_findBestLast_75 rfl 0 rfl ?_
        refine o_aload_n (pc := 76) dX5_findBestLast_76 rfl 0 rfl ?_
        refine o_getI (pc := 77) fd_RX5_91 ft_600_12 j_600 dX5_findBestLast_77 ?_
        refine o_putI (pc := 80) fd_RX5_80 fp_600_14 ft_600_14 rfl rfl j_600 dX5_findBestLast_80 ?_
        refine o_nmS (fun zS10 hx => ?_)
        have h := oH_let h zS10 hx
        clear hx
        obtain ⟨zx11, hx⟩ : ∃ y : Int32, y = zv3 + (1 : Int32) := ⟨_, rfl⟩
        have h := oH_let h zx11 hx
        refine o_iinc (lv1 := [(0, orf 600 0), (3, oi zx11)]) (pc := 83) dX5_findBestLast_83 1 rfl hx.symm (by decide) rfl ?_
        clear hx
        refine o_goto 22 (pc := 86) dX5_findBestLast_86 (by decide) ?_
        exact hVH _ (oH_some (P := fun z => Sum.elim VH VE z) h)
theorem s_X5_findBestLast_L22 {X : oX} {e : Nat} (he : 12 ≤ e) (hR : oRoom X (e + 1))   {VE : oS → Prop} (hVE : ∀ z, VE z → oVv X mX5_findBestLast 89 [] [] z) (n : Nat) (w : Int32 × oS) (h : oH (oLp (f_X5_findBestLast_L22) n w) VE) : oVv X mX5_findBestLast 22 [(0, orf 600 0), (3, oi w.1)] [] w.2 :=
  oLp_s (VH := fun w => oVv X mX5_findBestLast 22 [(0, orf 600 0), (3, oi w.1)] [] w.2) (fun w h => s_X5_findBestLast_L22b he hR  (fun _ h => h) hVE h) n w h
def f_X5_findBestLast  (zj1 : Nat) (S : oS) : Option (oS) :=
  (f_X5_foresee zj1 S).bind fun zz1 =>
  oLet (oStI zz1 600 0 13 (-1 : Int32)) fun zS2 =>
  oLet (oStI zS2 600 0 14 (-1 : Int32)) fun zS3 =>
  (f_X5_firstFreeTick zS3).bind fun zz4 =>
  (oLp (f_X5_findBestLast_L22) oFu (zz4.1, zz4.2)).bind fun zz12 =>
  some zz12
set_option maxHeartbeats 4000000 in
theorem s_X5_findBestLast {G : oG} {r : oR} (d : Nat) (hd : 13 ≤ d) {zj1 : Nat} (hzj1 : zj1 < oCnt 500) {S : oS} {P : oS → Prop} (h : oH (f_X5_findBestLast zj1 S) P) : oCt G r d yX5_findBestLast mX5_findBestLast [orf 600 0, orf 500 zj1] S (oQv P) := by
  unfold f_X5_findBestLast at h
  refine oCt_of (by decide) rfl (Nat.le_of_ble_eq_true rfl) ?_
  intro X hG hr hE0 hR
  subst hG; subst hr
  obtain ⟨e, rfl⟩ : ∃ e, d = e + 1 := ⟨d - 1, by omega⟩
  have he : 12 ≤ e := by omega
  have hE := oEV_of hE0 rfl
  clear hE0 hd
  show oVv X mX5_findBestLast 0 [(0, orf 600 0), (1, orf 500 zj1)] [] S
  refine o_aload_n (pc := 0) dX5_findBestLast_0 rfl 0 rfl ?_
  refine o_aload_n (pc := 1) dX5_findBestLast_1 rfl 1 rfl ?_
  have h := oH_bind h
  refine o_callVv (pc := 2) (st := []) [orf 500 zj1] hR md_X5_foresee wd_631 wd_633 ws_8 tc_600 j_600 rfl (Nat.le_of_ble_eq_true rfl) rfl dX5_findBestLast_2 (s_X5_foresee e (by omega) hzj1 h) (fun zz1 h => ?_)
  refine o_aload_n (pc := 5) dX5_findBestLast_5 rfl 0 rfl ?_
  refine o_iconst (v := -1) (pc := 6) dX5_findBestLast_6 (by decide) ?_
  refine o_putI (pc := 7) fd_RX5_77 fp_600_13 ft_600_13 rfl rfl j_600 dX5_findBestLast_7 ?_
  refine o_nmS (fun zS2 hx => ?_)
  have h := oH_let h zS2 hx
  clear hx
  refine o_aload_n (pc := 10) dX5_findBestLast_10 rfl 0 rfl ?_
  refine o_iconst (v := -1) (pc := 11) dX5_findBestLast_11 (by decide) ?_
  refine o_putI (pc := 12) fd_RX5_80 fp_600_14 ft_600_14 rfl rfl j_600 dX5_findBestLast_12 ?_
  refine o_nmS (fun zS3 hx => ?_)
  have h := oH_let h zS3 hx
  clear hx
  refine o_aload_n (pc := 15) dX5_findBestLast_15 rfl 0 rfl ?_
  have h := oH_bind h
  refine o_callVi (pc := 16) (st := []) [] hR md_X5_firstFreeTick wd_695 wd_612 wd_613 tc_600 j_600 rfl (Nat.le_of_ble_eq_true rfl) rfl dX5_findBestLast_16 (s_X5_firstFreeTick e (by omega)  h) (fun zz4 h => ?_)
  refine o_istore_n (lv1 := [(0, orf 600 0), (1, orf 500 zj1), (2, oi zz4.1)]) (pc := 19) dX5_findBestLast_19 rfl (by decide) rfl ?_
  refine o_iload_n (pc := 20) dX5_findBestLast_20 rfl 2 rfl ?_
  refine o_istore_n (lv1 := [(0, orf 600 0), (1, orf 500 zj1), (2, oi zz4.1), (3, oi zz4.1)]) (pc := 21) dX5_findBestLast_21 rfl (by decide) rfl ?_
  refine o_weak [0, 3] rfl ?_
  have h := oH_bind h
  refine s_X5_findBestLast_L22 he hR  (fun zz12 h => ?_) _ (zz4.1, zz4.2) h
  exact hE _ _ _ dX5_findBestLast_89 (oH_some h)
def f_X5_makePlan  (zj1 : Nat) (S : oS) : Option (oS) :=
  (f_X5_foresee zj1 S).bind fun zz1 =>
  (f_X5_choose zz1).bind fun zz2 =>
  some zz2
set_option maxHeartbeats 4000000 in
theorem s_X5_makePlan {G : oG} {r : oR} (d : Nat) (hd : 13 ≤ d) {zj1 : Nat} (hzj1 : zj1 < oCnt 500) {S : oS} {P : oS → Prop} (h : oH (f_X5_makePlan zj1 S) P) : oCt G r d yX5_makePlan mX5_makePlan [orf 600 0, orf 500 zj1] S (oQv P) := by
  unfold f_X5_makePlan at h
  refine oCt_of (by decide) rfl (Nat.le_of_ble_eq_true rfl) ?_
  intro X hG hr hE0 hR
  subst hG; subst hr
  obtain ⟨e, rfl⟩ : ∃ e, d = e + 1 := ⟨d - 1, by omega⟩
  have he : 12 ≤ e := by omega
  have hE := oEV_of hE0 rfl
  clear hE0 hd
  show oVv X mX5_makePlan 0 [(0, orf 600 0), (1, orf 500 zj1)] [] S
  refine o_aload_n (pc := 0) dX5_makePlan_0 rfl 0 rfl ?_
  refine o_aload_n (pc := 1) dX5_makePlan_1 rfl 1 rfl ?_
  have h := oH_bind h
  refine o_callVv (pc := 2) (st := []) [orf 500 zj1] hR md_X5_foresee wd_631 wd_633 ws_8 tc_600 j_600 rfl (Nat.le_of_ble_eq_true rfl) rfl dX5_makePlan_2 (s_X5_foresee e (by omega) hzj1 h) (fun zz1 h => ?_)
  refine o_aload_n (pc := 5) dX5_makePlan_5 rfl 0 rfl ?_
  have h := oH_bind h
  refine o_callVv (pc := 6) (st := []) [] hR md_X5_choose wd_645 wd_647 ws_10 tc_600 j_600 rfl (Nat.le_of_ble_eq_true rfl) rfl dX5_makePlan_6 (s_X5_choose e (by omega)  h) (fun zz2 h => ?_)
  exact hE _ _ _ dX5_makePlan_9 (oH_some h)
def f_X5_tell_K56 (zs1 : Int32) (S : oS) : Option (Int32 × oS) :=
  if oIn zs1 3 then (
  some (S.1 605 0 (Int32.toNatClampNeg zs1), S)) else none
set_option maxHeartbeats 4000000 in
theorem s_X5_tell_K56 {X : oX} {e : Nat} (he : 1 ≤ e) (hR : oRoom X (e + 1)) {zs1 : Int32} {P : Int32 × oS → Prop} (hE : oEI X mX5_tell P) {S : oS} (h : oH (f_X5_tell_K56 zs1 S) P) : oVv X mX5_tell 56 [] [oi zs1, orf 605 0] S := by
  unfold f_X5_tell_K56 at h
  obtain ⟨hg, h⟩ := oH_G h
  refine o_iald (pc := 56) kd_605 j_605 hg dX5_tell_56 ?_
  exact hE _ _ _ _ dX5_tell_57 (oH_some h)
def f_X5_tell  (za1 : Int32) (za2 : Int32) (S : oS) : Option (Int32 × oS) :=
  if oIn za1 4 then (
  oLet (S.1 610 0 (Int32.toNatClampNeg za1)) fun zx1 =>
  (f_X8_within zx1 (0 : Int32) (11 : Int32) S).bind fun zz2 =>
  if zz2.1 = 0 then (
  some ((-1 : Int32), zz2.2)) else (
  if za2 = 0 then (
  some ((zx1 - zx1 / (4 : Int32) * (4 : Int32)), zz2.2)) else (
  oLet ((zx1 / (4 : Int32))) fun zx3 =>
  if za2 = (1 : Int32) then (
  if oIn zx3 3 then (
  f_X5_tell_K56 (oPIN (Int32.toNatClampNeg zx3)) zz2.2) else none) else (
  if oIn zx3 3 then (
  f_X5_tell_K56 (oPOUT (Int32.toNatClampNeg zx3)) zz2.2) else none)))) else none
set_option maxHeartbeats 4000000 in
theorem s_X5_tell {G : oG} {r : oR} (d : Nat) (hd : 2 ≤ d) {za1 : Int32} {za2 : Int32}  {S : oS} {P : Int32 × oS → Prop} (h : oH (f_X5_tell za1 za2 S) P) : oCt G r d yX5_tell mX5_tell [orf 600 0, oi za1, oi za2] S (oQi P) := by
  unfold f_X5_tell at h
  refine oCt_of (by decide) rfl (Nat.le_of_ble_eq_true rfl) ?_
  intro X hG hr hE0 hR
  subst hG; subst hr
  obtain ⟨e, rfl⟩ : ∃ e, d = e + 1 := ⟨d - 1, by omega⟩
  have he : 1 ≤ e := by omega
  have hE := oEI_of hE0 rfl
  clear hE0 hd
  show oVv X mX5_tell 0 [(0, orf 600 0), (1, oi za1), (2, oi za2)] [] S
  refine o_aload_n (pc := 0) dX5_tell_0 rfl 0 rfl ?_
  refine o_getA (pc := 1) fd_RX5_45 ft_600_9 j_600 dX5_tell_1 ?_
  refine o_iload_n (pc := 4) dX5_tell_4 rfl 1 rfl ?_
  obtain ⟨hg, h⟩ := oH_G h
  refine o_iald (pc := 5) kd_610 j_610 hg dX5_tell_5 ?_
  refine o_nmI (fun zx1 hx => ?_)
  have h := oH_let h zx1 hx
  clear hx
  refine o_istore_n (lv1 := [(0, orf 600 0), (1, oi za1), (2, oi za2), (3, oi zx1)]) (pc := 6) dX5_tell_6 rfl (by decide) rfl ?_
  refine o_iload_n (pc := 7) dX5_tell_7 rfl 3 rfl ?_
  refine o_iconst (v := 0) (pc := 8) dX5_tell_8 (by decide) ?_
  refine o_bipush (v := 11) (pc := 9) dX5_tell_9 (by decide) ?_
  have h := oH_bind h
  refine o_callSNi (host := "VillageOven") (pc := 11) (st := []) [oi zx1, oi (0 : Int32), oi (11 : Int32)] hR md_X8_within (by decide +kernel) wd_376 rfl (Nat.le_of_ble_eq_true rfl) rfl dX5_tell_11 (s_X8_within e (by omega)  h) (fun zz2 h => ?_)
  refine o_if_ne 19 (pc := 14) dX5_tell_14 (by decide) (fun hc => ?_) (fun hc => ?_)
  · have h := oH_F hc h
    refine o_iload_n (pc := 19) dX5_tell_19 rfl 2 rfl ?_
    refine o_if_ne 27 (pc := 20) dX5_tell_20 (by decide) (fun hc => ?_) (fun hc => ?_)
    · have h := oH_F hc h
      refine o_iload_n (pc := 27) dX5_tell_27 rfl 3 rfl ?_
      refine o_iconst (v := 4) (pc := 28) dX5_tell_28 (by decide) ?_
      refine o_idiv (pc := 29) dX5_tell_29 (by decide) ?_
      refine o_nmI (fun zx3 hx => ?_)
      have h := oH_let h zx3 hx
      clear hx
      refine o_istore (lv1 := [(0, orf 600 0), (1, oi za1), (2, oi za2), (3, oi zx1), (4, oi zx3)]) (pc := 30) dX5_tell_30 (by decide) rfl ?_
      refine o_aload_n (pc := 32) dX5_tell_32 rfl 0 rfl ?_
      refine o_getA (pc := 33) fd_RX5_26 ft_600_4 j_600 dX5_tell_33 ?_
      refine o_iload_n (pc := 36) dX5_tell_36 rfl 2 rfl ?_
      refine o_iconst (v := 1) (pc := 37) dX5_tell_37 (by decide) ?_
      refine o_icmp_ne 50 (pc := 38) dX5_tell_38 (by decide) (fun hc => ?_) (fun hc => ?_)
      · have h := oH_F hc h
        refine o_getsN (i := 4) (host := "VillageOven") (pc := 50) (by decide) (by decide +kernel) dX5_tell_50 ?_
        refine o_iload (pc := 53) dX5_tell_53 4 rfl ?_
        obtain ⟨hg, h⟩ := oH_G h
        refine o_sald_2004 (pc := 55) hg dX5_tell_55 ?_
        refine o_weak [] rfl ?_
        exact s_X5_tell_K56 he hR  hE h
      · have h := oH_T hc h
        refine o_getsN (i := 3) (host := "VillageOven") (pc := 41) (by decide) (by decide +kernel) dX5_tell_41 ?_
        refine o_iload (pc := 44) dX5_tell_44 4 rfl ?_
        obtain ⟨hg, h⟩ := oH_G h
        refine o_sald_2003 (pc := 46) hg dX5_tell_46 ?_
        refine o_goto 56 (pc := 47) dX5_tell_47 (by decide) ?_
        refine o_weak [] rfl ?_
        exact s_X5_tell_K56 he hR  hE h
    · have h := oH_T hc h
      refine o_iload_n (pc := 23) dX5_tell_23 rfl 3 rfl ?_
      refine o_iconst (v := 4) (pc := 24) dX5_tell_24 (by decide) ?_
      refine o_irem (pc := 25) dX5_tell_25 (by decide) ?_
      exact hE _ _ _ _ dX5_tell_26 (oH_some h)
  · have h := oH_T hc h
    refine o_iconst (v := -1) (pc := 17) dX5_tell_17 (by decide) ?_
    exact hE _ _ _ _ dX5_tell_18 (oH_some h)
