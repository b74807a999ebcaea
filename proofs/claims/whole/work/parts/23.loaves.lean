def f_X3_isOut  (za1 : Int32) (S : oS) : Option (Int32 × oS) :=
  if oIn za1 200 then (
  if (S.1 404 0 (Int32.toNatClampNeg za1)) = (-1 : Int32) then (
  some ((1 : Int32), S)) else (
  some ((0 : Int32), S))) else none
set_option maxHeartbeats 4000000 in
theorem s_X3_isOut {G : oG} {r : oR} (d : Nat) (hd : 1 ≤ d) {za1 : Int32}  {S : oS} {P : Int32 × oS → Prop} (h : oH (f_X3_isOut za1 S) P) : oCt G r d yX3_isOut mX3_isOut [orf 400 0, oi za1] S (oQi P) := by
  unfold f_X3_isOut at h
  refine oCt_of (by decide) rfl (Nat.le_of_ble_eq_true rfl) ?_
  intro X hG hr hE0 hR
  subst hG; subst hr
  obtain ⟨e, rfl⟩ : ∃ e, d = e + 1 := ⟨d - 1, by omega⟩
  have he : 0 ≤ e := by omega
  have hE := oEZ_of hE0 rfl
  clear hE0 hd
  show oVv X mX3_isOut 0 [(0, orf 400 0), (1, oi za1)] [] S
  refine o_aload_n (pc := 0) dX3_isOut_0 rfl 0 rfl ?_
  refine o_getA (pc := 1) fd_RX3_21 ft_400_3 j_400 dX3_isOut_1 ?_
  refine o_iload_n (pc := 4) dX3_isOut_4 rfl 1 rfl ?_
  obtain ⟨hg, h⟩ := oH_G h
  refine o_iald (pc := 5) kd_404 j_404 hg dX3_isOut_5 ?_
  refine o_iconst (v := -1) (pc := 6) dX3_isOut_6 (by decide) ?_
  refine o_icmp_ne 14 (pc := 7) dX3_isOut_7 (by decide) (fun hc => ?_) (fun hc => ?_)
  · have h := oH_F hc h
    refine o_iconst (v := 0) (pc := 14) dX3_isOut_14 (by decide) ?_
    exact hE _ _ _ _ dX3_isOut_15 (by decide) (oH_some h)
  · have h := oH_T hc h
    refine o_iconst (v := 1) (pc := 10) dX3_isOut_10 (by decide) ?_
    refine o_goto 15 (pc := 11) dX3_isOut_11 (by decide) ?_
    exact hE _ _ _ _ dX3_isOut_15 (by decide) (oH_some h)
def f_X3_anyInsideOf_L2 (zv1 : Int32) : Int32 × oS → Option ((Int32 × oS) ⊕ ((oS) ⊕ (Int32 × oS))) := fun w =>
  match w with
  | (zv2, S) =>
    if (S.1 400 0 8) ≤ zv2 then (
    some (Sum.inr (Sum.inl S))) else (
    (f_X3_isOut zv2 S).bind fun zz1 =>
    if zz1.1 = 0 then (
    if oIn zv2 200 then (
    if (zz1.2.1 403 0 (Int32.toNatClampNeg zv2)) = zv1 then (
    some (Sum.inr (Sum.inr ((1 : Int32), zz1.2)))) else (
    oLet (zv2 + (1 : Int32)) fun zx3 =>
    some (Sum.inl (zx3, zz1.2)))) else none) else (
    oLet (zv2 + (1 : Int32)) fun zx2 =>
    some (Sum.inl (zx2, zz1.2))))
set_option maxHeartbeats 4000000 in
theorem s_X3_anyInsideOf_L2b {X : oX} {e : Nat} (he : 1 ≤ e) (hR : oRoom X (e + 1)) {zv1 : Int32} {VH : Int32 × oS → Prop} {VE : (oS) ⊕ (Int32 × oS) → Prop} (hVH : ∀ z, VH z → oVv X mX3_anyInsideOf 2 [(0, orf 400 0), (1, oi zv1), (2, oi z.1)] [] z.2) (hVE : ∀ z, VE (Sum.inl z) → oVv X mX3_anyInsideOf 36 [] [] z) {PQ : Int32 × oS → Prop} (hE : oEZ X mX3_anyInsideOf PQ) (hRet : ∀ z, VE (Sum.inr z) → PQ z) {zv2 : Int32} {S : oS} (h : oH (f_X3_anyInsideOf_L2 zv1 (zv2, S)) (fun z => Sum.elim VH VE z)) : oVv X mX3_anyInsideOf 2 [(0, orf 400 0), (1, oi zv1), (2, oi zv2)] [] S := by
  dsimp only [f_X3_anyInsideOf_L2] at h
  refine o_iload_n (pc := 2) dX3_anyInsideOf_2 rfl 2 rfl ?_
  refine o_aload_n (pc := 3) dX3_anyInsideOf_3 rfl 0 rfl ?_
  refine o_getI (pc := 4) fd_RX3_41 ft_400_8 j_400 dX3_anyInsideOf_4 ?_
  refine o_icmp_ge 36 (pc := 7) dX3_anyInsideOf_7 (by decide) (fun hc => ?_) (fun hc => ?_)
  · have h := oH_T hc h
    refine o_weak [] rfl ?_
    exact hVE _ (oH_some (P := fun z => Sum.elim VH VE z) h)
  · have h := oH_F hc h
    refine o_aload_n (pc := 10) dX3_anyInsideOf_10 rfl 0 rfl ?_
    refine o_iload_n (pc := 11) dX3_anyInsideOf_11 rfl 2 rfl ?_
    have h := oH_bind h
    refine o_callVi (pc := 12) (st := []) [oi zv2] hR md_X3_isOut wd_462 wd_463 wd_464 tc_400 j_400 rfl (Nat.le_of_ble_eq_true rfl) rfl dX3_anyInsideOf_12 (s_X3_isOut e (by omega)  h) (fun zz1 h => ?_)
    refine o_if_ne 30 (pc := 15) dX3_anyInsideOf_15 (by decide) (fun hc => ?_) (fun hc => ?_)
    · have h := oH_F hc h
      obtain ⟨zx2, hx⟩ : ∃ y : Int32, y = zv2 + (1 : Int32) := ⟨_, rfl⟩
      have h := oH_let h zx2 hx
      refine o_iinc (lv1 := [(0, orf 400 0), (1, oi zv1), (2, oi zx2)]) (pc := 30) dX3_anyInsideOf_30 2 rfl hx.symm (by decide) rfl ?_
      clear hx
      refine o_goto 2 (pc := 33) dX3_anyInsideOf_33 (by decide) ?_
      exact hVH _ (oH_some (P := fun z => Sum.elim VH VE z) h)
    · have h := oH_T hc h
      refine o_aload_n (pc := 18) dX3_anyInsideOf_18 rfl 0 rfl ?_
      refine o_getA (pc := 19) fd_RX3_17 ft_400_2 j_400 dX3_anyInsideOf_19 ?_
      refine o_iload_n (pc := 22) dX3_anyInsideOf_22 rfl 2 rfl ?_
      obtain ⟨hg, h⟩ := oH_G h
      refine o_iald (pc := 23) kd_403 j_403 hg dX3_anyInsideOf_23 ?_
      refine o_iload_n (pc := 24) dX3_anyInsideOf_24 rfl 1 rfl ?_
      refine o_icmp_ne 30 (pc := 25) dX3_anyInsideOf_25 (by decide) (fun hc => ?_) (fun hc => ?_)
      · have h := oH_F hc h
        obtain ⟨zx3, hx⟩ : ∃ y : Int32, y = zv2 + (1 : Int32) := ⟨_, rfl⟩
        have h := oH_let h zx3 hx
        refine o_iinc (lv1 := [(0, orf 400 0), (1, oi zv1), (2, oi zx3)]) (pc := 30) dX3_anyInsideOf_30 2 rfl hx.symm (by decide) rfl ?_
        clear hx
        refine o_goto 2 (pc := 33) dX3_anyInsideOf_33 (by decide) ?_
        exact hVH _ (oH_some (P := fun z => Sum.elim VH VE z) h)
      · have h := oH_T hc h
        refine o_iconst (v := 1) (pc := 28) dX3_anyInsideOf_28 (by decide) ?_
        exact hE _ _ _ _ dX3_anyInsideOf_29 (by decide) (hRet _ (oH_some (P := fun z => Sum.elim VH VE z) h))
theorem s_X3_anyInsideOf_L2 {X : oX} {e : Nat} (he : 1 ≤ e) (hR : oRoom X (e + 1)) {zv1 : Int32}  {VE : (oS) ⊕ (Int32 × oS) → Prop} (hVE : ∀ z, VE (Sum.inl z) → oVv X mX3_anyInsideOf 36 [] [] z) {PQ : Int32 × oS → Prop} (hE : oEZ X mX3_anyInsideOf PQ) (hRet : ∀ z, VE (Sum.inr z) → PQ z) (n : Nat) (w : Int32 × oS) (h : oH (oLp (f_X3_anyInsideOf_L2 zv1) n w) VE) : oVv X mX3_anyInsideOf 2 [(0, orf 400 0), (1, oi zv1), (2, oi w.1)] [] w.2 :=
  oLp_s (VH := fun w => oVv X mX3_anyInsideOf 2 [(0, orf 400 0), (1, oi zv1), (2, oi w.1)] [] w.2) (fun w h => s_X3_anyInsideOf_L2b he hR  (fun _ h => h) hVE hE hRet h) n w h
def f_X3_anyInsideOf  (za1 : Int32) (S : oS) : Option (Int32 × oS) :=
  (oLp (f_X3_anyInsideOf_L2 za1) oFu ((0 : Int32), S)).bind fun w => Sum.elim (fun zz4 =>
  some ((0 : Int32), zz4)) (fun r => some r) w
set_option maxHeartbeats 4000000 in
theorem s_X3_anyInsideOf {G : oG} {r : oR} (d : Nat) (hd : 2 ≤ d) {za1 : Int32}  {S : oS} {P : Int32 × oS → Prop} (h : oH (f_X3_anyInsideOf za1 S) P) : oCt G r d yX3_anyInsideOf mX3_anyInsideOf [orf 400 0, oi za1] S (oQi P) := by
  unfold f_X3_anyInsideOf at h
  refine oCt_of (by decide) rfl (Nat.le_of_ble_eq_true rfl) ?_
  intro X hG hr hE0 hR
  subst hG; subst hr
  obtain ⟨e, rfl⟩ : ∃ e, d = e + 1 := ⟨d - 1, by omega⟩
  have he : 1 ≤ e := by omega
  have hE := oEZ_of hE0 rfl
  clear hE0 hd
  show oVv X mX3_anyInsideOf 0 [(0, orf 400 0), (1, oi za1)] [] S
  refine o_iconst (v := 0) (pc := 0) dX3_anyInsideOf_0 (by decide) ?_
  refine o_istore_n (lv1 := [(0, orf 400 0), (1, oi za1), (2, oi (0 : Int32))]) (pc := 1) dX3_anyInsideOf_1 rfl (by decide) rfl ?_
  have h := oH_bind h
  refine s_X3_anyInsideOf_L2 he hR  ?_ hE ?_ _ ((0 : Int32), S) h
  · intro zz4 h
    have h := oElimL h
    refine o_iconst (v := 0) (pc := 36) dX3_anyInsideOf_36 (by decide) ?_
    exact hE _ _ _ _ dX3_anyInsideOf_37 (by decide) (oH_some h)
  · intro r h
    have h := oElimR h
    exact oH_some (P := P) h
def f_X3_grow  (za1 : Int32) (za2 : Int64) (S : oS) : Option (oS) :=
  if oIn za1 200 then (
  if oIn za1 200 then (
  oLet (oStI S 405 0 (Int32.toNatClampNeg za1) ((S.1 405 0 (Int32.toNatClampNeg za1)) + (1 : Int32))) fun zS1 =>
  if oIn za1 200 then (
  if oIn za1 200 then (
  (f_X1_lookAt (zS1.1 403 0 (Int32.toNatClampNeg za1)) (zS1.1 405 0 (Int32.toNatClampNeg za1)) za2 zS1).bind fun zz2 =>
  if zz2.1 = 0 then (
  if oIn za1 200 then (
  if oIn za1 200 then (
  oLet (oStI zz2.2 406 0 (Int32.toNatClampNeg za1) ((zz2.2.1 406 0 (Int32.toNatClampNeg za1)) + (1 : Int32))) fun zS5 =>
  some zS5) else none) else none) else (
  if zz2.1 = (1 : Int32) then (
  if oIn za1 200 then (
  if oIn za1 200 then (
  oLet (oStI zz2.2 407 0 (Int32.toNatClampNeg za1) ((zz2.2.1 407 0 (Int32.toNatClampNeg za1)) + (1 : Int32))) fun zS4 =>
  some zS4) else none) else none) else (
  if oIn za1 200 then (
  if oIn za1 200 then (
  oLet (oStI zz2.2 408 0 (Int32.toNatClampNeg za1) ((zz2.2.1 408 0 (Int32.toNatClampNeg za1)) + (1 : Int32))) fun zS3 =>
  some zS3) else none) else none))) else none) else none) else none) else none
set_option maxHeartbeats 4000000 in
theorem s_X3_grow {G : oG} {r : oR} (d : Nat) (hd : 3 ≤ d) {za1 : Int32} {za2 : Int64}  {S : oS} {P : oS → Prop} (h : oH (f_X3_grow za1 za2 S) P) : oCt G r d yX3_grow mX3_grow [orf 400 0, oi za1, ol za2] S (oQv P) := by
  unfold f_X3_grow at h
  refine oCt_of (by decide) rfl (Nat.le_of_ble_eq_true rfl) ?_
  intro X hG hr hE0 hR
  subst hG; subst hr
  obtain ⟨e, rfl⟩ : ∃ e, d = e + 1 := ⟨d - 1, by omega⟩
  have he : 2 ≤ e := by omega
  have hE := oEV_of hE0 rfl
  clear hE0 hd
  show oVv X mX3_grow 0 [(0, orf 400 0), (1, oi za1), (2, ol za2)] [] S
  refine o_aload_n (pc := 0) dX3_grow_0 rfl 0 rfl ?_
  refine o_getA (pc := 1) fd_RX3_24 ft_400_4 j_400 dX3_grow_1 ?_
  refine o_iload_n (pc := 4) dX3_grow_4 rfl 1 rfl ?_
  refine o_dup2 (pc := 5) dX3_grow_5 rfl rfl ?_
  obtain ⟨hg, h⟩ := oH_G h
  refine o_iald (pc := 6) kd_405 j_405 hg dX3_grow_6 ?_
  refine o_iconst (v := 1) (pc := 7) dX3_grow_7 (by decide) ?_
  refine o_iadd (pc := 8) dX3_grow_8 ?_
  obtain ⟨hg, h⟩ := oH_G h
  have hgi := hg
  refine o_iast (pc := 9) kd_405 j_405 hgi dX3_grow_9 ?_
  refine o_nmS (fun zS1 hx => ?_)
  have h := oH_let h zS1 hx
  clear hx
  refine o_aload_n (pc := 10) dX3_grow_10 rfl 0 rfl ?_
  refine o_getF (pc := 11) fd_RX3_36 ft_400_0 j_400 dX3_grow_11 ?_
  refine o_aload_n (pc := 14) dX3_grow_14 rfl 0 rfl ?_
  refine o_getA (pc := 15) fd_RX3_17 ft_400_2 j_400 dX3_grow_15 ?_
  refine o_iload_n (pc := 18) dX3_grow_18 rfl 1 rfl ?_
  obtain ⟨hg, h⟩ := oH_G h
  refine o_iald (pc := 19) kd_403 j_403 hg dX3_grow_19 ?_
  refine o_aload_n (pc := 20) dX3_grow_20 rfl 0 rfl ?_
  refine o_getA (pc := 21) fd_RX3_24 ft_400_4 j_400 dX3_grow_21 ?_
  refine o_iload_n (pc := 24) dX3_grow_24 rfl 1 rfl ?_
  obtain ⟨hg, h⟩ := oH_G h
  refine o_iald (pc := 25) kd_405 j_405 hg dX3_grow_25 ?_
  refine o_lload_n (pc := 26) dX3_grow_26 rfl 2 rfl ?_
  have h := oH_bind h
  refine o_callVi (pc := 27) (st := []) [oi (zS1.1 403 0 (Int32.toNatClampNeg za1)), oi (zS1.1 405 0 (Int32.toNatClampNeg za1)), ol za2] hR md_X1_lookAt wd_476 wd_477 wd_478 tc_200 j_200 rfl (Nat.le_of_ble_eq_true rfl) rfl dX3_grow_27 (s_X1_lookAt e (by omega)  h) (fun zz2 h => ?_)
  refine o_istore (lv1 := [(0, orf 400 0), (1, oi za1), (2, ol za2), (4, oi zz2.1)]) (pc := 30) dX3_grow_30 (by decide) rfl ?_
  refine o_iload (pc := 32) dX3_grow_32 3 rfl ?_
  refine o_if_ne 50 (pc := 34) dX3_grow_34 (by decide) (fun hc => ?_) (fun hc => ?_)
  · have h := oH_F hc h
    refine o_iload (pc := 50) dX3_grow_50 3 rfl ?_
    refine o_iconst (v := 1) (pc := 52) dX3_grow_52 (by decide) ?_
    refine o_icmp_ne 69 (pc := 53) dX3_grow_53 (by decide) (fun hc => ?_) (fun hc => ?_)
    · have h := oH_F hc h
      refine o_aload_n (pc := 69) dX3_grow_69 rfl 0 rfl ?_
      refine o_getA (pc := 70) fd_RX3_33 ft_400_7 j_400 dX3_grow_70 ?_
      refine o_iload_n (pc := 73) dX3_grow_73 rfl 1 rfl ?_
      refine o_dup2 (pc := 74) dX3_grow_74 rfl rfl ?_
      obtain ⟨hg, h⟩ := oH_G h
      refine o_iald (pc := 75) kd_408 j_408 hg dX3_grow_75 ?_
      refine o_iconst (v := 1) (pc := 76) dX3_grow_76 (by decide) ?_
      refine o_iadd (pc := 77) dX3_grow_77 ?_
      obtain ⟨hg, h⟩ := oH_G h
      have hgi := hg
      refine o_iast (pc := 78) kd_408 j_408 hgi dX3_grow_78 ?_
      refine o_nmS (fun zS3 hx => ?_)
      have h := oH_let h zS3 hx
      clear hx
      exact hE _ _ _ dX3_grow_79 (oH_some h)
    · have h := oH_T hc h
      refine o_aload_n (pc := 56) dX3_grow_56 rfl 0 rfl ?_
      refine o_getA (pc := 57) fd_RX3_30 ft_400_6 j_400 dX3_grow_57 ?_
      refine o_iload_n (pc := 60) dX3_grow_60 rfl 1 rfl ?_
      refine o_dup2 (pc := 61) dX3_grow_61 rfl rfl ?_
      obtain ⟨hg, h⟩ := oH_G h
      refine o_iald (pc := 62) kd_407 j_407 hg dX3_grow_62 ?_
      refine o_iconst (v := 1) (pc := 63) dX3_grow_63 (by decide) ?_
      refine o_iadd (pc := 64) dX3_grow_64 ?_
      obtain ⟨hg, h⟩ := oH_G h
      have hgi := hg
      refine o_iast (pc := 65) kd_407 j_407 hgi dX3_grow_65 ?_
      refine o_nmS (fun zS4 hx => ?_)
      have h := oH_let h zS4 hx
      clear hx
      refine o_goto 79 (pc := 66) dX3_grow_66 (by decide) ?_
      exact hE _ _ _ dX3_grow_79 (oH_some h)
  · have h := oH_T hc h
    refine o_aload_n (pc := 37) dX3_grow_37 rfl 0 rfl ?_
    refine o_getA (pc := 38) fd_RX3_27 ft_400_5 j_400 dX3_grow_38 ?_
    refine o_iload_n (pc := 41) dX3_grow_41 rfl 1 rfl ?_
    refine o_dup2 (pc := 42) dX3_grow_42 rfl rfl ?_
    obtain ⟨hg, h⟩ := oH_G h
    refine o_iald (pc := 43) kd_406 j_406 hg dX3_grow_43 ?_
    refine o_iconst (v := 1) (pc := 44) dX3_grow_44 (by decide) ?_
    refine o_iadd (pc := 45) dX3_grow_45 ?_
    obtain ⟨hg, h⟩ := oH_G h
    have hgi := hg
    refine o_iast (pc := 46) kd_406 j_406 hgi dX3_grow_46 ?_
    refine o_nmS (fun zS5 hx => ?_)
    have h := oH_let h zS5 hx
    clear hx
    refine o_goto 79 (pc := 47) dX3_grow_47 (by decide) ?_
    exact hE _ _ _ dX3_grow_79 (oH_some h)
def f_X3_bake_L2 (zj1 : Nat) : Int32 × oS → Option ((Int32 × oS) ⊕ (oS)) := fun w =>
  match w with
  | (zv2, S) =>
    if (S.1 400 0 8) ≤ zv2 then (
    some (Sum.inr S)) else (
    (f_X3_isOut zv2 S).bind fun zz1 =>
    if zz1.1 = 0 then (
    if oIn zv2 200 then (
    (f_X4_drawFromLining zj1 (zz1.2.1 404 0 (Int32.toNatClampNeg zv2)) (15 : Int64) zz1.2).bind fun zz3 =>
    oLet (oStL zz3.2 400 0 11 ((zz1.2.2 400 0 11) + zz3.1)) fun zS4 =>
    oLet (zv2 + (1 : Int32)) fun zx5 =>
    some (Sum.inl (zx5, zS4))) else none) else (
    oLet (zv2 + (1 : Int32)) fun zx2 =>
    some (Sum.inl (zx2, zz1.2))))
set_option maxHeartbeats 4000000 in
theorem s_X3_bake_L2b {X : oX} {e : Nat} (he : 3 ≤ e) (hR : oRoom X (e + 1)) {zj1 : Nat} (hzj1 : zj1 < oCnt 500) {VH : Int32 × oS → Prop} {VE : oS → Prop} (hVH : ∀ z, VH z → oVv X mX3_bake 2 [(0, orf 400 0), (1, orf 500 zj1), (2, oi z.1)] [] z.2) (hVE : ∀ z, VE z → oVv X mX3_bake 46 [(0, orf 400 0), (1, orf 500 zj1)] [] z) {zv2 : Int32} {S : oS} (h : oH (f_X3_bake_L2 zj1 (zv2, S)) (fun z => Sum.elim VH VE z)) : oVv X mX3_bake 2 [(0, orf 400 0), (1, orf 500 zj1), (2, oi zv2)] [] S := by
  dsimp only [f_X3_bake_L2] at h
  refine o_iload_n (pc := 2) dX3_bake_2 rfl 2 rfl ?_
  refine o_aload_n (pc := 3) dX3_bake_3 rfl 0 rfl ?_
  refine o_getI (pc := 4) fd_RX3_41 ft_400_8 j_400 dX3_bake_4 ?_
  refine o_icmp_ge 46 (pc := 7) dX3_bake_7 (by decide) (fun hc => ?_) (fun hc => ?_)
  · have h := oH_T hc h
    refine o_weak [0, 1] rfl ?_
    exact hVE _ (oH_some (P := fun z => Sum.elim VH VE z) h)
  · have h := oH_F hc h
    refine o_aload_n (pc := 10) dX3_bake_10 rfl 0 rfl ?_
    refine o_iload_n (pc := 11) dX3_bake_11 rfl 2 rfl ?_
    have h := oH_bind h
    refine o_callVi (pc := 12) (st := []) [oi zv2] hR md_X3_isOut wd_462 wd_463 wd_464 tc_400 j_400 rfl (Nat.le_of_ble_eq_true rfl) rfl dX3_bake_12 (s_X3_isOut e (by omega)  h) (fun zz1 h => ?_)
    refine o_if_ne 40 (pc := 15) dX3_bake_15 (by decide) (fun hc => ?_) (fun hc => ?_)
    · have h := oH_F hc h
      obtain ⟨zx2, hx⟩ : ∃ y : Int32, y = zv2 + (1 : Int32) := ⟨_, rfl⟩
      have h := oH_let h zx2 hx
      refine o_iinc (lv1 := [(0, orf 400 0), (1, orf 500 zj1), (2, oi zx2)]) (pc := 40) dX3_bake_40 2 rfl hx.symm (by decide) rfl ?_
      clear hx
      refine o_goto 2 (pc := 43) dX3_bake_43 (by decide) ?_
      exact hVH _ (oH_some (P := fun z => Sum.elim VH VE z) h)
    · have h := oH_T hc h
      refine o_aload_n (pc := 18) dX3_bake_18 rfl 0 rfl ?_
      refine o_dup (pc := 19) dX3_bake_19 rfl ?_
      refine o_getL (pc := 20) fd_RX3_80 ft_400_11 j_400 dX3_bake_20 ?_
      refine o_aload_n (pc := 23) dX3_bake_23 rfl 1 rfl ?_
      refine o_aload_n (pc := 24) dX3_bake_24 rfl 0 rfl ?_
      refine o_getA (pc := 25) fd_RX3_21 ft_400_3 j_400 dX3_bake_25 ?_
      refine o_iload_n (pc := 28) dX3_bake_28 rfl 2 rfl ?_
      obtain ⟨hg, h⟩ := oH_G h
      refine o_iald (pc := 29) kd_404 j_404 hg dX3_bake_29 ?_
      refine o_ldc2 (v := 15) (pc := 30) dX3_bake_30 wd_466 ?_
      have h := oH_bind h
      refine o_callVl (pc := 33) (st := [ol (zz1.2.2 400 0 11), orf 400 0]) [oi (zz1.2.1 404 0 (Int32.toNatClampNeg zv2)), ol (15 : Int64)] hR md_X4_drawFromLining wd_467 wd_468 wd_469 tc_500 hzj1 rfl (Nat.le_of_ble_eq_true rfl) rfl dX3_bake_33 (s_X4_drawFromLining e (by omega) hzj1 h) (fun zz3 h => ?_)
      refine o_ladd (pc := 36) dX3_bake_36 ?_
      refine o_putL (pc := 37) fd_RX3_80 fp_400_11 ft_400_11 j_400 dX3_bake_37 ?_
      refine o_nmS (fun zS4 hx => ?_)
      have h := oH_let h zS4 hx
      clear hx
      obtain ⟨zx5, hx⟩ : ∃ y : Int32, y = zv2 + (1 : Int32) := ⟨_, rfl⟩
      have h := oH_let h zx5 hx
      refine o_iinc (lv1 := [(0, orf 400 0), (1, orf 500 zj1), (2, oi zx5)]) (pc := 40) dX3_bake_40 2 rfl hx.symm (by decide) rfl ?_
      clear hx
      refine o_goto 2 (pc := 43) dX3_bake_43 (by decide) ?_
      exact hVH _ (oH_some (P := fun z => Sum.elim VH VE z) h)
theorem s_X3_bake_L2 {X : oX} {e : Nat} (he : 3 ≤ e) (hR : oRoom X (e + 1)) {zj1 : Nat} (hzj1 : zj1 < oCnt 500)  {VE : oS → Prop} (hVE : ∀ z, VE z → oVv X mX3_bake 46 [(0, orf 400 0), (1, orf 500 zj1)] [] z) (n : Nat) (w : Int32 × oS) (h : oH (oLp (f_X3_bake_L2 zj1) n w) VE) : oVv X mX3_bake 2 [(0, orf 400 0), (1, orf 500 zj1), (2, oi w.1)] [] w.2 :=
  oLp_s (VH := fun w => oVv X mX3_bake 2 [(0, orf 400 0), (1, orf 500 zj1), (2, oi w.1)] [] w.2) (fun w h => s_X3_bake_L2b he hR hzj1 (fun _ h => h) hVE h) n w h
def f_X3_bake_L48 (zj1 : Nat) : Int32 × oS → Option ((Int32 × oS) ⊕ (oS)) := fun w =>
  match w with
  | (zv2, S) =>
    if (S.1 400 0 8) ≤ zv2 then (
    some (Sum.inr S)) else (
    (f_X3_isOut zv2 S).bind fun zz7 =>
    if zz7.1 = 0 then (
    if oIn zv2 200 then (
    (f_X4_warmthOf zj1 (zz7.2.1 404 0 (Int32.toNatClampNeg zv2)) (0 : Int32) zz7.2).bind fun zz9 =>
    (f_X3_grow zv2 zz9.1 zz9.2).bind fun zz10 =>
    oLet (zv2 + (1 : Int32)) fun zx11 =>
    some (Sum.inl (zx11, zz10))) else none) else (
    oLet (zv2 + (1 : Int32)) fun zx8 =>
    some (Sum.inl (zx8, zz7.2))))
set_option maxHeartbeats 4000000 in
theorem s_X3_bake_L48b {X : oX} {e : Nat} (he : 3 ≤ e) (hR : oRoom X (e + 1)) {zj1 : Nat} (hzj1 : zj1 < oCnt 500) {VH : Int32 × oS → Prop} {VE : oS → Prop} (hVH : ∀ z, VH z → oVv X mX3_bake 48 [(0, orf 400 0), (1, orf 500 zj1), (2, oi z.1)] [] z.2) (hVE : ∀ z, VE z → oVv X mX3_bake 86 [] [] z) {zv2 : Int32} {S : oS} (h : oH (f_X3_bake_L48 zj1 (zv2, S)) (fun z => Sum.elim VH VE z)) : oVv X mX3_bake 48 [(0, orf 400 0), (1, orf 500 zj1), (2, oi zv2)] [] S := by
  dsimp only [f_X3_bake_L48] at h
  refine o_iload_n (pc := 48) dX3_bake_48 rfl 2 rfl ?_
  refine o_aload_n (pc := 49) dX3_bake_49 rfl 0 rfl ?_
  refine o_getI (pc := 50) fd_RX3_41 ft_400_8 j_400 dX3_bake_50 ?_
  refine o_icmp_ge 86 (pc := 53) dX3_bake_53 (by decide) (fun hc => ?_) (fun hc => ?_)
  · have h := oH_T hc h
    refine o_weak [] rfl ?_
    exact hVE _ (oH_some (P := fun z => Sum.elim VH VE z) h)
  · have h := oH_F hc h
    refine o_aload_n (pc := 56) dX3_bake_56 rfl 0 rfl ?_
    refine o_iload_n (pc := 57) dX3_bake_57 rfl 2 rfl ?_
    have h := oH_bind h
    refine o_callVi (pc := 58) (st := []) [oi zv2] hR md_X3_isOut wd_462 wd_463 wd_464 tc_400 j_400 rfl (Nat.le_of_ble_eq_true rfl) rfl dX3_bake_58 (s_X3_isOut e (by omega)  h) (fun zz7 h => ?_)
    refine o_if_ne 80 (pc := 61) dX3_bake_61 (by decide) (fun hc => ?_) (fun hc => ?_)
    · have h := oH_F hc h
      obtain ⟨zx8, hx⟩ : ∃ y : Int32, y = zv2 + (1 : Int32) := ⟨_, rfl⟩
      have h := oH_let h zx8 hx
      refine o_iinc (lv1 := [(0, orf 400 0), (1, orf 500 zj1), (2, oi zx8)]) (pc := 80) dX3_bake_80 2 rfl hx.symm (by decide) rfl ?_
      clear hx
      refine o_goto 48 (pc := 83) dX3_bake_83 (by decide) ?_
      exact hVH _ (oH_some (P := fun z => Sum.elim VH VE z) h)
    · have h := oH_T hc h
      refine o_aload_n (pc := 64) dX3_bake_64 rfl 0 rfl ?_
      refine o_iload_n (pc := 65) dX3_bake_65 rfl 2 rfl ?_
      refine o_aload_n (pc := 66) dX3_bake_66 rfl 1 rfl ?_
      refine o_aload_n (pc := 67) dX3_bake_67 rfl 0 rfl ?_
      refine o_getA (pc := 68) fd_RX3_21 ft_400_3 j_400 dX3_bake_68 ?_
      refine o_iload_n (pc := 71) dX3_bake_71 rfl 2 rfl ?_
      obtain ⟨hg, h⟩ := oH_G h
      refine o_iald (pc := 72) kd_404 j_404 hg dX3_bake_72 ?_
      refine o_iconst (v := 0) (pc := 73) dX3_bake_73 (by decide) ?_
      have h := oH_bind h
      refine o_callVl (pc := 74) (st := [oi zv2, orf 400 0]) [oi (zz7.2.1 404 0 (Int32.toNatClampNeg zv2)), oi (0 : Int32)] hR md_X4_warmthOf wd_471 wd_428 wd_429 tc_500 hzj1 rfl (Nat.le_of_ble_eq_true rfl) rfl dX3_bake_74 (s_X4_warmthOf e (by omega) hzj1 h) (fun zz9 h => ?_)
      have h := oH_bind h
      refine o_callVv (pc := 77) (st := []) [oi zv2, ol zz9.1] hR md_X3_grow wd_472 wd_474 ws_6 tc_400 j_400 rfl (Nat.le_of_ble_eq_true rfl) rfl dX3_bake_77 (s_X3_grow e (by omega)  h) (fun zz10 h => ?_)
      obtain ⟨zx11, hx⟩ : ∃ y : Int32, y = zv2 + (1 : Int32) := ⟨_, rfl⟩
      have h := oH_let h zx11 hx
      refine o_iinc (lv1 := [(0, orf 400 0), (1, orf 500 zj1), (2, oi zx11)]) (pc := 80) dX3_bake_80 2 rfl hx.symm (by decide) rfl ?_
      clear hx
      refine o_goto 48 (pc := 83) dX3_bake_83 (by decide) ?_
      exact hVH _ (oH_some (P := fun z => Sum.elim VH VE z) h)
theorem s_X3_bake_L48 {X : oX} {e : Nat} (he : 3 ≤ e) (hR : oRoom X (e + 1)) {zj1 : Nat} (hzj1 : zj1 < oCnt 500)  {VE : oS → Prop} (hVE : ∀ z, VE z → oVv X mX3_bake 86 [] [] z) (n : Nat) (w : Int32 × oS) (h : oH (oLp (f_X3_bake_L48 zj1) n w) VE) : oVv X mX3_bake 48 [(0, orf 400 0), (1, orf 500 zj1), (2, oi w.1)] [] w.2 :=
  oLp_s (VH := fun w => oVv X mX3_bake 48 [(0, orf 400 0), (1, orf 500 zj1), (2, oi w.1)] [] w.2) (fun w h => s_X3_bake_L48b he hR hzj1 (fun _ h => h) hVE h) n w h
def f_X3_bake  (zj1 : Nat) (S : oS) : Option (oS) :=
  (oLp (f_X3_bake_L2 zj1) oFu ((0 : Int32), S)).bind fun zz6 =>
  (oLp (f_X3_bake_L48 zj1) oFu ((0 : Int32), zz6)).bind fun zz12 =>
  some zz12
set_option maxHeartbeats 4000000 in
theorem s_X3_bake {G : oG} {r : oR} (d : Nat) (hd : 4 ≤ d) {zj1 : Nat} (hzj1 : zj1 < oCnt 500) {S : oS} {P : oS → Prop} (h : oH (f_X3_bake zj1 S) P) : oCt G r d yX3_bake mX3_bake [orf 400 0, orf 500 zj1] S (oQv P) := by
  unfold f_X3_bake at h
  refine oCt_of (by decide) rfl (Nat.le_of_ble_eq_true rfl) ?_
  intro X hG hr hE0 hR
  subst hG; subst hr
  obtain ⟨e, rfl⟩ : ∃ e, d = e + 1 := ⟨d - 1, by omega⟩
  have he : 3 ≤ e := by omega
  have hE := oEV_of hE0 rfl
  clear hE0 hd
  show oVv X mX3_bake 0 [(0, orf 400 0), (1, orf 500 zj1)] [] S
  refine o_iconst (v := 0) (pc := 0) dX3_bake_0 (by decide) ?_
  refine o_istore_n (lv1 := [(0, orf 400 0), (1, orf 500 zj1), (2, oi (0 : Int32))]) (pc := 1) dX3_bake_1 rfl (by decide) rfl ?_
  have h := oH_bind h
  refine s_X3_bake_L2 he hR hzj1 (fun zz6 h => ?_) _ ((0 : Int32), S) h
  refine o_iconst (v := 0) (pc := 46) dX3_bake_46 (by decide) ?_
  refine o_istore_n (lv1 := [(0, orf 400 0), (1, orf 500 zj1), (2, oi (0 : Int32))]) (pc := 47) dX3_bake_47 rfl (by decide) rfl ?_
  have h := oH_bind h
  refine s_X3_bake_L48 he hR hzj1 (fun zz12 h => ?_) _ ((0 : Int32), zz6) h
  exact hE _ _ _ dX3_bake_86 (oH_some h)
def f_X3_drawOut  (za1 : Int32) (S : oS) : Option (Int32 × oS) :=
  if oIn za1 200 then (
  if oIn (S.1 404 0 (Int32.toNatClampNeg za1)) 4 then (
  oLet (0 + Int32.toNatClampNeg (S.1 404 0 (Int32.toNatClampNeg za1))) fun zj_1 =>
  if oIn za1 200 then (
  (f_X2_change zj_1 (S.1 403 0 (Int32.toNatClampNeg za1)) (-1 : Int32) S).bind fun zz2 =>
  if oIn za1 200 then (
  oLet (oStI zz2 404 0 (Int32.toNatClampNeg za1) (-1 : Int32)) fun zS3 =>
  oLet (oStI zS3 400 0 9 ((zS3.1 400 0 9) - (1 : Int32))) fun zS4 =>
  oLet (oStI zS4 400 0 12 (1 : Int32)) fun zS5 =>
  if oIn za1 200 then (
  if oIn za1 200 then (
  if oIn za1 200 then (
  if oIn za1 200 then (
  (f_X1_resultOf (zS5.1 403 0 (Int32.toNatClampNeg za1)) (zS5.1 405 0 (Int32.toNatClampNeg za1)) (zS5.1 406 0 (Int32.toNatClampNeg za1)) (zS5.1 407 0 (Int32.toNatClampNeg za1)) zS5).bind fun zz6 =>
  if zz6.1 = (1 : Int32) then (
  oLet (oStI zz6.2 400 0 10 ((zz6.2.1 400 0 10) + (1 : Int32))) fun zS7 =>
  some (zz6.1, zS7)) else (
  some (zz6.1, zz6.2))) else none) else none) else none) else none) else none) else none) else none) else none
set_option maxHeartbeats 4000000 in
theorem s_X3_drawOut {G : oG} {r : oR} (d : Nat) (hd : 2 ≤ d) {za1 : Int32}  {S : oS} {P : Int32 × oS → Prop} (h : oH (f_X3_drawOut za1 S) P) : oCt G r d yX3_drawOut mX3_drawOut [orf 400 0, oi za1] S (oQi P) := by
  unfold f_X3_drawOut at h
  refine oCt_of (by decide) rfl (Nat.le_of_ble_eq_true rfl) ?_
  intro X hG hr hE0 hR
  subst hG; subst hr
  obtain ⟨e, rfl⟩ : ∃ e, d = e + 1 := ⟨d - 1, by omega⟩
  have he : 1 ≤ e := by omega
  have hE := oEI_of hE0 rfl
  clear hE0 hd
  show oVv X mX3_drawOut 0 [(0, orf 400 0), (1, oi za1)] [] S
  refine o_aload_n (pc := 0) dX3_drawOut_0 rfl 0 rfl ?_
  refine o_getA (pc := 1) fd_RX3_11 ft_400_1 j_400 dX3_drawOut_1 ?_
  refine o_aload_n (pc := 4) dX3_drawOut_4 rfl 0 rfl ?_
  refine o_getA (pc := 5) fd_RX3_21 ft_400_3 j_400 dX3_drawOut_5 ?_
  refine o_iload_n (pc := 8) dX3_drawOut_8 rfl 1 rfl ?_
  obtain ⟨hg, h⟩ := oH_G h
  refine o_iald (pc := 9) kd_404 j_404 hg dX3_drawOut_9 ?_
  obtain ⟨hg, h⟩ := oH_G h
  refine o_aald (pc := 10) kd_402 (by decide) j_402 hg dX3_drawOut_10 (fun zj_1 hx hzj_1 => ?_)
  have h := oH_let h zj_1 hx
  clear hx
  refine o_aload_n (pc := 11) dX3_drawOut_11 rfl 0 rfl ?_
  refine o_getF (pc := 12) fd_RX3_36 ft_400_0 j_400 dX3_drawOut_12 ?_
  refine o_aload_n (pc := 15) dX3_drawOut_15 rfl 0 rfl ?_
  refine o_getA (pc := 16) fd_RX3_17 ft_400_2 j_400 dX3_drawOut_16 ?_
  refine o_iload_n (pc := 19) dX3_drawOut_19 rfl 1 rfl ?_
  obtain ⟨hg, h⟩ := oH_G h
  refine o_iald (pc := 20) kd_403 j_403 hg dX3_drawOut_20 ?_
  refine o_iconst (v := -1) (pc := 21) dX3_drawOut_21 (by decide) ?_
  have h := oH_bind h
  refine o_callVv (pc := 22) (st := []) [orf 200 0, oi (S.1 403 0 (Int32.toNatClampNeg za1)), oi (-1 : Int32)] hR md_X2_change wd_544 wd_545 wd_546 tc_300 hzj_1 rfl (Nat.le_of_ble_eq_true rfl) rfl dX3_drawOut_22 (s_X2_change e (by omega) hzj_1 h) (fun zz2 h => ?_)
  refine o_aload_n (pc := 25) dX3_drawOut_25 rfl 0 rfl ?_
  refine o_getA (pc := 26) fd_RX3_21 ft_400_3 j_400 dX3_drawOut_26 ?_
  refine o_iload_n (pc := 29) dX3_drawOut_29 rfl 1 rfl ?_
  refine o_iconst (v := -1) (pc := 30) dX3_drawOut_30 (by decide) ?_
  obtain ⟨hg, h⟩ := oH_G h
  have hgi := hg
  refine o_iast (pc := 31) kd_404 j_404 hgi dX3_drawOut_31 ?_
  refine o_nmS (fun zS3 hx => ?_)
  have h := oH_let h zS3 hx
  clear hx
  refine o_aload_n (pc := 32) dX3_drawOut_32 rfl 0 rfl ?_
  refine o_dup (pc := 33) dX3_drawOut_33 rfl ?_
  refine o_getI (pc := 34) fd_RX3_64 ft_400_9 j_400 dX3_drawOut_34 ?_
  refine o_iconst (v := 1) (pc := 37) dX3_drawOut_37 (by decide) ?_
  refine o_isub (pc := 38) dX3_drawOut_38 ?_
  refine o_putI (pc := 39) fd_RX3_64 fp_400_9 ft_400_9 rfl rfl j_400 dX3_drawOut_39 ?_
  refine o_nmS (fun zS4 hx => ?_)
  have h := oH_let h zS4 hx
  clear hx
  refine o_aload_n (pc := 42) dX3_drawOut_42 rfl 0 rfl ?_
  refine o_iconst (v := 1) (pc := 43) dX3_drawOut_43 (by decide) ?_
  refine o_putI (pc := 44) fd_RX3_67 fp_400_12 ft_400_12 (oBl_n (by decide)) (oBl_f (by decide)) j_400 dX3_drawOut_44 ?_
  refine o_nmS (fun zS5 hx => ?_)
  have h := oH_let h zS5 hx
  clear hx
  refine o_aload_n (pc := 47) dX3_drawOut_47 rfl 0 rfl ?_
  refine o_getF (pc := 48) fd_RX3_36 ft_400_0 j_400 dX3_drawOut_48 ?_
  refine o_aload_n (pc := 51) dX3_drawOut_51 rfl 0 rfl ?_
  refine o_getA (pc := 52) fd_RX3_17 ft_400_2 j_400 dX3_drawOut_52 ?_
  refine o_iload_n (pc := 55) dX3_drawOut_55 rfl 1 rfl ?_
  obtain ⟨hg, h⟩ := oH_G h
  refine o_iald (pc := 56) kd_403 j_403 hg dX3_drawOut_56 ?_
  refine o_aload_n (pc := 57) dX3_drawOut_57 rfl 0 rfl ?_
  refine o_getA (pc := 58) fd_RX3_24 ft_400_4 j_400 dX3_drawOut_58 ?_
  refine o_iload_n (pc := 61) dX3_drawOut_61 rfl 1 rfl ?_
  obtain ⟨hg, h⟩ := oH_G h
  refine o_iald (pc := 62) kd_405 j_405 hg dX3_drawOut_62 ?_
  refine o_aload_n (pc := 63) dX3_drawOut_63 rfl 0 rfl ?_
  refine o_getA (pc := 64) fd_RX3_27 ft_400_5 j_400 dX3_drawOut_64 ?_
  refine o_iload_n (pc := 67) dX3_drawOut_67 rfl 1 rfl ?_
  obtain ⟨hg, h⟩ := oH_G h
  refine o_iald (pc := 68) kd_406 j_406 hg dX3_drawOut_68 ?_
  refine o_aload_n (pc := 69) dX3_drawOut_69 rfl 0 rfl ?_
  refine o_getA (pc := 70) fd_RX3_30 ft_400_6 j_400 dX3_drawOut_70 ?_
  refine o_iload_n (pc := 73) dX3_drawOut_73 rfl 1 rfl ?_
  obtain ⟨hg, h⟩ := oH_G h
  refine o_iald (pc := 74) kd_407 j_407 hg dX3_drawOut_74 ?_
  have h := oH_bind h
  refine o_callVi (pc := 75) (st := []) [oi (zS5.1 403 0 (Int32.toNatClampNeg za1)), oi (zS5.1 405 0 (Int32.toNatClampNeg za1)), oi (zS5.1 406 0 (Int32.toNatClampNeg za1)), oi (zS5.1 407 0 (Int32.toNatClampNeg za1))] hR md_X1_resultOf wd_585 wd_586 wd_587 tc_200 j_200 rfl (Nat.le_of_ble_eq_true rfl) rfl dX3_drawOut_75 (s_X1_resultOf e (by omega)  h) (fun zz6 h => ?_)
  refine o_istore_n (lv1 := [(0, orf 400 0), (1, oi za1), (2, oi zz6.1)]) (pc := 78) dX3_drawOut_78 rfl (by decide) rfl ?_
  refine o_iload_n (pc := 79) dX3_drawOut_79 rfl 2 rfl ?_
  refine o_iconst (v := 1) (pc := 80) dX3_drawOut_80 (by decide) ?_
  refine o_icmp_ne 94 (pc := 81) dX3_drawOut_81 (by decide) (fun hc => ?_) (fun hc => ?_)
  · have h := oH_F hc h
    refine o_iload_n (pc := 94) dX3_drawOut_94 rfl 2 rfl ?_
    exact hE _ _ _ _ dX3_drawOut_95 (oH_some h)
  · have h := oH_T hc h
    refine o_aload_n (pc := 84) dX3_drawOut_84 rfl 0 rfl ?_
    refine o_dup (pc := 85) dX3_drawOut_85 rfl ?_
    refine o_getI (pc := 86) fd_RX3_77 ft_400_10 j_400 dX3_drawOut_86 ?_
    refine o_iconst (v := 1) (pc := 89) dX3_drawOut_89 (by decide) ?_
    refine o_iadd (pc := 90) dX3_drawOut_90 ?_
    refine o_putI (pc := 91) fd_RX3_77 fp_400_10 ft_400_10 rfl rfl j_400 dX3_drawOut_91 ?_
    refine o_nmS (fun zS7 hx => ?_)
    have h := oH_let h zS7 hx
    clear hx
    refine o_iload_n (pc := 94) dX3_drawOut_94 rfl 2 rfl ?_
    exact hE _ _ _ _ dX3_drawOut_95 (oH_some h)
def f_X3_usedWith  (za1 : Int32) (za2 : Int32) (za3 : Int32) (S : oS) : Option (Int32 × oS) :=
  if oIn za2 4 then (
  oLet (0 + Int32.toNatClampNeg za2) fun zj_1 =>
  (f_X2_change zj_1 za1 za3 S).bind fun zz2 =>
  (f_X2_used zj_1 zz2).bind fun zz3 =>
  (f_X2_change zj_1 za1 (-za3) zz3.2).bind fun zz4 =>
  some (zz3.1, zz4)) else none
set_option maxHeartbeats 4000000 in
theorem s_X3_usedWith {G : oG} {r : oR} (d : Nat) (hd : 2 ≤ d) {za1 : Int32} {za2 : Int32} {za3 : Int32}  {S : oS} {P : Int32 × oS → Prop} (h : oH (f_X3_usedWith za1 za2 za3 S) P) : oCt G r d yX3_usedWith mX3_usedWith [orf 400 0, oi za1, oi za2, oi za3] S (oQi P) := by
  unfold f_X3_usedWith at h
  refine oCt_of (by decide) rfl (Nat.le_of_ble_eq_true rfl) ?_
  intro X hG hr hE0 hR
  subst hG; subst hr
  obtain ⟨e, rfl⟩ : ∃ e, d = e + 1 := ⟨d - 1, by omega⟩
  have he : 1 ≤ e := by omega
  have hE := oEI_of hE0 rfl
  clear hE0 hd
  show oVv X mX3_usedWith 0 [(0, orf 400 0), (1, oi za1), (2, oi za2), (3, oi za3)] [] S
  refine o_aload_n (pc := 0) dX3_usedWith_0 rfl 0 rfl ?_
  refine o_getA (pc := 1) fd_RX3_11 ft_400_1 j_400 dX3_usedWith_1 ?_
  refine o_iload_n (pc := 4) dX3_usedWith_4 rfl 2 rfl ?_
  obtain ⟨hg, h⟩ := oH_G h
  refine o_aald (pc := 5) kd_402 (by decide) j_402 hg dX3_usedWith_5 (fun zj_1 hx hzj_1 => ?_)
  have h := oH_let h zj_1 hx
  clear hx
  refine o_astore (lv1 := [(0, orf 400 0), (1, oi za1), (2, oi za2), (3, oi za3), (4, orf 300 zj_1)]) (pc := 6) dX3_usedWith_6 (by decide) rfl ?_
  refine o_aload (pc := 8) dX3_usedWith_8 4 rfl ?_
  refine o_aload_n (pc := 10) dX3_usedWith_10 rfl 0 rfl ?_
  refine o_getF (pc := 11) fd_RX3_36 ft_400_0 j_400 dX3_usedWith_11 ?_
  refine o_iload_n (pc := 14) dX3_usedWith_14 rfl 1 rfl ?_
  refine o_iload_n (pc := 15) dX3_usedWith_15 rfl 3 rfl ?_
  have h := oH_bind h
  refine o_callVv (pc := 16) (st := []) [orf 200 0, oi za1, oi za3] hR md_X2_change wd_544 wd_545 wd_546 tc_300 hzj_1 rfl (Nat.le_of_ble_eq_true rfl) rfl dX3_usedWith_16 (s_X2_change e (by omega) hzj_1 h) (fun zz2 h => ?_)
  refine o_aload (pc := 19) dX3_usedWith_19 4 rfl ?_
  have h := oH_bind h
  refine o_callVi (pc := 21) (st := []) [] hR md_X2_used wd_548 wd_549 wd_550 tc_300 hzj_1 rfl (Nat.le_of_ble_eq_true rfl) rfl dX3_usedWith_21 (s_X2_used e (by omega) hzj_1 h) (fun zz3 h => ?_)
  refine o_istore (lv1 := [(0, orf 400 0), (1, oi za1), (2, oi za2), (3, oi za3), (4, orf 300 zj_1), (5, oi zz3.1)]) (pc := 24) dX3_usedWith_24 (by decide) rfl ?_
  refine o_aload (pc := 26) dX3_usedWith_26 4 rfl ?_
  refine o_aload_n (pc := 28) dX3_usedWith_28 rfl 0 rfl ?_
  refine o_getF (pc := 29) fd_RX3_36 ft_400_0 j_400 dX3_usedWith_29 ?_
  refine o_iload_n (pc := 32) dX3_usedWith_32 rfl 1 rfl ?_
  refine o_iload_n (pc := 33) dX3_usedWith_33 rfl 3 rfl ?_
  refine o_ineg (pc := 34) dX3_usedWith_34 ?_
  have h := oH_bind h
  refine o_callVv (pc := 35) (st := []) [orf 200 0, oi za1, oi (-za3)] hR md_X2_change wd_544 wd_545 wd_546 tc_300 hzj_1 rfl (Nat.le_of_ble_eq_true rfl) rfl dX3_usedWith_35 (s_X2_change e (by omega) hzj_1 h) (fun zz4 h => ?_)
  refine o_iload (pc := 38) dX3_usedWith_38 5 rfl ?_
  exact hE _ _ _ _ dX3_usedWith_40 (oH_some h)
def f_X3_fits  (za1 : Int32) (za2 : Int32) (S : oS) : Option (Int32 × oS) :=
  (f_X3_usedWith za1 za2 (1 : Int32) S).bind fun zz1 =>
  if oIn za2 4 then (
  if (oROOM (Int32.toNatClampNeg za2)) < zz1.1 then (
  some ((0 : Int32), zz1.2)) else (
  some ((1 : Int32), zz1.2))) else none
set_option maxHeartbeats 4000000 in
theorem s_X3_fits {G : oG} {r : oR} (d : Nat) (hd : 3 ≤ d) {za1 : Int32} {za2 : Int32}  {S : oS} {P : Int32 × oS → Prop} (h : oH (f_X3_fits za1 za2 S) P) : oCt G r d yX3_fits mX3_fits [orf 400 0, oi za1, oi za2] S (oQi P) := by
  unfold f_X3_fits at h
  refine oCt_of (by decide) rfl (Nat.le_of_ble_eq_true rfl) ?_
  intro X hG hr hE0 hR
  subst hG; subst hr
  obtain ⟨e, rfl⟩ : ∃ e, d = e + 1 := ⟨d - 1, by omega⟩
  have he : 2 ≤ e := by omega
  have hE := oEZ_of hE0 rfl
  clear hE0 hd
  show oVv X mX3_fits 0 [(0, orf 400 0), (1, oi za1), (2, oi za2)] [] S
  refine o_aload_n (pc := 0) dX3_fits_0 rfl 0 rfl ?_
  refine o_iload_n (pc := 1) dX3_fits_1 rfl 1 rfl ?_
  refine o_iload_n (pc := 2) dX3_fits_2 rfl 2 rfl ?_
  refine o_iconst (v := 1) (pc := 3) dX3_fits_3 (by decide) ?_
  have h := oH_bind h
  refine o_callVi (pc := 4) (st := []) [oi za1, oi za2, oi (1 : Int32)] hR md_X3_usedWith wd_540 wd_542 ws_7 tc_400 j_400 rfl (Nat.le_of_ble_eq_true rfl) rfl dX3_fits_4 (s_X3_usedWith e (by omega)  h) (fun zz1 h => ?_)
  refine o_getsN (i := 1) (host := "VillageOven") (pc := 7) (by decide) (by decide +kernel) dX3_fits_7 ?_
  refine o_iload_n (pc := 10) dX3_fits_10 rfl 2 rfl ?_
  obtain ⟨hg, h⟩ := oH_G h
  refine o_sald_2001 (pc := 11) hg dX3_fits_11 ?_
  refine o_icmp_gt 19 (pc := 12) dX3_fits_12 (by decide) (fun hc => ?_) (fun hc => ?_)
  · have h := oH_T hc h
    refine o_iconst (v := 0) (pc := 19) dX3_fits_19 (by decide) ?_
    exact hE _ _ _ _ dX3_fits_20 (by decide) (oH_some h)
  · have h := oH_F hc h
    refine o_iconst (v := 1) (pc := 15) dX3_fits_15 (by decide) ?_
    refine o_goto 20 (pc := 16) dX3_fits_16 (by decide) ?_
    exact hE _ _ _ _ dX3_fits_20 (by decide) (oH_some h)
def f_X3_has  (za1 : Int32) (S : oS) : Option (Int32 × oS) :=
  (f_X8_within za1 (0 : Int32) ((S.1 400 0 8) - (1 : Int32)) S).bind fun zz1 =>
  if oBl zz1.1 then (
  some (zz1.1, zz1.2)) else none
set_option maxHeartbeats 4000000 in
theorem s_X3_has {G : oG} {r : oR} (d : Nat) (hd : 2 ≤ d) {za1 : Int32}  {S : oS} {P : Int32 × oS → Prop} (h : oH (f_X3_has za1 S) P) : oCt G r d yX3_has mX3_has [orf 400 0, oi za1] S (oQi P) := by
  unfold f_X3_has at h
  refine oCt_of (by decide) rfl (Nat.le_of_ble_eq_true rfl) ?_
  intro X hG hr hE0 hR
  subst hG; subst hr
  obtain ⟨e, rfl⟩ : ∃ e, d = e + 1 := ⟨d - 1, by omega⟩
  have he : 1 ≤ e := by omega
  have hE := oEZ_of hE0 rfl
  clear hE0 hd
  show oVv X mX3_has 0 [(0, orf 400 0), (1, oi za1)] [] S
  refine o_iload_n (pc := 0) dX3_has_0 rfl 1 rfl ?_
  refine o_iconst (v := 0) (pc := 1) dX3_has_1 (by decide) ?_
  refine o_aload_n (pc := 2) dX3_has_2 rfl 0 rfl ?_
  refine o_getI (pc := 3) fd_RX3_41 ft_400_8 j_400 dX3_has_3 ?_
  refine o_iconst (v := 1) (pc := 6) dX3_has_6 (by decide) ?_
  refine o_isub (pc := 7) dX3_has_7 ?_
  have h := oH_bind h
  refine o_callSNi (host := "VillageOven") (pc := 8) (st := []) [oi za1, oi (0 : Int32), oi ((S.1 400 0 8) - (1 : Int32))] hR md_X8_within (by decide +kernel) wd_376 rfl (Nat.le_of_ble_eq_true rfl) rfl dX3_has_8 (s_X8_within e (by omega)  h) (fun zz1 h => ?_)
  obtain ⟨hg, h⟩ := oH_G h
  exact hE _ _ _ _ dX3_has_11 hg (oH_some h)
def f_X3_layIn  (za1 : Int32) (za2 : Int32) (S : oS) : Option (Int32 × oS) :=
  if oIn (S.1 400 0 8) 200 then (
  oLet (oStI S 403 0 (Int32.toNatClampNeg (S.1 400 0 8)) za1) fun zS1 =>
  if oIn (zS1.1 400 0 8) 200 then (
  oLet (oStI zS1 404 0 (Int32.toNatClampNeg (zS1.1 400 0 8)) za2) fun zS2 =>
  if oIn za2 4 then (
  oLet (0 + Int32.toNatClampNeg za2) fun zj_3 =>
  (f_X2_change zj_3 za1 (1 : Int32) zS2).bind fun zz4 =>
  oLet (oStI zz4 400 0 9 ((zz4.1 400 0 9) + (1 : Int32))) fun zS5 =>
  oLet (oStI zS5 400 0 12 (1 : Int32)) fun zS6 =>
  oLet (oStI zS6 400 0 8 ((zS6.1 400 0 8) + (1 : Int32))) fun zS7 =>
  some (((zS7.1 400 0 8) - (1 : Int32)), zS7)) else none) else none) else none
set_option maxHeartbeats 4000000 in
theorem s_X3_layIn {G : oG} {r : oR} (d : Nat) (hd : 2 ≤ d) {za1 : Int32} {za2 : Int32}  {S : oS} {P : Int32 × oS → Prop} (h : oH (f_X3_layIn za1 za2 S) P) : oCt G r d yX3_layIn mX3_layIn [orf 400 0, oi za1, oi za2] S (oQi P) := by
  unfold f_X3_layIn at h
  refine oCt_of (by decide) rfl (Nat.le_of_ble_eq_true rfl) ?_
  intro X hG hr hE0 hR
  subst hG; subst hr
  obtain ⟨e, rfl⟩ : ∃ e, d = e + 1 := ⟨d - 1, by omega⟩
  have he : 1 ≤ e := by omega
  have hE := oEI_of hE0 rfl
  clear hE0 hd
  show oVv X mX3_layIn 0 [(0, orf 400 0), (1, oi za1), (2, oi za2)] [] S
  refine o_aload_n (pc := 0) dX3_layIn_0 rfl 0 rfl ?_
  refine o_getA (pc := 1) fd_RX3_17 ft_400_2 j_400 dX3_layIn_1 ?_
  refine o_aload_n (pc := 4) dX3_layIn_4 rfl 0 rfl ?_
  refine o_getI (pc := 5) fd_RX3_41 ft_400_8 j_400 dX3_layIn_5 ?_
  refine o_iload_n (pc := 8) dX3_layIn_8 rfl 1 rfl ?_
  obtain ⟨hg, h⟩ := oH_G h
  have hgi := hg
  refine o_iast (pc := 9) kd_403 j_403 hgi dX3_layIn_9 ?_
  refine o_nmS (fun zS1 hx => ?_)
  have h := oH_let h zS1 hx
  clear hx
  refine o_aload_n (pc := 10) dX3_layIn_10 rfl 0 rfl ?_
  refine o_getA (pc := 11) fd_RX3_21 ft_400_3 j_400 dX3_layIn_11 ?_
  refine o_aload_n (pc := 14) dX3_layIn_14 rfl 0 rfl ?_
  refine o_getI (pc := 15) fd_RX3_41 ft_400_8 j_400 dX3_layIn_15 ?_
  refine o_iload_n (pc := 18) dX3_layIn_18 rfl 2 rfl ?_
  obtain ⟨hg, h⟩ := oH_G h
  have hgi := hg
  refine o_iast (pc := 19) kd_404 j_404 hgi dX3_layIn_19 ?_
  refine o_nmS (fun zS2 hx => ?_)
  have h := oH_let h zS2 hx
  clear hx
  refine o_aload_n (pc := 20) dX3_layIn_20 rfl 0 rfl ?_
  refine o_getA (pc := 21) fd_RX3_11 ft_400_1 j_400 dX3_layIn_21 ?_
  refine o_iload_n (pc := 24) dX3_layIn_24 rfl 2 rfl ?_
  obtain ⟨hg, h⟩ := oH_G h
  refine o_aald (pc := 25) kd_402 (by decide) j_402 hg dX3_layIn_25 (fun zj_3 hx hzj_3 => ?_)
  have h := oH_let h zj_3 hx
  clear hx
  refine o_aload_n (pc := 26) dX3_layIn_26 rfl 0 rfl ?_
  refine o_getF (pc := 27) fd_RX3_36 ft_400_0 j_400 dX3_layIn_27 ?_
  refine o_iload_n (pc := 30) dX3_layIn_30 rfl 1 rfl ?_
  refine o_iconst (v := 1) (pc := 31) dX3_layIn_31 (by decide) ?_
  have h := oH_bind h
  refine o_callVv (pc := 32) (st := []) [orf 200 0, oi za1, oi (1 : Int32)] hR md_X2_change wd_544 wd_545 wd_546 tc_300 hzj_3 rfl (Nat.le_of_ble_eq_true rfl) rfl dX3_layIn_32 (s_X2_change e (by omega) hzj_3 h) (fun zz4 h => ?_)
  refine o_aload_n (pc := 35) dX3_layIn_35 rfl 0 rfl ?_
  refine o_dup (pc := 36) dX3_layIn_36 rfl ?_
  refine o_getI (pc := 37) fd_RX3_64 ft_400_9 j_400 dX3_layIn_37 ?_
  refine o_iconst (v := 1) (pc := 40) dX3_layIn_40 (by decide) ?_
  refine o_iadd (pc := 41) dX3_layIn_41 ?_
  refine o_putI (pc := 42) fd_RX3_64 fp_400_9 ft_400_9 rfl rfl j_400 dX3_layIn_42 ?_
  refine o_nmS (fun zS5 hx => ?_)
  have h := oH_let h zS5 hx
  clear hx
  refine o_aload_n (pc := 45) dX3_layIn_45 rfl 0 rfl ?_
  refine o_iconst (v := 1) (pc := 46) dX3_layIn_46 (by decide) ?_
  refine o_putI (pc := 47) fd_RX3_67 fp_400_12 ft_400_12 (oBl_n (by decide)) (oBl_f (by decide)) j_400 dX3_layIn_47 ?_
  refine o_nmS (fun zS6 hx => ?_)
  have h := oH_let h zS6 hx
  clear hx
  refine o_aload_n (pc := 50) dX3_layIn_50 rfl 0 rfl ?_
  refine o_dup (pc := 51) dX3_layIn_51 rfl ?_
  refine o_getI (pc := 52) fd_RX3_41 ft_400_8 j_400 dX3_layIn_52 ?_
  refine o_iconst (v := 1) (pc := 55) dX3_layIn_55 (by decide) ?_
  refine o_iadd (pc := 56) dX3_layIn_56 ?_
  refine o_putI (pc := 57) fd_RX3_41 fp_400_8 ft_400_8 rfl rfl j_400 dX3_layIn_57 ?_
  refine o_nmS (fun zS7 hx => ?_)
  have h := oH_let h zS7 hx
  clear hx
  refine o_aload_n (pc := 60) dX3_layIn_60 rfl 0 rfl ?_
  refine o_getI (pc := 61) fd_RX3_41 ft_400_8 j_400 dX3_layIn_61 ?_
  refine o_iconst (v := 1) (pc := 64) dX3_layIn_64 (by decide) ?_
  refine o_isub (pc := 65) dX3_layIn_65 ?_
  exact hE _ _ _ _ dX3_layIn_66 (oH_some h)
def f_X3_mayLeave  (za1 : Int32) (S : oS) : Option (Int32 × oS) :=
  if oIn za1 200 then (
  oLet (S.1 404 0 (Int32.toNatClampNeg za1)) fun zx1 =>
  if oIn za1 200 then (
  (f_X3_usedWith (S.1 403 0 (Int32.toNatClampNeg za1)) zx1 (-1 : Int32) S).bind fun zz2 =>
  if oIn zx1 4 then (
  if (oROOM (Int32.toNatClampNeg zx1)) < zz2.1 then (
  some ((0 : Int32), zz2.2)) else (
  some ((1 : Int32), zz2.2))) else none) else none) else none
set_option maxHeartbeats 4000000 in
theorem s_X3_mayLeave {G : oG} {r : oR} (d : Nat) (hd : 3 ≤ d) {za1 : Int32}  {S : oS} {P : Int32 × oS → Prop} (h : oH (f_X3_mayLeave za1 S) P) : oCt G r d yX3_mayLeave mX3_mayLeave [orf 400 0, oi za1] S (oQi P) := by
  unfold f_X3_mayLeave at h
  refine oCt_of (by decide) rfl (Nat.le_of_ble_eq_true rfl) ?_
  intro X hG hr hE0 hR
  subst hG; subst hr
  obtain ⟨e, rfl⟩ : ∃ e, d = e + 1 := ⟨d - 1, by omega⟩
  have he : 2 ≤ e := by omega
  have hE := oEZ_of hE0 rfl
  clear hE0 hd
  show oVv X mX3_mayLeave 0 [(0, orf 400 0), (1, oi za1)] [] S
  refine o_aload_n (pc := 0) dX3_mayLeave_0 rfl 0 rfl ?_
  refine o_getA (pc := 1) fd_RX3_21 ft_400_3 j_400 dX3_mayLeave_1 ?_
  refine o_iload_n (pc := 4) dX3_mayLeave_4 rfl 1 rfl ?_
  obtain ⟨hg, h⟩ := oH_G h
  refine o_iald (pc := 5) kd_404 j_404 hg dX3_mayLeave_5 ?_
  refine o_nmI (fun zx1 hx => ?_)
  have h := oH_let h zx1 hx
  clear hx
  refine o_istore_n (lv1 := [(0, orf 400 0), (1, oi za1), (2, oi zx1)]) (pc := 6) dX3_mayLeave_6 rfl (by decide) rfl ?_
  refine o_aload_n (pc := 7) dX3_mayLeave_7 rfl 0 rfl ?_
  refine o_aload_n (pc := 8) dX3_mayLeave_8 rfl 0 rfl ?_
  refine o_getA (pc := 9) fd_RX3_17 ft_400_2 j_400 dX3_mayLeave_9 ?_
  refine o_iload_n (pc := 12) dX3_mayLeave_12 rfl 1 rfl ?_
  obtain ⟨hg, h⟩ := oH_G h
  refine o_iald (pc := 13) kd_403 j_403 hg dX3_mayLeave_13 ?_
  refine o_iload_n (pc := 14) dX3_mayLeave_14 rfl 2 rfl ?_
  refine o_iconst (v := -1) (pc := 15) dX3_mayLeave_15 (by decide) ?_
  have h := oH_bind h
  refine o_callVi (pc := 16) (st := []) [oi (S.1 403 0 (Int32.toNatClampNeg za1)), oi zx1, oi (-1 : Int32)] hR md_X3_usedWith wd_540 wd_542 ws_7 tc_400 j_400 rfl (Nat.le_of_ble_eq_true rfl) rfl dX3_mayLeave_16 (s_X3_usedWith e (by omega)  h) (fun zz2 h => ?_)
  refine o_getsN (i := 1) (host := "VillageOven") (pc := 19) (by decide) (by decide +kernel) dX3_mayLeave_19 ?_
  refine o_iload_n (pc := 22) dX3_mayLeave_22 rfl 2 rfl ?_
  obtain ⟨hg, h⟩ := oH_G h
  refine o_sald_2001 (pc := 23) hg dX3_mayLeave_23 ?_
  refine o_icmp_gt 31 (pc := 24) dX3_mayLeave_24 (by decide) (fun hc => ?_) (fun hc => ?_)
  · have h := oH_T hc h
    refine o_iconst (v := 0) (pc := 31) dX3_mayLeave_31 (by decide) ?_
    exact hE _ _ _ _ dX3_mayLeave_32 (by decide) (oH_some h)
  · have h := oH_F hc h
    refine o_iconst (v := 1) (pc := 27) dX3_mayLeave_27 (by decide) ?_
    refine o_goto 32 (pc := 28) dX3_mayLeave_28 (by decide) ?_
    exact hE _ _ _ _ dX3_mayLeave_32 (by decide) (oH_some h)
def f_X3_shift  (za1 : Int32) (za2 : Int32) (S : oS) : Option (Int32 × oS) :=
  if oIn za1 200 then (
  oLet (S.1 404 0 (Int32.toNatClampNeg za1)) fun zx1 =>
  if oIn zx1 4 then (
  oLet (0 + Int32.toNatClampNeg zx1) fun zj_2 =>
  if oIn za1 200 then (
  (f_X2_change zj_2 (S.1 403 0 (Int32.toNatClampNeg za1)) (-1 : Int32) S).bind fun zz3 =>
  if oIn za2 4 then (
  oLet (0 + Int32.toNatClampNeg za2) fun zj_4 =>
  if oIn za1 200 then (
  (f_X2_change zj_4 (zz3.1 403 0 (Int32.toNatClampNeg za1)) (1 : Int32) zz3).bind fun zz5 =>
  if oIn za1 200 then (
  oLet (oStI zz5 404 0 (Int32.toNatClampNeg za1) za2) fun zS6 =>
  oLet (oStI zS6 400 0 12 (1 : Int32)) fun zS7 =>
  some (zx1, zS7)) else none) else none) else none) else none) else none) else none
set_option maxHeartbeats 4000000 in
theorem s_X3_shift {G : oG} {r : oR} (d : Nat) (hd : 2 ≤ d) {za1 : Int32} {za2 : Int32}  {S : oS} {P : Int32 × oS → Prop} (h : oH (f_X3_shift za1 za2 S) P) : oCt G r d yX3_shift mX3_shift [orf 400 0, oi za1, oi za2] S (oQi P) := by
  unfold f_X3_shift at h
  refine oCt_of (by decide) rfl (Nat.le_of_ble_eq_true rfl) ?_
  intro X hG hr hE0 hR
  subst hG; subst hr
  obtain ⟨e, rfl⟩ : ∃ e, d = e + 1 := ⟨d - 1, by omega⟩
  have he : 1 ≤ e := by omega
  have hE := oEI_of hE0 rfl
  clear hE0 hd
  show oVv X mX3_shift 0 [(0, orf 400 0), (1, oi za1), (2, oi za2)] [] S
  refine o_aload_n (pc := 0) dX3_shift_0 rfl 0 rfl ?_
  refine o_getA (pc := 1) fd_RX3_21 ft_400_3 j_400 dX3_shift_1 ?_
  refine o_iload_n (pc := 4) dX3_shift_4 rfl 1 rfl ?_
  obtain ⟨hg, h⟩ := oH_G h
  refine o_iald (pc := 5) kd_404 j_404 hg dX3_shift_5 ?_
  refine o_nmI (fun zx1 hx => ?_)
  have h := oH_let h zx1 hx
  clear hx
  refine o_istore_n (lv1 := [(0, orf 400 0), (1, oi za1), (2, oi za2), (3, oi zx1)]) (pc := 6) dX3_shift_6 rfl (by decide) rfl ?_
  refine o_aload_n (pc := 7) dX3_shift_7 rfl 0 rfl ?_
  refine o_getA (pc := 8) fd_RX3_11 ft_400_1 j_400 dX3_shift_8 ?_
  refine o_iload_n (pc := 11) dX3_shift_11 rfl 3 rfl ?_
  obtain ⟨hg, h⟩ := oH_G h
  refine o_aald (pc := 12) kd_402 (by decide) j_402 hg dX3_shift_12 (fun zj_2 hx hzj_2 => ?_)
  have h := oH_let h zj_2 hx
  clear hx
  refine o_aload_n (pc := 13) dX3_shift_13 rfl 0 rfl ?_
  refine o_getF (pc := 14) fd_RX3_36 ft_400_0 j_400 dX3_shift_14 ?_
  refine o_aload_n (pc := 17) dX3_shift_17 rfl 0 rfl ?_
  refine o_getA (pc := 18) fd_RX3_17 ft_400_2 j_400 dX3_shift_18 ?_
  refine o_iload_n (pc := 21) dX3_shift_21 rfl 1 rfl ?_
  obtain ⟨hg, h⟩ := oH_G h
  refine o_iald (pc := 22) kd_403 j_403 hg dX3_shift_22 ?_
  refine o_iconst (v := -1) (pc := 23) dX3_shift_23 (by decide) ?_
  have h := oH_bind h
  refine o_callVv (pc := 24) (st := []) [orf 200 0, oi (S.1 403 0 (Int32.toNatClampNeg za1)), oi (-1 : Int32)] hR md_X2_change wd_544 wd_545 wd_546 tc_300 hzj_2 rfl (Nat.le_of_ble_eq_true rfl) rfl dX3_shift_24 (s_X2_change e (by omega) hzj_2 h) (fun zz3 h => ?_)
  refine o_aload_n (pc := 27) dX3_shift_27 rfl 0 rfl ?_
  refine o_getA (pc := 28) fd_RX3_11 ft_400_1 j_400 dX3_shift_28 ?_
  refine o_iload_n (pc := 31) dX3_shift_31 rfl 2 rfl ?_
  obtain ⟨hg, h⟩ := oH_G h
  refine o_aald (pc := 32) kd_402 (by decide) j_402 hg dX3_shift_32 (fun zj_4 hx hzj_4 => ?_)
  have h := oH_let h zj_4 hx
  clear hx
  refine o_aload_n (pc := 33) dX3_shift_33 rfl 0 rfl ?_
  refine o_getF (pc := 34) fd_RX3_36 ft_400_0 j_400 dX3_shift_34 ?_
  refine o_aload_n (pc := 37) dX3_shift_37 rfl 0 rfl ?_
  refine o_getA (pc := 38) fd_RX3_17 ft_400_2 j_400 dX3_shift_38 ?_
  refine o_iload_n (pc := 41) dX3_shift_41 rfl 1 rfl ?_
  obtain ⟨hg, h⟩ := oH_G h
  refine o_iald (pc := 42) kd_403 j_403 hg dX3_shift_42 ?_
  refine o_iconst (v := 1) (pc := 43) dX3_shift_43 (by decide) ?_
  have h := oH_bind h
  refine o_callVv (pc := 44) (st := []) [orf 200 0, oi (zz3.1 403 0 (Int32.toNatClampNeg za1)), oi (1 : Int32)] hR md_X2_change wd_544 wd_545 wd_546 tc_300 hzj_4 rfl (Nat.le_of_ble_eq_true rfl) rfl dX3_shift_44 (s_X2_change e (by omega) hzj_4 h) (fun zz5 h => ?_)
  refine o_aload_n (pc := 47) dX3_shift_47 rfl 0 rfl ?_
  refine o_getA (pc := 48) fd_RX3_21 ft_400_3 j_400 dX3_shift_48 ?_
  refine o_iload_n (pc := 51) dX3_shift_51 rfl 1 rfl ?_
  refine o_iload_n (pc := 52) dX3_shift_52 rfl 2 rfl ?_
  obtain ⟨hg, h⟩ := oH_G h
  have hgi := hg
  refine o_iast (pc := 53) kd_404 j_404 hgi dX3_shift_53 ?_
  refine o_nmS (fun zS6 hx => ?_)
  have h := oH_let h zS6 hx
  clear hx
  refine o_aload_n (pc := 54) dX3_shift_54 rfl 0 rfl ?_
  refine o_iconst (v := 1) (pc := 55) dX3_shift_55 (by decide) ?_
  refine o_putI (pc := 56) fd_RX3_67 fp_400_12 ft_400_12 (oBl_n (by decide)) (oBl_f (by decide)) j_400 dX3_shift_56 ?_
  refine o_nmS (fun zS7 hx => ?_)
  have h := oH_let h zS7 hx
  clear hx
  refine o_iload_n (pc := 59) dX3_shift_59 rfl 3 rfl ?_
  exact hE _ _ _ _ dX3_shift_60 (oH_some h)
def f_X6_addTold  (za1 : Int32) (za2 : Int32) (za3 : Int32) (za4 : Int32) (S : oS) : Option (oS) :=
  if oIn (S.1 700 0 5) 30 then (
  oLet (oStI S 701 0 (Int32.toNatClampNeg (S.1 700 0 5)) za1) fun zS1 =>
  if oIn (zS1.1 700 0 5) 30 then (
  oLet (oStI zS1 702 0 (Int32.toNatClampNeg (zS1.1 700 0 5)) za2) fun zS2 =>
  if oIn (zS2.1 700 0 5) 30 then (
  oLet (oStI zS2 703 0 (Int32.toNatClampNeg (zS2.1 700 0 5)) za3) fun zS3 =>
  if oIn (zS3.1 700 0 5) 30 then (
  if oBl za4 then (
  oLet (oStI zS3 704 0 (Int32.toNatClampNeg (zS3.1 700 0 5)) za4) fun zS4 =>
  oLet (oStI zS4 700 0 5 ((zS4.1 700 0 5) + (1 : Int32))) fun zS5 =>
  some zS5) else none) else none) else none) else none) else none
set_option maxHeartbeats 4000000 in
theorem s_X6_addTold {G : oG} {r : oR} (d : Nat) (hd : 1 ≤ d) {za1 : Int32} {za2 : Int32} {za3 : Int32} {za4 : Int32}  {S : oS} {P : oS → Prop} (h : oH (f_X6_addTold za1 za2 za3 za4 S) P) : oCt G r d yX6_addTold mX6_addTold [orf 700 0, oi za1, oi za2, oi za3, oi za4] S (oQv P) := by
  unfold f_X6_addTold at h
  refine oCt_of (by decide) rfl (Nat.le_of_ble_eq_true rfl) ?_
  intro X hG hr hE0 hR
  subst hG; subst hr
  obtain ⟨e, rfl⟩ : ∃ e, d = e + 1 := ⟨d - 1, by omega⟩
  have he : 0 ≤ e := by omega
  have hE := oEV_of hE0 rfl
  clear hE0 hd
  show oVv X mX6_addTold 0 [(0, orf 700 0), (1, oi za1), (2, oi za2), (3, oi za3), (4, oi za4)] [] S
  refine o_aload_n (pc := 0) dX6_addTold_0 rfl 0 rfl ?_
  refine o_getA (pc := 1) fd_RX6_9 ft_700_0 j_700 dX6_addTold_1 ?_
  refine o_aload_n (pc := 4) dX6_addTold_4 rfl 0 rfl ?_
  refine o_getI (pc := 5) fd_RX6_42 ft_700_5 j_700 dX6_addTold_5 ?_
  refine o_iload_n (pc := 8) dX6_addTold_8 rfl 1 rfl ?_
  obtain ⟨hg, h⟩ := oH_G h
  have hgi := hg
  refine o_iast (pc := 9) kd_701 j_701 hgi dX6_addTold_9 ?_
  refine o_nmS (fun zS1 hx => ?_)
  have h := oH_let h zS1 hx
  clear hx
  refine o_aload_n (pc := 10) dX6_addTold_10 rfl 0 rfl ?_
  refine o_getA (pc := 11) fd_RX6_15 ft_700_1 j_700 dX6_addTold_11 ?_
  refine o_aload_n (pc := 14) dX6_addTold_14 rfl 0 rfl ?_
  refine o_getI (pc := 15) fd_RX6_42 ft_700_5 j_700 dX6_addTold_15 ?_
  refine o_iload_n (pc := 18) dX6_addTold_18 rfl 2 rfl ?_
  obtain ⟨hg, h⟩ := oH_G h
  have hgi := hg
  refine o_iast (pc := 19) kd_702 j_702 hgi dX6_addTold_19 ?_
  refine o_nmS (fun zS2 hx => ?_)
  have h := oH_let h zS2 hx
  clear hx
  refine o_aload_n (pc := 20) dX6_addTold_20 rfl 0 rfl ?_
  refine o_getA (pc := 21) fd_RX6_18 ft_700_2 j_700 dX6_addTold_21 ?_
  refine o_aload_n (pc := 24) dX6_addTold_24 rfl 0 rfl ?_
  refine o_getI (pc := 25) fd_RX6_42 ft_700_5 j_700 dX6_addTold_25 ?_
  refine o_iload_n (pc := 28) dX6_addTold_28 rfl 3 rfl ?_
  obtain ⟨hg, h⟩ := oH_G h
  have hgi := hg
  refine o_iast (pc := 29) kd_703 j_703 hgi dX6_addTold_29 ?_
  refine o_nmS (fun zS3 hx => ?_)
  have h := oH_let h zS3 hx
  clear hx
  refine o_aload_n (pc := 30) dX6_addTold_30 rfl 0 rfl ?_
  refine o_getA (pc := 31) fd_RX6_21 ft_700_3 j_700 dX6_addTold_31 ?_
  refine o_aload_n (pc := 34) dX6_addTold_34 rfl 0 rfl ?_
  refine o_getI (pc := 35) fd_RX6_42 ft_700_5 j_700 dX6_addTold_35 ?_
  refine o_iload (pc := 38) dX6_addTold_38 4 rfl ?_
  obtain ⟨hg, h⟩ := oH_G h
  have hgi := hg
  obtain ⟨hg, h⟩ := oH_G h
  refine o_zast (pc := 40) kd_704 j_704 hgi (oBl_p hg) dX6_addTold_40 ?_
  refine o_nmS (fun zS4 hx => ?_)
  have h := oH_let h zS4 hx
  clear hx
  refine o_aload_n (pc := 41) dX6_addTold_41 rfl 0 rfl ?_
  refine o_dup (pc := 42) dX6_addTold_42 rfl ?_
  refine o_getI (pc := 43) fd_RX6_42 ft_700_5 j_700 dX6_addTold_43 ?_
  refine o_iconst (v := 1) (pc := 46) dX6_addTold_46 (by decide) ?_
  refine o_iadd (pc := 47) dX6_addTold_47 ?_
  refine o_putI (pc := 48) fd_RX6_42 fp_700_5 ft_700_5 rfl rfl j_700 dX6_addTold_48 ?_
  refine o_nmS (fun zS5 hx => ?_)
  have h := oH_let h zS5 hx
  clear hx
  exact hE _ _ _ dX6_addTold_51 (oH_some h)
def f_X6_exchange  (za1 : Int32) (za2 : Int32) (S : oS) : Option (oS) :=
  if oIn za1 8 then (
  oLet (S.1 705 0 (Int32.toNatClampNeg za1)) fun zx1 =>
  if oIn za2 8 then (
  if oIn za1 8 then (
  oLet (oStI S 705 0 (Int32.toNatClampNeg za1) (S.1 705 0 (Int32.toNatClampNeg za2))) fun zS2 =>
  if oIn za2 8 then (
  oLet (oStI zS2 705 0 (Int32.toNatClampNeg za2) zx1) fun zS3 =>
  some zS3) else none) else none) else none) else none
set_option maxHeartbeats 4000000 in
theorem s_X6_exchange {G : oG} {r : oR} (d : Nat) (hd : 1 ≤ d) {za1 : Int32} {za2 : Int32}  {S : oS} {P : oS → Prop} (h : oH (f_X6_exchange za1 za2 S) P) : oCt G r d yX6_exchange mX6_exchange [orf 700 0, oi za1, oi za2] S (oQv P) := by
  unfold f_X6_exchange at h
  refine oCt_of (by decide) rfl (Nat.le_of_ble_eq_true rfl) ?_
  intro X hG hr hE0 hR
  subst hG; subst hr
  obtain ⟨e, rfl⟩ : ∃ e, d = e + 1 := ⟨d - 1, by omega⟩
  have he : 0 ≤ e := by omega
  have hE := oEV_of hE0 rfl
  clear hE0 hd
  show oVv X mX6_exchange 0 [(0, orf 700 0), (1, oi za1), (2, oi za2)] [] S
  refine o_aload_n (pc := 0) dX6_exchange_0 rfl 0 rfl ?_
  refine o_getA (pc := 1) fd_RX6_25 ft_700_4 j_700 dX6_exchange_1 ?_
  refine o_iload_n (pc := 4) dX6_exchange_4 rfl 1 rfl ?_
  obtain ⟨hg, h⟩ := oH_G h
  refine o_iald (pc := 5) kd_705 j_705 hg dX6_exchange_5 ?_
  refine o_nmI (fun zx1 hx => ?_)
  have h := oH_let h zx1 hx
  clear hx
  refine o_istore_n (lv1 := [(0, orf 700 0), (1, oi za1), (2, oi za2), (3, oi zx1)]) (pc := 6) dX6_exchange_6 rfl (by decide) rfl ?_
  refine o_aload_n (pc := 7) dX6_exchange_7 rfl 0 rfl ?_
  refine o_getA (pc := 8) fd_RX6_25 ft_700_4 j_700 dX6_exchange_8 ?_
  refine o_iload_n (pc := 11) dX6_exchange_11 rfl 1 rfl ?_
  refine o_aload_n (pc := 12) dX6_exchange_12 rfl 0 rfl ?_
  refine o_getA (pc := 13) fd_RX6_25 ft_700_4 j_700 dX6_exchange_13 ?_
  refine o_iload_n (pc := 16) dX6_exchange_16 rfl 2 rfl ?_
  obtain ⟨hg, h⟩ := oH_G h
  refine o_iald (pc := 17) kd_705 j_705 hg dX6_exchange_17 ?_
  obtain ⟨hg, h⟩ := oH_G h
  have hgi := hg
  refine o_iast (pc := 18) kd_705 j_705 hgi dX6_exchange_18 ?_
  refine o_nmS (fun zS2 hx => ?_)
  have h := oH_let h zS2 hx
  clear hx
  refine o_aload_n (pc := 19) dX6_exchange_19 rfl 0 rfl ?_
  refine o_getA (pc := 20) fd_RX6_25 ft_700_4 j_700 dX6_exchange_20 ?_
  refine o_iload_n (pc := 23) dX6_exchange_23 rfl 2 rfl ?_
  refine o_iload_n (pc := 24) dX6_exchange_24 rfl 3 rfl ?_
  obtain ⟨hg, h⟩ := oH_G h
  have hgi := hg
  refine o_iast (pc := 25) kd_705 j_705 hgi dX6_exchange_25 ?_
  refine o_nmS (fun zS3 hx => ?_)
  have h := oH_let h zS3 hx
  clear hx
  exact hE _ _ _ dX6_exchange_26 (oH_some h)
def f_X6_drawLots_L2 (zv1 : Int32) : Int32 × oS → Option ((Int32 × oS) ⊕ (oS)) := fun w =>
  match w with
  | (zv2, S) =>
    if (S.1 700 0 6) ≤ zv2 then (
    some (Sum.inr S)) else (
    if oIn zv2 8 then (
    oLet (oStI S 705 0 (Int32.toNatClampNeg zv2) zv2) fun zS1 =>
    oLet (zv2 + (1 : Int32)) fun zx2 =>
    some (Sum.inl (zx2, zS1))) else none)
set_option maxHeartbeats 4000000 in
theorem s_X6_drawLots_L2b {X : oX} {e : Nat} (he : 1 ≤ e) (hR : oRoom X (e + 1)) {zv1 : Int32} {VH : Int32 × oS → Prop} {VE : oS → Prop} (hVH : ∀ z, VH z → oVv X mX6_drawLots 2 [(0, orf 700 0), (1, oi zv1), (2, oi z.1)] [] z.2) (hVE : ∀ z, VE z → oVv X mX6_drawLots 23 [(0, orf 700 0), (1, oi zv1)] [] z) {zv2 : Int32} {S : oS} (h : oH (f_X6_drawLots_L2 zv1 (zv2, S)) (fun z => Sum.elim VH VE z)) : oVv X mX6_drawLots 2 [(0, orf 700 0), (1, oi zv1), (2, oi zv2)] [] S := by
  dsimp only [f_X6_drawLots_L2] at h
  refine o_iload_n (pc := 2) dX6_drawLots_2 rfl 2 rfl ?_
  refine o_aload_n (pc := 3) dX6_drawLots_3 rfl 0 rfl ?_
  refine o_getI (pc := 4) fd_RX6_28 ft_700_6 j_700 dX6_drawLots_4 ?_
  refine o_icmp_ge 23 (pc := 7) dX6_drawLots_7 (by decide) (fun hc => ?_) (fun hc => ?_)
  · have h := oH_T hc h
    refine o_weak [0, 1] rfl ?_
    exact hVE _ (oH_some (P := fun z => Sum.elim VH VE z) h)
  · have h := oH_F hc h
    refine o_aload_n (pc := 10) dX6_drawLots_10 rfl 0 rfl ?_
    refine o_getA (pc := 11) fd_RX6_25 ft_700_4 j_700 dX6_drawLots_11 ?_
    refine o_iload_n (pc := 14) dX6_drawLots_14 rfl 2 rfl ?_
    refine o_iload_n (pc := 15) dX6_drawLots_15 rfl 2 rfl ?_
    obtain ⟨hg, h⟩ := oH_G h
    have hgi := hg
    refine o_iast (pc := 16) kd_705 j_705 hgi dX6_drawLots_16 ?_
    refine o_nmS (fun zS1 hx => ?_)
    have h := oH_let h zS1 hx
    clear hx
    obtain ⟨zx2, hx⟩ : ∃ y : Int32, y = zv2 + (1 : Int32) := ⟨_, rfl⟩
    have h := oH_let h zx2 hx
    refine o_iinc (lv1 := [(0, orf 700 0), (1, oi zv1), (2, oi zx2)]) (pc := 17) dX6_drawLots_17 2 rfl hx.symm (by decide) rfl ?_
    clear hx
    refine o_goto 2 (pc := 20) dX6_drawLots_20 (by decide) ?_
    exact hVH _ (oH_some (P := fun z => Sum.elim VH VE z) h)
theorem s_X6_drawLots_L2 {X : oX} {e : Nat} (he : 1 ≤ e) (hR : oRoom X (e + 1)) {zv1 : Int32}  {VE : oS → Prop} (hVE : ∀ z, VE z → oVv X mX6_drawLots 23 [(0, orf 700 0), (1, oi zv1)] [] z) (n : Nat) (w : Int32 × oS) (h : oH (oLp (f_X6_drawLots_L2 zv1) n w) VE) : oVv X mX6_drawLots 2 [(0, orf 700 0), (1, oi zv1), (2, oi w.1)] [] w.2 :=
  oLp_s (VH := fun w => oVv X mX6_drawLots 2 [(0, orf 700 0), (1, oi zv1), (2, oi w.1)] [] w.2) (fun w h => s_X6_drawLots_L2b he hR  (fun _ h => h) hVE h) n w h
def f_X6_drawLots_L44  : Int64 × Int32 × oS → Option ((Int64 × Int32 × oS) ⊕ (oS)) := fun w =>
  match w with
  | (zv2, zv4, S) =>
    if zv4 < (1 : Int32) then (
    some (Sum.inr S)) else (
    oLet (((((1103515245 : Int64) * zv2) + (12345 : Int64)) &&& (2147483647 : Int64))) fun zx6 =>
    if ¬ (Int32.toInt64 (zv4 + (1 : Int32))) = 0 then (
    (f_X6_exchange zv4 (Int64.toInt32 ((zx6 / (65536 : Int64)) - (zx6 / (65536 : Int64)) / (Int32.toInt64 (zv4 + (1 : Int32))) * (Int32.toInt64 (zv4 + (1 : Int32))))) S).bind fun zz7 =>
    oLet (zv4 + (-1 : Int32)) fun zx8 =>
    some (Sum.inl (zx6, zx8, zz7))) else none)
set_option maxHeartbeats 4000000 in
theorem s_X6_drawLots_L44b {X : oX} {e : Nat} (he : 1 ≤ e) (hR : oRoom X (e + 1))  {VH : Int64 × Int32 × oS → Prop} {VE : oS → Prop} (hVH : ∀ z, VH z → oVv X mX6_drawLots 44 [(0, orf 700 0), (2, ol z.1), (4, oi z.2.1)] [] z.2.2) (hVE : ∀ z, VE z → oVv X mX6_drawLots 88 [] [] z) {zv2 : Int64} {zv4 : Int32} {S : oS} (h : oH (f_X6_drawLots_L44 (zv2, zv4, S)) (fun z => Sum.elim VH VE z)) : oVv X mX6_drawLots 44 [(0, orf 700 0), (2, ol zv2), (4, oi zv4)] [] S := by
  dsimp only [f_X6_drawLots_L44] at h
  refine o_iload (pc := 44) dX6_drawLots_44 2 rfl ?_
  refine o_iconst (v := 1) (pc := 46) dX6_drawLots_46 (by decide) ?_
  refine o_icmp_lt 88 (pc := 47) dX6_drawLots_47 (by decide) (fun hc => ?_) (fun hc => ?_)
  · have h := oH_T hc h
    refine o_weak [] rfl ?_
    exact hVE _ (oH_some (P := fun z => Sum.elim VH VE z) h)
  · have h := oH_F hc h
    refine o_ldc2 (v := 1103515245) (pc := 50) dX6_drawLots_50 wd_762 ?_
    refine o_lload_n (pc := 53) dX6_drawLots_53 rfl 1 rfl ?_
    refine o_lmul (pc := 54) dX6_drawLots_54 ?_
    refine o_ldc2 (v := 12345) (pc := 55) dX6_drawLots_55 wd_763 ?_
    refine o_ladd (pc := 58) dX6_drawLots_58 ?_
    refine o_ldc2 (v := 2147483647) (pc := 59) dX6_drawLots_59 wd_761 ?_
    refine o_land (pc := 62) dX6_drawLots_62 ?_
    refine o_nmL (fun zx6 hx => ?_)
    have h := oH_let h zx6 hx
    clear hx
    refine o_lstore_n (lv1 := [(0, orf 700 0), (2, ol zx6), (4, oi zv4)]) (pc := 63) dX6_drawLots_63 rfl (by decide) rfl ?_
    refine o_aload_n (pc := 64) dX6_drawLots_64 rfl 0 rfl ?_
    refine o_iload (pc := 65) dX6_drawLots_65 2 rfl ?_
    refine o_lload_n (pc := 67) dX6_drawLots_67 rfl 1 rfl ?_
    refine o_ldc2 (v := 65536) (pc := 68) dX6_drawLots_68 wd_764 ?_
    refine o_ldiv (pc := 71) dX6_drawLots_71 (by decide) ?_
    refine o_iload (pc := 72) dX6_drawLots_72 2 rfl ?_
    refine o_iconst (v := 1) (pc := 74) dX6_drawLots_74 (by decide) ?_
    refine o_iadd (pc := 75) dX6_drawLots_75 ?_
    refine o_i2l (pc := 76) dX6_drawLots_76 ?_
    obtain ⟨hg, h⟩ := oH_G h
    refine o_lrem (pc := 77) dX6_drawLots_77 hg ?_
    refine o_l2i (pc := 78) dX6_drawLots_78 ?_
    have h := oH_bind h
    refine o_callVv (pc := 79) (st := []) [oi zv4, oi (Int64.toInt32 ((zx6 / (65536 : Int64)) - (zx6 / (65536 : Int64)) / (Int32.toInt64 (zv4 + (1 : Int32))) * (Int32.toInt64 (zv4 + (1 : Int32)))))] hR md_X6_exchange wd_765 wd_767 ws_17 tc_700 j_700 rfl (Nat.le_of_ble_eq_true rfl) rfl dX6_drawLots_79 (s_X6_exchange e (by omega)  h) (fun zz7 h => ?_)
    obtain ⟨zx8, hx⟩ : ∃ y : Int32, y = zv4 + (-1 : Int32) := ⟨_, rfl⟩
    have h := oH_let h zx8 hx
    refine o_iinc (lv1 := [(0, orf 700 0), (2, ol zx6), (4, oi zx8)]) (pc := 82) dX6_drawLots_82 2 rfl hx.symm (by decide) rfl ?_
    clear hx
    refine o_goto 44 (pc := 85) dX6_drawLots_85 (by decide) ?_
    exact hVH _ (oH_some (P := fun z => Sum.elim VH VE z) h)
theorem s_X6_drawLots_L44 {X : oX} {e : Nat} (he : 1 ≤ e) (hR : oRoom X (e + 1))   {VE : oS → Prop} (hVE : ∀ z, VE z → oVv X mX6_drawLots 88 [] [] z) (n : Nat) (w : Int64 × Int32 × oS) (h : oH (oLp (f_X6_drawLots_L44) n w) VE) : oVv X mX6_drawLots 44 [(0, orf 700 0), (2, ol w.1), (4, oi w.2.1)] [] w.2.2 :=
  oLp_s (VH := fun w => oVv X mX6_drawLots 44 [(0, orf 700 0), (2, ol w.1), (4, oi w.2.1)] [] w.2.2) (fun w h => s_X6_drawLots_L44b he hR  (fun _ h => h) hVE h) n w h
def f_X6_drawLots  (za1 : Int32) (S : oS) : Option (oS) :=
  (oLp (f_X6_drawLots_L2 za1) oFu ((0 : Int32), S)).bind fun zz3 =>
  oLet ((((Int32.toInt64 (zz3.1 700 0 8)) + (Int32.toInt64 za1)) &&& (2147483647 : Int64))) fun zx4 =>
  oLet (((zz3.1 700 0 6) - (1 : Int32))) fun zx5 =>
  (oLp (f_X6_drawLots_L44) oFu (zx4, zx5, zz3)).bind fun zz9 =>
  some zz9
set_option maxHeartbeats 4000000 in
theorem s_X6_drawLots {G : oG} {r : oR} (d : Nat) (hd : 2 ≤ d) {za1 : Int32}  {S : oS} {P : oS → Prop} (h : oH (f_X6_drawLots za1 S) P) : oCt G r d yX6_drawLots mX6_drawLots [orf 700 0, oi za1] S (oQv P) := by
  unfold f_X6_drawLots at h
  refine oCt_of (by decide) rfl (Nat.le_of_ble_eq_true rfl) ?_
  intro X hG hr hE0 hR
  subst hG; subst hr
  obtain ⟨e, rfl⟩ : ∃ e, d = e + 1 := ⟨d - 1, by omega⟩
  have he : 1 ≤ e := by omega
  have hE := oEV_of hE0 rfl
  clear hE0 hd
  show oVv X mX6_drawLots 0 [(0, orf 700 0), (1, oi za1)] [] S
  refine o_iconst (v := 0) (pc := 0) dX6_drawLots_0 (by decide) ?_
  refine o_istore_n (lv1 := [(0, orf 700 0), (1, oi za1), (2, oi (0 : Int32))]) (pc := 1) dX6_drawLots_1 rfl (by decide) rfl ?_
  have h := oH_bind h
  refine s_X6_drawLots_L2 he hR  (fun zz3 h => ?_) _ ((0 : Int32), S) h
  refine o_aload_n (pc := 23) dX6_drawLots_23 rfl 0 rfl ?_
  refine o_getI (pc := 24) fd_RX6_66 ft_700_8 j_700 dX6_drawLots_24 ?_
  refine o_i2l (pc := 27) dX6_drawLots_27 ?_
  refine o_iload_n (pc := 28) dX6_drawLots_28 rfl 1 rfl ?_
  refine o_i2l (pc := 29) dX6_drawLots_29 ?_
  refine o_ladd (pc := 30) dX6_drawLots_30 ?_
  refine o_ldc2 (v := 2147483647) (pc := 31) dX6_drawLots_31 wd_761 ?_
  refine o_land (pc := 34) dX6_drawLots_34 ?_
  refine o_nmL (fun zx4 hx => ?_)
  have h := oH_let h zx4 hx
  clear hx
  refine o_lstore_n (lv1 := [(0, orf 700 0), (1, oi za1), (2, ol zx4)]) (pc := 35) dX6_drawLots_35 rfl (by decide) rfl ?_
  refine o_aload_n (pc := 36) dX6_drawLots_36 rfl 0 rfl ?_
  refine o_getI (pc := 37) fd_RX6_28 ft_700_6 j_700 dX6_drawLots_37 ?_
  refine o_iconst (v := 1) (pc := 40) dX6_drawLots_40 (by decide) ?_
  refine o_isub (pc := 41) dX6_drawLots_41 ?_
  refine o_nmI (fun zx5 hx => ?_)
  have h := oH_let h zx5 hx
  clear hx
  refine o_istore (lv1 := [(0, orf 700 0), (1, oi za1), (2, ol zx4), (4, oi zx5)]) (pc := 42) dX6_drawLots_42 (by decide) rfl ?_
  refine o_weak [0, 2, 3] rfl ?_
  have h := oH_bind h
  refine s_X6_drawLots_L44 he hR  (fun zz9 h => ?_) _ (zx4, zx5, zz3) h
  exact hE _ _ _ dX6_drawLots_88 (oH_some h)
def f_X6_goRound_L2 (zv1 : Int32) : Int32 × oS → Option ((Int32 × oS) ⊕ (oS)) := fun w =>
  match w with
  | (zv2, S) =>
    if (S.1 700 0 6) ≤ zv2 then (
    some (Sum.inr S)) else (
    if ¬ (S.1 700 0 6) = 0 then (
    if oIn zv2 8 then (
    oLet (oStI S 705 0 (Int32.toNatClampNeg zv2) ((zv1 + zv2) - (zv1 + zv2) / (S.1 700 0 6) * (S.1 700 0 6))) fun zS1 =>
    oLet (zv2 + (1 : Int32)) fun zx2 =>
    some (Sum.inl (zx2, zS1))) else none) else none)
set_option maxHeartbeats 4000000 in
theorem s_X6_goRound_L2b {X : oX} {e : Nat} (he : 0 ≤ e) (hR : oRoom X (e + 1)) {zv1 : Int32} {VH : Int32 × oS → Prop} {VE : oS → Prop} (hVH : ∀ z, VH z → oVv X mX6_goRound 2 [(0, orf 700 0), (1, oi zv1), (2, oi z.1)] [] z.2) (hVE : ∀ z, VE z → oVv X mX6_goRound 30 [] [] z) {zv2 : Int32} {S : oS} (h : oH (f_X6_goRound_L2 zv1 (zv2, S)) (fun z => Sum.elim VH VE z)) : oVv X mX6_goRound 2 [(0, orf 700 0), (1, oi zv1), (2, oi zv2)] [] S := by
  dsimp only [f_X6_goRound_L2] at h
  refine o_iload_n (pc := 2) dX6_goRound_2 rfl 2 rfl ?_
  refine o_aload_n (pc := 3) dX6_goRound_3 rfl 0 rfl ?_
  refine o_getI (pc := 4) fd_RX6_28 ft_700_6 j_700 dX6_goRound_4 ?_
  refine o_icmp_ge 30 (pc := 7) dX6_goRound_7 (by decide) (fun hc => ?_) (fun hc => ?_)
  · have h := oH_T hc h
    refine o_weak [] rfl ?_
    exact hVE _ (oH_some (P := fun z => Sum.elim VH VE z) h)
  · have h := oH_F hc h
    refine o_aload_n (pc := 10) dX6_goRound_10 rfl 0 rfl ?_
    refine o_getA (pc := 11) fd_RX6_25 ft_700_4 j_700 dX6_goRound_11 ?_
    refine o_iload_n (pc := 14) dX6_goRound_14 rfl 2 rfl ?_
    refine o_iload_n (pc := 15) dX6_goRound_15 rfl 1 rfl ?_
    refine o_iload_n (pc := 16) dX6_goRound_16 rfl 2 rfl ?_
    refine o_iadd (pc := 17) dX6_goRound_17 ?_
    refine o_aload_n (pc := 18) dX6_goRound_18 rfl 0 rfl ?_
    refine o_getI (pc := 19) fd_RX6_28 ft_700_6 j_700 dX6_goRound_19 ?_
    obtain ⟨hg, h⟩ := oH_G h
    refine o_irem (pc := 22) dX6_goRound_22 hg ?_
    obtain ⟨hg, h⟩ := oH_G h
    have hgi := hg
    refine o_iast (pc := 23) kd_705 j_705 hgi dX6_goRound_23 ?_
    refine o_nmS (fun zS1 hx => ?_)
    have h := oH_let h zS1 hx
    clear hx
    obtain ⟨zx2, hx⟩ : ∃ y : Int32, y = zv2 + (1 : Int32) := ⟨_, rfl⟩
    have h := oH_let h zx2 hx
    refine o_iinc (lv1 := [(0, orf 700 0), (1, oi zv1), (2, oi zx2)]) (pc := 24) dX6_goRound_24 2 rfl hx.symm (by decide) rfl ?_
    clear hx
    refine o_goto 2 (pc := 27) dX6_goRound_27 (by decide) ?_
    exact hVH _ (oH_some (P := fun z => Sum.elim VH VE z) h)
theorem s_X6_goRound_L2 {X : oX} {e : Nat} (he : 0 ≤ e) (hR : oRoom X (e + 1)) {zv1 : Int32}  {VE : oS → Prop} (hVE : ∀ z, VE z → oVv X mX6_goRound 30 [] [] z) (n : Nat) (w : Int32 × oS) (h : oH (oLp (f_X6_goRound_L2 zv1) n w) VE) : oVv X mX6_goRound 2 [(0, orf 700 0), (1, oi zv1), (2, oi w.1)] [] w.2 :=
  oLp_s (VH := fun w => oVv X mX6_goRound 2 [(0, orf 700 0), (1, oi zv1), (2, oi w.1)] [] w.2) (fun w h => s_X6_goRound_L2b he hR  (fun _ h => h) hVE h) n w h
def f_X6_goRound  (za1 : Int32) (S : oS) : Option (oS) :=
  (oLp (f_X6_goRound_L2 za1) oFu ((0 : Int32), S)).bind fun zz3 =>
  some zz3
set_option maxHeartbeats 4000000 in
theorem s_X6_goRound {G : oG} {r : oR} (d : Nat) (hd : 1 ≤ d) {za1 : Int32}  {S : oS} {P : oS → Prop} (h : oH (f_X6_goRound za1 S) P) : oCt G r d yX6_goRound mX6_goRound [orf 700 0, oi za1] S (oQv P) := by
  unfold f_X6_goRound at h
  refine oCt_of (by decide) rfl (Nat.le_of_ble_eq_true rfl) ?_
  intro X hG hr hE0 hR
  subst hG; subst hr
  obtain ⟨e, rfl⟩ : ∃ e, d = e + 1 := ⟨d - 1, by omega⟩
  have he : 0 ≤ e := by omega
  have hE := oEV_of hE0 rfl
  clear hE0 hd
  show oVv X mX6_goRound 0 [(0, orf 700 0), (1, oi za1)] [] S
  refine o_iconst (v := 0) (pc := 0) dX6_goRound_0 (by decide) ?_
  refine o_istore_n (lv1 := [(0, orf 700 0), (1, oi za1), (2, oi (0 : Int32))]) (pc := 1) dX6_goRound_1 rfl (by decide) rfl ?_
  have h := oH_bind h
  refine s_X6_goRound_L2 he hR  (fun zz3 h => ?_) _ ((0 : Int32), S) h
  exact hE _ _ _ dX6_goRound_30 (oH_some h)
def f_X6_placeOf_L4 (zv1 : Int32) : Int32 × Int32 × oS → Option ((Int32 × Int32 × oS) ⊕ (Int32 × oS)) := fun w =>
  match w with
  | (zv2, zv3, S) =>
    if (S.1 700 0 6) ≤ zv3 then (
    some (Sum.inr (zv2, S))) else (
    if oIn zv3 8 then (
    if (S.1 705 0 (Int32.toNatClampNeg zv3)) = zv1 then (
    oLet (zv3 + (1 : Int32)) fun zx2 =>
    some (Sum.inl (zv3, zx2, S))) else (
    oLet (zv3 + (1 : Int32)) fun zx1 =>
    some (Sum.inl (zv2, zx1, S)))) else none)
set_option maxHeartbeats 4000000 in
theorem s_X6_placeOf_L4b {X : oX} {e : Nat} (he : 0 ≤ e) (hR : oRoom X (e + 1)) {zv1 : Int32} {VH : Int32 × Int32 × oS → Prop} {VE : Int32 × oS → Prop} (hVH : ∀ z, VH z → oVv X mX6_placeOf 4 [(0, orf 700 0), (1, oi zv1), (2, oi z.1), (3, oi z.2.1)] [] z.2.2) (hVE : ∀ z, VE z → oVv X mX6_placeOf 30 [(2, oi z.1)] [] z.2) {zv2 : Int32} {zv3 : Int32} {S : oS} (h : oH (f_X6_placeOf_L4 zv1 (zv2, zv3, S)) (fun z => Sum.elim VH VE z)) : oVv X mX6_placeOf 4 [(0, orf 700 0), (1, oi zv1), (2, oi zv2), (3, oi zv3)] [] S := by
  dsimp only [f_X6_placeOf_L4] at h
  refine o_iload_n (pc := 4) dX6_placeOf_4 rfl 3 rfl ?_
  refine o_aload_n (pc := 5) dX6_placeOf_5 rfl 0 rfl ?_
  refine o_getI (pc := 6) fd_RX6_28 ft_700_6 j_700 dX6_placeOf_6 ?_
  refine o_icmp_ge 30 (pc := 9) dX6_placeOf_9 (by decide) (fun hc => ?_) (fun hc => ?_)
  · have h := oH_T hc h
    refine o_weak [2] rfl ?_
    exact hVE _ (oH_some (P := fun z => Sum.elim VH VE z) h)
  · have h := oH_F hc h
    refine o_aload_n (pc := 12) dX6_placeOf_12 rfl 0 rfl ?_
    refine o_getA (pc := 13) fd_RX6_25 ft_700_4 j_700 dX6_placeOf_13 ?_
    refine o_iload_n (pc := 16) dX6_placeOf_16 rfl 3 rfl ?_
    obtain ⟨hg, h⟩ := oH_G h
    refine o_iald (pc := 17) kd_705 j_705 hg dX6_placeOf_17 ?_
    refine o_iload_n (pc := 18) dX6_placeOf_18 rfl 1 rfl ?_
    refine o_icmp_ne 24 (pc := 19) dX6_placeOf_19 (by decide) (fun hc => ?_) (fun hc => ?_)
    · have h := oH_F hc h
      obtain ⟨zx1, hx⟩ : ∃ y : Int32, y = zv3 + (1 : Int32) := ⟨_, rfl⟩
      have h := oH_let h zx1 hx
      refine o_iinc (lv1 := [(0, orf 700 0), (1, oi zv1), (2, oi zv2), (3, oi zx1)]) (pc := 24) dX6_placeOf_24 3 rfl hx.symm (by decide) rfl ?_
      clear hx
      refine o_goto 4 (pc := 27) dX6_placeOf_27 (by decide) ?_
      exact hVH _ (oH_some (P := fun z => Sum.elim VH VE z) h)
    · have h := oH_T hc h
      refine o_iload_n (pc := 22) dX6_placeOf_22 rfl 3 rfl ?_
      refine o_istore_n (lv1 := [(0, orf 700 0), (1, oi zv1), (2, oi zv3), (3, oi zv3)]) (pc := 23) dX6_placeOf_23 rfl (by decide) rfl ?_
      obtain ⟨zx2, hx⟩ : ∃ y : Int32, y = zv3 + (1 : Int32) := ⟨_, rfl⟩
      have h := oH_let h zx2 hx
      refine o_iinc (lv1 := [(0, orf 700 0), (1, oi zv1), (2, oi zv3), (3, oi zx2)]) (pc := 24) dX6_placeOf_24 3 rfl hx.symm (by decide) rfl ?_
      clear hx
      refine o_goto 4 (pc := 27) dX6_placeOf_27 (by decide) ?_
      exact hVH _ (oH_some (P := fun z => Sum.elim VH VE z) h)
theorem s_X6_placeOf_L4 {X : oX} {e : Nat} (he : 0 ≤ e) (hR : oRoom X (e + 1)) {zv1 : Int32}  {VE : Int32 × oS → Prop} (hVE : ∀ z, VE z → oVv X mX6_placeOf 30 [(2, oi z.1)] [] z.2) (n : Nat) (w : Int32 × Int32 × oS) (h : oH (oLp (f_X6_placeOf_L4 zv1) n w) VE) : oVv X mX6_placeOf 4 [(0, orf 700 0), (1, oi zv1), (2, oi w.1), (3, oi w.2.1)] [] w.2.2 :=
  oLp_s (VH := fun w => oVv X mX6_placeOf 4 [(0, orf 700 0), (1, oi zv1), (2, oi w.1), (3, oi w.2.1)] [] w.2.2) (fun w h => s_X6_placeOf_L4b he hR  (fun _ h => h) hVE h) n w h
def f_X6_placeOf  (za1 : Int32) (S : oS) : Option (Int32 × oS) :=
  (oLp (f_X6_placeOf_L4 za1) oFu ((0 : Int32), (0 : Int32), S)).bind fun zz3 =>
  some (zz3.1, zz3.2)
set_option maxHeartbeats 4000000 in
theorem s_X6_placeOf {G : oG} {r : oR} (d : Nat) (hd : 1 ≤ d) {za1 : Int32}  {S : oS} {P : Int32 × oS → Prop} (h : oH (f_X6_placeOf za1 S) P) : oCt G r d yX6_placeOf mX6_placeOf [orf 700 0, oi za1] S (oQi P) := by
  unfold f_X6_placeOf at h
  refine oCt_of (by decide) rfl (Nat.le_of_ble_eq_true rfl) ?_
  intro X hG hr hE0 hR
  subst hG; subst hr
  obtain ⟨e, rfl⟩ : ∃ e, d = e + 1 := ⟨d - 1, by omega⟩
  have he : 0 ≤ e := by omega
  have hE := oEI_of hE0 rfl
  clear hE0 hd
  show oVv X mX6_placeOf 0 [(0, orf 700 0), (1, oi za1)] [] S
  refine o_iconst (v := 0) (pc := 0) dX6_placeOf_0 (by decide) ?_
  refine o_istore_n (lv1 := [(0, orf 700 0), (1, oi za1), (2, oi (0 : Int32))]) (pc := 1) dX6_placeOf_1 rfl (by decide) rfl ?_
  refine o_iconst (v := 0) (pc := 2) dX6_placeOf_2 (by decide) ?_
  refine o_istore_n (lv1 := [(0, orf 700 0), (1, oi za1), (2, oi (0 : Int32)), (3, oi (0 : Int32))]) (pc := 3) dX6_placeOf_3 rfl (by decide) rfl ?_
  have h := oH_bind h
  refine s_X6_placeOf_L4 he hR  (fun zz3 h => ?_) _ ((0 : Int32), (0 : Int32), S) h
  refine o_iload_n (pc := 30) dX6_placeOf_30 rfl 0 rfl ?_
  exact hE _ _ _ _ dX6_placeOf_31 (oH_some h)
def f_X6_giveTurn_L16 (zv2 : Int32) (zv3 : Int32) (zv4 : Int32) : Int32 × oS → Option ((Int32 × oS) ⊕ (oS)) := fun w =>
  match w with
  | (zv5, S) =>
    if zv4 ≤ zv5 then (
    some (Sum.inr S)) else (
    if oIn (zv5 + (1 : Int32)) 8 then (
    if oIn zv5 8 then (
    oLet (oStI S 705 0 (Int32.toNatClampNeg zv5) (S.1 705 0 (Int32.toNatClampNeg (zv5 + (1 : Int32))))) fun zS3 =>
    oLet (zv5 + (1 : Int32)) fun zx4 =>
    some (Sum.inl (zx4, zS3))) else none) else none)
set_option maxHeartbeats 4000000 in
theorem s_X6_giveTurn_L16b {X : oX} {e : Nat} (he : 1 ≤ e) (hR : oRoom X (e + 1)) {zv2 : Int32} {zv3 : Int32} {zv4 : Int32} {VH : Int32 × oS → Prop} {VE : oS → Prop} (hVH : ∀ z, VH z → oVv X mX6_giveTurn 16 [(0, orf 700 0), (2, oi zv2), (3, oi zv3), (4, oi zv4), (5, oi z.1)] [] z.2) (hVE : ∀ z, VE z → oVv X mX6_giveTurn 45 [(0, orf 700 0), (2, oi zv2), (3, oi zv3), (4, oi zv4)] [] z) {zv5 : Int32} {S : oS} (h : oH (f_X6_giveTurn_L16 zv2 zv3 zv4 (zv5, S)) (fun z => Sum.elim VH VE z)) : oVv X mX6_giveTurn 16 [(0, orf 700 0), (2, oi zv2), (3, oi zv3), (4, oi zv4), (5, oi zv5)] [] S := by
  dsimp only [f_X6_giveTurn_L16] at h
  refine o_iload (pc := 16) dX6_giveTurn_16 4 rfl ?_
  refine o_iload (pc := 18) dX6_giveTurn_18 3 rfl ?_
  refine o_icmp_ge 45 (pc := 20) dX6_giveTurn_20 (by decide) (fun hc => ?_) (fun hc => ?_)
  · have h := oH_T hc h
    refine o_weak [0, 1, 2, 3] rfl ?_
    exact hVE _ (oH_some (P := fun z => Sum.elim VH VE z) h)
  · have h := oH_F hc h
    refine o_aload_n (pc := 23) dX6_giveTurn_23 rfl 0 rfl ?_
    refine o_getA (pc := 24) fd_RX6_25 ft_700_4 j_700 dX6_giveTurn_24 ?_
    refine o_iload (pc := 27) dX6_giveTurn_27 4 rfl ?_
    refine o_aload_n (pc := 29) dX6_giveTurn_29 rfl 0 rfl ?_
    refine o_getA (pc := 30) fd_RX6_25 ft_700_4 j_700 dX6_giveTurn_30 ?_
    refine o_iload (pc := 33) dX6_giveTurn_33 4 rfl ?_
    refine o_iconst (v := 1) (pc := 35) dX6_giveTurn_35 (by decide) ?_
    refine o_iadd (pc := 36) dX6_giveTurn_36 ?_
    obtain ⟨hg, h⟩ := oH_G h
    refine o_iald (pc := 37) kd_705 j_705 hg dX6_giveTurn_37 ?_
    obtain ⟨hg, h⟩ := oH_G h
    have hgi := hg
    refine o_iast (pc := 38) kd_705 j_705 hgi dX6_giveTurn_38 ?_
    refine o_nmS (fun zS3 hx => ?_)
    have h := oH_let h zS3 hx
    clear hx
    obtain ⟨zx4, hx⟩ : ∃ y : Int32, y = zv5 + (1 : Int32) := ⟨_, rfl⟩
    have h := oH_let h zx4 hx
    refine o_iinc (lv1 := [(0, orf 700 0), (2, oi zv2), (3, oi zv3), (4, oi zv4), (5, oi zx4)]) (pc := 39) dX6_giveTurn_39 4 rfl hx.symm (by decide) rfl ?_
    clear hx
    refine o_goto 16 (pc := 42) dX6_giveTurn_42 (by decide) ?_
    exact hVH _ (oH_some (P := fun z => Sum.elim VH VE z) h)
theorem s_X6_giveTurn_L16 {X : oX} {e : Nat} (he : 1 ≤ e) (hR : oRoom X (e + 1)) {zv2 : Int32} {zv3 : Int32} {zv4 : Int32}  {VE : oS → Prop} (hVE : ∀ z, VE z → oVv X mX6_giveTurn 45 [(0, orf 700 0), (2, oi zv2), (3, oi zv3), (4, oi zv4)] [] z) (n : Nat) (w : Int32 × oS) (h : oH (oLp (f_X6_giveTurn_L16 zv2 zv3 zv4) n w) VE) : oVv X mX6_giveTurn 16 [(0, orf 700 0), (2, oi zv2), (3, oi zv3), (4, oi zv4), (5, oi w.1)] [] w.2 :=
  oLp_s (VH := fun w => oVv X mX6_giveTurn 16 [(0, orf 700 0), (2, oi zv2), (3, oi zv3), (4, oi zv4), (5, oi w.1)] [] w.2) (fun w h => s_X6_giveTurn_L16b he hR  (fun _ h => h) hVE h) n w h
def f_X6_giveTurn_L48 (zv2 : Int32) (zv4 : Int32) : Int32 × oS → Option ((Int32 × oS) ⊕ (oS)) := fun w =>
  match w with
  | (zv5, S) =>
    if zv5 ≤ zv4 then (
    some (Sum.inr S)) else (
    if oIn (zv5 - (1 : Int32)) 8 then (
    if oIn zv5 8 then (
    oLet (oStI S 705 0 (Int32.toNatClampNeg zv5) (S.1 705 0 (Int32.toNatClampNeg (zv5 - (1 : Int32))))) fun zS6 =>
    oLet (zv5 + (-1 : Int32)) fun zx7 =>
    some (Sum.inl (zx7, zS6))) else none) else none)
set_option maxHeartbeats 4000000 in
theorem s_X6_giveTurn_L48b {X : oX} {e : Nat} (he : 1 ≤ e) (hR : oRoom X (e + 1)) {zv2 : Int32} {zv4 : Int32} {VH : Int32 × oS → Prop} {VE : oS → Prop} (hVH : ∀ z, VH z → oVv X mX6_giveTurn 48 [(0, orf 700 0), (2, oi zv2), (4, oi zv4), (5, oi z.1)] [] z.2) (hVE : ∀ z, VE z → oVv X mX6_giveTurn 77 [(0, orf 700 0), (2, oi zv2), (4, oi zv4)] [] z) {zv5 : Int32} {S : oS} (h : oH (f_X6_giveTurn_L48 zv2 zv4 (zv5, S)) (fun z => Sum.elim VH VE z)) : oVv X mX6_giveTurn 48 [(0, orf 700 0), (2, oi zv2), (4, oi zv4), (5, oi zv5)] [] S := by
  dsimp only [f_X6_giveTurn_L48] at h
  refine o_iload (pc := 48) dX6_giveTurn_48 3 rfl ?_
  refine o_iload (pc := 50) dX6_giveTurn_50 2 rfl ?_
  refine o_icmp_le 77 (pc := 52) dX6_giveTurn_52 (by decide) (fun hc => ?_) (fun hc => ?_)
  · have h := oH_T hc h
    refine o_weak [0, 1, 2] rfl ?_
    exact hVE _ (oH_some (P := fun z => Sum.elim VH VE z) h)
  · have h := oH_F hc h
    refine o_aload_n (pc := 55) dX6_giveTurn_55 rfl 0 rfl ?_
    refine o_getA (pc := 56) fd_RX6_25 ft_700_4 j_700 dX6_giveTurn_56 ?_
    refine o_iload (pc := 59) dX6_giveTurn_59 3 rfl ?_
    refine o_aload_n (pc := 61) dX6_giveTurn_61 rfl 0 rfl ?_
    refine o_getA (pc := 62) fd_RX6_25 ft_700_4 j_700 dX6_giveTurn_62 ?_
    refine o_iload (pc := 65) dX6_giveTurn_65 3 rfl ?_
    refine o_iconst (v := 1) (pc := 67) dX6_giveTurn_67 (by decide) ?_
    refine o_isub (pc := 68) dX6_giveTurn_68 ?_
    obtain ⟨hg, h⟩ := oH_G h
    refine o_iald (pc := 69) kd_705 j_705 hg dX6_giveTurn_69 ?_
    obtain ⟨hg, h⟩ := oH_G h
    have hgi := hg
    refine o_iast (pc := 70) kd_705 j_705 hgi dX6_giveTurn_70 ?_
    refine o_nmS (fun zS6 hx => ?_)
    have h := oH_let h zS6 hx
    clear hx
    obtain ⟨zx7, hx⟩ : ∃ y : Int32, y = zv5 + (-1 : Int32) := ⟨_, rfl⟩
    have h := oH_let h zx7 hx
    refine o_iinc (lv1 := [(0, orf 700 0), (2, oi zv2), (4, oi zv4), (5, oi zx7)]) (pc := 71) dX6_giveTurn_71 3 rfl hx.symm (by decide) rfl ?_
    clear hx
    refine o_goto 48 (pc := 74) dX6_giveTurn_74 (by decide) ?_
    exact hVH _ (oH_some (P := fun z => Sum.elim VH VE z) h)
theorem s_X6_giveTurn_L48 {X : oX} {e : Nat} (he : 1 ≤ e) (hR : oRoom X (e + 1)) {zv2 : Int32} {zv4 : Int32}  {VE : oS → Prop} (hVE : ∀ z, VE z → oVv X mX6_giveTurn 77 [(0, orf 700 0), (2, oi zv2), (4, oi zv4)] [] z) (n : Nat) (w : Int32 × oS) (h : oH (oLp (f_X6_giveTurn_L48 zv2 zv4) n w) VE) : oVv X mX6_giveTurn 48 [(0, orf 700 0), (2, oi zv2), (4, oi zv4), (5, oi w.1)] [] w.2 :=
  oLp_s (VH := fun w => oVv X mX6_giveTurn 48 [(0, orf 700 0), (2, oi zv2), (4, oi zv4), (5, oi w.1)] [] w.2) (fun w h => s_X6_giveTurn_L48b he hR  (fun _ h => h) hVE h) n w h
def f_X6_giveTurn  (za1 : Int32) (za2 : Int32) (S : oS) : Option (oS) :=
  (f_X6_placeOf za2 S).bind fun zz1 =>
  (f_X6_placeOf za1 zz1.2).bind fun zz2 =>
  (oLp (f_X6_giveTurn_L16 za2 zz1.1 zz2.1) oFu (zz1.1, zz2.2)).bind fun zz5 =>
  (oLp (f_X6_giveTurn_L48 za2 zz2.1) oFu (zz1.1, zz5)).bind fun zz8 =>
  if oIn zz2.1 8 then (
  oLet (oStI zz8 705 0 (Int32.toNatClampNeg zz2.1) za2) fun zS9 =>
  some zS9) else none
set_option maxHeartbeats 4000000 in
theorem s_X6_giveTurn {G : oG} {r : oR} (d : Nat) (hd : 2 ≤ d) {za1 : Int32} {za2 : Int32}  {S : oS} {P : oS → Prop} (h : oH (f_X6_giveTurn za1 za2 S) P) : oCt G r d yX6_giveTurn mX6_giveTurn [orf 700 0, oi za1, oi za2] S (oQv P) := by
  unfold f_X6_giveTurn at h
  refine oCt_of (by decide) rfl (Nat.le_of_ble_eq_true rfl) ?_
  intro X hG hr hE0 hR
  subst hG; subst hr
  obtain ⟨e, rfl⟩ : ∃ e, d = e + 1 := ⟨d - 1, by omega⟩
  have he : 1 ≤ e := by omega
  have hE := oEV_of hE0 rfl
  clear hE0 hd
  show oVv X mX6_giveTurn 0 [(0, orf 700 0), (1, oi za1), (2, oi za2)] [] S
  refine o_aload_n (pc := 0) dX6_giveTurn_0 rfl 0 rfl ?_
  refine o_iload_n (pc := 1) dX6_giveTurn_1 rfl 2 rfl ?_
  have h := oH_bind h
  refine o_callVi (pc := 2) (st := []) [oi za2] hR md_X6_placeOf wd_773 wd_775 ws_19 tc_700 j_700 rfl (Nat.le_of_ble_eq_true rfl) rfl dX6_giveTurn_2 (s_X6_placeOf e (by omega)  h) (fun zz1 h => ?_)
  refine o_istore_n (lv1 := [(0, orf 700 0), (1, oi za1), (2, oi za2), (3, oi zz1.1)]) (pc := 5) dX6_giveTurn_5 rfl (by decide) rfl ?_
  refine o_aload_n (pc := 6) dX6_giveTurn_6 rfl 0 rfl ?_
  refine o_iload_n (pc := 7) dX6_giveTurn_7 rfl 1 rfl ?_
  have h := oH_bind h
  refine o_callVi (pc := 8) (st := []) [oi za1] hR md_X6_placeOf wd_773 wd_775 ws_19 tc_700 j_700 rfl (Nat.le_of_ble_eq_true rfl) rfl dX6_giveTurn_8 (s_X6_placeOf e (by omega)  h) (fun zz2 h => ?_)
  refine o_istore (lv1 := [(0, orf 700 0), (1, oi za1), (2, oi za2), (3, oi zz1.1), (4, oi zz2.1)]) (pc := 11) dX6_giveTurn_11 (by decide) rfl ?_
  refine o_iload_n (pc := 13) dX6_giveTurn_13 rfl 3 rfl ?_
  refine o_istore (lv1 := [(0, orf 700 0), (1, oi za1), (2, oi za2), (3, oi zz1.1), (4, oi zz2.1), (5, oi zz1.1)]) (pc := 14) dX6_giveTurn_14 (by decide) rfl ?_
  refine o_weak [0, 2, 3, 4, 5] rfl ?_
  have h := oH_bind h
  refine s_X6_giveTurn_L16 he hR  (fun zz5 h => ?_) _ (zz1.1, zz2.2) h
  refine o_iload_n (pc := 45) dX6_giveTurn_45 rfl 2 rfl ?_
  refine o_istore (lv1 := [(0, orf 700 0), (2, oi za2), (3, oi zz1.1), (4, oi zz2.1), (5, oi zz1.1)]) (pc := 46) dX6_giveTurn_46 (by decide) rfl ?_
  refine o_weak [0, 1, 3, 4] rfl ?_
  have h := oH_bind h
  refine s_X6_giveTurn_L48 he hR  (fun zz8 h => ?_) _ (zz1.1, zz5) h
  refine o_aload_n (pc := 77) dX6_giveTurn_77 rfl 0 rfl ?_
  refine o_getA (pc := 78) fd_RX6_25 ft_700_4 j_700 dX6_giveTurn_78 ?_
  refine o_iload (pc := 81) dX6_giveTurn_81 2 rfl ?_
  refine o_iload_n (pc := 83) dX6_giveTurn_83 rfl 1 rfl ?_
  obtain ⟨hg, h⟩ := oH_G h
  have hgi := hg
  refine o_iast (pc := 84) kd_705 j_705 hgi dX6_giveTurn_84 ?_
  refine o_nmS (fun zS9 hx => ?_)
  have h := oH_let h zS9 hx
  clear hx
  exact hE _ _ _ dX6_giveTurn_85 (oH_some h)
def f_X6_makeRow_L22 (zv1 : Int32) : Int32 × oS → Option ((Int32 × oS) ⊕ (oS)) := fun w =>
  match w with
  | (zv2, S) =>
    if (S.1 700 0 5) ≤ zv2 then (
    some (Sum.inr S)) else (
    if oIn zv2 30 then (
    if (S.1 701 0 (Int32.toNatClampNeg zv2)) = zv1 then (
    if oIn zv2 30 then (
    if (S.1 704 0 (Int32.toNatClampNeg zv2)) = 0 then (
    if oIn zv2 30 then (
    (f_X6_placeOf (S.1 702 0 (Int32.toNatClampNeg zv2)) S).bind fun zz3 =>
    if oIn zv2 30 then (
    (f_X6_placeOf (zz3.2.1 703 0 (Int32.toNatClampNeg zv2)) zz3.2).bind fun zz4 =>
    (f_X6_exchange zz3.1 zz4.1 zz4.2).bind fun zz5 =>
    oLet (zv2 + (1 : Int32)) fun zx6 =>
    some (Sum.inl (zx6, zz5))) else none) else none) else (
    if oIn zv2 30 then (
    if oIn zv2 30 then (
    (f_X6_giveTurn (S.1 702 0 (Int32.toNatClampNeg zv2)) (S.1 703 0 (Int32.toNatClampNeg zv2)) S).bind fun zz7 =>
    oLet (zv2 + (1 : Int32)) fun zx8 =>
    some (Sum.inl (zx8, zz7))) else none) else none)) else none) else (
    oLet (zv2 + (1 : Int32)) fun zx2 =>
    some (Sum.inl (zx2, S)))) else none)
set_option maxHeartbeats 4000000 in
theorem s_X6_makeRow_L22b {X : oX} {e : Nat} (he : 2 ≤ e) (hR : oRoom X (e + 1)) {zv1 : Int32} {VH : Int32 × oS → Prop} {VE : oS → Prop} (hVH : ∀ z, VH z → oVv X mX6_makeRow 22 [(0, orf 700 0), (1, oi zv1), (2, oi z.1)] [] z.2) (hVE : ∀ z, VE z → oVv X mX6_makeRow 98 [] [] z) {zv2 : Int32} {S : oS} (h : oH (f_X6_makeRow_L22 zv1 (zv2, S)) (fun z => Sum.elim VH VE z)) : oVv X mX6_makeRow 22 [(0, orf 700 0), (1, oi zv1), (2, oi zv2)] [] S := by
  dsimp only [f_X6_makeRow_L22] at h
  refine o_iload_n (pc := 22) dX6_makeRow_22 rfl 2 rfl ?_
  refine o_aload_n (pc := 23) dX6_makeRow_23 rfl 0 rfl ?_
  refine o_getI (pc := 24) fd_RX6_42 ft_700_5 j_700 dX6_makeRow_24 ?_
  refine o_icmp_ge 98 (pc := 27) dX6_makeRow_27 (by decide) (fun hc => ?_) (fun hc => ?_)
  · have h := oH_T hc h
    refine o_weak [] rfl ?_
    exact hVE _ (oH_some (P := fun z => Sum.elim VH VE z) h)
  · have h := oH_F hc h
    refine o_aload_n (pc := 30) dX6_makeRow_30 rfl 0 rfl ?_
    refine o_getA (pc := 31) fd_RX6_9 ft_700_0 j_700 dX6_makeRow_31 ?_
    refine o_iload_n (pc := 34) dX6_makeRow_34 rfl 2 rfl ?_
    obtain ⟨hg, h⟩ := oH_G h
    refine o_iald (pc := 35) kd_701 j_701 hg dX6_makeRow_35 ?_
    refine o_iload_n (pc := 36) dX6_makeRow_36 rfl 1 rfl ?_
    refine o_icmp_ne 92 (pc := 37) dX6_makeRow_37 (by decide) (fun hc => ?_) (fun hc => ?_)
    · have h := oH_F hc h
      obtain ⟨zx2, hx⟩ : ∃ y : Int32, y = zv2 + (1 : Int32) := ⟨_, rfl⟩
      have h := oH_let h zx2 hx
      refine o_iinc (lv1 := [(0, orf 700 0), (1, oi zv1), (2, oi zx2)]) (pc := 92) dX6_makeRow_92 2 rfl hx.symm (by decide) rfl ?_
      clear hx
      refine o_goto 22 (pc := 95) dX6_makeRow_95 (by decide) ?_
      exact hVH _ (oH_some (P := fun z => Sum.elim VH VE z) h)
    · have h := oH_T hc h
      refine o_aload_n (pc := 40) dX6_makeRow_40 rfl 0 rfl ?_
      refine o_getA (pc := 41) fd_RX6_21 ft_700_3 j_700 dX6_makeRow_41 ?_
      refine o_iload_n (pc := 44) dX6_makeRow_44 rfl 2 rfl ?_
      obtain ⟨hg, h⟩ := oH_G h
      refine o_zald (pc := 45) kd_704 j_704 hg dX6_makeRow_45 ?_
      refine o_if_eq 68 (pc := 46) dX6_makeRow_46 (by decide) (fun hc => ?_) (fun hc => ?_)
      · have h := oH_T hc h
        refine o_aload_n (pc := 68) dX6_makeRow_68 rfl 0 rfl ?_
        refine o_aload_n (pc := 69) dX6_makeRow_69 rfl 0 rfl ?_
        refine o_aload_n (pc := 70) dX6_makeRow_70 rfl 0 rfl ?_
        refine o_getA (pc := 71) fd_RX6_15 ft_700_1 j_700 dX6_makeRow_71 ?_
        refine o_iload_n (pc := 74) dX6_makeRow_74 rfl 2 rfl ?_
        obtain ⟨hg, h⟩ := oH_G h
        refine o_iald (pc := 75) kd_702 j_702 hg dX6_makeRow_75 ?_
        have h := oH_bind h
        refine o_callVi (pc := 76) (st := [orf 700 0]) [oi (S.1 702 0 (Int32.toNatClampNeg zv2))] hR md_X6_placeOf wd_773 wd_775 ws_19 tc_700 j_700 rfl (Nat.le_of_ble_eq_true rfl) rfl dX6_makeRow_76 (s_X6_placeOf e (by omega)  h) (fun zz3 h => ?_)
        refine o_aload_n (pc := 79) dX6_makeRow_79 rfl 0 rfl ?_
        refine o_aload_n (pc := 80) dX6_makeRow_80 rfl 0 rfl ?_
        refine o_getA (pc := 81) fd_RX6_18 ft_700_2 j_700 dX6_makeRow_81 ?_
        refine o_iload_n (pc := 84) dX6_makeRow_84 rfl 2 rfl ?_
        obtain ⟨hg, h⟩ := oH_G h
        refine o_iald (pc := 85) kd_703 j_703 hg dX6_makeRow_85 ?_
        have h := oH_bind h
        refine o_callVi (pc := 86) (st := [oi zz3.1, orf 700 0]) [oi (zz3.2.1 703 0 (Int32.toNatClampNeg zv2))] hR md_X6_placeOf wd_773 wd_775 ws_19 tc_700 j_700 rfl (Nat.le_of_ble_eq_true rfl) rfl dX6_makeRow_86 (s_X6_placeOf e (by omega)  h) (fun zz4 h => ?_)
        have h := oH_bind h
        refine o_callVv (pc := 89) (st := []) [oi zz3.1, oi zz4.1] hR md_X6_exchange wd_765 wd_767 ws_17 tc_700 j_700 rfl (Nat.le_of_ble_eq_true rfl) rfl dX6_makeRow_89 (s_X6_exchange e (by omega)  h) (fun zz5 h => ?_)
        obtain ⟨zx6, hx⟩ : ∃ y : Int32, y = zv2 + (1 : Int32) := ⟨_, rfl⟩
        have h := oH_let h zx6 hx
        refine o_iinc (lv1 := [(0, orf 700 0), (1, oi zv1), (2, oi zx6)]) (pc := 92) dX6_makeRow_92 2 rfl hx.symm (by decide) rfl ?_
        clear hx
        refine o_goto 22 (pc := 95) dX6_makeRow_95 (by decide) ?_
        exact hVH _ (oH_some (P := fun z => Sum.elim VH VE z) h)
      · have h := oH_F hc h
        refine o_aload_n (pc := 49) dX6_makeRow_49 rfl 0 rfl ?_
        refine o_aload_n (pc := 50) dX6_makeRow_50 rfl 0 rfl ?_
        refine o_getA (pc := 51) fd_RX6_15 ft_700_1 j_700 dX6_makeRow_51 ?_
        refine o_iload_n (pc := 54) dX6_makeRow_54 rfl 2 rfl ?_
        obtain ⟨hg, h⟩ := oH_G h
        refine o_iald (pc := 55) kd_702 j_702 hg dX6_makeRow_55 ?_
        refine o_aload_n (pc := 56) dX6_makeRow_56 rfl 0 rfl ?_
        refine o_getA (pc := 57) fd_RX6_18 ft_700_2 j_700 dX6_makeRow_57 ?_
        refine o_iload_n (pc := 60) dX6_makeRow_60 rfl 2 rfl ?_
        obtain ⟨hg, h⟩ := oH_G h
        refine o_iald (pc := 61) kd_703 j_703 hg dX6_makeRow_61 ?_
        have h := oH_bind h
        refine o_callVv (pc := 62) (st := []) [oi (S.1 702 0 (Int32.toNatClampNeg zv2)), oi (S.1 703 0 (Int32.toNatClampNeg zv2))] hR md_X6_giveTurn wd_769 wd_771 ws_18 tc_700 j_700 rfl (Nat.le_of_ble_eq_true rfl) rfl dX6_makeRow_62 (s_X6_giveTurn e (by omega)  h) (fun zz7 h => ?_)
        refine o_goto 92 (pc := 65) dX6_makeRow_65 (by decide) ?_
        obtain ⟨zx8, hx⟩ : ∃ y : Int32, y = zv2 + (1 : Int32) := ⟨_, rfl⟩
        have h := oH_let h zx8 hx
        refine o_iinc (lv1 := [(0, orf 700 0), (1, oi zv1), (2, oi zx8)]) (pc := 92) dX6_makeRow_92 2 rfl hx.symm (by decide) rfl ?_
        clear hx
        refine o_goto 22 (pc := 95) dX6_makeRow_95 (by decide) ?_
        exact hVH _ (oH_some (P := fun z => Sum.elim VH VE z) h)
theorem s_X6_makeRow_L22 {X : oX} {e : Nat} (he : 2 ≤ e) (hR : oRoom X (e + 1)) {zv1 : Int32}  {VE : oS → Prop} (hVE : ∀ z, VE z → oVv X mX6_makeRow 98 [] [] z) (n : Nat) (w : Int32 × oS) (h : oH (oLp (f_X6_makeRow_L22 zv1) n w) VE) : oVv X mX6_makeRow 22 [(0, orf 700 0), (1, oi zv1), (2, oi w.1)] [] w.2 :=
  oLp_s (VH := fun w => oVv X mX6_makeRow 22 [(0, orf 700 0), (1, oi zv1), (2, oi w.1)] [] w.2) (fun w h => s_X6_makeRow_L22b he hR  (fun _ h => h) hVE h) n w h
def f_X6_makeRow_K20 (zv1 : Int32) (S : oS) : Option (oS) :=
  (oLp (f_X6_makeRow_L22 zv1) oFu ((0 : Int32), S)).bind fun zz9 =>
  some zz9
set_option maxHeartbeats 4000000 in
theorem s_X6_makeRow_K20 {X : oX} {e : Nat} (he : 2 ≤ e) (hR : oRoom X (e + 1)) {zv1 : Int32} {P : oS → Prop} (hE : oEV X mX6_makeRow P) {S : oS} (h : oH (f_X6_makeRow_K20 zv1 S) P) : oVv X mX6_makeRow 20 [(0, orf 700 0), (1, oi zv1)] [] S := by
  unfold f_X6_makeRow_K20 at h
  refine o_iconst (v := 0) (pc := 20) dX6_makeRow_20 (by decide) ?_
  refine o_istore_n (lv1 := [(0, orf 700 0), (1, oi zv1), (2, oi (0 : Int32))]) (pc := 21) dX6_makeRow_21 rfl (by decide) rfl ?_
  have h := oH_bind h
  refine s_X6_makeRow_L22 he hR  (fun zz9 h => ?_) _ ((0 : Int32), S) h
  exact hE _ _ _ dX6_makeRow_98 (oH_some h)
def f_X6_makeRow  (za1 : Int32) (S : oS) : Option (oS) :=
  if (S.1 700 0 7) = 0 then (
  (f_X6_goRound za1 S).bind fun zz10 =>
  f_X6_makeRow_K20 za1 zz10) else (
  (f_X6_drawLots za1 S).bind fun zz1 =>
  f_X6_makeRow_K20 za1 zz1)
set_option maxHeartbeats 4000000 in
theorem s_X6_makeRow {G : oG} {r : oR} (d : Nat) (hd : 3 ≤ d) {za1 : Int32}  {S : oS} {P : oS → Prop} (h : oH (f_X6_makeRow za1 S) P) : oCt G r d yX6_makeRow mX6_makeRow [orf 700 0, oi za1] S (oQv P) := by
  unfold f_X6_makeRow at h
  refine oCt_of (by decide) rfl (Nat.le_of_ble_eq_true rfl) ?_
  intro X hG hr hE0 hR
  subst hG; subst hr
  obtain ⟨e, rfl⟩ : ∃ e, d = e + 1 := ⟨d - 1, by omega⟩
  have he : 2 ≤ e := by omega
  have hE := oEV_of hE0 rfl
  clear hE0 hd
  show oVv X mX6_makeRow 0 [(0, orf 700 0), (1, oi za1)] [] S
  refine o_aload_n (pc := 0) dX6_makeRow_0 rfl 0 rfl ?_
  refine o_getI (pc := 1) fd_RX6_32 ft_700_7 j_700 dX6_makeRow_1 ?_
  refine o_if_ne 15 (pc := 4) dX6_makeRow_4 (by decide) (fun hc => ?_) (fun hc => ?_)
  · have h := oH_F hc h
    refine o_aload_n (pc := 15) dX6_makeRow_15 rfl 0 rfl ?_
    refine o_iload_n (pc := 16) dX6_makeRow_16 rfl 1 rfl ?_
    have h := oH_bind h
    refine o_callVv (pc := 17) (st := []) [oi za1] hR md_X6_drawLots wd_757 wd_759 ws_16 tc_700 j_700 rfl (Nat.le_of_ble_eq_true rfl) rfl dX6_makeRow_17 (s_X6_drawLots e (by omega)  h) (fun zz1 h => ?_)
    exact s_X6_makeRow_K20 he hR  hE h
  · have h := oH_T hc h
    refine o_aload_n (pc := 7) dX6_makeRow_7 rfl 0 rfl ?_
    refine o_iload_n (pc := 8) dX6_makeRow_8 rfl 1 rfl ?_
    have h := oH_bind h
    refine o_callVv (pc := 9) (st := []) [oi za1] hR md_X6_goRound wd_753 wd_755 ws_15 tc_700 j_700 rfl (Nat.le_of_ble_eq_true rfl) rfl dX6_makeRow_9 (s_X6_goRound e (by omega)  h) (fun zz10 h => ?_)
    refine o_goto 20 (pc := 12) dX6_makeRow_12 (by decide) ?_
    exact s_X6_makeRow_K20 he hR  hE h
def f_X6_firstWeekAhead_L3 (zv1 : Int32) (zv3 : Int32) : Int32 × oS → Option ((Int32 × oS) ⊕ ((oS) ⊕ (Int32 × oS))) := fun w =>
  match w with
  | (zv4, S) =>
    if zv3 < zv4 then (
    some (Sum.inr (Sum.inl S))) else (
    (f_X6_makeRow zv4 S).bind fun zz1 =>
    if (zz1.1 705 0 (Int32.toNatClampNeg (0 : Int32))) = zv1 then (
    some (Sum.inr (Sum.inr (zv4, zz1)))) else (
    oLet (zv4 + (1 : Int32)) fun zx2 =>
    some (Sum.inl (zx2, zz1))))
set_option maxHeartbeats 4000000 in
theorem s_X6_firstWeekAhead_L3b {X : oX} {e : Nat} (he : 3 ≤ e) (hR : oRoom X (e + 1)) {zv1 : Int32} {zv3 : Int32} {VH : Int32 × oS → Prop} {VE : (oS) ⊕ (Int32 × oS) → Prop} (hVH : ∀ z, VH z → oVv X mX6_firstWeekAhead 3 [(0, orf 700 0), (1, oi zv1), (3, oi zv3), (4, oi z.1)] [] z.2) (hVE : ∀ z, VE (Sum.inl z) → oVv X mX6_firstWeekAhead 34 [] [] z) {PQ : Int32 × oS → Prop} (hE : oEI X mX6_firstWeekAhead PQ) (hRet : ∀ z, VE (Sum.inr z) → PQ z) {zv4 : Int32} {S : oS} (h : oH (f_X6_firstWeekAhead_L3 zv1 zv3 (zv4, S)) (fun z => Sum.elim VH VE z)) : oVv X mX6_firstWeekAhead 3 [(0, orf 700 0), (1, oi zv1), (3, oi zv3), (4, oi zv4)] [] S := by
  dsimp only [f_X6_firstWeekAhead_L3] at h
  refine o_iload (pc := 3) dX6_firstWeekAhead_3 3 rfl ?_
  refine o_iload_n (pc := 5) dX6_firstWeekAhead_5 rfl 2 rfl ?_
  refine o_icmp_gt 34 (pc := 6) dX6_firstWeekAhead_6 (by decide) (fun hc => ?_) (fun hc => ?_)
  · have h := oH_T hc h
    refine o_weak [] rfl ?_
    exact hVE _ (oH_some (P := fun z => Sum.elim VH VE z) h)
  · have h := oH_F hc h
    refine o_aload_n (pc := 9) dX6_firstWeekAhead_9 rfl 0 rfl ?_
    refine o_iload (pc := 10) dX6_firstWeekAhead_10 3 rfl ?_
    have h := oH_bind h
    refine o_callVv (pc := 12) (st := []) [oi zv4] hR md_X6_makeRow wd_785 wd_750 wd_751 tc_700 j_700 rfl (Nat.le_of_ble_eq_true rfl) rfl dX6_firstWeekAhead_12 (s_X6_makeRow e (by omega)  h) (fun zz1 h => ?_)
    refine o_aload_n (pc := 15) dX6_firstWeekAhead_15 rfl 0 rfl ?_
    refine o_getA (pc := 16) fd_RX6_25 ft_700_4 j_700 dX6_firstWeekAhead_16 ?_
    refine o_iconst (v := 0) (pc := 19) dX6_firstWeekAhead_19 (by decide) ?_
    refine o_iald (pc := 20) kd_705 j_705 (by decide) dX6_firstWeekAhead_20 ?_
    refine o_iload_n (pc := 21) dX6_firstWeekAhead_21 rfl 1 rfl ?_
    refine o_icmp_ne 28 (pc := 22) dX6_firstWeekAhead_22 (by decide) (fun hc => ?_) (fun hc => ?_)
    · have h := oH_F hc h
      obtain ⟨zx2, hx⟩ : ∃ y : Int32, y = zv4 + (1 : Int32) := ⟨_, rfl⟩
      have h := oH_let h zx2 hx
      refine o_iinc (lv1 := [(0, orf 700 0), (1, oi zv1), (3, oi zv3), (4, oi zx2)]) (pc := 28) dX6_firstWeekAhead_28 3 rfl hx.symm (by decide) rfl ?_
      clear hx
      refine o_goto 3 (pc := 31) dX6_firstWeekAhead_31 (by decide) ?_
      exact hVH _ (oH_some (P := fun z => Sum.elim VH VE z) h)
    · have h := oH_T hc h
      refine o_iload (pc := 25) dX6_firstWeekAhead_25 3 rfl ?_
      exact hE _ _ _ _ dX6_firstWeekAhead_27 (hRet _ (oH_some (P := fun z => Sum.elim VH VE z) h))
theorem s_X6_firstWeekAhead_L3 {X : oX} {e : Nat} (he : 3 ≤ e) (hR : oRoom X (e + 1)) {zv1 : Int32} {zv3 : Int32}  {VE : (oS) ⊕ (Int32 × oS) → Prop} (hVE : ∀ z, VE (Sum.inl z) → oVv X mX6_firstWeekAhead 34 [] [] z) {PQ : Int32 × oS → Prop} (hE : oEI X mX6_firstWeekAhead PQ) (hRet : ∀ z, VE (Sum.inr z) → PQ z) (n : Nat) (w : Int32 × oS) (h : oH (oLp (f_X6_firstWeekAhead_L3 zv1 zv3) n w) VE) : oVv X mX6_firstWeekAhead 3 [(0, orf 700 0), (1, oi zv1), (3, oi zv3), (4, oi w.1)] [] w.2 :=
  oLp_s (VH := fun w => oVv X mX6_firstWeekAhead 3 [(0, orf 700 0), (1, oi zv1), (3, oi zv3), (4, oi w.1)] [] w.2) (fun w h => s_X6_firstWeekAhead_L3b he hR  (fun _ h => h) hVE hE hRet h) n w h
def f_X6_firstWeekAhead  (za1 : Int32) (za2 : Int32) (za3 : Int32) (S : oS) : Option (Int32 × oS) :=
  (oLp (f_X6_firstWeekAhead_L3 za1 za3) oFu (za2, S)).bind fun w => Sum.elim (fun zz3 =>
  some ((-1 : Int32), zz3)) (fun r => some r) w
set_option maxHeartbeats 4000000 in
theorem s_X6_firstWeekAhead {G : oG} {r : oR} (d : Nat) (hd : 4 ≤ d) {za1 : Int32} {za2 : Int32} {za3 : Int32}  {S : oS} {P : Int32 × oS → Prop} (h : oH (f_X6_firstWeekAhead za1 za2 za3 S) P) : oCt G r d yX6_firstWeekAhead mX6_firstWeekAhead [orf 700 0, oi za1, oi za2, oi za3] S (oQi P) := by
  unfold f_X6_firstWeekAhead at h
  refine oCt_of (by decide) rfl (Nat.le_of_ble_eq_true rfl) ?_
  intro X hG hr hE0 hR
  subst hG; subst hr
  obtain ⟨e, rfl⟩ : ∃ e, d = e + 1 := ⟨d - 1, by omega⟩
  have he : 3 ≤ e := by omega
  have hE := oEI_of hE0 rfl
  clear hE0 hd
  show oVv X mX6_firstWeekAhead 0 [(0, orf 700 0), (1, oi za1), (2, oi za2), (3, oi za3)] [] S
  refine o_iload_n (pc := 0) dX6_firstWeekAhead_0 rfl 2 rfl ?_
  refine o_istore (lv1 := [(0, orf 700 0), (1, oi za1), (2, oi za2), (3, oi za3), (4, oi za2)]) (pc := 1) dX6_firstWeekAhead_1 (by decide) rfl ?_
  refine o_weak [0, 1, 3, 4] rfl ?_
  have h := oH_bind h
  refine s_X6_firstWeekAhead_L3 he hR  ?_ hE ?_ _ (za2, S) h
  · intro zz3 h
    have h := oElimL h
    refine o_iconst (v := -1) (pc := 34) dX6_firstWeekAhead_34 (by decide) ?_
    exact hE _ _ _ _ dX6_firstWeekAhead_35 (oH_some h)
  · intro r h
    have h := oElimR h
    exact oH_some (P := P) h
def f_X6_has  (za1 : Int32) (S : oS) : Option (Int32 × oS) :=
  (f_X8_within za1 (0 : Int32) ((S.1 700 0 6) - (1 : Int32)) S).bind fun zz1 =>
  if oBl zz1.1 then (
  some (zz1.1, zz1.2)) else none
set_option maxHeartbeats 4000000 in
theorem s_X6_has {G : oG} {r : oR} (d : Nat) (hd : 2 ≤ d) {za1 : Int32}  {S : oS} {P : Int32 × oS → Prop} (h : oH (f_X6_has za1 S) P) : oCt G r d yX6_has mX6_has [orf 700 0, oi za1] S (oQi P) := by
  unfold f_X6_has at h
  refine oCt_of (by decide) rfl (Nat.le_of_ble_eq_true rfl) ?_
  intro X hG hr hE0 hR
  subst hG; subst hr
  obtain ⟨e, rfl⟩ : ∃ e, d = e + 1 := ⟨d - 1, by omega⟩
  have he : 1 ≤ e := by omega
  have hE := oEZ_of hE0 rfl
  clear hE0 hd
  show oVv X mX6_has 0 [(0, orf 700 0), (1, oi za1)] [] S
  refine o_iload_n (pc := 0) dX6_has_0 rfl 1 rfl ?_
  refine o_iconst (v := 0) (pc := 1) dX6_has_1 (by decide) ?_
  refine o_aload_n (pc := 2) dX6_has_2 rfl 0 rfl ?_
  refine o_getI (pc := 3) fd_RX6_28 ft_700_6 j_700 dX6_has_3 ?_
  refine o_iconst (v := 1) (pc := 6) dX6_has_6 (by decide) ?_
  refine o_isub (pc := 7) dX6_has_7 ?_
  have h := oH_bind h
  refine o_callSNi (host := "VillageOven") (pc := 8) (st := []) [oi za1, oi (0 : Int32), oi ((S.1 700 0 6) - (1 : Int32))] hR md_X8_within (by decide +kernel) wd_376 rfl (Nat.le_of_ble_eq_true rfl) rfl dX6_has_8 (s_X8_within e (by omega)  h) (fun zz1 h => ?_)
  obtain ⟨hg, h⟩ := oH_G h
  exact hE _ _ _ _ dX6_has_11 hg (oH_some h)
def f_X6_weeksWaited_L6 (zv1 : Int32) (zv3 : Int32) : Int32 × Int32 × oS → Option ((Int32 × Int32 × oS) ⊕ (Int32 × oS)) := fun w =>
  match w with
  | (zv4, zv5, S) =>
    if zv3 < zv5 then (
    some (Sum.inr (zv4, S))) else (
    (f_X6_makeRow zv5 S).bind fun zz1 =>
    (f_X6_placeOf zv1 zz1).bind fun zz2 =>
    if zz2.1 < (zz2.2.1 700 0 9) then (
    oLet (zv5 + (1 : Int32)) fun zx3 =>
    some (Sum.inl (zv4, zx3, zz2.2))) else (
    oLet (zv4 + (1 : Int32)) fun zx4 =>
    oLet (zv5 + (1 : Int32)) fun zx5 =>
    some (Sum.inl (zx4, zx5, zz2.2))))
set_option maxHeartbeats 4000000 in
theorem s_X6_weeksWaited_L6b {X : oX} {e : Nat} (he : 3 ≤ e) (hR : oRoom X (e + 1)) {zv1 : Int32} {zv3 : Int32} {VH : Int32 × Int32 × oS → Prop} {VE : Int32 × oS → Prop} (hVH : ∀ z, VH z → oVv X mX6_weeksWaited 6 [(0, orf 700 0), (1, oi zv1), (3, oi zv3), (4, oi z.1), (5, oi z.2.1)] [] z.2.2) (hVE : ∀ z, VE z → oVv X mX6_weeksWaited 39 [(4, oi z.1)] [] z.2) {zv4 : Int32} {zv5 : Int32} {S : oS} (h : oH (f_X6_weeksWaited_L6 zv1 zv3 (zv4, zv5, S)) (fun z => Sum.elim VH VE z)) : oVv X mX6_weeksWaited 6 [(0, orf 700 0), (1, oi zv1), (3, oi zv3), (4, oi zv4), (5, oi zv5)] [] S := by
  dsimp only [f_X6_weeksWaited_L6] at h
  refine o_iload (pc := 6) dX6_weeksWaited_6 4 rfl ?_
  refine o_iload_n (pc := 8) dX6_weeksWaited_8 rfl 2 rfl ?_
  refine o_icmp_gt 39 (pc := 9) dX6_weeksWaited_9 (by decide) (fun hc => ?_) (fun hc => ?_)
  · have h := oH_T hc h
    refine o_weak [3] rfl ?_
    exact hVE _ (oH_some (P := fun z => Sum.elim VH VE z) h)
  · have h := oH_F hc h
    refine o_aload_n (pc := 12) dX6_weeksWaited_12 rfl 0 rfl ?_
    refine o_iload (pc := 13) dX6_weeksWaited_13 4 rfl ?_
    have h := oH_bind h
    refine o_callVv (pc := 15) (st := []) [oi zv5] hR md_X6_makeRow wd_785 wd_750 wd_751 tc_700 j_700 rfl (Nat.le_of_ble_eq_true rfl) rfl dX6_weeksWaited_15 (s_X6_makeRow e (by omega)  h) (fun zz1 h => ?_)
    refine o_aload_n (pc := 18) dX6_weeksWaited_18 rfl 0 rfl ?_
    refine o_iload_n (pc := 19) dX6_weeksWaited_19 rfl 1 rfl ?_
    have h := oH_bind h
    refine o_callVi (pc := 20) (st := []) [oi zv1] hR md_X6_placeOf wd_773 wd_775 ws_19 tc_700 j_700 rfl (Nat.le_of_ble_eq_true rfl) rfl dX6_weeksWaited_20 (s_X6_placeOf e (by omega)  h) (fun zz2 h => ?_)
    refine o_aload_n (pc := 23) dX6_weeksWaited_23 rfl 0 rfl ?_
    refine o_getI (pc := 24) fd_RX6_35 ft_700_9 j_700 dX6_weeksWaited_24 ?_
    refine o_icmp_lt 33 (pc := 27) dX6_weeksWaited_27 (by decide) (fun hc => ?_) (fun hc => ?_)
    · have h := oH_T hc h
      obtain ⟨zx3, hx⟩ : ∃ y : Int32, y = zv5 + (1 : Int32) := ⟨_, rfl⟩
      have h := oH_let h zx3 hx
      refine o_iinc (lv1 := [(0, orf 700 0), (1, oi zv1), (3, oi zv3), (4, oi zv4), (5, oi zx3)]) (pc := 33) dX6_weeksWaited_33 4 rfl hx.symm (by decide) rfl ?_
      clear hx
      refine o_goto 6 (pc := 36) dX6_weeksWaited_36 (by decide) ?_
      exact hVH _ (oH_some (P := fun z => Sum.elim VH VE z) h)
    · have h := oH_F hc h
      obtain ⟨zx4, hx⟩ : ∃ y : Int32, y = zv4 + (1 : Int32) := ⟨_, rfl⟩
      have h := oH_let h zx4 hx
      refine o_iinc (lv1 := [(0, orf 700 0), (1, oi zv1), (3, oi zv3), (4, oi zx4), (5, oi zv5)]) (pc := 30) dX6_weeksWaited_30 3 rfl hx.symm (by decide) rfl ?_
      clear hx
      obtain ⟨zx5, hx⟩ : ∃ y : Int32, y = zv5 + (1 : Int32) := ⟨_, rfl⟩
      have h := oH_let h zx5 hx
      refine o_iinc (lv1 := [(0, orf 700 0), (1, oi zv1), (3, oi zv3), (4, oi zx4), (5, oi zx5)]) (pc := 33) dX6_weeksWaited_33 4 rfl hx.symm (by decide) rfl ?_
      clear hx
      refine o_goto 6 (pc := 36) dX6_weeksWaited_36 (by decide) ?_
      exact hVH _ (oH_some (P := fun z => Sum.elim VH VE z) h)
theorem s_X6_weeksWaited_L6 {X : oX} {e : Nat} (he : 3 ≤ e) (hR : oRoom X (e + 1)) {zv1 : Int32} {zv3 : Int32}  {VE : Int32 × oS → Prop} (hVE : ∀ z, VE z → oVv X mX6_weeksWaited 39 [(4, oi z.1)] [] z.2) (n : Nat) (w : Int32 × Int32 × oS) (h : oH (oLp (f_X6_weeksWaited_L6 zv1 zv3) n w) VE) : oVv X mX6_weeksWaited 6 [(0, orf 700 0), (1, oi zv1), (3, oi zv3), (4, oi w.1), (5, oi w.2.1)] [] w.2.2 :=
  oLp_s (VH := fun w => oVv X mX6_weeksWaited 6 [(0, orf 700 0), (1, oi zv1), (3, oi zv3), (4, oi w.1), (5, oi w.2.1)] [] w.2.2) (fun w h => s_X6_weeksWaited_L6b he hR  (fun _ h => h) hVE h) n w h
def f_X6_weeksWaited  (za1 : Int32) (za2 : Int32) (za3 : Int32) (S : oS) : Option (Int32 × oS) :=
  (oLp (f_X6_weeksWaited_L6 za1 za3) oFu ((0 : Int32), za2, S)).bind fun zz6 =>
  some (zz6.1, zz6.2)
set_option maxHeartbeats 4000000 in
theorem s_X6_weeksWaited {G : oG} {r : oR} (d : Nat) (hd : 4 ≤ d) {za1 : Int32} {za2 : Int32} {za3 : Int32}  {S : oS} {P : Int32 × oS → Prop} (h : oH (f_X6_weeksWaited za1 za2 za3 S) P) : oCt G r d yX6_weeksWaited mX6_weeksWaited [orf 700 0, oi za1, oi za2, oi za3] S (oQi P) := by
  unfold f_X6_weeksWaited at h
  refine oCt_of (by decide) rfl (Nat.le_of_ble_eq_true rfl) ?_
  intro X hG hr hE0 hR
  subst hG; subst hr
  obtain ⟨e, rfl⟩ : ∃ e, d = e + 1 := ⟨d - 1, by omega⟩
  have he : 3 ≤ e := by omega
  have hE := oEI_of hE0 rfl
  clear hE0 hd
  show oVv X mX6_weeksWaited 0 [(0, orf 700 0), (1, oi za1), (2, oi za2), (3, oi za3)] [] S
  refine o_iconst (v := 0) (pc := 0) dX6_weeksWaited_0 (by decide) ?_
  refine o_istore (lv1 := [(0, orf 700 0), (1, oi za1), (2, oi za2), (3, oi za3), (4, oi (0 : Int32))]) (pc := 1) dX6_weeksWaited_1 (by decide) rfl ?_
  refine o_iload_n (pc := 3) dX6_weeksWaited_3 rfl 2 rfl ?_
  refine o_istore (lv1 := [(0, orf 700 0), (1, oi za1), (2, oi za2), (3, oi za3), (4, oi (0 : Int32)), (5, oi za2)]) (pc := 4) dX6_weeksWaited_4 (by decide) rfl ?_
  refine o_weak [0, 1, 3, 4, 5] rfl ?_
  have h := oH_bind h
  refine s_X6_weeksWaited_L6 he hR  (fun zz6 h => ?_) _ ((0 : Int32), za2, S) h
  refine o_iload (pc := 39) dX6_weeksWaited_39 0 rfl ?_
  exact hE _ _ _ _ dX6_weeksWaited_41 (oH_some h)
