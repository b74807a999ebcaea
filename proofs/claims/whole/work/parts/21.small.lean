def f_X0_addBricks  (za1 : Int32) (za2 : Int32) (S : oS) : Option (Int32 × oS) :=
  if oIn (S.1 100 0 3) 10 then (
  oLet (oStI S 102 0 (Int32.toNatClampNeg (S.1 100 0 3)) za1) fun zS1 =>
  if oIn (zS1.1 100 0 3) 10 then (
  oLet (oStI zS1 103 0 (Int32.toNatClampNeg (zS1.1 100 0 3)) za2) fun zS2 =>
  oLet (oStI zS2 100 0 3 ((zS2.1 100 0 3) + (1 : Int32))) fun zS3 =>
  some (zS3.1 100 0 3, zS3)) else none) else none
set_option maxHeartbeats 4000000 in
theorem s_X0_addBricks {G : oG} {r : oR} (d : Nat) (hd : 1 ≤ d) {za1 : Int32} {za2 : Int32}  {S : oS} {P : Int32 × oS → Prop} (h : oH (f_X0_addBricks za1 za2 S) P) : oCt G r d yX0_addBricks mX0_addBricks [orf 100 0, oi za1, oi za2] S (oQi P) := by
  unfold f_X0_addBricks at h
  refine oCt_of (by decide) rfl (Nat.le_of_ble_eq_true rfl) ?_
  intro X hG hr hE0 hR
  subst hG; subst hr
  obtain ⟨e, rfl⟩ : ∃ e, d = e + 1 := ⟨d - 1, by omega⟩
  have he : 0 ≤ e := by omega
  have hE := oEI_of hE0 rfl
  clear hE0 hd
  show oVv X mX0_addBricks 0 [(0, orf 100 0), (1, oi za1), (2, oi za2)] [] S
  refine o_aload_n (pc := 0) dX0_addBricks_0 rfl 0 rfl ?_
  refine o_getA (pc := 1) fd_RX0_15 ft_100_1 j_100 dX0_addBricks_1 ?_
  refine o_aload_n (pc := 4) dX0_addBricks_4 rfl 0 rfl ?_
  refine o_getI (pc := 5) fd_RX0_21 ft_100_3 j_100 dX0_addBricks_5 ?_
  refine o_iload_n (pc := 8) dX0_addBricks_8 rfl 1 rfl ?_
  obtain ⟨hg, h⟩ := oH_G h
  have hgi := hg
  refine o_iast (pc := 9) kd_102 j_102 hgi dX0_addBricks_9 ?_
  refine o_nmS (fun zS1 hx => ?_)
  have h := oH_let h zS1 hx
  clear hx
  refine o_aload_n (pc := 10) dX0_addBricks_10 rfl 0 rfl ?_
  refine o_getA (pc := 11) fd_RX0_18 ft_100_2 j_100 dX0_addBricks_11 ?_
  refine o_aload_n (pc := 14) dX0_addBricks_14 rfl 0 rfl ?_
  refine o_getI (pc := 15) fd_RX0_21 ft_100_3 j_100 dX0_addBricks_15 ?_
  refine o_iload_n (pc := 18) dX0_addBricks_18 rfl 2 rfl ?_
  obtain ⟨hg, h⟩ := oH_G h
  have hgi := hg
  refine o_iast (pc := 19) kd_103 j_103 hgi dX0_addBricks_19 ?_
  refine o_nmS (fun zS2 hx => ?_)
  have h := oH_let h zS2 hx
  clear hx
  refine o_aload_n (pc := 20) dX0_addBricks_20 rfl 0 rfl ?_
  refine o_dup (pc := 21) dX0_addBricks_21 rfl ?_
  refine o_getI (pc := 22) fd_RX0_21 ft_100_3 j_100 dX0_addBricks_22 ?_
  refine o_iconst (v := 1) (pc := 25) dX0_addBricks_25 (by decide) ?_
  refine o_iadd (pc := 26) dX0_addBricks_26 ?_
  refine o_putI (pc := 27) fd_RX0_21 fp_100_3 ft_100_3 rfl rfl j_100 dX0_addBricks_27 ?_
  refine o_nmS (fun zS3 hx => ?_)
  have h := oH_let h zS3 hx
  clear hx
  refine o_aload_n (pc := 30) dX0_addBricks_30 rfl 0 rfl ?_
  refine o_getI (pc := 31) fd_RX0_21 ft_100_3 j_100 dX0_addBricks_31 ?_
  exact hE _ _ _ _ dX0_addBricks_34 (oH_some h)
def f_X0_wellNotes_K27 (zv2 : Int32) (zs0 : Int32) (zs1 : Int32) (S : oS) : Option ((Int32 × Int32 × oS) ⊕ (Int32 × oS)) :=
  oLet ((zs0 + zs1)) fun zx1 =>
  oLet (zv2 + (1 : Int32)) fun zx2 =>
  some (Sum.inl (zx1, zx2, S))
set_option maxHeartbeats 4000000 in
theorem s_X0_wellNotes_K27 {X : oX} {e : Nat} (he : 0 ≤ e) (hR : oRoom X (e + 1)) {zv2 : Int32} {zs0 : Int32} {zs1 : Int32} {VH : Int32 × Int32 × oS → Prop} {VE : Int32 × oS → Prop} (hVH : ∀ z, VH z → oVv X mX0_wellNotes 4 [(0, orf 100 0), (1, oi z.1), (2, oi z.2.1)] [] z.2.2) (hVE : ∀ z, VE z → oVv X mX0_wellNotes 35 [(1, oi z.1)] [] z.2) {S : oS} (h : oH (f_X0_wellNotes_K27 zv2 zs0 zs1 S) (fun z => Sum.elim VH VE z)) : oVv X mX0_wellNotes 27 [(0, orf 100 0), (2, oi zv2)] [oi zs1, oi zs0] S := by
  unfold f_X0_wellNotes_K27 at h
  refine o_iadd (pc := 27) dX0_wellNotes_27 ?_
  refine o_nmI (fun zx1 hx => ?_)
  have h := oH_let h zx1 hx
  clear hx
  refine o_istore_n (lv1 := [(0, orf 100 0), (1, oi zx1), (2, oi zv2)]) (pc := 28) dX0_wellNotes_28 rfl (by decide) rfl ?_
  obtain ⟨zx2, hx⟩ : ∃ y : Int32, y = zv2 + (1 : Int32) := ⟨_, rfl⟩
  have h := oH_let h zx2 hx
  refine o_iinc (lv1 := [(0, orf 100 0), (1, oi zx1), (2, oi zx2)]) (pc := 29) dX0_wellNotes_29 2 rfl hx.symm (by decide) rfl ?_
  clear hx
  refine o_goto 4 (pc := 32) dX0_wellNotes_32 (by decide) ?_
  exact hVH _ (oH_some (P := fun z => Sum.elim VH VE z) h)
def f_X0_wellNotes_L4  : Int32 × Int32 × oS → Option ((Int32 × Int32 × oS) ⊕ (Int32 × oS)) := fun w =>
  match w with
  | (zv1, zv2, S) =>
    if (244 : Int32) ≤ zv2 then (
    some (Sum.inr (zv1, S))) else (
    if oIn zv2 244 then (
    if (S.1 101 0 (Int32.toNatClampNeg zv2)) = (1 : Int32) then (
    f_X0_wellNotes_K27 zv2 zv1 (1 : Int32) S) else (
    f_X0_wellNotes_K27 zv2 zv1 (0 : Int32) S)) else none)
set_option maxHeartbeats 4000000 in
theorem s_X0_wellNotes_L4b {X : oX} {e : Nat} (he : 0 ≤ e) (hR : oRoom X (e + 1))  {VH : Int32 × Int32 × oS → Prop} {VE : Int32 × oS → Prop} (hVH : ∀ z, VH z → oVv X mX0_wellNotes 4 [(0, orf 100 0), (1, oi z.1), (2, oi z.2.1)] [] z.2.2) (hVE : ∀ z, VE z → oVv X mX0_wellNotes 35 [(1, oi z.1)] [] z.2) {zv1 : Int32} {zv2 : Int32} {S : oS} (h : oH (f_X0_wellNotes_L4 (zv1, zv2, S)) (fun z => Sum.elim VH VE z)) : oVv X mX0_wellNotes 4 [(0, orf 100 0), (1, oi zv1), (2, oi zv2)] [] S := by
  dsimp only [f_X0_wellNotes_L4] at h
  refine o_iload_n (pc := 4) dX0_wellNotes_4 rfl 2 rfl ?_
  refine o_sipush (v := 244) (pc := 5) dX0_wellNotes_5 (by decide) ?_
  refine o_icmp_ge 35 (pc := 8) dX0_wellNotes_8 (by decide) (fun hc => ?_) (fun hc => ?_)
  · have h := oH_T hc h
    refine o_weak [1] rfl ?_
    exact hVE _ (oH_some (P := fun z => Sum.elim VH VE z) h)
  · have h := oH_F hc h
    refine o_iload_n (pc := 11) dX0_wellNotes_11 rfl 1 rfl ?_
    refine o_aload_n (pc := 12) dX0_wellNotes_12 rfl 0 rfl ?_
    refine o_getA (pc := 13) fd_RX0_9 ft_100_0 j_100 dX0_wellNotes_13 ?_
    refine o_iload_n (pc := 16) dX0_wellNotes_16 rfl 2 rfl ?_
    obtain ⟨hg, h⟩ := oH_G h
    refine o_iald (pc := 17) kd_101 j_101 hg dX0_wellNotes_17 ?_
    refine o_iconst (v := 1) (pc := 18) dX0_wellNotes_18 (by decide) ?_
    refine o_icmp_ne 26 (pc := 19) dX0_wellNotes_19 (by decide) (fun hc => ?_) (fun hc => ?_)
    · have h := oH_F hc h
      refine o_iconst (v := 0) (pc := 26) dX0_wellNotes_26 (by decide) ?_
      refine o_weak [0, 2] rfl ?_
      exact s_X0_wellNotes_K27 he hR  hVH hVE h
    · have h := oH_T hc h
      refine o_iconst (v := 1) (pc := 22) dX0_wellNotes_22 (by decide) ?_
      refine o_goto 27 (pc := 23) dX0_wellNotes_23 (by decide) ?_
      refine o_weak [0, 2] rfl ?_
      exact s_X0_wellNotes_K27 he hR  hVH hVE h
theorem s_X0_wellNotes_L4 {X : oX} {e : Nat} (he : 0 ≤ e) (hR : oRoom X (e + 1))   {VE : Int32 × oS → Prop} (hVE : ∀ z, VE z → oVv X mX0_wellNotes 35 [(1, oi z.1)] [] z.2) (n : Nat) (w : Int32 × Int32 × oS) (h : oH (oLp (f_X0_wellNotes_L4) n w) VE) : oVv X mX0_wellNotes 4 [(0, orf 100 0), (1, oi w.1), (2, oi w.2.1)] [] w.2.2 :=
  oLp_s (VH := fun w => oVv X mX0_wellNotes 4 [(0, orf 100 0), (1, oi w.1), (2, oi w.2.1)] [] w.2.2) (fun w h => s_X0_wellNotes_L4b he hR  (fun _ h => h) hVE h) n w h
def f_X0_wellNotes   (S : oS) : Option (Int32 × oS) :=
  (oLp (f_X0_wellNotes_L4) oFu ((0 : Int32), (0 : Int32), S)).bind fun zz3 =>
  some (zz3.1, zz3.2)
set_option maxHeartbeats 4000000 in
theorem s_X0_wellNotes {G : oG} {r : oR} (d : Nat) (hd : 1 ≤ d)   {S : oS} {P : Int32 × oS → Prop} (h : oH (f_X0_wellNotes  S) P) : oCt G r d yX0_wellNotes mX0_wellNotes [orf 100 0] S (oQi P) := by
  unfold f_X0_wellNotes at h
  refine oCt_of (by decide) rfl (Nat.le_of_ble_eq_true rfl) ?_
  intro X hG hr hE0 hR
  subst hG; subst hr
  obtain ⟨e, rfl⟩ : ∃ e, d = e + 1 := ⟨d - 1, by omega⟩
  have he : 0 ≤ e := by omega
  have hE := oEI_of hE0 rfl
  clear hE0 hd
  show oVv X mX0_wellNotes 0 [(0, orf 100 0)] [] S
  refine o_iconst (v := 0) (pc := 0) dX0_wellNotes_0 (by decide) ?_
  refine o_istore_n (lv1 := [(0, orf 100 0), (1, oi (0 : Int32))]) (pc := 1) dX0_wellNotes_1 rfl (by decide) rfl ?_
  refine o_iconst (v := 0) (pc := 2) dX0_wellNotes_2 (by decide) ?_
  refine o_istore_n (lv1 := [(0, orf 100 0), (1, oi (0 : Int32)), (2, oi (0 : Int32))]) (pc := 3) dX0_wellNotes_3 rfl (by decide) rfl ?_
  have h := oH_bind h
  refine s_X0_wellNotes_L4 he hR  (fun zz3 h => ?_) _ ((0 : Int32), (0 : Int32), S) h
  refine o_iload_n (pc := 35) dX0_wellNotes_35 rfl 0 rfl ?_
  exact hE _ _ _ _ dX0_wellNotes_36 (oH_some h)
def f_X0_mendedBehind_L6 (zv1 : Int32) (zv2 : Int32) : Int32 × Int32 × oS → Option ((Int32 × Int32 × oS) ⊕ (Int32 × oS)) := fun w =>
  match w with
  | (zv3, zv4, S) =>
    if (S.1 100 0 3) ≤ zv4 then (
    some (Sum.inr (zv3, S))) else (
    if oIn zv4 10 then (
    if (S.1 102 0 (Int32.toNatClampNeg zv4)) = zv1 then (
    if oIn zv4 10 then (
    if (S.1 103 0 (Int32.toNatClampNeg zv4)) ≤ zv2 then (
    oLet (zv4 + (1 : Int32)) fun zx2 =>
    some (Sum.inl (zv3, zx2, S))) else (
    if oIn zv4 10 then (
    oLet ((oMinI zv3 (S.1 103 0 (Int32.toNatClampNeg zv4)))) fun zx3 =>
    oLet (zv4 + (1 : Int32)) fun zx4 =>
    some (Sum.inl (zx3, zx4, S))) else none)) else none) else (
    oLet (zv4 + (1 : Int32)) fun zx1 =>
    some (Sum.inl (zv3, zx1, S)))) else none)
set_option maxHeartbeats 4000000 in
theorem s_X0_mendedBehind_L6b {X : oX} {e : Nat} (he : 0 ≤ e) (hR : oRoom X (e + 1)) {zv1 : Int32} {zv2 : Int32} {VH : Int32 × Int32 × oS → Prop} {VE : Int32 × oS → Prop} (hVH : ∀ z, VH z → oVv X mX0_mendedBehind 6 [(0, orf 100 0), (1, oi zv1), (2, oi zv2), (3, oi z.1), (4, oi z.2.1)] [] z.2.2) (hVE : ∀ z, VE z → oVv X mX0_mendedBehind 55 [(3, oi z.1)] [] z.2) {zv3 : Int32} {zv4 : Int32} {S : oS} (h : oH (f_X0_mendedBehind_L6 zv1 zv2 (zv3, zv4, S)) (fun z => Sum.elim VH VE z)) : oVv X mX0_mendedBehind 6 [(0, orf 100 0), (1, oi zv1), (2, oi zv2), (3, oi zv3), (4, oi zv4)] [] S := by
  dsimp only [f_X0_mendedBehind_L6] at h
  refine o_iload (pc := 6) dX0_mendedBehind_6 4 rfl ?_
  refine o_aload_n (pc := 8) dX0_mendedBehind_8 rfl 0 rfl ?_
  refine o_getI (pc := 9) fd_RX0_21 ft_100_3 j_100 dX0_mendedBehind_9 ?_
  refine o_icmp_ge 55 (pc := 12) dX0_mendedBehind_12 (by decide) (fun hc => ?_) (fun hc => ?_)
  · have h := oH_T hc h
    refine o_weak [3] rfl ?_
    exact hVE _ (oH_some (P := fun z => Sum.elim VH VE z) h)
  · have h := oH_F hc h
    refine o_aload_n (pc := 15) dX0_mendedBehind_15 rfl 0 rfl ?_
    refine o_getA (pc := 16) fd_RX0_15 ft_100_1 j_100 dX0_mendedBehind_16 ?_
    refine o_iload (pc := 19) dX0_mendedBehind_19 4 rfl ?_
    obtain ⟨hg, h⟩ := oH_G h
    refine o_iald (pc := 21) kd_102 j_102 hg dX0_mendedBehind_21 ?_
    refine o_iload_n (pc := 22) dX0_mendedBehind_22 rfl 1 rfl ?_
    refine o_icmp_ne 49 (pc := 23) dX0_mendedBehind_23 (by decide) (fun hc => ?_) (fun hc => ?_)
    · have h := oH_F hc h
      obtain ⟨zx1, hx⟩ : ∃ y : Int32, y = zv4 + (1 : Int32) := ⟨_, rfl⟩
      have h := oH_let h zx1 hx
      refine o_iinc (lv1 := [(0, orf 100 0), (1, oi zv1), (2, oi zv2), (3, oi zv3), (4, oi zx1)]) (pc := 49) dX0_mendedBehind_49 4 rfl hx.symm (by decide) rfl ?_
      clear hx
      refine o_goto 6 (pc := 52) dX0_mendedBehind_52 (by decide) ?_
      exact hVH _ (oH_some (P := fun z => Sum.elim VH VE z) h)
    · have h := oH_T hc h
      refine o_aload_n (pc := 26) dX0_mendedBehind_26 rfl 0 rfl ?_
      refine o_getA (pc := 27) fd_RX0_18 ft_100_2 j_100 dX0_mendedBehind_27 ?_
      refine o_iload (pc := 30) dX0_mendedBehind_30 4 rfl ?_
      obtain ⟨hg, h⟩ := oH_G h
      refine o_iald (pc := 32) kd_103 j_103 hg dX0_mendedBehind_32 ?_
      refine o_iload_n (pc := 33) dX0_mendedBehind_33 rfl 2 rfl ?_
      refine o_icmp_le 49 (pc := 34) dX0_mendedBehind_34 (by decide) (fun hc => ?_) (fun hc => ?_)
      · have h := oH_T hc h
        obtain ⟨zx2, hx⟩ : ∃ y : Int32, y = zv4 + (1 : Int32) := ⟨_, rfl⟩
        have h := oH_let h zx2 hx
        refine o_iinc (lv1 := [(0, orf 100 0), (1, oi zv1), (2, oi zv2), (3, oi zv3), (4, oi zx2)]) (pc := 49) dX0_mendedBehind_49 4 rfl hx.symm (by decide) rfl ?_
        clear hx
        refine o_goto 6 (pc := 52) dX0_mendedBehind_52 (by decide) ?_
        exact hVH _ (oH_some (P := fun z => Sum.elim VH VE z) h)
      · have h := oH_F hc h
        refine o_iload_n (pc := 37) dX0_mendedBehind_37 rfl 3 rfl ?_
        refine o_aload_n (pc := 38) dX0_mendedBehind_38 rfl 0 rfl ?_
        refine o_getA (pc := 39) fd_RX0_18 ft_100_2 j_100 dX0_mendedBehind_39 ?_
        refine o_iload (pc := 42) dX0_mendedBehind_42 4 rfl ?_
        obtain ⟨hg, h⟩ := oH_G h
        refine o_iald (pc := 44) kd_103 j_103 hg dX0_mendedBehind_44 ?_
        refine o_oMinI (pc := 45) (oRoom_1 hR) wd_830 (Nat.le_of_ble_eq_true rfl) dX0_mendedBehind_45 ?_
        refine o_nmI (fun zx3 hx => ?_)
        have h := oH_let h zx3 hx
        clear hx
        refine o_istore_n (lv1 := [(0, orf 100 0), (1, oi zv1), (2, oi zv2), (3, oi zx3), (4, oi zv4)]) (pc := 48) dX0_mendedBehind_48 rfl (by decide) rfl ?_
        obtain ⟨zx4, hx⟩ : ∃ y : Int32, y = zv4 + (1 : Int32) := ⟨_, rfl⟩
        have h := oH_let h zx4 hx
        refine o_iinc (lv1 := [(0, orf 100 0), (1, oi zv1), (2, oi zv2), (3, oi zx3), (4, oi zx4)]) (pc := 49) dX0_mendedBehind_49 4 rfl hx.symm (by decide) rfl ?_
        clear hx
        refine o_goto 6 (pc := 52) dX0_mendedBehind_52 (by decide) ?_
        exact hVH _ (oH_some (P := fun z => Sum.elim VH VE z) h)
theorem s_X0_mendedBehind_L6 {X : oX} {e : Nat} (he : 0 ≤ e) (hR : oRoom X (e + 1)) {zv1 : Int32} {zv2 : Int32}  {VE : Int32 × oS → Prop} (hVE : ∀ z, VE z → oVv X mX0_mendedBehind 55 [(3, oi z.1)] [] z.2) (n : Nat) (w : Int32 × Int32 × oS) (h : oH (oLp (f_X0_mendedBehind_L6 zv1 zv2) n w) VE) : oVv X mX0_mendedBehind 6 [(0, orf 100 0), (1, oi zv1), (2, oi zv2), (3, oi w.1), (4, oi w.2.1)] [] w.2.2 :=
  oLp_s (VH := fun w => oVv X mX0_mendedBehind 6 [(0, orf 100 0), (1, oi zv1), (2, oi zv2), (3, oi w.1), (4, oi w.2.1)] [] w.2.2) (fun w h => s_X0_mendedBehind_L6b he hR  (fun _ h => h) hVE h) n w h
def f_X0_mendedBehind  (za1 : Int32) (za2 : Int32) (S : oS) : Option (Int32 × oS) :=
  (oLp (f_X0_mendedBehind_L6 za1 za2) oFu ((61 : Int32), (0 : Int32), S)).bind fun zz5 =>
  some (zz5.1, zz5.2)
set_option maxHeartbeats 4000000 in
theorem s_X0_mendedBehind {G : oG} {r : oR} (d : Nat) (hd : 1 ≤ d) {za1 : Int32} {za2 : Int32}  {S : oS} {P : Int32 × oS → Prop} (h : oH (f_X0_mendedBehind za1 za2 S) P) : oCt G r d yX0_mendedBehind mX0_mendedBehind [orf 100 0, oi za1, oi za2] S (oQi P) := by
  unfold f_X0_mendedBehind at h
  refine oCt_of (by decide) rfl (Nat.le_of_ble_eq_true rfl) ?_
  intro X hG hr hE0 hR
  subst hG; subst hr
  obtain ⟨e, rfl⟩ : ∃ e, d = e + 1 := ⟨d - 1, by omega⟩
  have he : 0 ≤ e := by omega
  have hE := oEI_of hE0 rfl
  clear hE0 hd
  show oVv X mX0_mendedBehind 0 [(0, orf 100 0), (1, oi za1), (2, oi za2)] [] S
  refine o_bipush (v := 61) (pc := 0) dX0_mendedBehind_0 (by decide) ?_
  refine o_istore_n (lv1 := [(0, orf 100 0), (1, oi za1), (2, oi za2), (3, oi (61 : Int32))]) (pc := 2) dX0_mendedBehind_2 rfl (by decide) rfl ?_
  refine o_iconst (v := 0) (pc := 3) dX0_mendedBehind_3 (by decide) ?_
  refine o_istore (lv1 := [(0, orf 100 0), (1, oi za1), (2, oi za2), (3, oi (61 : Int32)), (4, oi (0 : Int32))]) (pc := 4) dX0_mendedBehind_4 (by decide) rfl ?_
  have h := oH_bind h
  refine s_X0_mendedBehind_L6 he hR  (fun zz5 h => ?_) _ ((61 : Int32), (0 : Int32), S) h
  refine o_iload_n (pc := 55) dX0_mendedBehind_55 rfl 0 rfl ?_
  exact hE _ _ _ _ dX0_mendedBehind_56 (oH_some h)
def f_X0_gain_K76 (zv2 : Int32) (zv4 : Int32) (zv5 : Int32) (zv7 : Int32) (zs0 : Int32) (zs1 : Int32) (S : oS) : Option ((Int32 × Int32 × oS) ⊕ (Int32 × oS)) :=
  oLet ((zs0 - zs1)) fun zx4 =>
  oLet (zv7 + (1 : Int32)) fun zx5 =>
  some (Sum.inl (zx4, zx5, S))
set_option maxHeartbeats 4000000 in
theorem s_X0_gain_K76 {X : oX} {e : Nat} (he : 1 ≤ e) (hR : oRoom X (e + 1)) {zv2 : Int32} {zv4 : Int32} {zv5 : Int32} {zv7 : Int32} {zs0 : Int32} {zs1 : Int32} {VH : Int32 × Int32 × oS → Prop} {VE : Int32 × oS → Prop} (hVH : ∀ z, VH z → oVv X mX0_gain 26 [(0, orf 100 0), (2, oi zv2), (4, oi zv4), (5, oi zv5), (6, oi z.1), (7, oi z.2.1)] [] z.2.2) (hVE : ∀ z, VE z → oVv X mX0_gain 85 [(6, oi z.1)] [] z.2) {S : oS} (h : oH (f_X0_gain_K76 zv2 zv4 zv5 zv7 zs0 zs1 S) (fun z => Sum.elim VH VE z)) : oVv X mX0_gain 76 [(0, orf 100 0), (2, oi zv2), (4, oi zv4), (5, oi zv5), (7, oi zv7)] [oi zs1, oi zs0] S := by
  unfold f_X0_gain_K76 at h
  refine o_isub (pc := 76) dX0_gain_76 ?_
  refine o_nmI (fun zx4 hx => ?_)
  have h := oH_let h zx4 hx
  clear hx
  refine o_istore (lv1 := [(0, orf 100 0), (2, oi zv2), (4, oi zv4), (5, oi zv5), (6, oi zx4), (7, oi zv7)]) (pc := 77) dX0_gain_77 (by decide) rfl ?_
  obtain ⟨zx5, hx⟩ : ∃ y : Int32, y = zv7 + (1 : Int32) := ⟨_, rfl⟩
  have h := oH_let h zx5 hx
  refine o_iinc (lv1 := [(0, orf 100 0), (2, oi zv2), (4, oi zv4), (5, oi zv5), (6, oi zx4), (7, oi zx5)]) (pc := 79) dX0_gain_79 5 rfl hx.symm (by decide) rfl ?_
  clear hx
  refine o_goto 26 (pc := 82) dX0_gain_82 (by decide) ?_
  exact hVH _ (oH_some (P := fun z => Sum.elim VH VE z) h)
def f_X0_gain_K60 (zv2 : Int32) (zv4 : Int32) (zv5 : Int32) (zv7 : Int32) (zv8 : Int32) (zs0 : Int32) (zs1 : Int32) (S : oS) : Option ((Int32 × Int32 × oS) ⊕ (Int32 × oS)) :=
  oLet ((zs0 + zs1)) fun zx3 =>
  if zv8 = (1 : Int32) then (
  f_X0_gain_K76 zv2 zv4 zv5 zv7 zx3 (1 : Int32) S) else (
  f_X0_gain_K76 zv2 zv4 zv5 zv7 zx3 (0 : Int32) S)
set_option maxHeartbeats 4000000 in
theorem s_X0_gain_K60 {X : oX} {e : Nat} (he : 1 ≤ e) (hR : oRoom X (e + 1)) {zv2 : Int32} {zv4 : Int32} {zv5 : Int32} {zv7 : Int32} {zv8 : Int32} {zs0 : Int32} {zs1 : Int32} {VH : Int32 × Int32 × oS → Prop} {VE : Int32 × oS → Prop} (hVH : ∀ z, VH z → oVv X mX0_gain 26 [(0, orf 100 0), (2, oi zv2), (4, oi zv4), (5, oi zv5), (6, oi z.1), (7, oi z.2.1)] [] z.2.2) (hVE : ∀ z, VE z → oVv X mX0_gain 85 [(6, oi z.1)] [] z.2) {S : oS} (h : oH (f_X0_gain_K60 zv2 zv4 zv5 zv7 zv8 zs0 zs1 S) (fun z => Sum.elim VH VE z)) : oVv X mX0_gain 60 [(0, orf 100 0), (2, oi zv2), (4, oi zv4), (5, oi zv5), (7, oi zv7), (8, oi zv8)] [oi zs1, oi zs0] S := by
  unfold f_X0_gain_K60 at h
  refine o_iadd (pc := 60) dX0_gain_60 ?_
  refine o_nmI (fun zx3 hx => ?_)
  have h := oH_let h zx3 hx
  clear hx
  refine o_istore (lv1 := [(0, orf 100 0), (2, oi zv2), (4, oi zv4), (5, oi zv5), (6, oi zx3), (7, oi zv7), (8, oi zv8)]) (pc := 61) dX0_gain_61 (by decide) rfl ?_
  refine o_iload (pc := 63) dX0_gain_63 4 rfl ?_
  refine o_iload (pc := 65) dX0_gain_65 6 rfl ?_
  refine o_iconst (v := 1) (pc := 67) dX0_gain_67 (by decide) ?_
  refine o_icmp_ne 75 (pc := 68) dX0_gain_68 (by decide) (fun hc => ?_) (fun hc => ?_)
  · have h := oH_F hc h
    refine o_iconst (v := 0) (pc := 75) dX0_gain_75 (by decide) ?_
    refine o_weak [0, 1, 2, 3, 5] rfl ?_
    exact s_X0_gain_K76 he hR  hVH hVE h
  · have h := oH_T hc h
    refine o_iconst (v := 1) (pc := 71) dX0_gain_71 (by decide) ?_
    refine o_goto 76 (pc := 72) dX0_gain_72 (by decide) ?_
    refine o_weak [0, 1, 2, 3, 5] rfl ?_
    exact s_X0_gain_K76 he hR  hVH hVE h
def f_X0_gain_L26 (zv2 : Int32) (zv4 : Int32) (zv5 : Int32) : Int32 × Int32 × oS → Option ((Int32 × Int32 × oS) ⊕ (Int32 × oS)) := fun w =>
  match w with
  | (zv6, zv7, S) =>
    if zv5 ≤ zv7 then (
    some (Sum.inr (zv6, S))) else (
    if oIn ((zv7 * (4 : Int32)) + zv2) 244 then (
    oLet (S.1 101 0 (Int32.toNatClampNeg ((zv7 * (4 : Int32)) + zv2))) fun zx2 =>
    if zx2 = zv4 then (
    f_X0_gain_K60 zv2 zv4 zv5 zv7 zx2 zv6 (1 : Int32) S) else (
    f_X0_gain_K60 zv2 zv4 zv5 zv7 zx2 zv6 (0 : Int32) S)) else none)
set_option maxHeartbeats 4000000 in
theorem s_X0_gain_L26b {X : oX} {e : Nat} (he : 1 ≤ e) (hR : oRoom X (e + 1)) {zv2 : Int32} {zv4 : Int32} {zv5 : Int32} {VH : Int32 × Int32 × oS → Prop} {VE : Int32 × oS → Prop} (hVH : ∀ z, VH z → oVv X mX0_gain 26 [(0, orf 100 0), (2, oi zv2), (4, oi zv4), (5, oi zv5), (6, oi z.1), (7, oi z.2.1)] [] z.2.2) (hVE : ∀ z, VE z → oVv X mX0_gain 85 [(6, oi z.1)] [] z.2) {zv6 : Int32} {zv7 : Int32} {S : oS} (h : oH (f_X0_gain_L26 zv2 zv4 zv5 (zv6, zv7, S)) (fun z => Sum.elim VH VE z)) : oVv X mX0_gain 26 [(0, orf 100 0), (2, oi zv2), (4, oi zv4), (5, oi zv5), (6, oi zv6), (7, oi zv7)] [] S := by
  dsimp only [f_X0_gain_L26] at h
  refine o_iload (pc := 26) dX0_gain_26 5 rfl ?_
  refine o_iload (pc := 28) dX0_gain_28 3 rfl ?_
  refine o_icmp_ge 85 (pc := 30) dX0_gain_30 (by decide) (fun hc => ?_) (fun hc => ?_)
  · have h := oH_T hc h
    refine o_weak [4] rfl ?_
    exact hVE _ (oH_some (P := fun z => Sum.elim VH VE z) h)
  · have h := oH_F hc h
    refine o_aload_n (pc := 33) dX0_gain_33 rfl 0 rfl ?_
    refine o_getA (pc := 34) fd_RX0_9 ft_100_0 j_100 dX0_gain_34 ?_
    refine o_iload (pc := 37) dX0_gain_37 5 rfl ?_
    refine o_iconst (v := 4) (pc := 39) dX0_gain_39 (by decide) ?_
    refine o_imul (pc := 40) dX0_gain_40 ?_
    refine o_iload_n (pc := 41) dX0_gain_41 rfl 1 rfl ?_
    refine o_iadd (pc := 42) dX0_gain_42 ?_
    obtain ⟨hg, h⟩ := oH_G h
    refine o_iald (pc := 43) kd_101 j_101 hg dX0_gain_43 ?_
    refine o_nmI (fun zx2 hx => ?_)
    have h := oH_let h zx2 hx
    clear hx
    refine o_istore (lv1 := [(0, orf 100 0), (2, oi zv2), (4, oi zv4), (5, oi zv5), (6, oi zv6), (7, oi zv7), (8, oi zx2)]) (pc := 44) dX0_gain_44 (by decide) rfl ?_
    refine o_iload (pc := 46) dX0_gain_46 4 rfl ?_
    refine o_iload (pc := 48) dX0_gain_48 6 rfl ?_
    refine o_iload (pc := 50) dX0_gain_50 2 rfl ?_
    refine o_icmp_ne 59 (pc := 52) dX0_gain_52 (by decide) (fun hc => ?_) (fun hc => ?_)
    · have h := oH_F hc h
      refine o_iconst (v := 0) (pc := 59) dX0_gain_59 (by decide) ?_
      refine o_weak [0, 1, 2, 3, 5, 6] rfl ?_
      exact s_X0_gain_K60 he hR  hVH hVE h
    · have h := oH_T hc h
      refine o_iconst (v := 1) (pc := 55) dX0_gain_55 (by decide) ?_
      refine o_goto 60 (pc := 56) dX0_gain_56 (by decide) ?_
      refine o_weak [0, 1, 2, 3, 5, 6] rfl ?_
      exact s_X0_gain_K60 he hR  hVH hVE h
theorem s_X0_gain_L26 {X : oX} {e : Nat} (he : 1 ≤ e) (hR : oRoom X (e + 1)) {zv2 : Int32} {zv4 : Int32} {zv5 : Int32}  {VE : Int32 × oS → Prop} (hVE : ∀ z, VE z → oVv X mX0_gain 85 [(6, oi z.1)] [] z.2) (n : Nat) (w : Int32 × Int32 × oS) (h : oH (oLp (f_X0_gain_L26 zv2 zv4 zv5) n w) VE) : oVv X mX0_gain 26 [(0, orf 100 0), (2, oi zv2), (4, oi zv4), (5, oi zv5), (6, oi w.1), (7, oi w.2.1)] [] w.2.2 :=
  oLp_s (VH := fun w => oVv X mX0_gain 26 [(0, orf 100 0), (2, oi zv2), (4, oi zv4), (5, oi zv5), (6, oi w.1), (7, oi w.2.1)] [] w.2.2) (fun w h => s_X0_gain_L26b he hR  (fun _ h => h) hVE h) n w h
def f_X0_gain_K10 (zv2 : Int32) (zv3 : Int32) (zs0 : Int32) (S : oS) : Option (Int32 × oS) :=
  (f_X0_mendedBehind zv2 zv3 S).bind fun zz1 =>
  (oLp (f_X0_gain_L26 zv2 zs0 zz1.1) oFu ((0 : Int32), zv3, zz1.2)).bind fun zz6 =>
  some (zz6.1, zz6.2)
set_option maxHeartbeats 4000000 in
theorem s_X0_gain_K10 {X : oX} {e : Nat} (he : 1 ≤ e) (hR : oRoom X (e + 1)) {zv2 : Int32} {zv3 : Int32} {zs0 : Int32} {P : Int32 × oS → Prop} (hE : oEI X mX0_gain P) {S : oS} (h : oH (f_X0_gain_K10 zv2 zv3 zs0 S) P) : oVv X mX0_gain 10 [(0, orf 100 0), (2, oi zv2), (3, oi zv3)] [oi zs0] S := by
  unfold f_X0_gain_K10 at h
  refine o_istore (lv1 := [(0, orf 100 0), (2, oi zv2), (3, oi zv3), (4, oi zs0)]) (pc := 10) dX0_gain_10 (by decide) rfl ?_
  refine o_aload_n (pc := 12) dX0_gain_12 rfl 0 rfl ?_
  refine o_iload_n (pc := 13) dX0_gain_13 rfl 1 rfl ?_
  refine o_iload_n (pc := 14) dX0_gain_14 rfl 2 rfl ?_
  have h := oH_bind h
  refine o_callVi (pc := 15) (st := []) [oi zv2, oi zv3] hR md_X0_mendedBehind wd_826 wd_828 ws_20 tc_100 j_100 rfl (Nat.le_of_ble_eq_true rfl) rfl dX0_gain_15 (s_X0_mendedBehind e (by omega)  h) (fun zz1 h => ?_)
  refine o_istore (lv1 := [(0, orf 100 0), (2, oi zv2), (3, oi zv3), (4, oi zs0), (5, oi zz1.1)]) (pc := 18) dX0_gain_18 (by decide) rfl ?_
  refine o_iconst (v := 0) (pc := 20) dX0_gain_20 (by decide) ?_
  refine o_istore (lv1 := [(0, orf 100 0), (2, oi zv2), (3, oi zv3), (4, oi zs0), (5, oi zz1.1), (6, oi (0 : Int32))]) (pc := 21) dX0_gain_21 (by decide) rfl ?_
  refine o_iload_n (pc := 23) dX0_gain_23 rfl 2 rfl ?_
  refine o_istore (lv1 := [(0, orf 100 0), (2, oi zv2), (3, oi zv3), (4, oi zs0), (5, oi zz1.1), (6, oi (0 : Int32)), (7, oi zv3)]) (pc := 24) dX0_gain_24 (by decide) rfl ?_
  refine o_weak [0, 1, 3, 4, 5, 6] rfl ?_
  have h := oH_bind h
  refine s_X0_gain_L26 he hR  (fun zz6 h => ?_) _ ((0 : Int32), zv3, zz1.2) h
  refine o_iload (pc := 85) dX0_gain_85 0 rfl ?_
  exact hE _ _ _ _ dX0_gain_87 (oH_some h)
def f_X0_gain  (za1 : Int32) (za2 : Int32) (za3 : Int32) (S : oS) : Option (Int32 × oS) :=
  if za1 = (1 : Int32) then (
  f_X0_gain_K10 za2 za3 (3 : Int32) S) else (
  f_X0_gain_K10 za2 za3 (2 : Int32) S)
set_option maxHeartbeats 4000000 in
theorem s_X0_gain {G : oG} {r : oR} (d : Nat) (hd : 2 ≤ d) {za1 : Int32} {za2 : Int32} {za3 : Int32}  {S : oS} {P : Int32 × oS → Prop} (h : oH (f_X0_gain za1 za2 za3 S) P) : oCt G r d yX0_gain mX0_gain [orf 100 0, oi za1, oi za2, oi za3] S (oQi P) := by
  unfold f_X0_gain at h
  refine oCt_of (by decide) rfl (Nat.le_of_ble_eq_true rfl) ?_
  intro X hG hr hE0 hR
  subst hG; subst hr
  obtain ⟨e, rfl⟩ : ∃ e, d = e + 1 := ⟨d - 1, by omega⟩
  have he : 1 ≤ e := by omega
  have hE := oEI_of hE0 rfl
  clear hE0 hd
  show oVv X mX0_gain 0 [(0, orf 100 0), (1, oi za1), (2, oi za2), (3, oi za3)] [] S
  refine o_iload_n (pc := 0) dX0_gain_0 rfl 1 rfl ?_
  refine o_iconst (v := 1) (pc := 1) dX0_gain_1 (by decide) ?_
  refine o_icmp_ne 9 (pc := 2) dX0_gain_2 (by decide) (fun hc => ?_) (fun hc => ?_)
  · have h := oH_F hc h
    refine o_iconst (v := 2) (pc := 9) dX0_gain_9 (by decide) ?_
    refine o_weak [0, 2, 3] rfl ?_
    exact s_X0_gain_K10 he hR  hE h
  · have h := oH_T hc h
    refine o_iconst (v := 3) (pc := 5) dX0_gain_5 (by decide) ?_
    refine o_goto 10 (pc := 6) dX0_gain_6 (by decide) ?_
    refine o_weak [0, 2, 3] rfl ?_
    exact s_X0_gain_K10 he hR  hE h
def f_X0_keepIfBetter  (za1 : Int32) (za2 : Int32) (za3 : Int32) (za4 : Int32) (S : oS) : Option (oS) :=
  if za4 ≤ (S.1 100 0 7) then (
  some S) else (
  oLet (oStI S 100 0 4 za1) fun zS1 =>
  oLet (oStI zS1 100 0 5 za2) fun zS2 =>
  oLet (oStI zS2 100 0 6 za3) fun zS3 =>
  oLet (oStI zS3 100 0 7 za4) fun zS4 =>
  some zS4)
set_option maxHeartbeats 4000000 in
theorem s_X0_keepIfBetter {G : oG} {r : oR} (d : Nat) (hd : 1 ≤ d) {za1 : Int32} {za2 : Int32} {za3 : Int32} {za4 : Int32}  {S : oS} {P : oS → Prop} (h : oH (f_X0_keepIfBetter za1 za2 za3 za4 S) P) : oCt G r d yX0_keepIfBetter mX0_keepIfBetter [orf 100 0, oi za1, oi za2, oi za3, oi za4] S (oQv P) := by
  unfold f_X0_keepIfBetter at h
  refine oCt_of (by decide) rfl (Nat.le_of_ble_eq_true rfl) ?_
  intro X hG hr hE0 hR
  subst hG; subst hr
  obtain ⟨e, rfl⟩ : ∃ e, d = e + 1 := ⟨d - 1, by omega⟩
  have he : 0 ≤ e := by omega
  have hE := oEV_of hE0 rfl
  clear hE0 hd
  show oVv X mX0_keepIfBetter 0 [(0, orf 100 0), (1, oi za1), (2, oi za2), (3, oi za3), (4, oi za4)] [] S
  refine o_iload (pc := 0) dX0_keepIfBetter_0 4 rfl ?_
  refine o_aload_n (pc := 2) dX0_keepIfBetter_2 rfl 0 rfl ?_
  refine o_getI (pc := 3) fd_RX0_42 ft_100_7 j_100 dX0_keepIfBetter_3 ?_
  refine o_icmp_le 30 (pc := 6) dX0_keepIfBetter_6 (by decide) (fun hc => ?_) (fun hc => ?_)
  · have h := oH_T hc h
    exact hE _ _ _ dX0_keepIfBetter_30 (oH_some h)
  · have h := oH_F hc h
    refine o_aload_n (pc := 9) dX0_keepIfBetter_9 rfl 0 rfl ?_
    refine o_iload_n (pc := 10) dX0_keepIfBetter_10 rfl 1 rfl ?_
    refine o_putI (pc := 11) fd_RX0_33 fp_100_4 ft_100_4 rfl rfl j_100 dX0_keepIfBetter_11 ?_
    refine o_nmS (fun zS1 hx => ?_)
    have h := oH_let h zS1 hx
    clear hx
    refine o_aload_n (pc := 14) dX0_keepIfBetter_14 rfl 0 rfl ?_
    refine o_iload_n (pc := 15) dX0_keepIfBetter_15 rfl 2 rfl ?_
    refine o_putI (pc := 16) fd_RX0_36 fp_100_5 ft_100_5 rfl rfl j_100 dX0_keepIfBetter_16 ?_
    refine o_nmS (fun zS2 hx => ?_)
    have h := oH_let h zS2 hx
    clear hx
    refine o_aload_n (pc := 19) dX0_keepIfBetter_19 rfl 0 rfl ?_
    refine o_iload_n (pc := 20) dX0_keepIfBetter_20 rfl 3 rfl ?_
    refine o_putI (pc := 21) fd_RX0_39 fp_100_6 ft_100_6 rfl rfl j_100 dX0_keepIfBetter_21 ?_
    refine o_nmS (fun zS3 hx => ?_)
    have h := oH_let h zS3 hx
    clear hx
    refine o_aload_n (pc := 24) dX0_keepIfBetter_24 rfl 0 rfl ?_
    refine o_iload (pc := 25) dX0_keepIfBetter_25 4 rfl ?_
    refine o_putI (pc := 27) fd_RX0_42 fp_100_7 ft_100_7 rfl rfl j_100 dX0_keepIfBetter_27 ?_
    refine o_nmS (fun zS4 hx => ?_)
    have h := oH_let h zS4 hx
    clear hx
    exact hE _ _ _ dX0_keepIfBetter_30 (oH_some h)
def f_X0_findBest_L42 (zv1 : Int32) (zv2 : Int32) (zv3 : Int32) : Int32 × oS → Option ((Int32 × oS) ⊕ (oS)) := fun w =>
  match w with
  | (zv4, S) =>
    if (61 : Int32) ≤ zv4 then (
    some (Sum.inr S)) else (
    (f_X0_gain zv2 zv3 zv4 S).bind fun zz6 =>
    (f_X0_keepIfBetter zv2 zv3 zv4 (zv1 + zz6.1) zz6.2).bind fun zz7 =>
    oLet (zv4 + (1 : Int32)) fun zx8 =>
    some (Sum.inl (zx8, zz7)))
set_option maxHeartbeats 4000000 in
theorem s_X0_findBest_L42b {X : oX} {e : Nat} (he : 2 ≤ e) (hR : oRoom X (e + 1)) {zv1 : Int32} {zv2 : Int32} {zv3 : Int32} {VH : Int32 × oS → Prop} {VE : oS → Prop} (hVH : ∀ z, VH z → oVv X mX0_findBest 42 [(0, orf 100 0), (1, oi zv1), (2, oi zv2), (3, oi zv3), (4, oi z.1)] [] z.2) (hVE : ∀ z, VE z → oVv X mX0_findBest 73 [(0, orf 100 0), (1, oi zv1), (2, oi zv2), (3, oi zv3)] [] z) {zv4 : Int32} {S : oS} (h : oH (f_X0_findBest_L42 zv1 zv2 zv3 (zv4, S)) (fun z => Sum.elim VH VE z)) : oVv X mX0_findBest 42 [(0, orf 100 0), (1, oi zv1), (2, oi zv2), (3, oi zv3), (4, oi zv4)] [] S := by
  dsimp only [f_X0_findBest_L42] at h
  refine o_iload (pc := 42) dX0_findBest_42 4 rfl ?_
  refine o_bipush (v := 61) (pc := 44) dX0_findBest_44 (by decide) ?_
  refine o_icmp_ge 73 (pc := 46) dX0_findBest_46 (by decide) (fun hc => ?_) (fun hc => ?_)
  · have h := oH_T hc h
    refine o_weak [0, 1, 2, 3] rfl ?_
    exact hVE _ (oH_some (P := fun z => Sum.elim VH VE z) h)
  · have h := oH_F hc h
    refine o_aload_n (pc := 49) dX0_findBest_49 rfl 0 rfl ?_
    refine o_iload_n (pc := 50) dX0_findBest_50 rfl 2 rfl ?_
    refine o_iload_n (pc := 51) dX0_findBest_51 rfl 3 rfl ?_
    refine o_iload (pc := 52) dX0_findBest_52 4 rfl ?_
    refine o_iload_n (pc := 54) dX0_findBest_54 rfl 1 rfl ?_
    refine o_aload_n (pc := 55) dX0_findBest_55 rfl 0 rfl ?_
    refine o_iload_n (pc := 56) dX0_findBest_56 rfl 2 rfl ?_
    refine o_iload_n (pc := 57) dX0_findBest_57 rfl 3 rfl ?_
    refine o_iload (pc := 58) dX0_findBest_58 4 rfl ?_
    have h := oH_bind h
    refine o_callVi (pc := 60) (st := [oi zv1, oi zv4, oi zv3, oi zv2, orf 100 0]) [oi zv2, oi zv3, oi zv4] hR md_X0_gain wd_822 wd_823 wd_824 tc_100 j_100 rfl (Nat.le_of_ble_eq_true rfl) rfl dX0_findBest_60 (s_X0_gain e (by omega)  h) (fun zz6 h => ?_)
    refine o_iadd (pc := 63) dX0_findBest_63 ?_
    have h := oH_bind h
    refine o_callVv (pc := 64) (st := []) [oi zv2, oi zv3, oi zv4, oi (zv1 + zz6.1)] hR md_X0_keepIfBetter wd_833 wd_835 ws_21 tc_100 j_100 rfl (Nat.le_of_ble_eq_true rfl) rfl dX0_findBest_64 (s_X0_keepIfBetter e (by omega)  h) (fun zz7 h => ?_)
    obtain ⟨zx8, hx⟩ : ∃ y : Int32, y = zv4 + (1 : Int32) := ⟨_, rfl⟩
    have h := oH_let h zx8 hx
    refine o_iinc (lv1 := [(0, orf 100 0), (1, oi zv1), (2, oi zv2), (3, oi zv3), (4, oi zx8)]) (pc := 67) dX0_findBest_67 4 rfl hx.symm (by decide) rfl ?_
    clear hx
    refine o_goto 42 (pc := 70) dX0_findBest_70 (by decide) ?_
    exact hVH _ (oH_some (P := fun z => Sum.elim VH VE z) h)
theorem s_X0_findBest_L42 {X : oX} {e : Nat} (he : 2 ≤ e) (hR : oRoom X (e + 1)) {zv1 : Int32} {zv2 : Int32} {zv3 : Int32}  {VE : oS → Prop} (hVE : ∀ z, VE z → oVv X mX0_findBest 73 [(0, orf 100 0), (1, oi zv1), (2, oi zv2), (3, oi zv3)] [] z) (n : Nat) (w : Int32 × oS) (h : oH (oLp (f_X0_findBest_L42 zv1 zv2 zv3) n w) VE) : oVv X mX0_findBest 42 [(0, orf 100 0), (1, oi zv1), (2, oi zv2), (3, oi zv3), (4, oi w.1)] [] w.2 :=
  oLp_s (VH := fun w => oVv X mX0_findBest 42 [(0, orf 100 0), (1, oi zv1), (2, oi zv2), (3, oi zv3), (4, oi w.1)] [] w.2) (fun w h => s_X0_findBest_L42b he hR  (fun _ h => h) hVE h) n w h
def f_X0_findBest_L34 (zv1 : Int32) (zv2 : Int32) : Int32 × oS → Option ((Int32 × oS) ⊕ (oS)) := fun w =>
  match w with
  | (zv3, S) =>
    if (4 : Int32) ≤ zv3 then (
    some (Sum.inr S)) else (
    (oLp (f_X0_findBest_L42 zv1 zv2 zv3) oFu ((0 : Int32), S)).bind fun zz9 =>
    oLet (zv3 + (1 : Int32)) fun zx10 =>
    some (Sum.inl (zx10, zz9)))
set_option maxHeartbeats 4000000 in
theorem s_X0_findBest_L34b {X : oX} {e : Nat} (he : 2 ≤ e) (hR : oRoom X (e + 1)) {zv1 : Int32} {zv2 : Int32} {VH : Int32 × oS → Prop} {VE : oS → Prop} (hVH : ∀ z, VH z → oVv X mX0_findBest 34 [(0, orf 100 0), (1, oi zv1), (2, oi zv2), (3, oi z.1)] [] z.2) (hVE : ∀ z, VE z → oVv X mX0_findBest 79 [(0, orf 100 0), (1, oi zv1), (2, oi zv2)] [] z) {zv3 : Int32} {S : oS} (h : oH (f_X0_findBest_L34 zv1 zv2 (zv3, S)) (fun z => Sum.elim VH VE z)) : oVv X mX0_findBest 34 [(0, orf 100 0), (1, oi zv1), (2, oi zv2), (3, oi zv3)] [] S := by
  dsimp only [f_X0_findBest_L34] at h
  refine o_iload_n (pc := 34) dX0_findBest_34 rfl 3 rfl ?_
  refine o_iconst (v := 4) (pc := 35) dX0_findBest_35 (by decide) ?_
  refine o_icmp_ge 79 (pc := 36) dX0_findBest_36 (by decide) (fun hc => ?_) (fun hc => ?_)
  · have h := oH_T hc h
    refine o_weak [0, 1, 2] rfl ?_
    exact hVE _ (oH_some (P := fun z => Sum.elim VH VE z) h)
  · have h := oH_F hc h
    refine o_iconst (v := 0) (pc := 39) dX0_findBest_39 (by decide) ?_
    refine o_istore (lv1 := [(0, orf 100 0), (1, oi zv1), (2, oi zv2), (3, oi zv3), (4, oi (0 : Int32))]) (pc := 40) dX0_findBest_40 (by decide) rfl ?_
    have h := oH_bind h
    refine s_X0_findBest_L42 he hR  (fun zz9 h => ?_) _ ((0 : Int32), S) h
    obtain ⟨zx10, hx⟩ : ∃ y : Int32, y = zv3 + (1 : Int32) := ⟨_, rfl⟩
    have h := oH_let h zx10 hx
    refine o_iinc (lv1 := [(0, orf 100 0), (1, oi zv1), (2, oi zv2), (3, oi zx10)]) (pc := 73) dX0_findBest_73 3 rfl hx.symm (by decide) rfl ?_
    clear hx
    refine o_goto 34 (pc := 76) dX0_findBest_76 (by decide) ?_
    exact hVH _ (oH_some (P := fun z => Sum.elim VH VE z) h)
theorem s_X0_findBest_L34 {X : oX} {e : Nat} (he : 2 ≤ e) (hR : oRoom X (e + 1)) {zv1 : Int32} {zv2 : Int32}  {VE : oS → Prop} (hVE : ∀ z, VE z → oVv X mX0_findBest 79 [(0, orf 100 0), (1, oi zv1), (2, oi zv2)] [] z) (n : Nat) (w : Int32 × oS) (h : oH (oLp (f_X0_findBest_L34 zv1 zv2) n w) VE) : oVv X mX0_findBest 34 [(0, orf 100 0), (1, oi zv1), (2, oi zv2), (3, oi w.1)] [] w.2 :=
  oLp_s (VH := fun w => oVv X mX0_findBest 34 [(0, orf 100 0), (1, oi zv1), (2, oi zv2), (3, oi w.1)] [] w.2) (fun w h => s_X0_findBest_L34b he hR  (fun _ h => h) hVE h) n w h
def f_X0_findBest_L27 (zv1 : Int32) : Int32 × oS → Option ((Int32 × oS) ⊕ (oS)) := fun w =>
  match w with
  | (zv2, S) =>
    if (2 : Int32) < zv2 then (
    some (Sum.inr S)) else (
    (oLp (f_X0_findBest_L34 zv1 zv2) oFu ((0 : Int32), S)).bind fun zz11 =>
    oLet (zv2 + (1 : Int32)) fun zx12 =>
    some (Sum.inl (zx12, zz11)))
set_option maxHeartbeats 4000000 in
theorem s_X0_findBest_L27b {X : oX} {e : Nat} (he : 2 ≤ e) (hR : oRoom X (e + 1)) {zv1 : Int32} {VH : Int32 × oS → Prop} {VE : oS → Prop} (hVH : ∀ z, VH z → oVv X mX0_findBest 27 [(0, orf 100 0), (1, oi zv1), (2, oi z.1)] [] z.2) (hVE : ∀ z, VE z → oVv X mX0_findBest 85 [] [] z) {zv2 : Int32} {S : oS} (h : oH (f_X0_findBest_L27 zv1 (zv2, S)) (fun z => Sum.elim VH VE z)) : oVv X mX0_findBest 27 [(0, orf 100 0), (1, oi zv1), (2, oi zv2)] [] S := by
  dsimp only [f_X0_findBest_L27] at h
  refine o_iload_n (pc := 27) dX0_findBest_27 rfl 2 rfl ?_
  refine o_iconst (v := 2) (pc := 28) dX0_findBest_28 (by decide) ?_
  refine o_icmp_gt 85 (pc := 29) dX0_findBest_29 (by decide) (fun hc => ?_) (fun hc => ?_)
  · have h := oH_T hc h
    refine o_weak [] rfl ?_
    exact hVE _ (oH_some (P := fun z => Sum.elim VH VE z) h)
  · have h := oH_F hc h
    refine o_iconst (v := 0) (pc := 32) dX0_findBest_32 (by decide) ?_
    refine o_istore_n (lv1 := [(0, orf 100 0), (1, oi zv1), (2, oi zv2), (3, oi (0 : Int32))]) (pc := 33) dX0_findBest_33 rfl (by decide) rfl ?_
    have h := oH_bind h
    refine s_X0_findBest_L34 he hR  (fun zz11 h => ?_) _ ((0 : Int32), S) h
    obtain ⟨zx12, hx⟩ : ∃ y : Int32, y = zv2 + (1 : Int32) := ⟨_, rfl⟩
    have h := oH_let h zx12 hx
    refine o_iinc (lv1 := [(0, orf 100 0), (1, oi zv1), (2, oi zx12)]) (pc := 79) dX0_findBest_79 2 rfl hx.symm (by decide) rfl ?_
    clear hx
    refine o_goto 27 (pc := 82) dX0_findBest_82 (by decide) ?_
    exact hVH _ (oH_some (P := fun z => Sum.elim VH VE z) h)
theorem s_X0_findBest_L27 {X : oX} {e : Nat} (he : 2 ≤ e) (hR : oRoom X (e + 1)) {zv1 : Int32}  {VE : oS → Prop} (hVE : ∀ z, VE z → oVv X mX0_findBest 85 [] [] z) (n : Nat) (w : Int32 × oS) (h : oH (oLp (f_X0_findBest_L27 zv1) n w) VE) : oVv X mX0_findBest 27 [(0, orf 100 0), (1, oi zv1), (2, oi w.1)] [] w.2 :=
  oLp_s (VH := fun w => oVv X mX0_findBest 27 [(0, orf 100 0), (1, oi zv1), (2, oi w.1)] [] w.2) (fun w h => s_X0_findBest_L27b he hR  (fun _ h => h) hVE h) n w h
def f_X0_findBest   (S : oS) : Option (oS) :=
  (f_X0_wellNotes S).bind fun zz1 =>
  oLet (oStI zz1.2 100 0 4 (0 : Int32)) fun zS2 =>
  oLet (oStI zS2 100 0 5 (-1 : Int32)) fun zS3 =>
  oLet (oStI zS3 100 0 6 (-1 : Int32)) fun zS4 =>
  oLet (oStI zS4 100 0 7 zz1.1) fun zS5 =>
  (oLp (f_X0_findBest_L27 zz1.1) oFu ((1 : Int32), zS5)).bind fun zz13 =>
  some zz13
set_option maxHeartbeats 4000000 in
theorem s_X0_findBest {G : oG} {r : oR} (d : Nat) (hd : 3 ≤ d)   {S : oS} {P : oS → Prop} (h : oH (f_X0_findBest  S) P) : oCt G r d yX0_findBest mX0_findBest [orf 100 0] S (oQv P) := by
  unfold f_X0_findBest at h
  refine oCt_of (by decide) rfl (Nat.le_of_ble_eq_true rfl) ?_
  intro X hG hr hE0 hR
  subst hG; subst hr
  obtain ⟨e, rfl⟩ : ∃ e, d = e + 1 := ⟨d - 1, by omega⟩
  have he : 2 ≤ e := by omega
  have hE := oEV_of hE0 rfl
  clear hE0 hd
  show oVv X mX0_findBest 0 [(0, orf 100 0)] [] S
  refine o_aload_n (pc := 0) dX0_findBest_0 rfl 0 rfl ?_
  have h := oH_bind h
  refine o_callVi (pc := 1) (st := []) [] hR md_X0_wellNotes wd_818 wd_819 wd_820 tc_100 j_100 rfl (Nat.le_of_ble_eq_true rfl) rfl dX0_findBest_1 (s_X0_wellNotes e (by omega)  h) (fun zz1 h => ?_)
  refine o_istore_n (lv1 := [(0, orf 100 0), (1, oi zz1.1)]) (pc := 4) dX0_findBest_4 rfl (by decide) rfl ?_
  refine o_aload_n (pc := 5) dX0_findBest_5 rfl 0 rfl ?_
  refine o_iconst (v := 0) (pc := 6) dX0_findBest_6 (by decide) ?_
  refine o_putI (pc := 7) fd_RX0_33 fp_100_4 ft_100_4 rfl rfl j_100 dX0_findBest_7 ?_
  refine o_nmS (fun zS2 hx => ?_)
  have h := oH_let h zS2 hx
  clear hx
  refine o_aload_n (pc := 10) dX0_findBest_10 rfl 0 rfl ?_
  refine o_iconst (v := -1) (pc := 11) dX0_findBest_11 (by decide) ?_
  refine o_putI (pc := 12) fd_RX0_36 fp_100_5 ft_100_5 rfl rfl j_100 dX0_findBest_12 ?_
  refine o_nmS (fun zS3 hx => ?_)
  have h := oH_let h zS3 hx
  clear hx
  refine o_aload_n (pc := 15) dX0_findBest_15 rfl 0 rfl ?_
  refine o_iconst (v := -1) (pc := 16) dX0_findBest_16 (by decide) ?_
  refine o_putI (pc := 17) fd_RX0_39 fp_100_6 ft_100_6 rfl rfl j_100 dX0_findBest_17 ?_
  refine o_nmS (fun zS4 hx => ?_)
  have h := oH_let h zS4 hx
  clear hx
  refine o_aload_n (pc := 20) dX0_findBest_20 rfl 0 rfl ?_
  refine o_iload_n (pc := 21) dX0_findBest_21 rfl 1 rfl ?_
  refine o_putI (pc := 22) fd_RX0_42 fp_100_7 ft_100_7 rfl rfl j_100 dX0_findBest_22 ?_
  refine o_nmS (fun zS5 hx => ?_)
  have h := oH_let h zS5 hx
  clear hx
  refine o_iconst (v := 1) (pc := 25) dX0_findBest_25 (by decide) ?_
  refine o_istore_n (lv1 := [(0, orf 100 0), (1, oi zz1.1), (2, oi (1 : Int32))]) (pc := 26) dX0_findBest_26 rfl (by decide) rfl ?_
  have h := oH_bind h
  refine s_X0_findBest_L27 he hR  (fun zz13 h => ?_) _ ((1 : Int32), zS5) h
  exact hE _ _ _ dX0_findBest_85 (oH_some h)
def f_X0_forget_K28 (zv1 : Int32) (zv3 : Int32) (zs0 : Int32) (zs1 : Int32) (S : oS) : Option ((Int32 × Int32 × oS) ⊕ (Int32 × oS)) :=
  oLet ((zs0 + zs1)) fun zx1 =>
  if oIn ((zv1 * (4 : Int32)) + zv3) 244 then (
  oLet (oStI S 101 0 (Int32.toNatClampNeg ((zv1 * (4 : Int32)) + zv3)) (0 : Int32)) fun zS2 =>
  oLet (zv3 + (1 : Int32)) fun zx3 =>
  some (Sum.inl (zx1, zx3, zS2))) else none
set_option maxHeartbeats 4000000 in
theorem s_X0_forget_K28 {X : oX} {e : Nat} (he : 0 ≤ e) (hR : oRoom X (e + 1)) {zv1 : Int32} {zv3 : Int32} {zs0 : Int32} {zs1 : Int32} {VH : Int32 × Int32 × oS → Prop} {VE : Int32 × oS → Prop} (hVH : ∀ z, VH z → oVv X mX0_forget 4 [(0, orf 100 0), (1, oi zv1), (2, oi z.1), (3, oi z.2.1)] [] z.2.2) (hVE : ∀ z, VE z → oVv X mX0_forget 47 [(2, oi z.1)] [] z.2) {S : oS} (h : oH (f_X0_forget_K28 zv1 zv3 zs0 zs1 S) (fun z => Sum.elim VH VE z)) : oVv X mX0_forget 28 [(0, orf 100 0), (1, oi zv1), (3, oi zv3)] [oi zs1, oi zs0] S := by
  unfold f_X0_forget_K28 at h
  refine o_iadd (pc := 28) dX0_forget_28 ?_
  refine o_nmI (fun zx1 hx => ?_)
  have h := oH_let h zx1 hx
  clear hx
  refine o_istore_n (lv1 := [(0, orf 100 0), (1, oi zv1), (2, oi zx1), (3, oi zv3)]) (pc := 29) dX0_forget_29 rfl (by decide) rfl ?_
  refine o_aload_n (pc := 30) dX0_forget_30 rfl 0 rfl ?_
  refine o_getA (pc := 31) fd_RX0_9 ft_100_0 j_100 dX0_forget_31 ?_
  refine o_iload_n (pc := 34) dX0_forget_34 rfl 1 rfl ?_
  refine o_iconst (v := 4) (pc := 35) dX0_forget_35 (by decide) ?_
  refine o_imul (pc := 36) dX0_forget_36 ?_
  refine o_iload_n (pc := 37) dX0_forget_37 rfl 3 rfl ?_
  refine o_iadd (pc := 38) dX0_forget_38 ?_
  refine o_iconst (v := 0) (pc := 39) dX0_forget_39 (by decide) ?_
  obtain ⟨hg, h⟩ := oH_G h
  have hgi := hg
  refine o_iast (pc := 40) kd_101 j_101 hgi dX0_forget_40 ?_
  refine o_nmS (fun zS2 hx => ?_)
  have h := oH_let h zS2 hx
  clear hx
  obtain ⟨zx3, hx⟩ : ∃ y : Int32, y = zv3 + (1 : Int32) := ⟨_, rfl⟩
  have h := oH_let h zx3 hx
  refine o_iinc (lv1 := [(0, orf 100 0), (1, oi zv1), (2, oi zx1), (3, oi zx3)]) (pc := 41) dX0_forget_41 3 rfl hx.symm (by decide) rfl ?_
  clear hx
  refine o_goto 4 (pc := 44) dX0_forget_44 (by decide) ?_
  exact hVH _ (oH_some (P := fun z => Sum.elim VH VE z) h)
def f_X0_forget_L4 (zv1 : Int32) : Int32 × Int32 × oS → Option ((Int32 × Int32 × oS) ⊕ (Int32 × oS)) := fun w =>
  match w with
  | (zv2, zv3, S) =>
    if (4 : Int32) ≤ zv3 then (
    some (Sum.inr (zv2, S))) else (
    if oIn ((zv1 * (4 : Int32)) + zv3) 244 then (
    if (S.1 101 0 (Int32.toNatClampNeg ((zv1 * (4 : Int32)) + zv3))) = 0 then (
    f_X0_forget_K28 zv1 zv3 zv2 (0 : Int32) S) else (
    f_X0_forget_K28 zv1 zv3 zv2 (1 : Int32) S)) else none)
set_option maxHeartbeats 4000000 in
theorem s_X0_forget_L4b {X : oX} {e : Nat} (he : 0 ≤ e) (hR : oRoom X (e + 1)) {zv1 : Int32} {VH : Int32 × Int32 × oS → Prop} {VE : Int32 × oS → Prop} (hVH : ∀ z, VH z → oVv X mX0_forget 4 [(0, orf 100 0), (1, oi zv1), (2, oi z.1), (3, oi z.2.1)] [] z.2.2) (hVE : ∀ z, VE z → oVv X mX0_forget 47 [(2, oi z.1)] [] z.2) {zv2 : Int32} {zv3 : Int32} {S : oS} (h : oH (f_X0_forget_L4 zv1 (zv2, zv3, S)) (fun z => Sum.elim VH VE z)) : oVv X mX0_forget 4 [(0, orf 100 0), (1, oi zv1), (2, oi zv2), (3, oi zv3)] [] S := by
  dsimp only [f_X0_forget_L4] at h
  refine o_iload_n (pc := 4) dX0_forget_4 rfl 3 rfl ?_
  refine o_iconst (v := 4) (pc := 5) dX0_forget_5 (by decide) ?_
  refine o_icmp_ge 47 (pc := 6) dX0_forget_6 (by decide) (fun hc => ?_) (fun hc => ?_)
  · have h := oH_T hc h
    refine o_weak [2] rfl ?_
    exact hVE _ (oH_some (P := fun z => Sum.elim VH VE z) h)
  · have h := oH_F hc h
    refine o_iload_n (pc := 9) dX0_forget_9 rfl 2 rfl ?_
    refine o_aload_n (pc := 10) dX0_forget_10 rfl 0 rfl ?_
    refine o_getA (pc := 11) fd_RX0_9 ft_100_0 j_100 dX0_forget_11 ?_
    refine o_iload_n (pc := 14) dX0_forget_14 rfl 1 rfl ?_
    refine o_iconst (v := 4) (pc := 15) dX0_forget_15 (by decide) ?_
    refine o_imul (pc := 16) dX0_forget_16 ?_
    refine o_iload_n (pc := 17) dX0_forget_17 rfl 3 rfl ?_
    refine o_iadd (pc := 18) dX0_forget_18 ?_
    obtain ⟨hg, h⟩ := oH_G h
    refine o_iald (pc := 19) kd_101 j_101 hg dX0_forget_19 ?_
    refine o_if_eq 27 (pc := 20) dX0_forget_20 (by decide) (fun hc => ?_) (fun hc => ?_)
    · have h := oH_T hc h
      refine o_iconst (v := 0) (pc := 27) dX0_forget_27 (by decide) ?_
      refine o_weak [0, 1, 3] rfl ?_
      exact s_X0_forget_K28 he hR  hVH hVE h
    · have h := oH_F hc h
      refine o_iconst (v := 1) (pc := 23) dX0_forget_23 (by decide) ?_
      refine o_goto 28 (pc := 24) dX0_forget_24 (by decide) ?_
      refine o_weak [0, 1, 3] rfl ?_
      exact s_X0_forget_K28 he hR  hVH hVE h
theorem s_X0_forget_L4 {X : oX} {e : Nat} (he : 0 ≤ e) (hR : oRoom X (e + 1)) {zv1 : Int32}  {VE : Int32 × oS → Prop} (hVE : ∀ z, VE z → oVv X mX0_forget 47 [(2, oi z.1)] [] z.2) (n : Nat) (w : Int32 × Int32 × oS) (h : oH (oLp (f_X0_forget_L4 zv1) n w) VE) : oVv X mX0_forget 4 [(0, orf 100 0), (1, oi zv1), (2, oi w.1), (3, oi w.2.1)] [] w.2.2 :=
  oLp_s (VH := fun w => oVv X mX0_forget 4 [(0, orf 100 0), (1, oi zv1), (2, oi w.1), (3, oi w.2.1)] [] w.2.2) (fun w h => s_X0_forget_L4b he hR  (fun _ h => h) hVE h) n w h
def f_X0_forget  (za1 : Int32) (S : oS) : Option (Int32 × oS) :=
  (oLp (f_X0_forget_L4 za1) oFu ((0 : Int32), (0 : Int32), S)).bind fun zz4 =>
  some (zz4.1, zz4.2)
set_option maxHeartbeats 4000000 in
theorem s_X0_forget {G : oG} {r : oR} (d : Nat) (hd : 1 ≤ d) {za1 : Int32}  {S : oS} {P : Int32 × oS → Prop} (h : oH (f_X0_forget za1 S) P) : oCt G r d yX0_forget mX0_forget [orf 100 0, oi za1] S (oQi P) := by
  unfold f_X0_forget at h
  refine oCt_of (by decide) rfl (Nat.le_of_ble_eq_true rfl) ?_
  intro X hG hr hE0 hR
  subst hG; subst hr
  obtain ⟨e, rfl⟩ : ∃ e, d = e + 1 := ⟨d - 1, by omega⟩
  have he : 0 ≤ e := by omega
  have hE := oEI_of hE0 rfl
  clear hE0 hd
  show oVv X mX0_forget 0 [(0, orf 100 0), (1, oi za1)] [] S
  refine o_iconst (v := 0) (pc := 0) dX0_forget_0 (by decide) ?_
  refine o_istore_n (lv1 := [(0, orf 100 0), (1, oi za1), (2, oi (0 : Int32))]) (pc := 1) dX0_forget_1 rfl (by decide) rfl ?_
  refine o_iconst (v := 0) (pc := 2) dX0_forget_2 (by decide) ?_
  refine o_istore_n (lv1 := [(0, orf 100 0), (1, oi za1), (2, oi (0 : Int32)), (3, oi (0 : Int32))]) (pc := 3) dX0_forget_3 rfl (by decide) rfl ?_
  have h := oH_bind h
  refine s_X0_forget_L4 he hR  (fun zz4 h => ?_) _ ((0 : Int32), (0 : Int32), S) h
  refine o_iload_n (pc := 47) dX0_forget_47 rfl 0 rfl ?_
  exact hE _ _ _ _ dX0_forget_48 (oH_some h)
def f_X0_knownNotes_K26 (zv2 : Int32) (zs0 : Int32) (zs1 : Int32) (S : oS) : Option ((Int32 × Int32 × oS) ⊕ (Int32 × oS)) :=
  oLet ((zs0 + zs1)) fun zx1 =>
  oLet (zv2 + (1 : Int32)) fun zx2 =>
  some (Sum.inl (zx1, zx2, S))
set_option maxHeartbeats 4000000 in
theorem s_X0_knownNotes_K26 {X : oX} {e : Nat} (he : 0 ≤ e) (hR : oRoom X (e + 1)) {zv2 : Int32} {zs0 : Int32} {zs1 : Int32} {VH : Int32 × Int32 × oS → Prop} {VE : Int32 × oS → Prop} (hVH : ∀ z, VH z → oVv X mX0_knownNotes 4 [(0, orf 100 0), (1, oi z.1), (2, oi z.2.1)] [] z.2.2) (hVE : ∀ z, VE z → oVv X mX0_knownNotes 34 [(1, oi z.1)] [] z.2) {S : oS} (h : oH (f_X0_knownNotes_K26 zv2 zs0 zs1 S) (fun z => Sum.elim VH VE z)) : oVv X mX0_knownNotes 26 [(0, orf 100 0), (2, oi zv2)] [oi zs1, oi zs0] S := by
  unfold f_X0_knownNotes_K26 at h
  refine o_iadd (pc := 26) dX0_knownNotes_26 ?_
  refine o_nmI (fun zx1 hx => ?_)
  have h := oH_let h zx1 hx
  clear hx
  refine o_istore_n (lv1 := [(0, orf 100 0), (1, oi zx1), (2, oi zv2)]) (pc := 27) dX0_knownNotes_27 rfl (by decide) rfl ?_
  obtain ⟨zx2, hx⟩ : ∃ y : Int32, y = zv2 + (1 : Int32) := ⟨_, rfl⟩
  have h := oH_let h zx2 hx
  refine o_iinc (lv1 := [(0, orf 100 0), (1, oi zx1), (2, oi zx2)]) (pc := 28) dX0_knownNotes_28 2 rfl hx.symm (by decide) rfl ?_
  clear hx
  refine o_goto 4 (pc := 31) dX0_knownNotes_31 (by decide) ?_
  exact hVH _ (oH_some (P := fun z => Sum.elim VH VE z) h)
def f_X0_knownNotes_L4  : Int32 × Int32 × oS → Option ((Int32 × Int32 × oS) ⊕ (Int32 × oS)) := fun w =>
  match w with
  | (zv1, zv2, S) =>
    if (244 : Int32) ≤ zv2 then (
    some (Sum.inr (zv1, S))) else (
    if oIn zv2 244 then (
    if (S.1 101 0 (Int32.toNatClampNeg zv2)) = 0 then (
    f_X0_knownNotes_K26 zv2 zv1 (0 : Int32) S) else (
    f_X0_knownNotes_K26 zv2 zv1 (1 : Int32) S)) else none)
set_option maxHeartbeats 4000000 in
theorem s_X0_knownNotes_L4b {X : oX} {e : Nat} (he : 0 ≤ e) (hR : oRoom X (e + 1))  {VH : Int32 × Int32 × oS → Prop} {VE : Int32 × oS → Prop} (hVH : ∀ z, VH z → oVv X mX0_knownNotes 4 [(0, orf 100 0), (1, oi z.1), (2, oi z.2.1)] [] z.2.2) (hVE : ∀ z, VE z → oVv X mX0_knownNotes 34 [(1, oi z.1)] [] z.2) {zv1 : Int32} {zv2 : Int32} {S : oS} (h : oH (f_X0_knownNotes_L4 (zv1, zv2, S)) (fun z => Sum.elim VH VE z)) : oVv X mX0_knownNotes 4 [(0, orf 100 0), (1, oi zv1), (2, oi zv2)] [] S := by
  dsimp only [f_X0_knownNotes_L4] at h
  refine o_iload_n (pc := 4) dX0_knownNotes_4 rfl 2 rfl ?_
  refine o_sipush (v := 244) (pc := 5) dX0_knownNotes_5 (by decide) ?_
  refine o_icmp_ge 34 (pc := 8) dX0_knownNotes_8 (by decide) (fun hc => ?_) (fun hc => ?_)
  · have h := oH_T hc h
    refine o_weak [1] rfl ?_
    exact hVE _ (oH_some (P := fun z => Sum.elim VH VE z) h)
  · have h := oH_F hc h
    refine o_iload_n (pc := 11) dX0_knownNotes_11 rfl 1 rfl ?_
    refine o_aload_n (pc := 12) dX0_knownNotes_12 rfl 0 rfl ?_
    refine o_getA (pc := 13) fd_RX0_9 ft_100_0 j_100 dX0_knownNotes_13 ?_
    refine o_iload_n (pc := 16) dX0_knownNotes_16 rfl 2 rfl ?_
    obtain ⟨hg, h⟩ := oH_G h
    refine o_iald (pc := 17) kd_101 j_101 hg dX0_knownNotes_17 ?_
    refine o_if_eq 25 (pc := 18) dX0_knownNotes_18 (by decide) (fun hc => ?_) (fun hc => ?_)
    · have h := oH_T hc h
      refine o_iconst (v := 0) (pc := 25) dX0_knownNotes_25 (by decide) ?_
      refine o_weak [0, 2] rfl ?_
      exact s_X0_knownNotes_K26 he hR  hVH hVE h
    · have h := oH_F hc h
      refine o_iconst (v := 1) (pc := 21) dX0_knownNotes_21 (by decide) ?_
      refine o_goto 26 (pc := 22) dX0_knownNotes_22 (by decide) ?_
      refine o_weak [0, 2] rfl ?_
      exact s_X0_knownNotes_K26 he hR  hVH hVE h
theorem s_X0_knownNotes_L4 {X : oX} {e : Nat} (he : 0 ≤ e) (hR : oRoom X (e + 1))   {VE : Int32 × oS → Prop} (hVE : ∀ z, VE z → oVv X mX0_knownNotes 34 [(1, oi z.1)] [] z.2) (n : Nat) (w : Int32 × Int32 × oS) (h : oH (oLp (f_X0_knownNotes_L4) n w) VE) : oVv X mX0_knownNotes 4 [(0, orf 100 0), (1, oi w.1), (2, oi w.2.1)] [] w.2.2 :=
  oLp_s (VH := fun w => oVv X mX0_knownNotes 4 [(0, orf 100 0), (1, oi w.1), (2, oi w.2.1)] [] w.2.2) (fun w h => s_X0_knownNotes_L4b he hR  (fun _ h => h) hVE h) n w h
def f_X0_knownNotes   (S : oS) : Option (Int32 × oS) :=
  (oLp (f_X0_knownNotes_L4) oFu ((0 : Int32), (0 : Int32), S)).bind fun zz3 =>
  some (zz3.1, zz3.2)
set_option maxHeartbeats 4000000 in
theorem s_X0_knownNotes {G : oG} {r : oR} (d : Nat) (hd : 1 ≤ d)   {S : oS} {P : Int32 × oS → Prop} (h : oH (f_X0_knownNotes  S) P) : oCt G r d yX0_knownNotes mX0_knownNotes [orf 100 0] S (oQi P) := by
  unfold f_X0_knownNotes at h
  refine oCt_of (by decide) rfl (Nat.le_of_ble_eq_true rfl) ?_
  intro X hG hr hE0 hR
  subst hG; subst hr
  obtain ⟨e, rfl⟩ : ∃ e, d = e + 1 := ⟨d - 1, by omega⟩
  have he : 0 ≤ e := by omega
  have hE := oEI_of hE0 rfl
  clear hE0 hd
  show oVv X mX0_knownNotes 0 [(0, orf 100 0)] [] S
  refine o_iconst (v := 0) (pc := 0) dX0_knownNotes_0 (by decide) ?_
  refine o_istore_n (lv1 := [(0, orf 100 0), (1, oi (0 : Int32))]) (pc := 1) dX0_knownNotes_1 rfl (by decide) rfl ?_
  refine o_iconst (v := 0) (pc := 2) dX0_knownNotes_2 (by decide) ?_
  refine o_istore_n (lv1 := [(0, orf 100 0), (1, oi (0 : Int32)), (2, oi (0 : Int32))]) (pc := 3) dX0_knownNotes_3 rfl (by decide) rfl ?_
  have h := oH_bind h
  refine s_X0_knownNotes_L4 he hR  (fun zz3 h => ?_) _ ((0 : Int32), (0 : Int32), S) h
  refine o_iload_n (pc := 34) dX0_knownNotes_34 rfl 0 rfl ?_
  exact hE _ _ _ _ dX0_knownNotes_35 (oH_some h)
def f_X1_addKind  (za1 : Int32) (za2 : Int32) (za3 : Int32) (za4 : Int32) (za5 : Int32) (za6 : Int32) (za7 : Int32) (S : oS) : Option (Int32 × oS) :=
  if oIn (S.1 200 0 10) 8 then (
  oLet (oStI S 201 0 (Int32.toNatClampNeg (S.1 200 0 10)) za1) fun zS1 =>
  if oIn (zS1.1 200 0 10) 8 then (
  if oBl za2 then (
  oLet (oStI zS1 202 0 (Int32.toNatClampNeg (zS1.1 200 0 10)) za2) fun zS2 =>
  if oIn (zS2.1 200 0 10) 8 then (
  oLet (oStI zS2 203 0 (Int32.toNatClampNeg (zS2.1 200 0 10)) za3) fun zS3 =>
  if oIn (zS3.1 200 0 10) 8 then (
  oLet (oStI zS3 204 0 (Int32.toNatClampNeg (zS3.1 200 0 10)) za4) fun zS4 =>
  if oIn (zS4.1 200 0 10) 8 then (
  oLet (oStI zS4 205 0 (Int32.toNatClampNeg (zS4.1 200 0 10)) za5) fun zS5 =>
  if oIn (zS5.1 200 0 10) 8 then (
  oLet (oStI zS5 206 0 (Int32.toNatClampNeg (zS5.1 200 0 10)) za6) fun zS6 =>
  if oIn (zS6.1 200 0 10) 8 then (
  oLet (oStI zS6 207 0 (Int32.toNatClampNeg (zS6.1 200 0 10)) za7) fun zS7 =>
  if oIn (zS7.1 200 0 10) 8 then (
  oLet (oStI zS7 208 0 (Int32.toNatClampNeg (zS7.1 200 0 10)) (0 : Int32)) fun zS8 =>
  oLet (oStI zS8 200 0 10 ((zS8.1 200 0 10) + (1 : Int32))) fun zS9 =>
  some (((zS9.1 200 0 10) - (1 : Int32)), zS9)) else none) else none) else none) else none) else none) else none) else none) else none) else none
set_option maxHeartbeats 4000000 in
theorem s_X1_addKind {G : oG} {r : oR} (d : Nat) (hd : 1 ≤ d) {za1 : Int32} {za2 : Int32} {za3 : Int32} {za4 : Int32} {za5 : Int32} {za6 : Int32} {za7 : Int32}  {S : oS} {P : Int32 × oS → Prop} (h : oH (f_X1_addKind za1 za2 za3 za4 za5 za6 za7 S) P) : oCt G r d yX1_addKind mX1_addKind [orf 200 0, oi za1, oi za2, oi za3, oi za4, oi za5, oi za6, oi za7] S (oQi P) := by
  unfold f_X1_addKind at h
  refine oCt_of (by decide) rfl (Nat.le_of_ble_eq_true rfl) ?_
  intro X hG hr hE0 hR
  subst hG; subst hr
  obtain ⟨e, rfl⟩ : ∃ e, d = e + 1 := ⟨d - 1, by omega⟩
  have he : 0 ≤ e := by omega
  have hE := oEI_of hE0 rfl
  clear hE0 hd
  show oVv X mX1_addKind 0 [(0, orf 200 0), (1, oi za1), (2, oi za2), (3, oi za3), (4, oi za4), (5, oi za5), (6, oi za6), (7, oi za7)] [] S
  refine o_aload_n (pc := 0) dX1_addKind_0 rfl 0 rfl ?_
  refine o_getA (pc := 1) fd_RX1_9 ft_200_0 j_200 dX1_addKind_1 ?_
  refine o_aload_n (pc := 4) dX1_addKind_4 rfl 0 rfl ?_
  refine o_getI (pc := 5) fd_RX1_43 ft_200_10 j_200 dX1_addKind_5 ?_
  refine o_iload_n (pc := 8) dX1_addKind_8 rfl 1 rfl ?_
  obtain ⟨hg, h⟩ := oH_G h
  have hgi := hg
  refine o_iast (pc := 9) kd_201 j_201 hgi dX1_addKind_9 ?_
  refine o_nmS (fun zS1 hx => ?_)
  have h := oH_let h zS1 hx
  clear hx
  refine o_aload_n (pc := 10) dX1_addKind_10 rfl 0 rfl ?_
  refine o_getA (pc := 11) fd_RX1_15 ft_200_1 j_200 dX1_addKind_11 ?_
  refine o_aload_n (pc := 14) dX1_addKind_14 rfl 0 rfl ?_
  refine o_getI (pc := 15) fd_RX1_43 ft_200_10 j_200 dX1_addKind_15 ?_
  refine o_iload_n (pc := 18) dX1_addKind_18 rfl 2 rfl ?_
  obtain ⟨hg, h⟩ := oH_G h
  have hgi := hg
  obtain ⟨hg, h⟩ := oH_G h
  refine o_zast (pc := 19) kd_202 j_202 hgi (oBl_p hg) dX1_addKind_19 ?_
  refine o_nmS (fun zS2 hx => ?_)
  have h := oH_let h zS2 hx
  clear hx
  refine o_aload_n (pc := 20) dX1_addKind_20 rfl 0 rfl ?_
  refine o_getA (pc := 21) fd_RX1_19 ft_200_2 j_200 dX1_addKind_21 ?_
  refine o_aload_n (pc := 24) dX1_addKind_24 rfl 0 rfl ?_
  refine o_getI (pc := 25) fd_RX1_43 ft_200_10 j_200 dX1_addKind_25 ?_
  refine o_iload_n (pc := 28) dX1_addKind_28 rfl 3 rfl ?_
  obtain ⟨hg, h⟩ := oH_G h
  have hgi := hg
  refine o_iast (pc := 29) kd_203 j_203 hgi dX1_addKind_29 ?_
  refine o_nmS (fun zS3 hx => ?_)
  have h := oH_let h zS3 hx
  clear hx
  refine o_aload_n (pc := 30) dX1_addKind_30 rfl 0 rfl ?_
  refine o_getA (pc := 31) fd_RX1_22 ft_200_3 j_200 dX1_addKind_31 ?_
  refine o_aload_n (pc := 34) dX1_addKind_34 rfl 0 rfl ?_
  refine o_getI (pc := 35) fd_RX1_43 ft_200_10 j_200 dX1_addKind_35 ?_
  refine o_iload (pc := 38) dX1_addKind_38 4 rfl ?_
  obtain ⟨hg, h⟩ := oH_G h
  have hgi := hg
  refine o_iast (pc := 40) kd_204 j_204 hgi dX1_addKind_40 ?_
  refine o_nmS (fun zS4 hx => ?_)
  have h := oH_let h zS4 hx
  clear hx
  refine o_aload_n (pc := 41) dX1_addKind_41 rfl 0 rfl ?_
  refine o_getA (pc := 42) fd_RX1_25 ft_200_4 j_200 dX1_addKind_42 ?_
  refine o_aload_n (pc := 45) dX1_addKind_45 rfl 0 rfl ?_
  refine o_getI (pc := 46) fd_RX1_43 ft_200_10 j_200 dX1_addKind_46 ?_
  refine o_iload (pc := 49) dX1_addKind_49 5 rfl ?_
  obtain ⟨hg, h⟩ := oH_G h
  have hgi := hg
  refine o_iast (pc := 51) kd_205 j_205 hgi dX1_addKind_51 ?_
  refine o_nmS (fun zS5 hx => ?_)
  have h := oH_let h zS5 hx
  clear hx
  refine o_aload_n (pc := 52) dX1_addKind_52 rfl 0 rfl ?_
  refine o_getA (pc := 53) fd_RX1_28 ft_200_5 j_200 dX1_addKind_53 ?_
  refine o_aload_n (pc := 56) dX1_addKind_56 rfl 0 rfl ?_
  refine o_getI (pc := 57) fd_RX1_43 ft_200_10 j_200 dX1_addKind_57 ?_
  refine o_iload (pc := 60) dX1_addKind_60 6 rfl ?_
  obtain ⟨hg, h⟩ := oH_G h
  have hgi := hg
  refine o_iast (pc := 62) kd_206 j_206 hgi dX1_addKind_62 ?_
  refine o_nmS (fun zS6 hx => ?_)
  have h := oH_let h zS6 hx
  clear hx
  refine o_aload_n (pc := 63) dX1_addKind_63 rfl 0 rfl ?_
  refine o_getA (pc := 64) fd_RX1_31 ft_200_6 j_200 dX1_addKind_64 ?_
  refine o_aload_n (pc := 67) dX1_addKind_67 rfl 0 rfl ?_
  refine o_getI (pc := 68) fd_RX1_43 ft_200_10 j_200 dX1_addKind_68 ?_
  refine o_iload (pc := 71) dX1_addKind_71 7 rfl ?_
  obtain ⟨hg, h⟩ := oH_G h
  have hgi := hg
  refine o_iast (pc := 73) kd_207 j_207 hgi dX1_addKind_73 ?_
  refine o_nmS (fun zS7 hx => ?_)
  have h := oH_let h zS7 hx
  clear hx
  refine o_aload_n (pc := 74) dX1_addKind_74 rfl 0 rfl ?_
  refine o_getA (pc := 75) fd_RX1_34 ft_200_7 j_200 dX1_addKind_75 ?_
  refine o_aload_n (pc := 78) dX1_addKind_78 rfl 0 rfl ?_
  refine o_getI (pc := 79) fd_RX1_43 ft_200_10 j_200 dX1_addKind_79 ?_
  refine o_iconst (v := 0) (pc := 82) dX1_addKind_82 (by decide) ?_
  obtain ⟨hg, h⟩ := oH_G h
  have hgi := hg
  refine o_iast (pc := 83) kd_208 j_208 hgi dX1_addKind_83 ?_
  refine o_nmS (fun zS8 hx => ?_)
  have h := oH_let h zS8 hx
  clear hx
  refine o_aload_n (pc := 84) dX1_addKind_84 rfl 0 rfl ?_
  refine o_dup (pc := 85) dX1_addKind_85 rfl ?_
  refine o_getI (pc := 86) fd_RX1_43 ft_200_10 j_200 dX1_addKind_86 ?_
  refine o_iconst (v := 1) (pc := 89) dX1_addKind_89 (by decide) ?_
  refine o_iadd (pc := 90) dX1_addKind_90 ?_
  refine o_putI (pc := 91) fd_RX1_43 fp_200_10 ft_200_10 rfl rfl j_200 dX1_addKind_91 ?_
  refine o_nmS (fun zS9 hx => ?_)
  have h := oH_let h zS9 hx
  clear hx
  refine o_aload_n (pc := 94) dX1_addKind_94 rfl 0 rfl ?_
  refine o_getI (pc := 95) fd_RX1_43 ft_200_10 j_200 dX1_addKind_95 ?_
  refine o_iconst (v := 1) (pc := 98) dX1_addKind_98 (by decide) ?_
  refine o_isub (pc := 99) dX1_addKind_99 ?_
  exact hE _ _ _ _ dX1_addKind_100 (oH_some h)
def f_X1_giveSecondHeat  (za1 : Int32) (za2 : Int32) (za3 : Int32) (za4 : Int32) (S : oS) : Option (oS) :=
  if oIn za1 8 then (
  oLet (oStI S 208 0 (Int32.toNatClampNeg za1) za2) fun zS1 =>
  if oIn za1 8 then (
  oLet (oStI zS1 209 0 (Int32.toNatClampNeg za1) za3) fun zS2 =>
  if oIn za1 8 then (
  oLet (oStI zS2 210 0 (Int32.toNatClampNeg za1) za4) fun zS3 =>
  some zS3) else none) else none) else none
set_option maxHeartbeats 4000000 in
theorem s_X1_giveSecondHeat {G : oG} {r : oR} (d : Nat) (hd : 1 ≤ d) {za1 : Int32} {za2 : Int32} {za3 : Int32} {za4 : Int32}  {S : oS} {P : oS → Prop} (h : oH (f_X1_giveSecondHeat za1 za2 za3 za4 S) P) : oCt G r d yX1_giveSecondHeat mX1_giveSecondHeat [orf 200 0, oi za1, oi za2, oi za3, oi za4] S (oQv P) := by
  unfold f_X1_giveSecondHeat at h
  refine oCt_of (by decide) rfl (Nat.le_of_ble_eq_true rfl) ?_
  intro X hG hr hE0 hR
  subst hG; subst hr
  obtain ⟨e, rfl⟩ : ∃ e, d = e + 1 := ⟨d - 1, by omega⟩
  have he : 0 ≤ e := by omega
  have hE := oEV_of hE0 rfl
  clear hE0 hd
  show oVv X mX1_giveSecondHeat 0 [(0, orf 200 0), (1, oi za1), (2, oi za2), (3, oi za3), (4, oi za4)] [] S
  refine o_aload_n (pc := 0) dX1_giveSecondHeat_0 rfl 0 rfl ?_
  refine o_getA (pc := 1) fd_RX1_34 ft_200_7 j_200 dX1_giveSecondHeat_1 ?_
  refine o_iload_n (pc := 4) dX1_giveSecondHeat_4 rfl 1 rfl ?_
  refine o_iload_n (pc := 5) dX1_giveSecondHeat_5 rfl 2 rfl ?_
  obtain ⟨hg, h⟩ := oH_G h
  have hgi := hg
  refine o_iast (pc := 6) kd_208 j_208 hgi dX1_giveSecondHeat_6 ?_
  refine o_nmS (fun zS1 hx => ?_)
  have h := oH_let h zS1 hx
  clear hx
  refine o_aload_n (pc := 7) dX1_giveSecondHeat_7 rfl 0 rfl ?_
  refine o_getA (pc := 8) fd_RX1_37 ft_200_8 j_200 dX1_giveSecondHeat_8 ?_
  refine o_iload_n (pc := 11) dX1_giveSecondHeat_11 rfl 1 rfl ?_
  refine o_iload_n (pc := 12) dX1_giveSecondHeat_12 rfl 3 rfl ?_
  obtain ⟨hg, h⟩ := oH_G h
  have hgi := hg
  refine o_iast (pc := 13) kd_209 j_209 hgi dX1_giveSecondHeat_13 ?_
  refine o_nmS (fun zS2 hx => ?_)
  have h := oH_let h zS2 hx
  clear hx
  refine o_aload_n (pc := 14) dX1_giveSecondHeat_14 rfl 0 rfl ?_
  refine o_getA (pc := 15) fd_RX1_40 ft_200_9 j_200 dX1_giveSecondHeat_15 ?_
  refine o_iload_n (pc := 18) dX1_giveSecondHeat_18 rfl 1 rfl ?_
  refine o_iload (pc := 19) dX1_giveSecondHeat_19 4 rfl ?_
  obtain ⟨hg, h⟩ := oH_G h
  have hgi := hg
  refine o_iast (pc := 21) kd_210 j_210 hgi dX1_giveSecondHeat_21 ?_
  refine o_nmS (fun zS3 hx => ?_)
  have h := oH_let h zS3 hx
  clear hx
  exact hE _ _ _ dX1_giveSecondHeat_22 (oH_some h)
def f_X1_has  (za1 : Int32) (S : oS) : Option (Int32 × oS) :=
  (f_X8_within za1 (0 : Int32) ((S.1 200 0 10) - (1 : Int32)) S).bind fun zz1 =>
  if oBl zz1.1 then (
  some (zz1.1, zz1.2)) else none
set_option maxHeartbeats 4000000 in
theorem s_X1_has {G : oG} {r : oR} (d : Nat) (hd : 2 ≤ d) {za1 : Int32}  {S : oS} {P : Int32 × oS → Prop} (h : oH (f_X1_has za1 S) P) : oCt G r d yX1_has mX1_has [orf 200 0, oi za1] S (oQi P) := by
  unfold f_X1_has at h
  refine oCt_of (by decide) rfl (Nat.le_of_ble_eq_true rfl) ?_
  intro X hG hr hE0 hR
  subst hG; subst hr
  obtain ⟨e, rfl⟩ : ∃ e, d = e + 1 := ⟨d - 1, by omega⟩
  have he : 1 ≤ e := by omega
  have hE := oEZ_of hE0 rfl
  clear hE0 hd
  show oVv X mX1_has 0 [(0, orf 200 0), (1, oi za1)] [] S
  refine o_iload_n (pc := 0) dX1_has_0 rfl 1 rfl ?_
  refine o_iconst (v := 0) (pc := 1) dX1_has_1 (by decide) ?_
  refine o_aload_n (pc := 2) dX1_has_2 rfl 0 rfl ?_
  refine o_getI (pc := 3) fd_RX1_43 ft_200_10 j_200 dX1_has_3 ?_
  refine o_iconst (v := 1) (pc := 6) dX1_has_6 (by decide) ?_
  refine o_isub (pc := 7) dX1_has_7 ?_
  have h := oH_bind h
  refine o_callSNi (host := "VillageOven") (pc := 8) (st := []) [oi za1, oi (0 : Int32), oi ((S.1 200 0 10) - (1 : Int32))] hR md_X8_within (by decide +kernel) wd_376 rfl (Nat.le_of_ble_eq_true rfl) rfl dX1_has_8 (s_X8_within e (by omega)  h) (fun zz1 h => ?_)
  obtain ⟨hg, h⟩ := oH_G h
  exact hE _ _ _ _ dX1_has_11 hg (oH_some h)
def f_X1_hasTwoHeats  (za1 : Int32) (S : oS) : Option (Int32 × oS) :=
  if oIn za1 8 then (
  if (S.1 208 0 (Int32.toNatClampNeg za1)) ≤ 0 then (
  some ((0 : Int32), S)) else (
  some ((1 : Int32), S))) else none
set_option maxHeartbeats 4000000 in
theorem s_X1_hasTwoHeats {G : oG} {r : oR} (d : Nat) (hd : 1 ≤ d) {za1 : Int32}  {S : oS} {P : Int32 × oS → Prop} (h : oH (f_X1_hasTwoHeats za1 S) P) : oCt G r d yX1_hasTwoHeats mX1_hasTwoHeats [orf 200 0, oi za1] S (oQi P) := by
  unfold f_X1_hasTwoHeats at h
  refine oCt_of (by decide) rfl (Nat.le_of_ble_eq_true rfl) ?_
  intro X hG hr hE0 hR
  subst hG; subst hr
  obtain ⟨e, rfl⟩ : ∃ e, d = e + 1 := ⟨d - 1, by omega⟩
  have he : 0 ≤ e := by omega
  have hE := oEZ_of hE0 rfl
  clear hE0 hd
  show oVv X mX1_hasTwoHeats 0 [(0, orf 200 0), (1, oi za1)] [] S
  refine o_aload_n (pc := 0) dX1_hasTwoHeats_0 rfl 0 rfl ?_
  refine o_getA (pc := 1) fd_RX1_34 ft_200_7 j_200 dX1_hasTwoHeats_1 ?_
  refine o_iload_n (pc := 4) dX1_hasTwoHeats_4 rfl 1 rfl ?_
  obtain ⟨hg, h⟩ := oH_G h
  refine o_iald (pc := 5) kd_208 j_208 hg dX1_hasTwoHeats_5 ?_
  refine o_if_le 13 (pc := 6) dX1_hasTwoHeats_6 (by decide) (fun hc => ?_) (fun hc => ?_)
  · have h := oH_T hc h
    refine o_iconst (v := 0) (pc := 13) dX1_hasTwoHeats_13 (by decide) ?_
    exact hE _ _ _ _ dX1_hasTwoHeats_14 (by decide) (oH_some h)
  · have h := oH_F hc h
    refine o_iconst (v := 1) (pc := 9) dX1_hasTwoHeats_9 (by decide) ?_
    refine o_goto 14 (pc := 10) dX1_hasTwoHeats_10 (by decide) ?_
    exact hE _ _ _ _ dX1_hasTwoHeats_14 (by decide) (oH_some h)
def f_X1_lookAt_K74 (zs0 : Int64) (zs1 : Int32) (S : oS) : Option (Int32 × oS) :=
  if (Int32.toInt64 zs1) ≤ zs0 then (
  some ((0 : Int32), S)) else (
  some ((2 : Int32), S))
set_option maxHeartbeats 4000000 in
theorem s_X1_lookAt_K74 {X : oX} {e : Nat} (he : 1 ≤ e) (hR : oRoom X (e + 1)) {zs0 : Int64} {zs1 : Int32} {P : Int32 × oS → Prop} (hE : oEI X mX1_lookAt P) {S : oS} (h : oH (f_X1_lookAt_K74 zs0 zs1 S) P) : oVv X mX1_lookAt 74 [] [oi zs1, ol zs0] S := by
  unfold f_X1_lookAt_K74 at h
  refine o_i2l (pc := 74) dX1_lookAt_74 ?_
  refine o_lcmp_ge 83 (pc := 75) dX1_lookAt_75 dX1_lookAt_76 (by decide) (fun hc => ?_) (fun hc => ?_)
  · have h := oH_T hc h
    refine o_iconst (v := 0) (pc := 83) dX1_lookAt_83 (by decide) ?_
    exact hE _ _ _ _ dX1_lookAt_84 (oH_some h)
  · have h := oH_F hc h
    refine o_iconst (v := 2) (pc := 79) dX1_lookAt_79 (by decide) ?_
    refine o_goto 84 (pc := 80) dX1_lookAt_80 (by decide) ?_
    exact hE _ _ _ _ dX1_lookAt_84 (oH_some h)
def f_X1_lookAt_K46 (zv1 : Int32) (zv3 : Int64) (zv5 : Int32) (zs0 : Int64) (zs1 : Int32) (S : oS) : Option (Int32 × oS) :=
  if zs0 ≤ (Int32.toInt64 zs1) then (
  if zv5 = 0 then (
  if oIn zv1 8 then (
  f_X1_lookAt_K74 zv3 (S.1 205 0 (Int32.toNatClampNeg zv1)) S) else none) else (
  if oIn zv1 8 then (
  f_X1_lookAt_K74 zv3 (S.1 209 0 (Int32.toNatClampNeg zv1)) S) else none)) else (
  some ((1 : Int32), S))
set_option maxHeartbeats 4000000 in
theorem s_X1_lookAt_K46 {X : oX} {e : Nat} (he : 1 ≤ e) (hR : oRoom X (e + 1)) {zv1 : Int32} {zv3 : Int64} {zv5 : Int32} {zs0 : Int64} {zs1 : Int32} {P : Int32 × oS → Prop} (hE : oEI X mX1_lookAt P) {S : oS} (h : oH (f_X1_lookAt_K46 zv1 zv3 zv5 zs0 zs1 S) P) : oVv X mX1_lookAt 46 [(0, orf 200 0), (1, oi zv1), (3, ol zv3), (5, oi zv5)] [oi zs1, ol zs0] S := by
  unfold f_X1_lookAt_K46 at h
  refine o_i2l (pc := 46) dX1_lookAt_46 ?_
  refine o_lcmp_le 53 (pc := 47) dX1_lookAt_47 dX1_lookAt_48 (by decide) (fun hc => ?_) (fun hc => ?_)
  · have h := oH_T hc h
    refine o_lload_n (pc := 53) dX1_lookAt_53 rfl 2 rfl ?_
    refine o_iload (pc := 54) dX1_lookAt_54 3 rfl ?_
    refine o_if_eq 68 (pc := 56) dX1_lookAt_56 (by decide) (fun hc => ?_) (fun hc => ?_)
    · have h := oH_T hc h
      refine o_aload_n (pc := 68) dX1_lookAt_68 rfl 0 rfl ?_
      refine o_getA (pc := 69) fd_RX1_25 ft_200_4 j_200 dX1_lookAt_69 ?_
      refine o_iload_n (pc := 72) dX1_lookAt_72 rfl 1 rfl ?_
      obtain ⟨hg, h⟩ := oH_G h
      refine o_iald (pc := 73) kd_205 j_205 hg dX1_lookAt_73 ?_
      refine o_weak [] rfl ?_
      exact s_X1_lookAt_K74 he hR  hE h
    · have h := oH_F hc h
      refine o_aload_n (pc := 59) dX1_lookAt_59 rfl 0 rfl ?_
      refine o_getA (pc := 60) fd_RX1_37 ft_200_8 j_200 dX1_lookAt_60 ?_
      refine o_iload_n (pc := 63) dX1_lookAt_63 rfl 1 rfl ?_
      obtain ⟨hg, h⟩ := oH_G h
      refine o_iald (pc := 64) kd_209 j_209 hg dX1_lookAt_64 ?_
      refine o_goto 74 (pc := 65) dX1_lookAt_65 (by decide) ?_
      refine o_weak [] rfl ?_
      exact s_X1_lookAt_K74 he hR  hE h
  · have h := oH_F hc h
    refine o_iconst (v := 1) (pc := 51) dX1_lookAt_51 (by decide) ?_
    exact hE _ _ _ _ dX1_lookAt_52 (oH_some h)
def f_X1_lookAt_K23 (zv1 : Int32) (zv3 : Int64) (zs0 : Int32) (S : oS) : Option (Int32 × oS) :=
  if zs0 = 0 then (
  if oIn zv1 8 then (
  f_X1_lookAt_K46 zv1 zv3 zs0 zv3 (S.1 206 0 (Int32.toNatClampNeg zv1)) S) else none) else (
  if oIn zv1 8 then (
  f_X1_lookAt_K46 zv1 zv3 zs0 zv3 (S.1 210 0 (Int32.toNatClampNeg zv1)) S) else none)
set_option maxHeartbeats 4000000 in
theorem s_X1_lookAt_K23 {X : oX} {e : Nat} (he : 1 ≤ e) (hR : oRoom X (e + 1)) {zv1 : Int32} {zv3 : Int64} {zs0 : Int32} {P : Int32 × oS → Prop} (hE : oEI X mX1_lookAt P) {S : oS} (h : oH (f_X1_lookAt_K23 zv1 zv3 zs0 S) P) : oVv X mX1_lookAt 23 [(0, orf 200 0), (1, oi zv1), (3, ol zv3)] [oi zs0] S := by
  unfold f_X1_lookAt_K23 at h
  refine o_istore (lv1 := [(0, orf 200 0), (1, oi zv1), (3, ol zv3), (5, oi zs0)]) (pc := 23) dX1_lookAt_23 (by decide) rfl ?_
  refine o_lload_n (pc := 25) dX1_lookAt_25 rfl 2 rfl ?_
  refine o_iload (pc := 26) dX1_lookAt_26 3 rfl ?_
  refine o_if_eq 40 (pc := 28) dX1_lookAt_28 (by decide) (fun hc => ?_) (fun hc => ?_)
  · have h := oH_T hc h
    refine o_aload_n (pc := 40) dX1_lookAt_40 rfl 0 rfl ?_
    refine o_getA (pc := 41) fd_RX1_28 ft_200_5 j_200 dX1_lookAt_41 ?_
    refine o_iload_n (pc := 44) dX1_lookAt_44 rfl 1 rfl ?_
    obtain ⟨hg, h⟩ := oH_G h
    refine o_iald (pc := 45) kd_206 j_206 hg dX1_lookAt_45 ?_
    exact s_X1_lookAt_K46 he hR  hE h
  · have h := oH_F hc h
    refine o_aload_n (pc := 31) dX1_lookAt_31 rfl 0 rfl ?_
    refine o_getA (pc := 32) fd_RX1_40 ft_200_9 j_200 dX1_lookAt_32 ?_
    refine o_iload_n (pc := 35) dX1_lookAt_35 rfl 1 rfl ?_
    obtain ⟨hg, h⟩ := oH_G h
    refine o_iald (pc := 36) kd_210 j_210 hg dX1_lookAt_36 ?_
    refine o_goto 46 (pc := 37) dX1_lookAt_37 (by decide) ?_
    exact s_X1_lookAt_K46 he hR  hE h
def f_X1_lookAt_K22 (zv1 : Int32) (zv3 : Int64) (S : oS) : Option (Int32 × oS) :=
  f_X1_lookAt_K23 zv1 zv3 (0 : Int32) S
set_option maxHeartbeats 4000000 in
theorem s_X1_lookAt_K22 {X : oX} {e : Nat} (he : 1 ≤ e) (hR : oRoom X (e + 1)) {zv1 : Int32} {zv3 : Int64} {P : Int32 × oS → Prop} (hE : oEI X mX1_lookAt P) {S : oS} (h : oH (f_X1_lookAt_K22 zv1 zv3 S) P) : oVv X mX1_lookAt 22 [(0, orf 200 0), (1, oi zv1), (3, ol zv3)] [] S := by
  unfold f_X1_lookAt_K22 at h
  refine o_iconst (v := 0) (pc := 22) dX1_lookAt_22 (by decide) ?_
  exact s_X1_lookAt_K23 he hR  hE h
def f_X1_lookAt  (za1 : Int32) (za2 : Int32) (za3 : Int64) (S : oS) : Option (Int32 × oS) :=
  (f_X1_hasTwoHeats za1 S).bind fun zz1 =>
  if zz1.1 = 0 then (
  f_X1_lookAt_K22 za1 za3 zz1.2) else (
  if oIn za1 8 then (
  if za2 ≤ (zz1.2.1 208 0 (Int32.toNatClampNeg za1)) then (
  f_X1_lookAt_K22 za1 za3 zz1.2) else (
  f_X1_lookAt_K23 za1 za3 (1 : Int32) zz1.2)) else none)
set_option maxHeartbeats 4000000 in
theorem s_X1_lookAt {G : oG} {r : oR} (d : Nat) (hd : 2 ≤ d) {za1 : Int32} {za2 : Int32} {za3 : Int64}  {S : oS} {P : Int32 × oS → Prop} (h : oH (f_X1_lookAt za1 za2 za3 S) P) : oCt G r d yX1_lookAt mX1_lookAt [orf 200 0, oi za1, oi za2, ol za3] S (oQi P) := by
  unfold f_X1_lookAt at h
  refine oCt_of (by decide) rfl (Nat.le_of_ble_eq_true rfl) ?_
  intro X hG hr hE0 hR
  subst hG; subst hr
  obtain ⟨e, rfl⟩ : ∃ e, d = e + 1 := ⟨d - 1, by omega⟩
  have he : 1 ≤ e := by omega
  have hE := oEI_of hE0 rfl
  clear hE0 hd
  show oVv X mX1_lookAt 0 [(0, orf 200 0), (1, oi za1), (2, oi za2), (3, ol za3)] [] S
  refine o_aload_n (pc := 0) dX1_lookAt_0 rfl 0 rfl ?_
  refine o_iload_n (pc := 1) dX1_lookAt_1 rfl 1 rfl ?_
  have h := oH_bind h
  refine o_callVi (pc := 2) (st := []) [oi za1] hR md_X1_hasTwoHeats wd_480 wd_481 wd_482 tc_200 j_200 rfl (Nat.le_of_ble_eq_true rfl) rfl dX1_lookAt_2 (s_X1_hasTwoHeats e (by omega)  h) (fun zz1 h => ?_)
  refine o_if_eq 22 (pc := 5) dX1_lookAt_5 (by decide) (fun hc => ?_) (fun hc => ?_)
  · have h := oH_T hc h
    refine o_weak [0, 1, 3] rfl ?_
    exact s_X1_lookAt_K22 he hR  hE h
  · have h := oH_F hc h
    refine o_iload_n (pc := 8) dX1_lookAt_8 rfl 2 rfl ?_
    refine o_aload_n (pc := 9) dX1_lookAt_9 rfl 0 rfl ?_
    refine o_getA (pc := 10) fd_RX1_34 ft_200_7 j_200 dX1_lookAt_10 ?_
    refine o_iload_n (pc := 13) dX1_lookAt_13 rfl 1 rfl ?_
    obtain ⟨hg, h⟩ := oH_G h
    refine o_iald (pc := 14) kd_208 j_208 hg dX1_lookAt_14 ?_
    refine o_icmp_le 22 (pc := 15) dX1_lookAt_15 (by decide) (fun hc => ?_) (fun hc => ?_)
    · have h := oH_T hc h
      refine o_weak [0, 1, 3] rfl ?_
      exact s_X1_lookAt_K22 he hR  hE h
    · have h := oH_F hc h
      refine o_iconst (v := 1) (pc := 18) dX1_lookAt_18 (by decide) ?_
      refine o_goto 23 (pc := 19) dX1_lookAt_19 (by decide) ?_
      refine o_weak [0, 1, 3] rfl ?_
      exact s_X1_lookAt_K23 he hR  hE h
def f_X1_resultOf  (za1 : Int32) (za2 : Int32) (za3 : Int32) (za4 : Int32) (S : oS) : Option (Int32 × oS) :=
  if oIn za1 8 then (
  if za4 ≤ (S.1 207 0 (Int32.toNatClampNeg za1)) then (
  if oIn za1 8 then (
  if (S.1 203 0 (Int32.toNatClampNeg za1)) ≤ za3 then (
  if oIn za1 8 then (
  if za2 ≤ (S.1 204 0 (Int32.toNatClampNeg za1)) then (
  some ((1 : Int32), S)) else (
  some ((3 : Int32), S))) else none) else (
  some ((0 : Int32), S))) else none) else (
  some ((2 : Int32), S))) else none
set_option maxHeartbeats 4000000 in
theorem s_X1_resultOf {G : oG} {r : oR} (d : Nat) (hd : 1 ≤ d) {za1 : Int32} {za2 : Int32} {za3 : Int32} {za4 : Int32}  {S : oS} {P : Int32 × oS → Prop} (h : oH (f_X1_resultOf za1 za2 za3 za4 S) P) : oCt G r d yX1_resultOf mX1_resultOf [orf 200 0, oi za1, oi za2, oi za3, oi za4] S (oQi P) := by
  unfold f_X1_resultOf at h
  refine oCt_of (by decide) rfl (Nat.le_of_ble_eq_true rfl) ?_
  intro X hG hr hE0 hR
  subst hG; subst hr
  obtain ⟨e, rfl⟩ : ∃ e, d = e + 1 := ⟨d - 1, by omega⟩
  have he : 0 ≤ e := by omega
  have hE := oEI_of hE0 rfl
  clear hE0 hd
  show oVv X mX1_resultOf 0 [(0, orf 200 0), (1, oi za1), (2, oi za2), (3, oi za3), (4, oi za4)] [] S
  refine o_iload (pc := 0) dX1_resultOf_0 4 rfl ?_
  refine o_aload_n (pc := 2) dX1_resultOf_2 rfl 0 rfl ?_
  refine o_getA (pc := 3) fd_RX1_31 ft_200_6 j_200 dX1_resultOf_3 ?_
  refine o_iload_n (pc := 6) dX1_resultOf_6 rfl 1 rfl ?_
  obtain ⟨hg, h⟩ := oH_G h
  refine o_iald (pc := 7) kd_207 j_207 hg dX1_resultOf_7 ?_
  refine o_icmp_le 13 (pc := 8) dX1_resultOf_8 (by decide) (fun hc => ?_) (fun hc => ?_)
  · have h := oH_T hc h
    refine o_iload_n (pc := 13) dX1_resultOf_13 rfl 3 rfl ?_
    refine o_aload_n (pc := 14) dX1_resultOf_14 rfl 0 rfl ?_
    refine o_getA (pc := 15) fd_RX1_19 ft_200_2 j_200 dX1_resultOf_15 ?_
    refine o_iload_n (pc := 18) dX1_resultOf_18 rfl 1 rfl ?_
    obtain ⟨hg, h⟩ := oH_G h
    refine o_iald (pc := 19) kd_203 j_203 hg dX1_resultOf_19 ?_
    refine o_icmp_ge 25 (pc := 20) dX1_resultOf_20 (by decide) (fun hc => ?_) (fun hc => ?_)
    · have h := oH_T hc h
      refine o_iload_n (pc := 25) dX1_resultOf_25 rfl 2 rfl ?_
      refine o_aload_n (pc := 26) dX1_resultOf_26 rfl 0 rfl ?_
      refine o_getA (pc := 27) fd_RX1_22 ft_200_3 j_200 dX1_resultOf_27 ?_
      refine o_iload_n (pc := 30) dX1_resultOf_30 rfl 1 rfl ?_
      obtain ⟨hg, h⟩ := oH_G h
      refine o_iald (pc := 31) kd_204 j_204 hg dX1_resultOf_31 ?_
      refine o_icmp_le 39 (pc := 32) dX1_resultOf_32 (by decide) (fun hc => ?_) (fun hc => ?_)
      · have h := oH_T hc h
        refine o_iconst (v := 1) (pc := 39) dX1_resultOf_39 (by decide) ?_
        exact hE _ _ _ _ dX1_resultOf_40 (oH_some h)
      · have h := oH_F hc h
        refine o_iconst (v := 3) (pc := 35) dX1_resultOf_35 (by decide) ?_
        refine o_goto 40 (pc := 36) dX1_resultOf_36 (by decide) ?_
        exact hE _ _ _ _ dX1_resultOf_40 (oH_some h)
    · have h := oH_F hc h
      refine o_iconst (v := 0) (pc := 23) dX1_resultOf_23 (by decide) ?_
      exact hE _ _ _ _ dX1_resultOf_24 (oH_some h)
  · have h := oH_F hc h
    refine o_iconst (v := 2) (pc := 11) dX1_resultOf_11 (by decide) ?_
    exact hE _ _ _ _ dX1_resultOf_12 (oH_some h)
def f_X2_change_K40 (zj0 : Nat) (zv2 : Int32) (zv3 : Int32) (S : oS) : Option (oS) :=
  if oIn zv2 8 then (
  if (S.1 202 0 (Int32.toNatClampNeg zv2)) = 0 then (
  some S) else (
  oLet (oStI S 300 zj0 2 ((S.1 300 zj0 2) + zv3)) fun zS2 =>
  some zS2)) else none
set_option maxHeartbeats 4000000 in
theorem s_X2_change_K40 {X : oX} {e : Nat} (he : 0 ≤ e) (hR : oRoom X (e + 1)) {zj0 : Nat} (hzj0 : zj0 < oCnt 300) {zv2 : Int32} {zv3 : Int32} {P : oS → Prop} (hE : oEV X mX2_change P) {S : oS} (h : oH (f_X2_change_K40 zj0 zv2 zv3 S) P) : oVv X mX2_change 40 [(0, orf 300 zj0), (1, orf 200 0), (2, oi zv2), (3, oi zv3)] [] S := by
  unfold f_X2_change_K40 at h
  refine o_aload_n (pc := 40) dX2_change_40 rfl 1 rfl ?_
  refine o_getA (pc := 41) fd_RX2_22 ft_200_1 j_200 dX2_change_41 ?_
  refine o_iload_n (pc := 44) dX2_change_44 rfl 2 rfl ?_
  obtain ⟨hg, h⟩ := oH_G h
  refine o_zald (pc := 45) kd_202 j_202 hg dX2_change_45 ?_
  refine o_if_eq 59 (pc := 46) dX2_change_46 (by decide) (fun hc => ?_) (fun hc => ?_)
  · have h := oH_T hc h
    exact hE _ _ _ dX2_change_59 (oH_some h)
  · have h := oH_F hc h
    refine o_aload_n (pc := 49) dX2_change_49 rfl 0 rfl ?_
    refine o_dup (pc := 50) dX2_change_50 rfl ?_
    refine o_getI (pc := 51) fd_RX2_26 ft_300_2 hzj0 dX2_change_51 ?_
    refine o_iload_n (pc := 54) dX2_change_54 rfl 3 rfl ?_
    refine o_iadd (pc := 55) dX2_change_55 ?_
    refine o_putI (pc := 56) fd_RX2_26 fp_300_2 ft_300_2 rfl rfl hzj0 dX2_change_56 ?_
    refine o_nmS (fun zS2 hx => ?_)
    have h := oH_let h zS2 hx
    clear hx
    exact hE _ _ _ dX2_change_59 (oH_some h)
def f_X2_change  (zj0 : Nat) (za2 : Int32) (za3 : Int32) (S : oS) : Option (oS) :=
  if oIn za2 8 then (
  if (S.1 201 0 (Int32.toNatClampNeg za2)) = (1 : Int32) then (
  oLet (oStI S 300 zj0 1 ((S.1 300 zj0 1) + za3)) fun zS3 =>
  f_X2_change_K40 zj0 za2 za3 zS3) else (
  if oIn za2 8 then (
  oLet (oStI S 300 zj0 0 ((S.1 300 zj0 0) + (za3 * (S.1 201 0 (Int32.toNatClampNeg za2))))) fun zS1 =>
  f_X2_change_K40 zj0 za2 za3 zS1) else none)) else none
set_option maxHeartbeats 4000000 in
theorem s_X2_change {G : oG} {r : oR} (d : Nat) (hd : 1 ≤ d) {zj0 : Nat} {za2 : Int32} {za3 : Int32} (hzj0 : zj0 < oCnt 300) {S : oS} {P : oS → Prop} (h : oH (f_X2_change zj0 za2 za3 S) P) : oCt G r d yX2_change mX2_change [orf 300 zj0, orf 200 0, oi za2, oi za3] S (oQv P) := by
  unfold f_X2_change at h
  refine oCt_of (by decide) rfl (Nat.le_of_ble_eq_true rfl) ?_
  intro X hG hr hE0 hR
  subst hG; subst hr
  obtain ⟨e, rfl⟩ : ∃ e, d = e + 1 := ⟨d - 1, by omega⟩
  have he : 0 ≤ e := by omega
  have hE := oEV_of hE0 rfl
  clear hE0 hd
  show oVv X mX2_change 0 [(0, orf 300 zj0), (1, orf 200 0), (2, oi za2), (3, oi za3)] [] S
  refine o_aload_n (pc := 0) dX2_change_0 rfl 1 rfl ?_
  refine o_getA (pc := 1) fd_RX2_7 ft_200_0 j_200 dX2_change_1 ?_
  refine o_iload_n (pc := 4) dX2_change_4 rfl 2 rfl ?_
  obtain ⟨hg, h⟩ := oH_G h
  refine o_iald (pc := 5) kd_201 j_201 hg dX2_change_5 ?_
  refine o_iconst (v := 1) (pc := 6) dX2_change_6 (by decide) ?_
  refine o_icmp_ne 23 (pc := 7) dX2_change_7 (by decide) (fun hc => ?_) (fun hc => ?_)
  · have h := oH_F hc h
    refine o_aload_n (pc := 23) dX2_change_23 rfl 0 rfl ?_
    refine o_dup (pc := 24) dX2_change_24 rfl ?_
    refine o_getI (pc := 25) fd_RX2_19 ft_300_0 hzj0 dX2_change_25 ?_
    refine o_iload_n (pc := 28) dX2_change_28 rfl 3 rfl ?_
    refine o_aload_n (pc := 29) dX2_change_29 rfl 1 rfl ?_
    refine o_getA (pc := 30) fd_RX2_7 ft_200_0 j_200 dX2_change_30 ?_
    refine o_iload_n (pc := 33) dX2_change_33 rfl 2 rfl ?_
    obtain ⟨hg, h⟩ := oH_G h
    refine o_iald (pc := 34) kd_201 j_201 hg dX2_change_34 ?_
    refine o_imul (pc := 35) dX2_change_35 ?_
    refine o_iadd (pc := 36) dX2_change_36 ?_
    refine o_putI (pc := 37) fd_RX2_19 fp_300_0 ft_300_0 rfl rfl hzj0 dX2_change_37 ?_
    refine o_nmS (fun zS1 hx => ?_)
    have h := oH_let h zS1 hx
    clear hx
    exact s_X2_change_K40 he hR hzj0 hE h
  · have h := oH_T hc h
    refine o_aload_n (pc := 10) dX2_change_10 rfl 0 rfl ?_
    refine o_dup (pc := 11) dX2_change_11 rfl ?_
    refine o_getI (pc := 12) fd_RX2_13 ft_300_1 hzj0 dX2_change_12 ?_
    refine o_iload_n (pc := 15) dX2_change_15 rfl 3 rfl ?_
    refine o_iadd (pc := 16) dX2_change_16 ?_
    refine o_putI (pc := 17) fd_RX2_13 fp_300_1 ft_300_1 rfl rfl hzj0 dX2_change_17 ?_
    refine o_nmS (fun zS3 hx => ?_)
    have h := oH_let h zS3 hx
    clear hx
    refine o_goto 40 (pc := 20) dX2_change_20 (by decide) ?_
    exact s_X2_change_K40 he hR hzj0 hE h
def f_X2_used  (zj0 : Nat) (S : oS) : Option (Int32 × oS) :=
  some (((S.1 300 zj0 0) + (oMaxI (0 : Int32) ((S.1 300 zj0 1) - (S.1 300 zj0 2)))), S)
set_option maxHeartbeats 4000000 in
theorem s_X2_used {G : oG} {r : oR} (d : Nat) (hd : 1 ≤ d) {zj0 : Nat} (hzj0 : zj0 < oCnt 300) {S : oS} {P : Int32 × oS → Prop} (h : oH (f_X2_used zj0 S) P) : oCt G r d yX2_used mX2_used [orf 300 zj0] S (oQi P) := by
  unfold f_X2_used at h
  refine oCt_of (by decide) rfl (Nat.le_of_ble_eq_true rfl) ?_
  intro X hG hr hE0 hR
  subst hG; subst hr
  obtain ⟨e, rfl⟩ : ∃ e, d = e + 1 := ⟨d - 1, by omega⟩
  have he : 0 ≤ e := by omega
  have hE := oEI_of hE0 rfl
  clear hE0 hd
  show oVv X mX2_used 0 [(0, orf 300 zj0)] [] S
  refine o_aload_n (pc := 0) dX2_used_0 rfl 0 rfl ?_
  refine o_getI (pc := 1) fd_RX2_19 ft_300_0 hzj0 dX2_used_1 ?_
  refine o_iconst (v := 0) (pc := 4) dX2_used_4 (by decide) ?_
  refine o_aload_n (pc := 5) dX2_used_5 rfl 0 rfl ?_
  refine o_getI (pc := 6) fd_RX2_13 ft_300_1 hzj0 dX2_used_6 ?_
  refine o_aload_n (pc := 9) dX2_used_9 rfl 0 rfl ?_
  refine o_getI (pc := 10) fd_RX2_26 ft_300_2 hzj0 dX2_used_10 ?_
  refine o_isub (pc := 13) dX2_used_13 ?_
  refine o_oMaxI (pc := 14) (oRoom_1 hR) wd_552 (Nat.le_of_ble_eq_true rfl) dX2_used_14 ?_
  refine o_iadd (pc := 17) dX2_used_17 ?_
  exact hE _ _ _ _ dX2_used_18 (oH_some h)
